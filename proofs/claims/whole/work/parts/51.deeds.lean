/-! LEVEL 2: calls that do something: run, rope, jump, home, day -/
def a_run (A : Int → Int) (p : Int) : Int → Int := if (0 ≤ p ∧ p < A 1) ∧ pA A p 3 < A 0 then rrA A p p else A
def o_run (A : Int → Int) (p : Int) : Int × Int := if 0 ≤ p ∧ p < A 1 then (if pA A p 3 < A 0 then (aft A (rrS A p p) (pA A p 1), 0) else (-1, 7)) else (-1, 1)
set_option maxHeartbeats 4000000 in
theorem c_run {X : Int → Int} {XL : Int} {d : Nat} {A : Int → Int} {p : Int} (hd : 9 ≤ d) : CV X XL d 133 [vI p] A (a_run A p) (o_run A p) := by
  intro K n h Q hC hK hq
  obtain ⟨⟨k00, r7, hT⟩, hV⟩ := id hC; have kn := hV.1.1; have hA := hV.2.2
  have b0 := hA.1
  have b3 := hA.2.2.2.1
  refine eX9_run (by omega) ?_
  by_cases hp : 0 ≤ p ∧ p < A 1
  · have hb := bp_of hA hp.1 hp.2
    by_cases ho : pA A p 3 < A 0
    · rw [show a_run A p = runA A p by unfold a_run; rw [if_pos ⟨hp, ho⟩]; exact if_pos rfl, show o_run A p = (aft A (rrS A p p) (pA A p 1), 0) by unfold o_run; rw [if_pos hp, if_pos ho], rrS_1] at hq
      have hs := stN_rng (n := A 0) (ok := okBy A p (pA A p 1) (A 4)) _ (pA A p 3) rfl (by omega)
      have ha := aft_b (A := A) (s := runS A p) (db := pA A p 1) b3.1 (by unfold runS; omega) (by unfold runS; omega)
      (repeat' (first | (rw [r7]) | (refine w_hasPerson (by omega) hV (fun c => ?_) (fun c => ?_)) | (refine w_letRun (by omega) hV hT hp.1 hp.2 (by omega) (fun c => absurd c (by omega)) (fun c h1 hV1 fr1 => ?_); have k1 := (kd_fr fr1 0).trans k00; have g1 := fr1.1) | (refine w_givenUnless (by omega) k1 (fun c => absurd c (by omega)) (fun c => ?_)) | (refine Ex_step ?_; conv => whnf) | (refine ⟨?_, trivial⟩) | (refine (show den _ _ _ _ _ _ _ _ from ?_); conv => whnf) | (refine ⟨by (first | assumption | rfl | (exact Nat.le_of_ble_eq_true rfl) | (exact ⟨fun h01 => absurd h01 (by decide), by first | rfl | assumption⟩) | (exact ⟨fun _ => by decide, by first | rfl | assumption⟩) | (exact ⟨by assumption, by omega, by omega⟩) | (unfold inI; omega) | omega), ?_⟩; conv => whnf) | (refine ⟨fun c => False.elim (by omega), fun c => ?_⟩) | (refine ⟨fun c => ?_, fun c => False.elim (by omega)⟩) | (refine ⟨fun c => ?_, fun c => ?_⟩) | (intro c) | fail))
      exact hq h1 (Vr_K hV1 (by omega) (by omega)) fr1
    · rw [show a_run A p = A from if_neg (fun q => ho q.2), show o_run A p = (-1, 7) by unfold o_run; rw [if_pos hp, if_neg ho]] at hq
      (repeat' (first | (rw [r7]) | (refine w_hasPerson (by omega) hV (fun c => ?_) (fun c => ?_)) | (refine w_letRun (by omega) hV hT hp.1 hp.2 (by omega) (fun c => ?_) (fun c => absurd c ho)) | (refine w_givenUnless (by omega) k00 (fun c => ?_) (fun c => absurd rfl c)) | (refine Ex_step ?_; conv => whnf) | (refine ⟨?_, trivial⟩) | (refine (show den _ _ _ _ _ _ _ _ from ?_); conv => whnf) | (refine ⟨by (first | assumption | rfl | (exact Nat.le_of_ble_eq_true rfl) | (exact ⟨fun h01 => absurd h01 (by decide), by first | rfl | assumption⟩) | (exact ⟨fun _ => by decide, by first | rfl | assumption⟩) | (exact ⟨by assumption, by omega, by omega⟩) | (unfold inI; omega) | omega), ?_⟩; conv => whnf) | (refine ⟨fun c => False.elim (by omega), fun c => ?_⟩) | (refine ⟨fun c => ?_, fun c => False.elim (by omega)⟩) | (refine ⟨fun c => ?_, fun c => ?_⟩) | (intro c) | fail))
      exact hq h (Vr_K hV (by omega) (by omega)) Fr.refl
  · rw [show a_run A p = A from if_neg (fun q => hp q.1), show o_run A p = (-1, 1) from if_neg hp] at hq
    (repeat' (first | (rw [r7]) | (refine w_hasPerson (by omega) hV (fun c => ?_) (fun c => ?_)) | (refine w_given (by omega) k00 ?_) | (refine w_none (by omega) k00 ?_) | (refine Ex_step ?_; conv => whnf) | (refine ⟨?_, trivial⟩) | (refine (show den _ _ _ _ _ _ _ _ from ?_); conv => whnf) | (refine ⟨by (first | assumption | rfl | (exact Nat.le_of_ble_eq_true rfl) | (exact ⟨fun h01 => absurd h01 (by decide), by first | rfl | assumption⟩) | (exact ⟨fun _ => by decide, by first | rfl | assumption⟩) | (exact ⟨by assumption, by omega, by omega⟩) | (unfold inI; omega) | omega), ?_⟩; conv => whnf) | (refine ⟨fun c => False.elim (by omega), fun c => ?_⟩) | (refine ⟨fun c => ?_, fun c => False.elim (by omega)⟩) | (refine ⟨fun c => ?_, fun c => ?_⟩) | (intro c) | fail))
    exact hq h (Vr_K hV (by omega) (by omega)) Fr.refl
set_option maxHeartbeats 4000000 in
theorem m_run {X : Int → Int} {XL : Int} {d : Nat} {A : Int → Int} {p : Int} (hd : 9 ≤ d) : CR X XL d 268 [vI p] A (a_run A p) (o_run A p) := by
  intro K h Q hR hK hq; have kq := hR.1.1; have hA := hR.2.2
  have b1 := hA.2.1
  refine eX10_run (by omega) ?_
  by_cases hp : 0 ≤ p ∧ p < A 1
  · have hb := bp_of hA hp.1 hp.2
    by_cases ho : pA A p 3 < A 0
    · rw [show a_run A p = rrA A p p from if_pos ⟨hp, ho⟩, show o_run A p = (aft A (rrS A p p) (pA A p 1), 0) by unfold o_run; rw [if_pos hp, if_pos ho]] at hq
      have e3 := run_p3 (A := A) hp.1
      (repeat' (first | (refine r_isPerson (by omega) hR (fun c => ?_) (fun c => ?_)) | (rw [e3]) | (refine r_isOver (by omega) hR hp.1 hp.2 (fun c => absurd c (by omega)) (fun c => ?_)) | (refine r_runs (by omega) hR (by omega) hp.1 hp.2 hp.1 hp.2 rfl (fun h1 hR1 fr1 => ?_); have kq1 := hR1.1.1; have g1 := fr1.1.1) | (refine r_personOf (by omega) hR1 (by omega) (by omega) ?_) | (refine r_gives (by omega) kq1 ?_) | (refine Ex_step ?_; conv => whnf) | (refine ⟨?_, trivial⟩) | (refine (show den _ _ _ _ _ _ _ _ from ?_); conv => whnf) | (refine ⟨by (first | assumption | rfl | (exact Nat.le_of_ble_eq_true rfl) | (exact ⟨fun h01 => absurd h01 (by decide), by first | rfl | assumption⟩) | (exact ⟨fun _ => by decide, by first | rfl | assumption⟩) | (exact ⟨by assumption, by omega, by omega⟩) | (unfold inI; omega) | omega), ?_⟩; conv => whnf) | (refine ⟨fun c => False.elim (by omega), fun c => ?_⟩) | (refine ⟨fun c => ?_, fun c => False.elim (by omega)⟩) | (refine ⟨fun c => ?_, fun c => ?_⟩) | (intro c) | fail))
      exact hq h1 (Rr_K hR1 (by omega) (by omega)) fr1.H
    · rw [show a_run A p = A from if_neg (fun q => ho q.2), show o_run A p = (-1, 7) by unfold o_run; rw [if_pos hp, if_neg ho]] at hq
      (repeat' (first | (refine r_isPerson (by omega) hR (fun c => ?_) (fun c => ?_)) | (refine r_isOver (by omega) hR hp.1 hp.2 (fun c => ?_) (fun c => absurd c ho)) | (refine r_gives (by omega) kq ?_) | (refine r_refuse (by omega) kq ?_) | (refine Ex_step ?_; conv => whnf) | (refine ⟨?_, trivial⟩) | (refine (show den _ _ _ _ _ _ _ _ from ?_); conv => whnf) | (refine ⟨by (first | assumption | rfl | (exact Nat.le_of_ble_eq_true rfl) | (exact ⟨fun h01 => absurd h01 (by decide), by first | rfl | assumption⟩) | (exact ⟨fun _ => by decide, by first | rfl | assumption⟩) | (exact ⟨by assumption, by omega, by omega⟩) | (unfold inI; omega) | omega), ?_⟩; conv => whnf) | (refine ⟨fun c => False.elim (by omega), fun c => ?_⟩) | (refine ⟨fun c => ?_, fun c => False.elim (by omega)⟩) | (refine ⟨fun c => ?_, fun c => ?_⟩) | (intro c) | fail))
      exact hq h (Rr_K hR (by omega) (by omega)) FrH.refl
  · rw [show a_run A p = A from if_neg (fun q => hp q.1), show o_run A p = (-1, 1) from if_neg hp] at hq
    (repeat' (first | (refine r_isPerson (by omega) hR (fun c => ?_) (fun c => ?_)) | (refine r_gives (by omega) kq ?_) | (refine r_refuse (by omega) kq ?_) | (refine Ex_step ?_; conv => whnf) | (refine ⟨?_, trivial⟩) | (refine (show den _ _ _ _ _ _ _ _ from ?_); conv => whnf) | (refine ⟨by (first | assumption | rfl | (exact Nat.le_of_ble_eq_true rfl) | (exact ⟨fun h01 => absurd h01 (by decide), by first | rfl | assumption⟩) | (exact ⟨fun _ => by decide, by first | rfl | assumption⟩) | (exact ⟨by assumption, by omega, by omega⟩) | (unfold inI; omega) | omega), ?_⟩; conv => whnf) | (refine ⟨fun c => False.elim (by omega), fun c => ?_⟩) | (refine ⟨fun c => ?_, fun c => False.elim (by omega)⟩) | (refine ⟨fun c => ?_, fun c => ?_⟩) | (intro c) | fail))
    exact hq h (Rr_K hR (by omega) (by omega)) FrH.refl
def cnR (A : Int → Int) (p o : Int) : Prop := pA A p 3 = pA A o 3 ∧ pA A p 3 < A 0
def two (A : Int → Int) (p o : Int) : Prop := (0 ≤ p ∧ p < A 1) ∧ (0 ≤ o ∧ o < A 1) ∧ ¬ p = o
theorem rrS_2 {A : Int → Int} {p o : Int} (h : ¬ p = o) : rrS A p o = ropS A p o := by unfold rrS ropS; rw [okB_2 h]
set_option maxHeartbeats 4000000 in
theorem c_ropeY {X : Int → Int} {XL : Int} {d : Nat} {A : Int → Int} {p o : Int} (hd : 9 ≤ d) (ht : (0 ≤ p ∧ p < A 1) ∧ (0 ≤ o ∧ o < A 1) ∧ ¬ p = o) (hc : pA A p 3 = pA A o 3 ∧ pA A p 3 < A 0) : CV X XL d 134 [vI p, vI o] A (rrA A p o) (rrS A p o - pA A p 3, 0) := by
  intro K n h Q hC hK hq
  obtain ⟨⟨k00, r7, hT⟩, hV⟩ := id hC; have kn := hV.1.1; have hA := hV.2.2
  have b0 := hA.1
  have b3 := hA.2.2.2.1
  refine eX9_rope (by omega) ?_
  have hb := bp_of hA ht.1.1 ht.1.2
  have hs := rrS_b hA (o := o) ht.1.1 ht.1.2
  rw [rrS_2 ht.2.2] at hq hs
  rw [show rrA A p o = ropA A p o from if_neg ht.2.2] at hq
  (repeat' (first | (rw [r7]) | (refine w_hasTwo (by omega) hV (fun c => ?_) (fun c => ?_)) | (refine w_letRope (by omega) hV hT ht.1.1 ht.1.2 ht.2.1.1 ht.2.1.2 (by omega) (fun c => absurd c (by omega)) (fun c c2 c3 h1 hV1 fr1 => ?_); have k1 := (kd_fr fr1 0).trans k00; have g1 := fr1.1) | (refine w_givenUnless (by omega) k1 (fun c => absurd c (by omega)) (fun c => ?_)) | (refine Ex_step ?_; conv => whnf) | (refine ⟨?_, trivial⟩) | (refine (show den _ _ _ _ _ _ _ _ from ?_); conv => whnf) | (refine ⟨by (first | assumption | rfl | (exact Nat.le_of_ble_eq_true rfl) | (exact ⟨fun h01 => absurd h01 (by decide), by first | rfl | assumption⟩) | (exact ⟨fun _ => by decide, by first | rfl | assumption⟩) | (exact ⟨by assumption, by omega, by omega⟩) | (unfold inI; omega) | omega), ?_⟩; conv => whnf) | (refine ⟨fun c => False.elim (by omega), fun c => ?_⟩) | (refine ⟨fun c => ?_, fun c => False.elim (by omega)⟩) | (refine ⟨fun c => ?_, fun c => ?_⟩) | (intro c) | fail))
  exact hq h1 (Vr_K hV1 (by omega) (by omega)) fr1
set_option maxHeartbeats 4000000 in
theorem c_ropeN {X : Int → Int} {XL : Int} {d : Nat} {A : Int → Int} {p o : Int} (hd : 9 ≤ d) (ht : (0 ≤ p ∧ p < A 1) ∧ (0 ≤ o ∧ o < A 1) ∧ ¬ p = o) (hc : ¬ (pA A p 3 = pA A o 3 ∧ pA A p 3 < A 0)) : CV X XL d 134 [vI p, vI o] A A (-1, 7) := by
  intro K n h Q hC hK hq
  obtain ⟨⟨k00, r7, hT⟩, hV⟩ := id hC; have kn := hV.1.1; have hA := hV.2.2
  refine eX9_rope (by omega) ?_
  (repeat' (first | (rw [r7]) | (refine w_hasTwo (by omega) hV (fun c => ?_) (fun c => ?_)) | (refine w_letRope (by omega) hV hT ht.1.1 ht.1.2 ht.2.1.1 ht.2.1.2 (by omega) (fun c => ?_) (fun c c2 c3 => absurd ⟨c2, c3⟩ hc)) | (refine w_givenUnless (by omega) k00 (fun c => ?_) (fun c => absurd rfl c)) | (refine Ex_step ?_; conv => whnf) | (refine ⟨?_, trivial⟩) | (refine (show den _ _ _ _ _ _ _ _ from ?_); conv => whnf) | (refine ⟨by (first | assumption | rfl | (exact Nat.le_of_ble_eq_true rfl) | (exact ⟨fun h01 => absurd h01 (by decide), by first | rfl | assumption⟩) | (exact ⟨fun _ => by decide, by first | rfl | assumption⟩) | (exact ⟨by assumption, by omega, by omega⟩) | (unfold inI; omega) | omega), ?_⟩; conv => whnf) | (refine ⟨fun c => False.elim (by omega), fun c => ?_⟩) | (refine ⟨fun c => ?_, fun c => False.elim (by omega)⟩) | (refine ⟨fun c => ?_, fun c => ?_⟩) | (intro c) | fail))
  exact hq h (Vr_K hV (by omega) (by omega)) Fr.refl
set_option maxHeartbeats 4000000 in
theorem c_ropeX {X : Int → Int} {XL : Int} {d : Nat} {A : Int → Int} {p o : Int} (hd : 9 ≤ d) (ht : ¬ ((0 ≤ p ∧ p < A 1) ∧ (0 ≤ o ∧ o < A 1) ∧ ¬ p = o)) : CV X XL d 134 [vI p, vI o] A A (-1, 1) := by
  intro K n h Q hC hK hq
  obtain ⟨⟨k00, r7, hT⟩, hV⟩ := id hC; have kn := hV.1.1; have hA := hV.2.2
  refine eX9_rope (by omega) ?_
  (repeat' (first | (rw [r7]) | (refine w_hasTwo (by omega) hV (fun c => ?_) (fun c => ?_)) | (refine w_given (by omega) k00 ?_) | (refine w_none (by omega) k00 ?_) | (refine Ex_step ?_; conv => whnf) | (refine ⟨?_, trivial⟩) | (refine (show den _ _ _ _ _ _ _ _ from ?_); conv => whnf) | (refine ⟨by (first | assumption | rfl | (exact Nat.le_of_ble_eq_true rfl) | (exact ⟨fun h01 => absurd h01 (by decide), by first | rfl | assumption⟩) | (exact ⟨fun _ => by decide, by first | rfl | assumption⟩) | (exact ⟨by assumption, by omega, by omega⟩) | (unfold inI; omega) | omega), ?_⟩; conv => whnf) | (refine ⟨fun c => False.elim (by omega), fun c => ?_⟩) | (refine ⟨fun c => ?_, fun c => False.elim (by omega)⟩) | (refine ⟨fun c => ?_, fun c => ?_⟩) | (intro c) | fail))
  exact hq h (Vr_K hV (by omega) (by omega)) Fr.refl
set_option maxHeartbeats 4000000 in
theorem m_ropeY {X : Int → Int} {XL : Int} {d : Nat} {A : Int → Int} {p o : Int} (hd : 9 ≤ d) (ht : (0 ≤ p ∧ p < A 1) ∧ (0 ≤ o ∧ o < A 1) ∧ ¬ p = o) (hc : pA A p 3 = pA A o 3 ∧ pA A p 3 < A 0) : CR X XL d 270 [vI p, vI o] A (rrA A p o) (rrS A p o - pA A p 3, 0) := by
  intro K h Q hR hK hq; have kq := hR.1.1; have hA := hR.2.2
  refine eX10_rope (by omega) ?_
  (repeat' (first | (refine r_isPerson (by omega) hR (fun c => ?_) (fun c => ?_)) | (refine r_canRope (by omega) hR ht.1.1 ht.1.2 ht.2.1.1 ht.2.1.2 (fun _ _ _ => ?_) (fun c => absurd c (by omega))) | (refine r_runs (by omega) hR (by omega) ht.1.1 ht.1.2 ht.2.1.1 ht.2.1.2 hc.1.symm (fun h1 hR1 fr1 => ?_); have kq1 := hR1.1.1; have g1 := fr1.1.1) | (refine r_gives (by omega) kq1 ?_) | (refine Ex_step ?_; conv => whnf) | (refine ⟨?_, trivial⟩) | (refine (show den _ _ _ _ _ _ _ _ from ?_); conv => whnf) | (refine ⟨by (first | assumption | rfl | (exact Nat.le_of_ble_eq_true rfl) | (exact ⟨fun h01 => absurd h01 (by decide), by first | rfl | assumption⟩) | (exact ⟨fun _ => by decide, by first | rfl | assumption⟩) | (exact ⟨by assumption, by omega, by omega⟩) | (unfold inI; omega) | omega), ?_⟩; conv => whnf) | (refine ⟨fun c => False.elim (by omega), fun c => ?_⟩) | (refine ⟨fun c => ?_, fun c => False.elim (by omega)⟩) | (refine ⟨fun c => ?_, fun c => ?_⟩) | (intro c) | fail))
  exact hq h1 (Rr_K hR1 (by omega) (by omega)) fr1.H
set_option maxHeartbeats 4000000 in
theorem m_ropeN {X : Int → Int} {XL : Int} {d : Nat} {A : Int → Int} {p o : Int} (hd : 9 ≤ d) (ht : (0 ≤ p ∧ p < A 1) ∧ (0 ≤ o ∧ o < A 1) ∧ ¬ p = o) (hc : ¬ (pA A p 3 = pA A o 3 ∧ pA A p 3 < A 0)) : CR X XL d 270 [vI p, vI o] A A (-1, 7) := by
  intro K h Q hR hK hq; have kq := hR.1.1; have hA := hR.2.2
  refine eX10_rope (by omega) ?_
  (repeat' (first | (refine r_isPerson (by omega) hR (fun c => ?_) (fun c => ?_)) | (refine r_canRope (by omega) hR ht.1.1 ht.1.2 ht.2.1.1 ht.2.1.2 (fun _ c2 c3 => absurd ⟨c2, c3⟩ hc) (fun c => ?_)) | (refine r_gives (by omega) kq ?_) | (refine r_refuse (by omega) kq ?_) | (refine Ex_step ?_; conv => whnf) | (refine ⟨?_, trivial⟩) | (refine (show den _ _ _ _ _ _ _ _ from ?_); conv => whnf) | (refine ⟨by (first | assumption | rfl | (exact Nat.le_of_ble_eq_true rfl) | (exact ⟨fun h01 => absurd h01 (by decide), by first | rfl | assumption⟩) | (exact ⟨fun _ => by decide, by first | rfl | assumption⟩) | (exact ⟨by assumption, by omega, by omega⟩) | (unfold inI; omega) | omega), ?_⟩; conv => whnf) | (refine ⟨fun c => False.elim (by omega), fun c => ?_⟩) | (refine ⟨fun c => ?_, fun c => False.elim (by omega)⟩) | (refine ⟨fun c => ?_, fun c => ?_⟩) | (intro c) | fail))
  exact hq h (Rr_K hR (by omega) (by omega)) FrH.refl
set_option maxHeartbeats 4000000 in
theorem m_ropeX {X : Int → Int} {XL : Int} {d : Nat} {A : Int → Int} {p o : Int} (hd : 9 ≤ d) (ht : ¬ ((0 ≤ p ∧ p < A 1) ∧ (0 ≤ o ∧ o < A 1) ∧ ¬ p = o)) : CR X XL d 270 [vI p, vI o] A A (-1, 1) := by
  intro K h Q hR hK hq; have kq := hR.1.1; have hA := hR.2.2
  refine eX10_rope (by omega) ?_
  (repeat' (first | (refine r_isPerson (by omega) hR (fun c => ?_) (fun c => ?_)) | (refine r_gives (by omega) kq ?_) | (refine r_refuse (by omega) kq ?_) | (refine Ex_step ?_; conv => whnf) | (refine ⟨?_, trivial⟩) | (refine (show den _ _ _ _ _ _ _ _ from ?_); conv => whnf) | (refine ⟨by (first | assumption | rfl | (exact Nat.le_of_ble_eq_true rfl) | (exact ⟨fun h01 => absurd h01 (by decide), by first | rfl | assumption⟩) | (exact ⟨fun _ => by decide, by first | rfl | assumption⟩) | (exact ⟨by assumption, by omega, by omega⟩) | (unfold inI; omega) | omega), ?_⟩; conv => whnf) | (refine ⟨fun c => False.elim (by omega), fun c => ?_⟩) | (refine ⟨fun c => ?_, fun c => False.elim (by omega)⟩) | (refine ⟨fun c => ?_, fun c => ?_⟩) | (intro c) | fail))
  all_goals exact hq h (Rr_K hR (by omega) (by omega)) FrH.refl
-- jump
def a_jump (A : Int → Int) (a : Int) : Int → Int := if (0 ≤ a ∧ a < A 0) ∧ (hoA A a < 60 ∨ 0 < moA A a) then jmpA A a else A
def o_jump (A : Int → Int) (a : Int) : Int × Int := if 0 ≤ a ∧ a < A 0 then (if hoA A a < 60 ∨ 0 < moA A a then (min 60 (hoA A a + 1), 0) else (-1, 7)) else (-1, 1)
theorem jmp_ho {A : Int → Int} {a : Int} (ha0 : 0 ≤ a) : hoA (jmpA A a) a = min 60 (hoA A a + 1) := by
  show jmpA A a (10 + 3 * a) = _
  unfold jmpA; rw [pu_n (by omega), pu_n (by omega), pu_e]
set_option maxHeartbeats 4000000 in
theorem c_jump {X : Int → Int} {XL : Int} {d : Nat} {A : Int → Int} {a : Int} (hd : 9 ≤ d) : CV X XL d 135 [vI a] A (a_jump A a) (o_jump A a) := by
  intro K n h Q hC hK hq
  obtain ⟨⟨k00, r7, hT⟩, hV⟩ := id hC; have kn := hV.1.1; have hA := hV.2.2
  refine eX9_jump (by omega) ?_
  by_cases hp : 0 ≤ a ∧ a < A 0
  · have hb := hA.2.2.2.2.2.2.2.2.2.1 a hp.1 hp.2
    by_cases ho : hoA A a < 60 ∨ 0 < moA A a
    · rw [show a_jump A a = jmpA A a from if_pos ⟨hp, ho⟩, show o_jump A a = (min 60 (hoA A a + 1), 0) by unfold o_jump; rw [if_pos hp, if_pos ho]] at hq
      (repeat' (first | (rw [r7]) | (refine w_hasArch (by omega) hV (fun c => ?_) (fun c => ?_)) | (refine w_jumpOn (by omega) hV hT hp.1 hp.2 (fun c => absurd ho c) (fun c h1 hV1 fr1 => ?_); have k1 := (kd_fr fr1 0).trans k00; have g1 := fr1.1) | (refine w_givenUnless (by omega) k1 (fun c => absurd c (by omega)) (fun c => ?_)) | (refine Ex_step ?_; conv => whnf) | (refine ⟨?_, trivial⟩) | (refine (show den _ _ _ _ _ _ _ _ from ?_); conv => whnf) | (refine ⟨by (first | assumption | rfl | (exact Nat.le_of_ble_eq_true rfl) | (exact ⟨fun h01 => absurd h01 (by decide), by first | rfl | assumption⟩) | (exact ⟨fun _ => by decide, by first | rfl | assumption⟩) | (exact ⟨by assumption, by omega, by omega⟩) | (unfold inI; omega) | omega), ?_⟩; conv => whnf) | (refine ⟨fun c => False.elim (by omega), fun c => ?_⟩) | (refine ⟨fun c => ?_, fun c => False.elim (by omega)⟩) | (refine ⟨fun c => ?_, fun c => ?_⟩) | (intro c) | fail))
      exact hq h1 (Vr_K hV1 (by omega) (by omega)) fr1
    · rw [show a_jump A a = A from if_neg (fun q => ho q.2), show o_jump A a = (-1, 7) by unfold o_jump; rw [if_pos hp, if_neg ho]] at hq
      (repeat' (first | (rw [r7]) | (refine w_hasArch (by omega) hV (fun c => ?_) (fun c => ?_)) | (refine w_jumpOn (by omega) hV hT hp.1 hp.2 (fun c => ?_) (fun c => absurd c ho)) | (refine w_givenUnless (by omega) k00 (fun c => ?_) (fun c => absurd rfl c)) | (refine Ex_step ?_; conv => whnf) | (refine ⟨?_, trivial⟩) | (refine (show den _ _ _ _ _ _ _ _ from ?_); conv => whnf) | (refine ⟨by (first | assumption | rfl | (exact Nat.le_of_ble_eq_true rfl) | (exact ⟨fun h01 => absurd h01 (by decide), by first | rfl | assumption⟩) | (exact ⟨fun _ => by decide, by first | rfl | assumption⟩) | (exact ⟨by assumption, by omega, by omega⟩) | (unfold inI; omega) | omega), ?_⟩; conv => whnf) | (refine ⟨fun c => False.elim (by omega), fun c => ?_⟩) | (refine ⟨fun c => ?_, fun c => False.elim (by omega)⟩) | (refine ⟨fun c => ?_, fun c => ?_⟩) | (intro c) | fail))
      exact hq h (Vr_K hV (by omega) (by omega)) Fr.refl
  · rw [show a_jump A a = A from if_neg (fun q => hp q.1), show o_jump A a = (-1, 1) from if_neg hp] at hq
    (repeat' (first | (rw [r7]) | (refine w_hasArch (by omega) hV (fun c => ?_) (fun c => ?_)) | (refine w_given (by omega) k00 ?_) | (refine w_none (by omega) k00 ?_) | (refine Ex_step ?_; conv => whnf) | (refine ⟨?_, trivial⟩) | (refine (show den _ _ _ _ _ _ _ _ from ?_); conv => whnf) | (refine ⟨by (first | assumption | rfl | (exact Nat.le_of_ble_eq_true rfl) | (exact ⟨fun h01 => absurd h01 (by decide), by first | rfl | assumption⟩) | (exact ⟨fun _ => by decide, by first | rfl | assumption⟩) | (exact ⟨by assumption, by omega, by omega⟩) | (unfold inI; omega) | omega), ?_⟩; conv => whnf) | (refine ⟨fun c => False.elim (by omega), fun c => ?_⟩) | (refine ⟨fun c => ?_, fun c => False.elim (by omega)⟩) | (refine ⟨fun c => ?_, fun c => ?_⟩) | (intro c) | fail))
    exact hq h (Vr_K hV (by omega) (by omega)) Fr.refl
set_option maxHeartbeats 4000000 in
theorem m_jump {X : Int → Int} {XL : Int} {d : Nat} {A : Int → Int} {a : Int} (hd : 9 ≤ d) : CR X XL d 272 [vI a] A (a_jump A a) (o_jump A a) := by
  intro K h Q hR hK hq; have kq := hR.1.1; have hA := hR.2.2
  have b0 := hA.1
  refine eX10_jump (by omega) ?_
  by_cases hp : 0 ≤ a ∧ a < A 0
  · by_cases ho : hoA A a < 60 ∨ 0 < moA A a
    · rw [show a_jump A a = jmpA A a from if_pos ⟨hp, ho⟩, show o_jump A a = (min 60 (hoA A a + 1), 0) by unfold o_jump; rw [if_pos hp, if_pos ho]] at hq
      have e3 := jmp_ho (A := A) hp.1
      (repeat' (first | (refine r_isArch (by omega) hR (fun c => ?_) (fun c => ?_)) | (rw [e3]) | (refine r_jumps (by omega) hR hp.1 hp.2 (fun c => absurd ho c) (fun c h1 hR1 fr1 => ?_); have kq1 := hR1.1.1; have g1 := fr1.1.1) | (refine r_ho (by omega) hR1 (by omega) ?_) | (refine r_gives (by omega) kq1 ?_) | (refine Ex_step ?_; conv => whnf) | (refine ⟨?_, trivial⟩) | (refine (show den _ _ _ _ _ _ _ _ from ?_); conv => whnf) | (refine ⟨by (first | assumption | rfl | (exact Nat.le_of_ble_eq_true rfl) | (exact ⟨fun h01 => absurd h01 (by decide), by first | rfl | assumption⟩) | (exact ⟨fun _ => by decide, by first | rfl | assumption⟩) | (exact ⟨by assumption, by omega, by omega⟩) | (unfold inI; omega) | omega), ?_⟩; conv => whnf) | (refine ⟨fun c => False.elim (by omega), fun c => ?_⟩) | (refine ⟨fun c => ?_, fun c => False.elim (by omega)⟩) | (refine ⟨fun c => ?_, fun c => ?_⟩) | (intro c) | fail))
      exact hq h1 (Rr_K hR1 (by omega) (by omega)) fr1.H
    · rw [show a_jump A a = A from if_neg (fun q => ho q.2), show o_jump A a = (-1, 7) by unfold o_jump; rw [if_pos hp, if_neg ho]] at hq
      (repeat' (first | (refine r_isArch (by omega) hR (fun c => ?_) (fun c => ?_)) | (refine r_jumps (by omega) hR hp.1 hp.2 (fun c => ?_) (fun c => absurd c ho)) | (refine r_gives (by omega) kq ?_) | (refine r_refuse (by omega) kq ?_) | (refine Ex_step ?_; conv => whnf) | (refine ⟨?_, trivial⟩) | (refine (show den _ _ _ _ _ _ _ _ from ?_); conv => whnf) | (refine ⟨by (first | assumption | rfl | (exact Nat.le_of_ble_eq_true rfl) | (exact ⟨fun h01 => absurd h01 (by decide), by first | rfl | assumption⟩) | (exact ⟨fun _ => by decide, by first | rfl | assumption⟩) | (exact ⟨by assumption, by omega, by omega⟩) | (unfold inI; omega) | omega), ?_⟩; conv => whnf) | (refine ⟨fun c => False.elim (by omega), fun c => ?_⟩) | (refine ⟨fun c => ?_, fun c => False.elim (by omega)⟩) | (refine ⟨fun c => ?_, fun c => ?_⟩) | (intro c) | fail))
      exact hq h (Rr_K hR (by omega) (by omega)) FrH.refl
  · rw [show a_jump A a = A from if_neg (fun q => hp q.1), show o_jump A a = (-1, 1) from if_neg hp] at hq
    (repeat' (first | (refine r_isArch (by omega) hR (fun c => ?_) (fun c => ?_)) | (refine r_gives (by omega) kq ?_) | (refine r_refuse (by omega) kq ?_) | (refine Ex_step ?_; conv => whnf) | (refine ⟨?_, trivial⟩) | (refine (show den _ _ _ _ _ _ _ _ from ?_); conv => whnf) | (refine ⟨by (first | assumption | rfl | (exact Nat.le_of_ble_eq_true rfl) | (exact ⟨fun h01 => absurd h01 (by decide), by first | rfl | assumption⟩) | (exact ⟨fun _ => by decide, by first | rfl | assumption⟩) | (exact ⟨by assumption, by omega, by omega⟩) | (unfold inI; omega) | omega), ?_⟩; conv => whnf) | (refine ⟨fun c => False.elim (by omega), fun c => ?_⟩) | (refine ⟨fun c => ?_, fun c => False.elim (by omega)⟩) | (refine ⟨fun c => ?_, fun c => ?_⟩) | (intro c) | fail))
    exact hq h (Rr_K hR (by omega) (by omega)) FrH.refl
-- home
def a_home (A : Int → Int) (p : Int) : Int → Int := if (0 ≤ p ∧ p < A 1) ∧ ¬ pA A p 3 = 0 then homA A p else A
def o_home (A : Int → Int) (p : Int) : Int × Int := if 0 ≤ p ∧ p < A 1 then (if pA A p 3 = 0 then (-1, 7) else (pA A p 3, 0)) else (-1, 1)
theorem hom_0 {A : Int → Int} {p : Int} (h : pA A p 3 = 0) : homA A p = A := pu_id h
set_option maxHeartbeats 4000000 in
theorem c_home {X : Int → Int} {XL : Int} {d : Nat} {A : Int → Int} {p : Int} (hd : 9 ≤ d) : CV X XL d 136 [vI p] A (a_home A p) (o_home A p) := by
  intro K n h Q hC hK hq
  obtain ⟨⟨k00, r7, hT⟩, hV⟩ := id hC; have kn := hV.1.1; have hA := hV.2.2
  refine eX9_home (by omega) ?_
  by_cases hp : 0 ≤ p ∧ p < A 1
  · have hb := bp_of hA hp.1 hp.2
    by_cases ho : pA A p 3 = 0
    · rw [show a_home A p = A from if_neg (fun q => q.2 ho), show o_home A p = (-1, 7) by unfold o_home; rw [if_pos hp, if_pos ho]] at hq
      (repeat' (first | (rw [r7]) | (refine w_hasPerson (by omega) hV (fun c => ?_) (fun c => ?_)) | (refine w_sendHome (by omega) hV hT hp.1 hp.2 (fun c => ?_) (fun c => absurd ho c)) | (refine w_givenUnless (by omega) k00 (fun c => ?_) (fun c => absurd rfl c)) | (refine Ex_step ?_; conv => whnf) | (refine ⟨?_, trivial⟩) | (refine (show den _ _ _ _ _ _ _ _ from ?_); conv => whnf) | (refine ⟨by (first | assumption | rfl | (exact Nat.le_of_ble_eq_true rfl) | (exact ⟨fun h01 => absurd h01 (by decide), by first | rfl | assumption⟩) | (exact ⟨fun _ => by decide, by first | rfl | assumption⟩) | (exact ⟨by assumption, by omega, by omega⟩) | (unfold inI; omega) | omega), ?_⟩; conv => whnf) | (refine ⟨fun c => False.elim (by omega), fun c => ?_⟩) | (refine ⟨fun c => ?_, fun c => False.elim (by omega)⟩) | (refine ⟨fun c => ?_, fun c => ?_⟩) | (intro c) | fail))
      exact hq h (Vr_K hV (by omega) (by omega)) Fr.refl
    · rw [show a_home A p = homA A p from if_pos ⟨hp, ho⟩, show o_home A p = (pA A p 3, 0) by unfold o_home; rw [if_pos hp, if_neg ho]] at hq
      (repeat' (first | (rw [r7]) | (refine w_hasPerson (by omega) hV (fun c => ?_) (fun c => ?_)) | (refine w_sendHome (by omega) hV hT hp.1 hp.2 (fun c => absurd c ho) (fun c h1 hV1 fr1 => ?_); have k1 := (kd_fr fr1 0).trans k00; have g1 := fr1.1) | (refine w_givenUnless (by omega) k1 (fun c => absurd c (by omega)) (fun c => ?_)) | (refine Ex_step ?_; conv => whnf) | (refine ⟨?_, trivial⟩) | (refine (show den _ _ _ _ _ _ _ _ from ?_); conv => whnf) | (refine ⟨by (first | assumption | rfl | (exact Nat.le_of_ble_eq_true rfl) | (exact ⟨fun h01 => absurd h01 (by decide), by first | rfl | assumption⟩) | (exact ⟨fun _ => by decide, by first | rfl | assumption⟩) | (exact ⟨by assumption, by omega, by omega⟩) | (unfold inI; omega) | omega), ?_⟩; conv => whnf) | (refine ⟨fun c => False.elim (by omega), fun c => ?_⟩) | (refine ⟨fun c => ?_, fun c => False.elim (by omega)⟩) | (refine ⟨fun c => ?_, fun c => ?_⟩) | (intro c) | fail))
      exact hq h1 (Vr_K hV1 (by omega) (by omega)) fr1
  · rw [show a_home A p = A from if_neg (fun q => hp q.1), show o_home A p = (-1, 1) from if_neg hp] at hq
    (repeat' (first | (rw [r7]) | (refine w_hasPerson (by omega) hV (fun c => ?_) (fun c => ?_)) | (refine w_given (by omega) k00 ?_) | (refine w_none (by omega) k00 ?_) | (refine Ex_step ?_; conv => whnf) | (refine ⟨?_, trivial⟩) | (refine (show den _ _ _ _ _ _ _ _ from ?_); conv => whnf) | (refine ⟨by (first | assumption | rfl | (exact Nat.le_of_ble_eq_true rfl) | (exact ⟨fun h01 => absurd h01 (by decide), by first | rfl | assumption⟩) | (exact ⟨fun _ => by decide, by first | rfl | assumption⟩) | (exact ⟨by assumption, by omega, by omega⟩) | (unfold inI; omega) | omega), ?_⟩; conv => whnf) | (refine ⟨fun c => False.elim (by omega), fun c => ?_⟩) | (refine ⟨fun c => ?_, fun c => False.elim (by omega)⟩) | (refine ⟨fun c => ?_, fun c => ?_⟩) | (intro c) | fail))
    exact hq h (Vr_K hV (by omega) (by omega)) Fr.refl
set_option maxHeartbeats 4000000 in
theorem m_home {X : Int → Int} {XL : Int} {d : Nat} {A : Int → Int} {p : Int} (hd : 9 ≤ d) : CR X XL d 274 [vI p] A (a_home A p) (o_home A p) := by
  intro K h Q hR hK hq; have kq := hR.1.1; have hA := hR.2.2
  have b1 := hA.2.1
  refine eX10_home (by omega) ?_
  by_cases hp : 0 ≤ p ∧ p < A 1
  · by_cases ho : pA A p 3 = 0
    · rw [show a_home A p = homA A p from (if_neg (fun q => q.2 ho)).trans (hom_0 ho).symm, show o_home A p = (-1, 7) by unfold o_home; rw [if_pos hp, if_pos ho]] at hq
      (repeat' (first | (refine r_isPerson (by omega) hR (fun c => ?_) (fun c => ?_)) | (refine r_personOf (by omega) hR (by omega) (by omega) ?_) | (refine r_homes (by omega) hR hp.1 hp.2 (fun c h1 hR1 fr1 => ?_) (fun c => absurd ho c); have kq1 := hR1.1.1; have g1 := fr1.1.1) | (refine r_refuse (by omega) kq1 ?_) | (refine Ex_step ?_; conv => whnf) | (refine ⟨?_, trivial⟩) | (refine (show den _ _ _ _ _ _ _ _ from ?_); conv => whnf) | (refine ⟨by (first | assumption | rfl | (exact Nat.le_of_ble_eq_true rfl) | (exact ⟨fun h01 => absurd h01 (by decide), by first | rfl | assumption⟩) | (exact ⟨fun _ => by decide, by first | rfl | assumption⟩) | (exact ⟨by assumption, by omega, by omega⟩) | (unfold inI; omega) | omega), ?_⟩; conv => whnf) | (refine ⟨fun c => False.elim (by omega), fun c => ?_⟩) | (refine ⟨fun c => ?_, fun c => False.elim (by omega)⟩) | (refine ⟨fun c => ?_, fun c => ?_⟩) | (intro c) | fail))
      exact hq h1 (Rr_K hR1 (by omega) (by omega)) fr1.H
    · rw [show a_home A p = homA A p from if_pos ⟨hp, ho⟩, show o_home A p = (pA A p 3, 0) by unfold o_home; rw [if_pos hp, if_neg ho]] at hq
      (repeat' (first | (refine r_isPerson (by omega) hR (fun c => ?_) (fun c => ?_)) | (refine r_personOf (by omega) hR (by omega) (by omega) ?_) | (refine r_homes (by omega) hR hp.1 hp.2 (fun c => absurd c ho) (fun c h1 hR1 fr1 => ?_); have kq1 := hR1.1.1; have g1 := fr1.1.1) | (refine r_gives (by omega) kq1 ?_) | (refine Ex_step ?_; conv => whnf) | (refine ⟨?_, trivial⟩) | (refine (show den _ _ _ _ _ _ _ _ from ?_); conv => whnf) | (refine ⟨by (first | assumption | rfl | (exact Nat.le_of_ble_eq_true rfl) | (exact ⟨fun h01 => absurd h01 (by decide), by first | rfl | assumption⟩) | (exact ⟨fun _ => by decide, by first | rfl | assumption⟩) | (exact ⟨by assumption, by omega, by omega⟩) | (unfold inI; omega) | omega), ?_⟩; conv => whnf) | (refine ⟨fun c => False.elim (by omega), fun c => ?_⟩) | (refine ⟨fun c => ?_, fun c => False.elim (by omega)⟩) | (refine ⟨fun c => ?_, fun c => ?_⟩) | (intro c) | fail))
      exact hq h1 (Rr_K hR1 (by omega) (by omega)) fr1.H
  · rw [show a_home A p = A from if_neg (fun q => hp q.1), show o_home A p = (-1, 1) from if_neg hp] at hq
    (repeat' (first | (refine r_isPerson (by omega) hR (fun c => ?_) (fun c => ?_)) | (refine r_gives (by omega) kq ?_) | (refine r_refuse (by omega) kq ?_) | (refine Ex_step ?_; conv => whnf) | (refine ⟨?_, trivial⟩) | (refine (show den _ _ _ _ _ _ _ _ from ?_); conv => whnf) | (refine ⟨by (first | assumption | rfl | (exact Nat.le_of_ble_eq_true rfl) | (exact ⟨fun h01 => absurd h01 (by decide), by first | rfl | assumption⟩) | (exact ⟨fun _ => by decide, by first | rfl | assumption⟩) | (exact ⟨by assumption, by omega, by omega⟩) | (unfold inI; omega) | omega), ?_⟩; conv => whnf) | (refine ⟨fun c => False.elim (by omega), fun c => ?_⟩) | (refine ⟨fun c => ?_, fun c => False.elim (by omega)⟩) | (refine ⟨fun c => ?_, fun c => ?_⟩) | (intro c) | fail))
    exact hq h (Rr_K hR (by omega) (by omega)) FrH.refl
-- day
def a_day (A : Int → Int) (m : Int) : Int → Int := if (1 ≤ m ∧ m ≤ 99) ∧ A 6 + m ≤ 9999 then dayA A m else A
def o_day (A : Int → Int) (m : Int) : Int × Int := if 1 ≤ m ∧ m ≤ 99 then (if A 6 + m ≤ 9999 then (dyS A m 0 0, 0) else (-1, 4)) else (-1, 1)
theorem dyS_b {K : Int} {A : Int → Int} {m : Int} (hA : AOk K A) : ∀ (k : Nat) (i s : Int), (A 0 - i).toNat = k → 0 ≤ i → 0 ≤ s → 0 ≤ dyS A m i s := by
  intro k; induction k with
  | zero => intro i s hk hi hs; unfold dyS; rw [foN_end (by omega)]; exact hs
  | succ k ih =>
    intro i s hk hi hs
    have := msA_b hA (a := i) (days := m) hi (by omega)
    unfold dyS
    rw [foN_go (by omega)]
    exact ih (i + 1) _ (by omega) (by omega) (by omega)
set_option maxHeartbeats 4000000 in
theorem c_day {X : Int → Int} {XL : Int} {d : Nat} {A : Int → Int} {m : Int} (hd : 9 ≤ d) : CV X XL d 137 [vI m] A (a_day A m) (o_day A m) := by
  intro K n h Q hC hK hq
  obtain ⟨⟨k00, r7, hT⟩, hV⟩ := id hC; have kn := hV.1.1; have hA := hV.2.2
  refine eX9_day (by omega) ?_
  by_cases hp : 1 ≤ m ∧ m ≤ 99
  · by_cases ho : A 6 + m ≤ 9999
    · rw [show a_day A m = dayA A m from if_pos ⟨hp, ho⟩, show o_day A m = (dyS A m 0 0, 0) by unfold o_day; rw [if_pos hp, if_pos ho]] at hq
      have hs := dyS_b hA (m := m) _ 0 0 rfl (by omega) (by omega)
      (repeat' (first | (rw [r7]) | (refine w_within (by omega) (fun c => ?_) (fun c => ?_)) | (refine w_passDays (by omega) hV hT (by omega) (by omega) (fun c => absurd c (by omega)) (fun c h1 hV1 fr1 => ?_); have k1 := (kd_fr fr1 0).trans k00; have g1 := fr1.1) | (refine w_givenUnless (by omega) k1 (fun c => absurd c (by omega)) (fun c => ?_)) | (refine Ex_step ?_; conv => whnf) | (refine ⟨?_, trivial⟩) | (refine (show den _ _ _ _ _ _ _ _ from ?_); conv => whnf) | (refine ⟨by (first | assumption | rfl | (exact Nat.le_of_ble_eq_true rfl) | (exact ⟨fun h01 => absurd h01 (by decide), by first | rfl | assumption⟩) | (exact ⟨fun _ => by decide, by first | rfl | assumption⟩) | (exact ⟨by assumption, by omega, by omega⟩) | (unfold inI; omega) | omega), ?_⟩; conv => whnf) | (refine ⟨fun c => False.elim (by omega), fun c => ?_⟩) | (refine ⟨fun c => ?_, fun c => False.elim (by omega)⟩) | (refine ⟨fun c => ?_, fun c => ?_⟩) | (intro c) | fail))
      exact hq h1 (Vr_K hV1 (by omega) (by omega)) fr1
    · rw [show a_day A m = A from if_neg (fun q => ho q.2), show o_day A m = (-1, 4) by unfold o_day; rw [if_pos hp, if_neg ho]] at hq
      (repeat' (first | (rw [r7]) | (refine w_within (by omega) (fun c => ?_) (fun c => ?_)) | (refine w_passDays (by omega) hV hT (by omega) (by omega) (fun c => ?_) (fun c => absurd c ho)) | (refine w_givenUnless (by omega) k00 (fun c => ?_) (fun c => absurd rfl c)) | (refine Ex_step ?_; conv => whnf) | (refine ⟨?_, trivial⟩) | (refine (show den _ _ _ _ _ _ _ _ from ?_); conv => whnf) | (refine ⟨by (first | assumption | rfl | (exact Nat.le_of_ble_eq_true rfl) | (exact ⟨fun h01 => absurd h01 (by decide), by first | rfl | assumption⟩) | (exact ⟨fun _ => by decide, by first | rfl | assumption⟩) | (exact ⟨by assumption, by omega, by omega⟩) | (unfold inI; omega) | omega), ?_⟩; conv => whnf) | (refine ⟨fun c => False.elim (by omega), fun c => ?_⟩) | (refine ⟨fun c => ?_, fun c => False.elim (by omega)⟩) | (refine ⟨fun c => ?_, fun c => ?_⟩) | (intro c) | fail))
      exact hq h (Vr_K hV (by omega) (by omega)) Fr.refl
  · rw [show a_day A m = A from if_neg (fun q => hp q.1), show o_day A m = (-1, 1) from if_neg hp] at hq
    (repeat' (first | (rw [r7]) | (refine w_within (by omega) (fun c => ?_) (fun c => ?_)) | (refine w_given (by omega) k00 ?_) | (refine w_none (by omega) k00 ?_) | (refine Ex_step ?_; conv => whnf) | (refine ⟨?_, trivial⟩) | (refine (show den _ _ _ _ _ _ _ _ from ?_); conv => whnf) | (refine ⟨by (first | assumption | rfl | (exact Nat.le_of_ble_eq_true rfl) | (exact ⟨fun h01 => absurd h01 (by decide), by first | rfl | assumption⟩) | (exact ⟨fun _ => by decide, by first | rfl | assumption⟩) | (exact ⟨by assumption, by omega, by omega⟩) | (unfold inI; omega) | omega), ?_⟩; conv => whnf) | (refine ⟨fun c => False.elim (by omega), fun c => ?_⟩) | (refine ⟨fun c => ?_, fun c => False.elim (by omega)⟩) | (refine ⟨fun c => ?_, fun c => ?_⟩) | (intro c) | fail))
    exact hq h (Vr_K hV (by omega) (by omega)) Fr.refl
set_option maxHeartbeats 4000000 in
theorem m_day {X : Int → Int} {XL : Int} {d : Nat} {A : Int → Int} {m : Int} (hd : 9 ≤ d) : CR X XL d 277 [vI m] A (a_day A m) (o_day A m) := by
  intro K h Q hR hK hq; have kq := hR.1.1; have hA := hR.2.2
  have b0 := hA.1
  have b6 := hA.2.2.2.2.2.2.1
  refine eX10_day (by omega) ?_
  obtain ⟨⟨-, r0, kt, lt⟩, eA, -⟩ := id hR
  by_cases hp : 1 ≤ m ∧ m ≤ 99
  · by_cases ho : A 6 + m ≤ 9999
    · rw [show a_day A m = dyN A m by unfold a_day dyN; rw [if_pos ⟨hp, ho⟩, if_neg (by omega)], show o_day A m = (dyS A m 0 0, 0) by unfold o_day; rw [if_pos hp, if_pos ho]] at hq
      have loop : ∀ (h1 : Mem), Rr K h1 (dyN A m) → FrH h h1 → ∀ (k : Nat) (a s : Int), (A 0 - a).toNat = k → 0 ≤ a → 0 ≤ s → s ≤ 9 * a → dyS A m 0 0 = dyS A m a s → Ex (WP X XL (d - 1)) KX10_day h.1 Q 48 [some (vR 127), some (vI m), some (vI s), some (vI a)] [] h1 := by
        intro h1 hR1 f1
        obtain ⟨⟨kq, r0, kt, lt⟩, eA, hA1⟩ := id hR1
        have g1 := f1.1
        have e0 : dyN A m 0 = A 0 := dyN_j (by omega) (by omega) (by omega) b0.2
        intro k; induction k with
        | zero =>
          intro a s hk h0 h2 h3 he
          unfold dyS at he
          rw [foN_end (n := A 0) (i := a) (by omega)] at he
          (repeat' (first | (rw [e0]) | (refine r_gives (by omega) kq ?_) | (refine Ex_step ?_; conv => whnf) | (refine ⟨?_, trivial⟩) | (refine (show den _ _ _ _ _ _ _ _ from ?_); conv => whnf) | (refine ⟨by (first | assumption | rfl | (exact Nat.le_of_ble_eq_true rfl) | (exact ⟨fun h01 => absurd h01 (by decide), by first | rfl | assumption | trivial⟩) | (exact ⟨fun _ => by decide, by first | rfl | assumption | trivial⟩) | (exact ⟨kt, by omega, Int.lt_of_lt_of_le (by omega : _ < (3198 : Int)) (Int.le_of_eq lt.symm)⟩) | (unfold inI; omega) | omega), ?_⟩; conv => whnf; try simp (disch := omega) only [r0, gR_sG, g_same, g_ne, eA]) | (refine ⟨fun c => False.elim (by omega), fun c => ?_⟩) | (refine ⟨fun c => ?_, fun c => False.elim (by omega)⟩) | (refine ⟨fun c => ?_, fun c => ?_⟩) | (intro c) | fail))
          exact he ▸ hq h1 (Rr_K hR1 (by omega) (by omega)) f1
        | succ k ih =>
          intro a s hk h0 h2 h3 he
          have hm := dyN_m (A := A) (n := m) (a := a) (by omega) h0 (by omega)
          have hb := msA_b hA (a := a) (days := m) h0 (by omega)
          unfold dyS at he
          rw [foN_go (n := A 0) (i := a) (by omega)] at he
          refine Ex_step ?_; conv => whnf
          (repeat' (first | (refine ih (a + 1) _ (by omega) (by omega) (by omega) (by omega) he) | (rw [e0]) | (rw [hm]) | (refine r_mo (by omega) hR1 (by omega) ?_) | (refine Ex_step ?_; conv => whnf) | (refine ⟨?_, trivial⟩) | (refine (show den _ _ _ _ _ _ _ _ from ?_); conv => whnf) | (refine ⟨by (first | assumption | rfl | (exact Nat.le_of_ble_eq_true rfl) | (exact ⟨fun h01 => absurd h01 (by decide), by first | rfl | assumption | trivial⟩) | (exact ⟨fun _ => by decide, by first | rfl | assumption | trivial⟩) | (exact ⟨kt, by omega, Int.lt_of_lt_of_le (by omega : _ < (3198 : Int)) (Int.le_of_eq lt.symm)⟩) | (unfold inI; omega) | omega), ?_⟩; conv => whnf; try simp (disch := omega) only [r0, gR_sG, g_same, g_ne, eA]) | (refine ⟨fun c => False.elim (by omega), fun c => ?_⟩) | (refine ⟨fun c => ?_, fun c => False.elim (by omega)⟩) | (refine ⟨fun c => ?_, fun c => ?_⟩) | (intro c) | fail))
      refine Ex_step ?_; conv => whnf
      (repeat' (first | (refine loop h1 hR1 fr1.H _ 0 0 rfl (by omega) (by omega) (by omega) rfl) | (refine r_isFrom (by omega) (fun c => ?_) (fun c => ?_)) | (refine r_daysGo (by omega) hR (by omega) (by omega) (by omega) (fun h1 hR1 fr1 => ?_)) | (refine Ex_step ?_; conv => whnf) | (refine ⟨?_, trivial⟩) | (refine (show den _ _ _ _ _ _ _ _ from ?_); conv => whnf) | (refine ⟨by (first | assumption | rfl | (exact Nat.le_of_ble_eq_true rfl) | (exact ⟨fun h01 => absurd h01 (by decide), by first | rfl | assumption | trivial⟩) | (exact ⟨fun _ => by decide, by first | rfl | assumption | trivial⟩) | (exact ⟨kt, by omega, Int.lt_of_lt_of_le (by omega : _ < (3198 : Int)) (Int.le_of_eq lt.symm)⟩) | (unfold inI; omega) | omega), ?_⟩; conv => whnf; try simp (disch := omega) only [r0, gR_sG, g_same, g_ne, eA]) | (refine ⟨fun c => False.elim (by omega), fun c => ?_⟩) | (refine ⟨fun c => ?_, fun c => False.elim (by omega)⟩) | (refine ⟨fun c => ?_, fun c => ?_⟩) | (intro c) | fail))
    · rw [show a_day A m = A from if_neg (fun q => ho q.2), show o_day A m = (-1, 4) by unfold o_day; rw [if_pos hp, if_neg ho]] at hq
      (repeat' (first | (refine r_isFrom (by omega) (fun c => ?_) (fun c => ?_)) | (refine r_gives (by omega) kq ?_) | (refine r_refuse (by omega) kq ?_) | (refine Ex_step ?_; conv => whnf) | (refine ⟨?_, trivial⟩) | (refine (show den _ _ _ _ _ _ _ _ from ?_); conv => whnf) | (refine ⟨by (first | assumption | rfl | (exact Nat.le_of_ble_eq_true rfl) | (exact ⟨fun h01 => absurd h01 (by decide), by first | rfl | assumption | trivial⟩) | (exact ⟨fun _ => by decide, by first | rfl | assumption | trivial⟩) | (exact ⟨kt, by omega, Int.lt_of_lt_of_le (by omega : _ < (3198 : Int)) (Int.le_of_eq lt.symm)⟩) | (unfold inI; omega) | omega), ?_⟩; conv => whnf; try simp (disch := omega) only [r0, gR_sG, g_same, g_ne, eA]) | (refine ⟨fun c => False.elim (by omega), fun c => ?_⟩) | (refine ⟨fun c => ?_, fun c => False.elim (by omega)⟩) | (refine ⟨fun c => ?_, fun c => ?_⟩) | (intro c) | fail))
      exact hq h (Rr_K hR (by omega) (by omega)) FrH.refl
  · rw [show a_day A m = A from if_neg (fun q => hp q.1), show o_day A m = (-1, 1) from if_neg hp] at hq
    (repeat' (first | (refine r_isFrom (by omega) (fun c => ?_) (fun c => ?_)) | (refine r_gives (by omega) kq ?_) | (refine r_refuse (by omega) kq ?_) | (refine Ex_step ?_; conv => whnf) | (refine ⟨?_, trivial⟩) | (refine (show den _ _ _ _ _ _ _ _ from ?_); conv => whnf) | (refine ⟨by (first | assumption | rfl | (exact Nat.le_of_ble_eq_true rfl) | (exact ⟨fun h01 => absurd h01 (by decide), by first | rfl | assumption | trivial⟩) | (exact ⟨fun _ => by decide, by first | rfl | assumption | trivial⟩) | (exact ⟨kt, by omega, Int.lt_of_lt_of_le (by omega : _ < (3198 : Int)) (Int.le_of_eq lt.symm)⟩) | (unfold inI; omega) | omega), ?_⟩; conv => whnf; try simp (disch := omega) only [r0, gR_sG, g_same, g_ne, eA]) | (refine ⟨fun c => False.elim (by omega), fun c => ?_⟩) | (refine ⟨fun c => ?_, fun c => False.elim (by omega)⟩) | (refine ⟨fun c => ?_, fun c => ?_⟩) | (intro c) | fail))
    exact hq h (Rr_K hR (by omega) (by omega)) FrH.refl
