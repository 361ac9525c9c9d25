/-! LEVEL 2: calls that only look: days ahead, spans, weakest, garden -/
theorem stN_c {n : Int} {f g : Int → Bool} : ∀ (k : Nat) (a : Int), (n - a).toNat = k → (∀ x, a ≤ x → x < n → f x = g x) → stN n f a = stN n g a := by
  intro k; induction k with
  | zero => intro a hk hx; rw [stN_end (Or.inl (by omega)), stN_end (Or.inl (by omega))]
  | succ k ih =>
    intro a hk hx
    have e := hx a (by omega) (by omega)
    by_cases h : f a = true
    · have h' : g a = true := by rw [← e]; exact h
      rw [stN_go (ok := f) (by omega) h, stN_go (ok := g) (by omega) h']
      exact ih (a + 1) (by omega) (fun x h0 h1 => hx x (by omega) h1)
    · have h2 : f a = false := by simpa using h
      have h3 : g a = false := by rw [← e]; exact h2
      rw [stN_end (ok := f) (Or.inr h2), stN_end (ok := g) (Or.inr h3)]
theorem run_p3 {A : Int → Int} {p : Int} (hp0 : 0 ≤ p) : pA (rrA A p p) p 3 = aft A (rrS A p p) (pA A p 1) := by
  have hF := foF_0 (s := rrS A p p) hp0 _ (pA A p 3) A rfl
  have h0 := hF.1 0 (by omega) (by omega)
  have h3 := hF.1 3 (by omega) (by omega)
  have h1 := hF.2 (37 + 6 * p + 1) (by omega) (by omega)
  unfold rrA
  rw [if_pos rfl]
  unfold runA
  rw [show runS A p = rrS A p p from rrS_1.symm]
  generalize foN (rrS A p p) (trF p) (pA A p 3) A = C at *
  generalize rrS A p p = S at *
  have e : pA (lanA C p S) p 3 = aft C S (pA C p 1) := by
    show pu _ _ _ _ = _
    rw [pu_n (by omega), pu_e]
  rw [e, show pA C p 1 = pA A p 1 from h1]
  unfold aft
  rw [h0, h3]
theorem dyN_j {A : Int → Int} {n j : Int} (h6 : ¬ j = 6) (h8 : ¬ j = 8) (hm : ¬ (10 ≤ j ∧ j < 37 ∧ (j - 10) % 3 = 1)) (h0 : A 0 ≤ 9) : dyN A n j = A j := by
  unfold dyN
  split
  · rfl
  · unfold dayA
    rw [if_neg h8, if_neg h6, if_neg (by omega)]
theorem dyN_m {A : Int → Int} {n a : Int} (hn : 0 ≤ n) (ha0 : 0 ≤ a) (ha1 : a < A 0) : moA (dyN A n) a = msA A a n := by
  unfold dyN
  by_cases h : n ≤ 0
  · rw [if_pos h]; unfold msA; rw [if_pos h]
  · rw [if_neg h]
    unfold moA dayA
    rw [if_neg (by omega), if_neg (by omega), if_pos (by omega), show (10 + 3 * a + 1 - 10) / 3 = a by omega]
theorem rch_in {K : Int} {A : Int → Int} (hA : AOk K A) {p n : Int} (hp0 : 0 ≤ p) (hp1 : p < A 1) (hn : 0 ≤ n) : aft (dyN A n) (rrS (dyN A n) p p) (pA (dyN A n) p 1) = aft A (stN (A 0) (okIn A p n) (pA A p 3)) (pA A p 1) := by
  have b0 := hA.1
  have e0 : dyN A n 0 = A 0 := dyN_j (by omega) (by omega) (by omega) b0.2
  have e3 : dyN A n 3 = A 3 := dyN_j (by omega) (by omega) (by omega) b0.2
  have e4 : dyN A n 4 = A 4 := dyN_j (by omega) (by omega) (by omega) b0.2
  have ep : ∀ w, 0 ≤ w → pA (dyN A n) p w = pA A p w := fun w hw => by unfold pA; exact dyN_j (by omega) (by omega) (by omega) b0.2
  have hf := bp_of hA hp0 hp1
  have es : rrS (dyN A n) p p = stN (A 0) (okIn A p n) (pA A p 3) := by
    rw [rrS_1, e0, ep 3 (by omega), ep 1 (by omega), e4]
    refine stN_c _ _ rfl (fun x h0 h1 => ?_)
    unfold okBy okIn sBy
    rw [ep 0 (by omega), ep 2 (by omega), dyN_m hn (by omega) h1]
    rw [show hoA (dyN A n) x = hoA A x by unfold hoA; exact dyN_j (by omega) (by omega) (by omega) b0.2]
  rw [es, ep 1 (by omega)]
  unfold aft
  rw [e0, e3]
theorem FrH.kp {h h' : Mem} {to : Int} (a : Fr (fun r => r = 128) h h') (ht : 1832 ≤ to) (b : ∀ j, j < to ∨ to + 90 ≤ j → gG h' 128 j = gG h 128 j) : FrH h h' := ⟨a.1, a.2.1, fun r hr i => a.2.2 r (by omega) i, fun j h0 h1 => b j (by omega), fun i _ => a.2.2 127 (by omega) i⟩
set_option maxHeartbeats 4000000 in
theorem r_reachOf {X : Int → Int} {XL : Int} {d : Nat} {h : Mem} {Q : RetP} {K : Int} {A : Int → Int} {p n : Int} (hd : 8 ≤ d) (hR : Rr K h A) (hK : K + 100 ≤ 30000000) (hp0 : 0 ≤ p) (hp1 : p < A 1) (hn0 : 0 ≤ n) (hn1 : n ≤ 40) (h6 : A 6 ≤ 10000) (hq : ∀ h', Rr (K + 83) h' A → FrH h h' → Q (some (vI (aft (dyN A n) (rrS (dyN A n) p p) (pA (dyN A n) p 1)))) h') : WP X XL d 288 [vR 127, vI p, vI n] h Q := by
  have kq := hR.1.1
  have hA := hR.2.2
  have b1 := hA.2.1
  have e1 : dyN A n 1 = A 1 := dyN_j (by omega) (by omega) (by omega) hA.1.2
  have hr1 : 0 ≤ rrA (dyN A n) p p 1 → True := fun _ => trivial
  have e3 := run_p3 (A := dyN A n) hp0
  refine eX10_reachOf (by omega) ?_
  (repeat' (first | (rw [e3]) | (refine r_keeps (by omega) hR (by omega) (by omega) (fun h1 hR1 fr1 kp1 fx1 => ?_); have kq1 := hR1.1.1) | (refine r_daysGo (by omega) hR1 hn0 (by omega) (by omega) (fun h2 hR2 fr2 => ?_); have kq2 := hR2.1.1) | (refine r_runs (by omega) hR2 (by omega) hp0 (by omega) hp0 (by omega) rfl (fun h3 hR3 fr3 => ?_); have kq3 := hR3.1.1) | (refine r_personOf (by omega) hR3 (by omega) (by omega) ?_) | (refine r_restores (by omega) hR3 (by omega) (by omega) ((kp1.fr fr2 (by omega)).fr fr3 (by omega)) (AOk_K hA (by omega) (by omega)) (fun h4 hR4 fr4 => ?_); have kq4 := hR4.1.1; have g4 : h4.1 = h.1 := ((fr4.1.1.trans fr3.1.1).trans fr2.1.1).trans fr1.1) | (refine Ex_step ?_; conv => whnf) | (refine ⟨?_, trivial⟩) | (refine (show den _ _ _ _ _ _ _ _ from ?_); conv => whnf) | (refine ⟨by (first | assumption | rfl | (exact Nat.le_of_ble_eq_true rfl) | (exact ⟨fun h01 => absurd h01 (by decide), by first | rfl | assumption⟩) | (exact ⟨fun _ => by decide, by first | rfl | assumption⟩) | (exact ⟨by assumption, by omega, by omega⟩) | (unfold inI; omega) | omega), ?_⟩; conv => whnf) | (refine ⟨fun c => False.elim (by omega), fun c => ?_⟩) | (refine ⟨fun c => ?_, fun c => False.elim (by omega)⟩) | (refine ⟨fun c => ?_, fun c => ?_⟩) | (intro c) | fail))
  exact hq _ hR4 ((((FrH.kp fr1 (by omega) fx1).trans fr2.H).trans fr3.H).trans fr4.H)
def o_reach (A : Int → Int) (p : Int) : Int × Int := if 0 ≤ p ∧ p < A 1 then (aft A (rrS A p p) (pA A p 1), 0) else (-1, 1)
set_option maxHeartbeats 4000000 in
theorem c_reach {X : Int → Int} {XL : Int} {d : Nat} {A : Int → Int} {p : Int} (hd : 9 ≤ d) : CV X XL d 145 [vI p] A A (o_reach A p) := by
  intro K n h Q hC hK hq
  obtain ⟨⟨k00, r7, hT⟩, hV⟩ := id hC; have kn := hV.1.1; have hA := hV.2.2
  have hq := hq h (Vr_K hV (by omega) (by omega)) Fr.refl
  unfold o_reach at hq
  by_cases hp : 0 ≤ p ∧ p < A 1
  · have hb := rrS_b hA (o := p) hp.1 hp.2
    have b1 := hA.2.1
    rw [rrS_1] at hq hb
    obtain ⟨⟨k0, -, -, -, -, ⟨k7, l7⟩, ⟨k8, l8⟩, -⟩, ⟨-, -, rp, -⟩, -⟩ := id hV
    obtain ⟨e7, e8, e9, e10, e11, e12⟩ := rp p hp.1 hp.2
    refine eX9_reach (by omega) ?_
    (repeat' (first | (rw [r7]) | (refine w_hasPerson (by omega) hV (fun c => ?_) (fun c => ?_)) | (rw [e8]) | (refine w_stopAlone (by omega) hV (by omega) (by omega) ?_) | (refine w_afterFall (by omega) hV ?_) | (refine w_given (by omega) k00 ?_) | (refine w_none (by omega) k00 ?_) | (refine Ex_step ?_; conv => whnf) | (refine ⟨?_, trivial⟩) | (refine (show den _ _ _ _ _ _ _ _ from ?_); conv => whnf) | (refine ⟨by (first | assumption | rfl | (exact Nat.le_of_ble_eq_true rfl) | (exact ⟨fun h01 => absurd h01 (by decide), by first | rfl | assumption⟩) | (exact ⟨fun _ => by decide, by first | rfl | assumption⟩) | (exact ⟨by assumption, by omega, by omega⟩) | (unfold inI; omega) | omega), ?_⟩; conv => whnf) | (refine ⟨fun c => False.elim (by omega), fun c => ?_⟩) | (refine ⟨fun c => ?_, fun c => False.elim (by omega)⟩) | (refine ⟨fun c => ?_, fun c => ?_⟩) | (intro c) | fail))
    (all_goals (first | exact hq | (rw [if_pos (by omega)] at hq; exact hq) | (rw [if_neg (by omega)] at hq; exact hq) | (rw [if_neg (by omega), if_pos (by omega)] at hq; exact hq) | (rw [if_neg (by omega), if_neg (by omega)] at hq; exact hq) | (rw [if_pos (by omega), if_pos (by omega)] at hq; exact hq) | (rw [if_pos (by omega), if_neg (by omega)] at hq; exact hq) | (exfalso; omega)))
  · refine eX9_reach (by omega) ?_
    (repeat' (first | (rw [r7]) | (refine w_hasPerson (by omega) hV (fun c => ?_) (fun c => ?_)) | (refine w_given (by omega) k00 ?_) | (refine w_none (by omega) k00 ?_) | (refine Ex_step ?_; conv => whnf) | (refine ⟨?_, trivial⟩) | (refine (show den _ _ _ _ _ _ _ _ from ?_); conv => whnf) | (refine ⟨by (first | assumption | rfl | (exact Nat.le_of_ble_eq_true rfl) | (exact ⟨fun h01 => absurd h01 (by decide), by first | rfl | assumption⟩) | (exact ⟨fun _ => by decide, by first | rfl | assumption⟩) | (exact ⟨by assumption, by omega, by omega⟩) | (unfold inI; omega) | omega), ?_⟩; conv => whnf) | (refine ⟨fun c => False.elim (by omega), fun c => ?_⟩) | (refine ⟨fun c => ?_, fun c => False.elim (by omega)⟩) | (refine ⟨fun c => ?_, fun c => ?_⟩) | (intro c) | fail))
    (all_goals (first | exact hq | (rw [if_pos (by omega)] at hq; exact hq) | (rw [if_neg (by omega)] at hq; exact hq) | (rw [if_neg (by omega), if_pos (by omega)] at hq; exact hq) | (rw [if_neg (by omega), if_neg (by omega)] at hq; exact hq) | (rw [if_pos (by omega), if_pos (by omega)] at hq; exact hq) | (rw [if_pos (by omega), if_neg (by omega)] at hq; exact hq) | (exfalso; omega)))
set_option maxHeartbeats 4000000 in
theorem m_reach {X : Int → Int} {XL : Int} {d : Nat} {A : Int → Int} {p : Int} (hd : 10 ≤ d) (h6 : A 6 ≤ 10000) : CR X XL d 289 [vI p] A A (o_reach A p) := by
  intro K h Q hR hK hq0
  have hq := hq0 h (Rr_K hR (by omega) (by omega)) FrH.refl
  have kq := hR.1.1
  unfold o_reach at hq hq0
  refine eX10_reach (by omega) ?_
  (repeat' (first | (refine r_isPerson (by omega) hR (fun c => ?_) (fun c => ?_)) | (refine r_reachOf (by omega) hR (by omega) (by omega) (by omega) (by omega) (by omega) h6 (fun h1 hR1 fr1 => ?_); rw [dyN_0]; have kq1 := hR1.1.1; have g1 := fr1.1) | (refine r_gives (by omega) kq1 ?_) | (refine r_gives (by omega) kq ?_) | (refine r_refuse (by omega) kq ?_) | (refine Ex_step ?_; conv => whnf) | (refine ⟨?_, trivial⟩) | (refine (show den _ _ _ _ _ _ _ _ from ?_); conv => whnf) | (refine ⟨by (first | assumption | rfl | (exact Nat.le_of_ble_eq_true rfl) | (exact ⟨fun h01 => absurd h01 (by decide), by first | rfl | assumption⟩) | (exact ⟨fun _ => by decide, by first | rfl | assumption⟩) | (exact ⟨by assumption, by omega, by omega⟩) | (unfold inI; omega) | omega), ?_⟩; conv => whnf) | (refine ⟨fun c => False.elim (by omega), fun c => ?_⟩) | (refine ⟨fun c => ?_, fun c => False.elim (by omega)⟩) | (refine ⟨fun c => ?_, fun c => ?_⟩) | (intro c) | fail))
  all_goals first | (rw [if_neg (by omega)] at hq; exact hq) | (rw [if_pos (by omega)] at hq0; exact hq0 _ (Rr_K hR1 (by omega) (by omega)) fr1)
def o_reachIn (A : Int → Int) (p n : Int) : Int × Int := if (0 ≤ p ∧ p < A 1) ∧ 0 ≤ n ∧ n ≤ 40 then (aft A (stN (A 0) (okIn A p n) (pA A p 3)) (pA A p 1), 0) else (-1, 1)
set_option maxHeartbeats 4000000 in
theorem c_reachIn {X : Int → Int} {XL : Int} {d : Nat} {A : Int → Int} {p m : Int} (hd : 9 ≤ d) : CV X XL d 146 [vI p, vI m] A A (o_reachIn A p m) := by
  intro K n h Q hC hK hq
  obtain ⟨⟨k00, r7, hT⟩, hV⟩ := id hC; have kn := hV.1.1; have hA := hV.2.2
  have hq := hq h (Vr_K hV (by omega) (by omega)) Fr.refl
  unfold o_reachIn at hq
  by_cases hp : 0 ≤ p ∧ p < A 1
  · have b1 := hA.2.1
    obtain ⟨⟨k0, -, -, -, -, ⟨k7, l7⟩, ⟨k8, l8⟩, -⟩, ⟨-, -, rp, -⟩, -⟩ := id hV
    obtain ⟨e7, e8, e9, e10, e11, e12⟩ := rp p hp.1 hp.2
    refine eX9_reachIn (by omega) ?_
    (repeat' (first | (rw [r7]) | (refine w_hasPerson (by omega) hV (fun c => ?_) (fun c => ?_)) | (refine w_within (by omega) (fun c => ?_) (fun c => ?_)) | (rw [e8]) | (refine w_stopIn (by omega) hV (by omega) (by omega) (by omega) ?_) | (refine w_afterFall (by omega) hV ?_) | (refine w_given (by omega) k00 ?_) | (refine w_none (by omega) k00 ?_) | (refine Ex_step ?_; conv => whnf) | (refine ⟨?_, trivial⟩) | (refine (show den _ _ _ _ _ _ _ _ from ?_); conv => whnf) | (refine ⟨by (first | assumption | rfl | (exact Nat.le_of_ble_eq_true rfl) | (exact ⟨fun h01 => absurd h01 (by decide), by first | rfl | assumption⟩) | (exact ⟨fun _ => by decide, by first | rfl | assumption⟩) | (exact ⟨by assumption, by omega, by omega⟩) | (unfold inI; omega) | omega), ?_⟩; conv => whnf) | (refine ⟨fun c => False.elim (by omega), fun c => ?_⟩) | (refine ⟨fun c => ?_, fun c => False.elim (by omega)⟩) | (refine ⟨fun c => ?_, fun c => ?_⟩) | (intro c) | fail))
    (all_goals (first | exact hq | (rw [if_pos (by omega)] at hq; exact hq) | (rw [if_neg (by omega)] at hq; exact hq) | (rw [if_neg (by omega), if_pos (by omega)] at hq; exact hq) | (rw [if_neg (by omega), if_neg (by omega)] at hq; exact hq) | (rw [if_pos (by omega), if_pos (by omega)] at hq; exact hq) | (rw [if_pos (by omega), if_neg (by omega)] at hq; exact hq) | (exfalso; omega)))
  · refine eX9_reachIn (by omega) ?_
    (repeat' (first | (rw [r7]) | (refine w_hasPerson (by omega) hV (fun c => ?_) (fun c => ?_)) | (refine w_given (by omega) k00 ?_) | (refine w_none (by omega) k00 ?_) | (refine Ex_step ?_; conv => whnf) | (refine ⟨?_, trivial⟩) | (refine (show den _ _ _ _ _ _ _ _ from ?_); conv => whnf) | (refine ⟨by (first | assumption | rfl | (exact Nat.le_of_ble_eq_true rfl) | (exact ⟨fun h01 => absurd h01 (by decide), by first | rfl | assumption⟩) | (exact ⟨fun _ => by decide, by first | rfl | assumption⟩) | (exact ⟨by assumption, by omega, by omega⟩) | (unfold inI; omega) | omega), ?_⟩; conv => whnf) | (refine ⟨fun c => False.elim (by omega), fun c => ?_⟩) | (refine ⟨fun c => ?_, fun c => False.elim (by omega)⟩) | (refine ⟨fun c => ?_, fun c => ?_⟩) | (intro c) | fail))
    (all_goals (first | exact hq | (rw [if_pos (by omega)] at hq; exact hq) | (rw [if_neg (by omega)] at hq; exact hq) | (rw [if_neg (by omega), if_pos (by omega)] at hq; exact hq) | (rw [if_neg (by omega), if_neg (by omega)] at hq; exact hq) | (rw [if_pos (by omega), if_pos (by omega)] at hq; exact hq) | (rw [if_pos (by omega), if_neg (by omega)] at hq; exact hq) | (exfalso; omega)))
set_option maxHeartbeats 4000000 in
theorem m_reachIn {X : Int → Int} {XL : Int} {d : Nat} {A : Int → Int} {p m : Int} (hd : 10 ≤ d) (h6 : A 6 ≤ 10000) : CR X XL d 290 [vI p, vI m] A A (o_reachIn A p m) := by
  intro K h Q hR hK hq0
  have hq := hq0 h (Rr_K hR (by omega) (by omega)) FrH.refl
  have kq := hR.1.1
  have hA := hR.2.2
  unfold o_reachIn at hq hq0
  refine eX10_reachIn (by omega) ?_
  (repeat' (first | (refine r_isPerson (by omega) hR (fun c => ?_) (fun c => ?_)) | (refine r_isFrom (by omega) (fun c => ?_) (fun c => ?_)) | (refine r_reachOf (by omega) hR (by omega) (by omega) (by omega) (by omega) (by omega) h6 (fun h1 hR1 fr1 => ?_); rw [rch_in hA (by omega) (by omega) (by omega)]; have kq1 := hR1.1.1; have g1 := fr1.1) | (refine r_gives (by omega) kq1 ?_) | (refine r_gives (by omega) kq ?_) | (refine r_refuse (by omega) kq ?_) | (refine Ex_step ?_; conv => whnf) | (refine ⟨?_, trivial⟩) | (refine (show den _ _ _ _ _ _ _ _ from ?_); conv => whnf) | (refine ⟨by (first | assumption | rfl | (exact Nat.le_of_ble_eq_true rfl) | (exact ⟨fun h01 => absurd h01 (by decide), by first | rfl | assumption⟩) | (exact ⟨fun _ => by decide, by first | rfl | assumption⟩) | (exact ⟨by assumption, by omega, by omega⟩) | (unfold inI; omega) | omega), ?_⟩; conv => whnf) | (refine ⟨fun c => False.elim (by omega), fun c => ?_⟩) | (refine ⟨fun c => ?_, fun c => False.elim (by omega)⟩) | (refine ⟨fun c => ?_, fun c => ?_⟩) | (intro c) | fail))
  all_goals first | (rw [if_neg (by omega)] at hq; exact hq) | (rw [if_pos (by omega)] at hq0; exact hq0 _ (Rr_K hR1 (by omega) (by omega)) fr1)
def o_mossIn (A : Int → Int) (a n : Int) : Int × Int := if (0 ≤ a ∧ a < A 0) ∧ 0 ≤ n ∧ n ≤ 40 then (msA A a n, 0) else (-1, 1)
set_option maxHeartbeats 4000000 in
theorem c_mossIn {X : Int → Int} {XL : Int} {d : Nat} {A : Int → Int} {a m : Int} (hd : 9 ≤ d) : CV X XL d 153 [vI a, vI m] A A (o_mossIn A a m) := by
  intro K n h Q hC hK hq
  obtain ⟨⟨k00, r7, hT⟩, hV⟩ := id hC; have kn := hV.1.1; have hA := hV.2.2
  have hq := hq h (Vr_K hV (by omega) (by omega)) Fr.refl
  unfold o_mossIn at hq
  refine eX9_mossIn (by omega) ?_
  (repeat' (first | (rw [r7]) | (refine w_hasArch (by omega) hV (fun c => ?_) (fun c => ?_)) | (refine w_within (by omega) (fun c => ?_) (fun c => ?_)) | (refine w_mossAfter (by omega) hV (by omega) (by omega) (by omega) ?_) | (refine w_given (by omega) k00 ?_) | (refine w_none (by omega) k00 ?_) | (refine Ex_step ?_; conv => whnf) | (refine ⟨?_, trivial⟩) | (refine (show den _ _ _ _ _ _ _ _ from ?_); conv => whnf) | (refine ⟨by (first | assumption | rfl | (exact Nat.le_of_ble_eq_true rfl) | (exact ⟨fun h01 => absurd h01 (by decide), by first | rfl | assumption⟩) | (exact ⟨fun _ => by decide, by first | rfl | assumption⟩) | (exact ⟨by assumption, by omega, by omega⟩) | (unfold inI; omega) | omega), ?_⟩; conv => whnf) | (refine ⟨fun c => False.elim (by omega), fun c => ?_⟩) | (refine ⟨fun c => ?_, fun c => False.elim (by omega)⟩) | (refine ⟨fun c => ?_, fun c => ?_⟩) | (intro c) | fail))
  (all_goals (first | exact hq | (rw [if_pos (by omega)] at hq; exact hq) | (rw [if_neg (by omega)] at hq; exact hq) | (rw [if_neg (by omega), if_pos (by omega)] at hq; exact hq) | (rw [if_neg (by omega), if_neg (by omega)] at hq; exact hq) | (rw [if_pos (by omega), if_pos (by omega)] at hq; exact hq) | (rw [if_pos (by omega), if_neg (by omega)] at hq; exact hq) | (exfalso; omega)))
set_option maxHeartbeats 4000000 in
theorem m_mossIn {X : Int → Int} {XL : Int} {d : Nat} {A : Int → Int} {a m : Int} (hd : 10 ≤ d) (h6 : A 6 ≤ 10000) : CR X XL d 299 [vI a, vI m] A A (o_mossIn A a m) := by
  intro K h Q hR hK hq0
  have hq := hq0 h (Rr_K hR (by omega) (by omega)) FrH.refl
  have kq := hR.1.1
  have hA := hR.2.2
  have b0 := hA.1
  unfold o_mossIn at hq hq0
  refine eX10_mossIn (by omega) ?_
  (repeat' (first | (refine r_isArch (by omega) hR (fun c => ?_) (fun c => ?_)) | (refine r_isFrom (by omega) (fun c => ?_) (fun c => ?_)) | (rw [dyN_m (by omega) (by omega) (by omega)]) | (refine r_keeps (by omega) hR (by omega) (by omega) (fun h1 hR1 fr1 kp1 fx1 => ?_); have kq1 := hR1.1.1) | (refine r_daysGo (by omega) hR1 (by omega) (by omega) (by omega) (fun h2 hR2 fr2 => ?_); have kq2 := hR2.1.1) | (refine r_mo (by omega) hR2 (by omega) ?_) | (refine r_restores (by omega) hR2 (by omega) (by omega) (kp1.fr fr2 (by omega)) hA (fun h4 hR4 fr4 => ?_); have kq4 := hR4.1.1; have g4 : h4.1 = h.1 := (fr4.1.1.trans fr2.1.1).trans fr1.1) | (refine r_gives (by omega) kq4 ?_) | (refine r_gives (by omega) kq ?_) | (refine r_refuse (by omega) kq ?_) | (refine Ex_step ?_; conv => whnf) | (refine ⟨?_, trivial⟩) | (refine (show den _ _ _ _ _ _ _ _ from ?_); conv => whnf) | (refine ⟨by (first | assumption | rfl | (exact Nat.le_of_ble_eq_true rfl) | (exact ⟨fun h01 => absurd h01 (by decide), by first | rfl | assumption⟩) | (exact ⟨fun _ => by decide, by first | rfl | assumption⟩) | (exact ⟨by assumption, by omega, by omega⟩) | (unfold inI; omega) | omega), ?_⟩; conv => whnf) | (refine ⟨fun c => False.elim (by omega), fun c => ?_⟩) | (refine ⟨fun c => ?_, fun c => False.elim (by omega)⟩) | (refine ⟨fun c => ?_, fun c => ?_⟩) | (intro c) | fail))
  all_goals first | (rw [if_neg (by omega)] at hq; exact hq) | (rw [if_pos (by omega)] at hq0; exact hq0 _ (Rr_K hR4 (by omega) (by omega)) (((FrH.kp fr1 (by omega) fx1).trans fr2.H).trans fr4.H))
-- spans
theorem spL_b {A : Int → Int} {p a : Int} (h : a ≤ A 0) : 0 ≤ spL A p a ∧ spL A p a ≤ A 0 - a := by
  have := stN_rng (n := A 0) (ok := okBy A p (pA A p 1) (A 4)) _ a rfl h
  unfold spL
  omega
def spF (A : Int → Int) (p : Int) : Int → Int → Int := fun i b => if spL A p b < spL A p i then i else b
theorem spF_b {A : Int → Int} {p n : Int} (hn : n ≤ A 0) : ∀ (k : Nat) (i b : Int), (n - i).toNat = k → 0 ≤ i → 0 ≤ b → b ≤ A 0 → 0 ≤ foN n (spF A p) i b ∧ foN n (spF A p) i b ≤ A 0 := by
  intro k; induction k with
  | zero => intro i b hk hi h0 h1; rw [foN_end (by omega)]; exact ⟨h0, h1⟩
  | succ k ih =>
    intro i b hk hi h0 h1
    rw [foN_go (by omega)]
    unfold spF
    split
    · exact ih (i + 1) i (by omega) (by omega) (by omega) (by omega)
    · exact ih (i + 1) b (by omega) (by omega) (by omega) (by omega)
theorem spB_b {K : Int} {A : Int → Int} (hA : AOk K A) {p : Int} : 0 ≤ spB A p ∧ spB A p ≤ A 0 := spF_b (Int.le_refl _) _ 1 0 rfl (by omega) (by omega) hA.1.1
def o_span (A : Int → Int) (p : Int) : Int × Int := if 0 ≤ p ∧ p < A 1 then (spL A p (spB A p), 0) else (-1, 1)
def o_spanFrom (A : Int → Int) (p : Int) : Int × Int := if 0 ≤ p ∧ p < A 1 then (if spL A p (spB A p) = 0 then (-1, 6) else (spB A p, 0)) else (-1, 1)
set_option maxHeartbeats 4000000 in
theorem c_span {X : Int → Int} {XL : Int} {d : Nat} {A : Int → Int} {p : Int} (hd : 9 ≤ d) : CV X XL d 150 [vI p] A A (o_span A p) := by
  intro K n h Q hC hK hq
  obtain ⟨⟨k00, r7, hT⟩, hV⟩ := id hC; have kn := hV.1.1; have hA := hV.2.2
  have hq := hq h (Vr_K hV (by omega) (by omega)) Fr.refl
  unfold o_span at hq
  have hb := spB_b hA (p := p)
  have b0 := hA.1
  refine eX9_span (by omega) ?_
  (repeat' (first | (rw [r7]) | (refine w_hasPerson (by omega) hV (fun c => ?_) (fun c => ?_)) | (refine w_spanBegin (by omega) hV (by omega) (by omega) ?_) | (refine w_spanLength (by omega) hV (by omega) (by omega) (by omega) (by omega) ?_) | (refine w_given (by omega) k00 ?_) | (refine w_none (by omega) k00 ?_) | (refine Ex_step ?_; conv => whnf) | (refine ⟨?_, trivial⟩) | (refine (show den _ _ _ _ _ _ _ _ from ?_); conv => whnf) | (refine ⟨by (first | assumption | rfl | (exact Nat.le_of_ble_eq_true rfl) | (exact ⟨fun h01 => absurd h01 (by decide), by first | rfl | assumption⟩) | (exact ⟨fun _ => by decide, by first | rfl | assumption⟩) | (exact ⟨by assumption, by omega, by omega⟩) | (unfold inI; omega) | omega), ?_⟩; conv => whnf) | (refine ⟨fun c => False.elim (by omega), fun c => ?_⟩) | (refine ⟨fun c => ?_, fun c => False.elim (by omega)⟩) | (refine ⟨fun c => ?_, fun c => ?_⟩) | (intro c) | fail))
  (all_goals (first | exact hq | (rw [if_pos (by omega)] at hq; exact hq) | (rw [if_neg (by omega)] at hq; exact hq) | (rw [if_neg (by omega), if_pos (by omega)] at hq; exact hq) | (rw [if_neg (by omega), if_neg (by omega)] at hq; exact hq) | (rw [if_pos (by omega), if_pos (by omega)] at hq; exact hq) | (rw [if_pos (by omega), if_neg (by omega)] at hq; exact hq) | (exfalso; omega)))
set_option maxHeartbeats 4000000 in
theorem c_spanFrom {X : Int → Int} {XL : Int} {d : Nat} {A : Int → Int} {p : Int} (hd : 9 ≤ d) : CV X XL d 151 [vI p] A A (o_spanFrom A p) := by
  intro K n h Q hC hK hq
  obtain ⟨⟨k00, r7, hT⟩, hV⟩ := id hC; have kn := hV.1.1; have hA := hV.2.2
  have hq := hq h (Vr_K hV (by omega) (by omega)) Fr.refl
  unfold o_spanFrom at hq
  have hb := spB_b hA (p := p)
  have b0 := hA.1
  unfold spL at hq
  refine eX9_spanFrom (by omega) ?_
  (repeat' (first | (rw [r7]) | (refine w_hasPerson (by omega) hV (fun c => ?_) (fun c => ?_)) | (refine w_spanBegin (by omega) hV (by omega) (by omega) ?_) | (refine w_spanLength (by omega) hV (by omega) (by omega) (by omega) (by omega) ?_) | (refine w_given (by omega) k00 ?_) | (refine w_none (by omega) k00 ?_) | (refine Ex_step ?_; conv => whnf) | (refine ⟨?_, trivial⟩) | (refine (show den _ _ _ _ _ _ _ _ from ?_); conv => whnf) | (refine ⟨by (first | assumption | rfl | (exact Nat.le_of_ble_eq_true rfl) | (exact ⟨fun h01 => absurd h01 (by decide), by first | rfl | assumption⟩) | (exact ⟨fun _ => by decide, by first | rfl | assumption⟩) | (exact ⟨by assumption, by omega, by omega⟩) | (unfold inI; omega) | omega), ?_⟩; conv => whnf) | (refine ⟨fun c => False.elim (by omega), fun c => ?_⟩) | (refine ⟨fun c => ?_, fun c => False.elim (by omega)⟩) | (refine ⟨fun c => ?_, fun c => ?_⟩) | (intro c) | fail))
  (all_goals (first | exact hq | (rw [if_pos (by omega)] at hq; exact hq) | (rw [if_neg (by omega)] at hq; exact hq) | (rw [if_neg (by omega), if_pos (by omega)] at hq; exact hq) | (rw [if_neg (by omega), if_neg (by omega)] at hq; exact hq) | (rw [if_pos (by omega), if_pos (by omega)] at hq; exact hq) | (rw [if_pos (by omega), if_neg (by omega)] at hq; exact hq) | (exfalso; omega)))
theorem Rr.f {K : Int} {h : Mem} {A : Int → Int} {i z : Int} (a : Rr K h A) : Rr K (sG h 127 i z) A := ⟨a.1, fun j h0 h1 => by rw [gG_sG, if_neg (by omega)]; exact a.2.1 j h0 h1, a.2.2⟩
theorem FrH.f {h h' : Mem} {i z : Int} (a : FrH h h') (hi : ¬ (i = 2 ∨ i = 3 ∨ i = 4 ∨ i = 10 ∨ i = 16 ∨ i = 17 ∨ i = 37 ∨ i = 38)) : FrH h (sG h' 127 i z) := ⟨a.1, a.2.1, fun r hr j => by rw [gG_sG, if_neg (by omega)]; exact a.2.2.1 r hr j, fun j h0 h1 => by rw [gG_sG, if_neg (by omega)]; exact a.2.2.2.1 j h0 h1, fun j hj => by rw [gG_sG, if_neg (by omega)]; exact a.2.2.2.2 j hj⟩
theorem spL_n {A : Int → Int} {p a : Int} (h0 : 0 ≤ a) (h : a ≤ A 0) : (nonN (A 0) (stN (A 0) (okB A p p) a) = -1 ∧ spL A p a = A 0 - a) ∨ (¬ nonN (A 0) (stN (A 0) (okB A p p) a) = -1 ∧ spL A p a = nonN (A 0) (stN (A 0) (okB A p p) a) - a) := by
  have hb := stN_rng (n := A 0) (ok := okB A p p) _ a rfl h
  rw [okB_1] at *
  unfold nonN spL
  split <;> omega
def spI (A : Int → Int) (p a sm best : Int) : Prop := (a = 0 ∧ sm = 0 ∧ best = -1) ∨ (0 < a ∧ ∃ b, (0 ≤ b ∧ b ≤ A 0) ∧ spB A p = foN (A 0) (spF A p) a b ∧ sm = spL A p b ∧ best = if sm = 0 then -1 else b)
theorem spI_s {A : Int → Int} {p a sm best : Int} (h : spI A p a sm best) (h0 : 0 ≤ a) (h1 : a < A 0) : 0 ≤ sm ∧ (spL A p a ≤ sm → spI A p (a + 1) sm best) ∧ (sm < spL A p a → spI A p (a + 1) (spL A p a) a) := by
  have hs := spL_b (A := A) (p := p) (a := a) (by omega)
  rcases h with ⟨q1, q2, q3⟩ | ⟨q1, b, q2, q3, q4, q5⟩
  · subst q1
    refine ⟨by omega, fun hc => Or.inr ⟨by omega, 0, ⟨by omega, by omega⟩, rfl, by omega, ?_⟩, fun hc => Or.inr ⟨by omega, 0, ⟨by omega, by omega⟩, rfl, rfl, ?_⟩⟩
    · rw [if_pos (by omega)]; exact q3
    · rw [if_neg (by omega)]
  · have hb := spL_b (A := A) (p := p) (a := b) q2.2
    rw [foN_go (by omega)] at q3
    refine ⟨by omega, fun hc => Or.inr ⟨by omega, b, q2, ?_, q4, q5⟩, fun hc => Or.inr ⟨by omega, a, ⟨by omega, by omega⟩, ?_, rfl, ?_⟩⟩
    · rw [show spF A p a b = b from if_neg (by omega)] at q3; exact q3
    · rw [show spF A p a b = a from if_pos (by omega)] at q3; exact q3
    · rw [if_neg (by omega)]
theorem spI_e {A : Int → Int} {p a sm best : Int} (h : spI A p a sm best) (h0 : 0 ≤ A 0) (h1 : a = A 0) : sm = spL A p (spB A p) ∧ best = if spL A p (spB A p) = 0 then -1 else spB A p := by
  rcases h with ⟨q1, q2, q3⟩ | ⟨q1, b, q2, q3, q4, q5⟩
  · have e : spB A p = 0 := foN_end (by omega)
    have hs := spL_b (A := A) (p := p) (a := 0) (by omega)
    rw [e, if_pos (by omega)]
    omega
  · rw [foN_end (by omega)] at q3
    rw [q3, q5, q4]; exact ⟨rfl, rfl⟩
set_option maxHeartbeats 4000000 in
theorem r_spanOf {X : Int → Int} {XL : Int} {d : Nat} {h : Mem} {Q : RetP} {K : Int} {A : Int → Int} {p : Int} (hd : 8 ≤ d) (hR : Rr K h A) (hp0 : 0 ≤ p) (hp1 : p < A 1) (hq : ∀ h', Rr K h' A → FrH h h' → gG h' 127 24 = spL A p (spB A p) → Q (some (vI (if spL A p (spB A p) = 0 then -1 else spB A p))) h') : WP X XL d 295 [vR 127, vI p] h Q := by
  have hA := hR.2.2
  have b0 := hA.1
  have loop : ∀ (k : Nat) (a sm best : Int) (h' : Mem) (j4 j5 : Option MV), (A 0 - a).toNat = k → 0 ≤ a → a ≤ A 0 → Rr K h' A → FrH h h' → gG h' 127 24 = sm → spI A p a sm best → Ex (WP X XL (d - 1)) KX10_spanOf h.1 Q 9 [some (vR 127), some (vI p), some (vI best), some (vI a), j4, j5] [] h' := by
    intro k; induction k with
    | zero =>
      intro a sm best h' j4 j5 hk ha0 ha1 hR' fr hsm hI
      have g1 := fr.1
      obtain ⟨⟨kq, r0, kt, lt⟩, eA, -⟩ := id hR'
      have hfin := spI_e hI b0.1 (by omega)
      rw [hfin.2]
      rw [hfin.1] at hsm
      (repeat' (first | (refine Ex_step ?_; conv => whnf) | (refine ⟨?_, trivial⟩) | (refine (show den _ _ _ _ _ _ _ _ from ?_); conv => whnf) | (refine ⟨by (first | assumption | rfl | (exact Nat.le_of_ble_eq_true rfl) | (exact ⟨fun h01 => absurd h01 (by decide), by first | rfl | assumption | trivial⟩) | (exact ⟨fun _ => by decide, by first | rfl | assumption | trivial⟩) | (exact ⟨kt, by omega, Int.lt_of_lt_of_le (by omega : _ < (3198 : Int)) (Int.le_of_eq lt.symm)⟩) | (unfold inI; omega) | omega), ?_⟩; conv => whnf; try simp (disch := omega) only [r0, gR_sG, g_same, g_ne, eA]) | (refine ⟨fun c => False.elim (by omega), fun c => ?_⟩) | (refine ⟨fun c => ?_, fun c => False.elim (by omega)⟩) | (refine ⟨fun c => ?_, fun c => ?_⟩) | (intro c) | fail))
      exact hq _ hR' fr hsm
    | succ k ih =>
      intro a sm best h' j4 j5 hk ha0 ha1 hR' fr hsm hI
      obtain ⟨⟨kq, r0, kt, lt⟩, eA, -⟩ := id hR'
      have hsp := spL_n (A := A) (p := p) ha0 ha1
      have hsb := spL_b (A := A) (p := p) (a := a) (by omega)
      obtain ⟨hs0, hI1, hI2⟩ := spI_s hI ha0 (by omega)
      by_cases hc : spL A p a ≤ sm
      · have ih2 : ∀ j4 j5, Ex (WP X XL (d - 1)) KX10_spanOf h.1 Q 9 [some (vR 127), some (vI p), some (vI best), some (vI (a + 1)), j4, j5] [] h' := fun j4 j5 => ih (a + 1) sm best h' j4 j5 (by omega) (by omega) (by omega) hR' fr hsm (hI1 hc)
        refine Ex_step ?_; conv => whnf
        (repeat' (first | (refine r_stopOf (by omega) hR' hp0 hp1 hp0 hp1 ha0 ha1 ?_) | (exact ih2 _ _) | (refine Ex_step ?_; conv => whnf) | (refine ⟨?_, trivial⟩) | (refine (show den _ _ _ _ _ _ _ _ from ?_); conv => whnf) | (refine ⟨by (first | assumption | rfl | (exact Nat.le_of_ble_eq_true rfl) | (exact ⟨fun h01 => absurd h01 (by decide), by first | rfl | assumption | trivial⟩) | (exact ⟨fun _ => by decide, by first | rfl | assumption | trivial⟩) | (exact ⟨kt, by omega, Int.lt_of_lt_of_le (by omega : _ < (3198 : Int)) (Int.le_of_eq lt.symm)⟩) | (unfold inI; omega) | omega), ?_⟩; conv => whnf; try simp (disch := omega) only [r0, gR_sG, g_same, g_ne, eA]) | (refine ⟨fun c => False.elim (by omega), fun c => ?_⟩) | (refine ⟨fun c => ?_, fun c => False.elim (by omega)⟩) | (refine ⟨fun c => ?_, fun c => ?_⟩) | (intro c) | fail))
      · have ih2 : ∀ j4 j5 h'', Rr K h'' A → FrH h h'' → gG h'' 127 24 = spL A p a → Ex (WP X XL (d - 1)) KX10_spanOf h.1 Q 9 [some (vR 127), some (vI p), some (vI a), some (vI (a + 1)), j4, j5] [] h'' := fun j4 j5 h'' q1 q2 q3 => ih (a + 1) (spL A p a) a h'' j4 j5 (by omega) (by omega) (by omega) q1 q2 q3 (hI2 (by omega))
        refine Ex_step ?_; conv => whnf
        (repeat' (first | (refine r_stopOf (by omega) hR' hp0 hp1 hp0 hp1 ha0 ha1 ?_) | (refine ih2 _ _ _ hR'.f (fr.f (by omega)) ?_) | (refine Ex_step ?_; conv => whnf) | (refine ⟨?_, trivial⟩) | (refine (show den _ _ _ _ _ _ _ _ from ?_); conv => whnf) | (refine ⟨by (first | assumption | rfl | (exact Nat.le_of_ble_eq_true rfl) | (exact ⟨fun h01 => absurd h01 (by decide), by first | rfl | assumption | trivial⟩) | (exact ⟨fun _ => by decide, by first | rfl | assumption | trivial⟩) | (exact ⟨kt, by omega, Int.lt_of_lt_of_le (by omega : _ < (3198 : Int)) (Int.le_of_eq lt.symm)⟩) | (unfold inI; omega) | omega), ?_⟩; conv => whnf; try simp (disch := omega) only [r0, gR_sG, g_same, g_ne, eA]) | (refine ⟨fun c => False.elim (by omega), fun c => ?_⟩) | (refine ⟨fun c => ?_, fun c => False.elim (by omega)⟩) | (refine ⟨fun c => ?_, fun c => ?_⟩) | (intro c) | fail))
        all_goals (rw [g_same]; omega)
  have kq := hR.1.1
  refine eX10_spanOf (by omega) ?_
  refine Ex_step ?_; conv => whnf
  refine ⟨kq, ?_⟩
  conv => whnf
  refine ⟨?_, trivial⟩
  exact loop _ 0 0 (-1) _ _ _ rfl (by omega) b0.1 hR.f (FrH.refl.f (by omega)) g_same (Or.inl ⟨rfl, rfl, rfl⟩)
set_option maxHeartbeats 4000000 in
theorem m_span {X : Int → Int} {XL : Int} {d : Nat} {A : Int → Int} {p : Int} (hd : 10 ≤ d) : CR X XL d 296 [vI p] A A (o_span A p) := by
  intro K h Q hR hK hq0
  have hq := hq0 h (Rr_K hR (by omega) (by omega)) FrH.refl
  have kq := hR.1.1
  unfold o_span at hq hq0
  refine eX10_span (by omega) ?_
  (repeat' (first | (refine r_isPerson (by omega) hR (fun c => ?_) (fun c => ?_)) | (refine r_spanOf (by omega) hR (by omega) (by omega) (fun h1 hR1 fr1 e1 => ?_); have kq1 := hR1.1.1; have g1 := fr1.1) | (rw [e1]; refine r_gives (by omega) kq1 ?_) | (refine r_gives (by omega) kq ?_) | (refine r_refuse (by omega) kq ?_) | (refine Ex_step ?_; conv => whnf) | (refine ⟨?_, trivial⟩) | (refine (show den _ _ _ _ _ _ _ _ from ?_); conv => whnf) | (refine ⟨by (first | assumption | rfl | (exact Nat.le_of_ble_eq_true rfl) | (exact ⟨fun h01 => absurd h01 (by decide), by first | rfl | assumption⟩) | (exact ⟨fun _ => by decide, by first | rfl | assumption⟩) | (exact ⟨by assumption, by omega, by omega⟩) | (unfold inI; omega) | omega), ?_⟩; conv => whnf) | (refine ⟨fun c => False.elim (by omega), fun c => ?_⟩) | (refine ⟨fun c => ?_, fun c => False.elim (by omega)⟩) | (refine ⟨fun c => ?_, fun c => ?_⟩) | (intro c) | fail))
  all_goals first | (rw [if_neg (by omega)] at hq; exact hq) | (rw [if_pos (by omega)] at hq0; exact hq0 _ (Rr_K hR1 (by omega) (by omega)) fr1)
set_option maxHeartbeats 4000000 in
theorem m_spanFrom {X : Int → Int} {XL : Int} {d : Nat} {A : Int → Int} {p : Int} (hd : 10 ≤ d) : CR X XL d 297 [vI p] A A (o_spanFrom A p) := by
  intro K h Q hR hK hq0
  have hq := hq0 h (Rr_K hR (by omega) (by omega)) FrH.refl
  have kq := hR.1.1
  have hb := spB_b hR.2.2 (p := p)
  unfold o_spanFrom at hq hq0
  by_cases hs : spL A p (spB A p) = 0
  · rw [if_pos hs] at hq0
    refine eX10_spanFrom (by omega) ?_
    (repeat' (first | (refine r_isPerson (by omega) hR (fun c => ?_) (fun c => ?_)) | (refine r_spanOf (by omega) hR (by omega) (by omega) (fun h1 hR1 fr1 e1 => ?_); rw [if_pos hs]; have kq1 := hR1.1.1; have g1 := fr1.1) | (refine r_orNone (by omega) kq1 (fun c => ?_) (fun c => ?_)) | (refine r_gives (by omega) kq ?_) | (refine r_refuse (by omega) kq ?_) | (refine Ex_step ?_; conv => whnf) | (refine ⟨?_, trivial⟩) | (refine (show den _ _ _ _ _ _ _ _ from ?_); conv => whnf) | (refine ⟨by (first | assumption | rfl | (exact Nat.le_of_ble_eq_true rfl) | (exact ⟨fun h01 => absurd h01 (by decide), by first | rfl | assumption⟩) | (exact ⟨fun _ => by decide, by first | rfl | assumption⟩) | (exact ⟨by assumption, by omega, by omega⟩) | (unfold inI; omega) | omega), ?_⟩; conv => whnf) | (refine ⟨fun c => False.elim (by omega), fun c => ?_⟩) | (refine ⟨fun c => ?_, fun c => False.elim (by omega)⟩) | (refine ⟨fun c => ?_, fun c => ?_⟩) | (intro c) | fail))
    all_goals first | (exfalso; omega) | (rw [if_neg (by omega)] at hq; exact hq) | (rw [if_pos (by omega)] at hq0; exact hq0 _ (Rr_K hR1 (by omega) (by omega)) fr1)
  · rw [if_neg hs] at hq0
    refine eX10_spanFrom (by omega) ?_
    (repeat' (first | (refine r_isPerson (by omega) hR (fun c => ?_) (fun c => ?_)) | (refine r_spanOf (by omega) hR (by omega) (by omega) (fun h1 hR1 fr1 e1 => ?_); rw [if_neg hs]; have kq1 := hR1.1.1; have g1 := fr1.1) | (refine r_orNone (by omega) kq1 (fun c => ?_) (fun c => ?_)) | (refine r_gives (by omega) kq ?_) | (refine r_refuse (by omega) kq ?_) | (refine Ex_step ?_; conv => whnf) | (refine ⟨?_, trivial⟩) | (refine (show den _ _ _ _ _ _ _ _ from ?_); conv => whnf) | (refine ⟨by (first | assumption | rfl | (exact Nat.le_of_ble_eq_true rfl) | (exact ⟨fun h01 => absurd h01 (by decide), by first | rfl | assumption⟩) | (exact ⟨fun _ => by decide, by first | rfl | assumption⟩) | (exact ⟨by assumption, by omega, by omega⟩) | (unfold inI; omega) | omega), ?_⟩; conv => whnf) | (refine ⟨fun c => False.elim (by omega), fun c => ?_⟩) | (refine ⟨fun c => ?_, fun c => False.elim (by omega)⟩) | (refine ⟨fun c => ?_, fun c => ?_⟩) | (intro c) | fail))
    all_goals first | (exfalso; omega) | (rw [if_neg (by omega)] at hq; exact hq) | (rw [if_pos (by omega)] at hq0; exact hq0 _ (Rr_K hR1 (by omega) (by omega)) fr1)
