/-! LEVEL 2: calls that only look, on -/
theorem bp_of {K : Int} {A : Int → Int} (hA : AOk K A) {p : Int} (hp0 : 0 ≤ p) (hp1 : p < A 1) : (1 ≤ pA A p 0 ∧ pA A p 0 ≤ 40) ∧ (0 ≤ pA A p 1 ∧ pA A p 1 ≤ 9) ∧ (0 ≤ pA A p 2 ∧ pA A p 2 ≤ 9) ∧ (0 ≤ pA A p 3 ∧ pA A p 3 ≤ A 0) ∧ (0 ≤ pA A p 4 ∧ pA A p 4 ≤ K) ∧ (0 ≤ pA A p 5 ∧ pA A p 5 ≤ K) := hA.2.2.2.2.2.2.2.2.2.2.1 p hp0 hp1
def o_told (A : Int → Int) (w : Int) : Int × Int := if 0 ≤ w ∧ w ≤ 9 then (if w = 7 then ovA A else if w = 9 then totA A 4 else A w, 0) else (-1, 1)
set_option maxHeartbeats 4000000 in
theorem c_told {X : Int → Int} {XL : Int} {d : Nat} {A : Int → Int} {w : Int} (hd : 9 ≤ d) : CV X XL d 129 [vI w] A A (o_told A w) := by
  intro K n h Q hC hK hq
  obtain ⟨⟨k00, r7, hT⟩, hV⟩ := id hC; have kn := hV.1.1; have hA := hV.2.2
  have hq := hq h (Vr_K hV (by omega) (by omega)) Fr.refl
  obtain ⟨⟨k0, -⟩, ⟨⟨g0, g5, g13, g16, g17, g18, g19, g4⟩, -⟩, -⟩ := id hV
  unfold o_told at hq
  refine eX9_told (by omega) ?_
  (repeat' (first | (rw [r7]) | (refine w_peopleOver (by omega) hV ?_) | (refine w_paidByAll (by omega) hV ?_) | (refine w_given (by omega) k00 ?_) | (refine w_none (by omega) k00 ?_) | (refine Ex_step ?_; conv => whnf) | (refine ⟨?_, trivial⟩) | (refine (show den _ _ _ _ _ _ _ _ from ?_); conv => whnf) | (refine ⟨by (first | assumption | rfl | (exact Nat.le_of_ble_eq_true rfl) | (exact ⟨fun h01 => absurd h01 (by decide), by first | rfl | assumption⟩) | (exact ⟨fun _ => by decide, by first | rfl | assumption⟩) | (exact ⟨by assumption, by omega, by omega⟩) | (unfold inI; omega) | omega), ?_⟩; conv => whnf) | (refine ⟨fun c => False.elim (by omega), fun c => ?_⟩) | (refine ⟨fun c => ?_, fun c => False.elim (by omega)⟩) | (refine ⟨fun c => ?_, fun c => ?_⟩) | (intro c) | fail))
  all_goals (try rw [g0]); (try rw [g5]); (try rw [g13]); (try rw [g16]); (try rw [g17]); (try rw [g18]); (try rw [g19]); (try rw [g4])
  all_goals first | (rw [if_neg (by omega)] at hq; exact hq) | (subst c; exact hq)
set_option maxHeartbeats 4000000 in
theorem m_told {X : Int → Int} {XL : Int} {d : Nat} {A : Int → Int} {w : Int} (hd : 9 ≤ d) : CR X XL d 260 [vI w] A A (o_told A w) := by
  intro K h Q hR hK hq
  have hq := hq h (Rr_K hR (by omega) (by omega)) FrH.refl; have kq := hR.1.1; have hA := hR.2.2
  unfold o_told at hq
  obtain ⟨⟨kq, r0, kt, lt⟩, eA, ⟨b0, b1, b2, b3, b4, b5, b6, b8, bK, ba, bp, bq⟩⟩ := id hR
  refine eX10_told (by omega) ?_
  (repeat' (first | (refine r_areOver (by omega) hR ?_) | (refine r_together (by omega) hR (by omega) ?_) | (refine r_gives (by omega) kq ?_) | (refine r_refuse (by omega) kq ?_) | (refine Ex_step ?_; conv => whnf) | (refine ⟨?_, trivial⟩) | (refine (show den _ _ _ _ _ _ _ _ from ?_); conv => whnf) | (refine ⟨by (first | assumption | rfl | (exact Nat.le_of_ble_eq_true rfl) | (exact ⟨fun h01 => absurd h01 (by decide), by first | rfl | assumption | trivial⟩) | (exact ⟨fun _ => by decide, by first | rfl | assumption | trivial⟩) | (exact ⟨kt, by omega, Int.lt_of_lt_of_le (by omega : _ < (3198 : Int)) (Int.le_of_eq lt.symm)⟩) | (unfold inI; omega) | omega), ?_⟩; conv => whnf; try simp (disch := omega) only [r0, gR_sG, g_same, g_ne, eA]) | (refine ⟨fun c => False.elim (by omega), fun c => ?_⟩) | (refine ⟨fun c => ?_, fun c => False.elim (by omega)⟩) | (refine ⟨fun c => ?_, fun c => ?_⟩) | (intro c) | fail))
  all_goals first | (rw [if_neg (by omega)] at hq; exact hq) | (subst c; exact hq) | (rw [if_pos (by omega), if_neg (by omega), if_neg (by omega)] at hq; exact hq)
def o_arch (A : Int → Int) (a w : Int) : Int × Int := if (0 ≤ a ∧ a < A 0) ∧ 0 ≤ w ∧ w ≤ 3 then (if w = 3 then borA A a else A (10 + 3 * a + w), 0) else (-1, 1)
set_option maxHeartbeats 4000000 in
theorem c_arch {X : Int → Int} {XL : Int} {d : Nat} {A : Int → Int} {a w : Int} (hd : 9 ≤ d) : CV X XL d 130 [vI a, vI w] A A (o_arch A a w) := by
  intro K n h Q hC hK hq
  obtain ⟨⟨k00, r7, hT⟩, hV⟩ := id hC; have kn := hV.1.1; have hA := hV.2.2
  have hq := hq h (Vr_K hV (by omega) (by omega)) Fr.refl
  unfold o_arch at hq
  by_cases ha : 0 ≤ a ∧ a < A 0
  · obtain ⟨ha0, ha1⟩ := ha
    obtain ⟨⟨k0, ⟨k1, l1⟩, ⟨k2, l2⟩, ⟨k3, l3⟩, -⟩, ⟨-, ra, -⟩, -⟩ := id hV
    obtain ⟨e1, e2, e3⟩ := ra a ha0 ha1
    have b0 := hA.1
    refine eX9_arch (by omega) ?_
    (repeat' (first | (rw [r7]) | (refine w_hasArch (by omega) hV (fun c => ?_) (fun c => ?_)) | (refine w_borneBy (by omega) hV ha0 ha1 ?_) | (refine w_given (by omega) k00 ?_) | (refine w_none (by omega) k00 ?_) | (refine Ex_step ?_; conv => whnf) | (refine ⟨?_, trivial⟩) | (refine (show den _ _ _ _ _ _ _ _ from ?_); conv => whnf) | (refine ⟨by (first | assumption | rfl | (exact Nat.le_of_ble_eq_true rfl) | (exact ⟨fun h01 => absurd h01 (by decide), by first | rfl | assumption⟩) | (exact ⟨fun _ => by decide, by first | rfl | assumption⟩) | (exact ⟨by assumption, by omega, by omega⟩) | (unfold inI; omega) | omega), ?_⟩; conv => whnf) | (refine ⟨fun c => False.elim (by omega), fun c => ?_⟩) | (refine ⟨fun c => ?_, fun c => False.elim (by omega)⟩) | (refine ⟨fun c => ?_, fun c => ?_⟩) | (intro c) | fail))
    all_goals (try rw [e1]); (try rw [e2]); (try rw [e3])
    all_goals first | (exfalso; omega) | (rw [if_neg (by omega)] at hq; exact hq) | (subst c; rw [if_pos (by omega)] at hq; exact hq) | (subst c; rw [if_pos (by omega), if_neg (by omega), Int.add_zero] at hq; exact hq) | (subst c; rw [if_pos (by omega), if_neg (by omega)] at hq; exact hq)
  · refine eX9_arch (by omega) ?_
    (repeat' (first | (rw [r7]) | (refine w_hasArch (by omega) hV (fun c => ?_) (fun c => ?_)) | (refine w_given (by omega) k00 ?_) | (refine w_none (by omega) k00 ?_) | (refine Ex_step ?_; conv => whnf) | (refine ⟨?_, trivial⟩) | (refine (show den _ _ _ _ _ _ _ _ from ?_); conv => whnf) | (refine ⟨by (first | assumption | rfl | (exact Nat.le_of_ble_eq_true rfl) | (exact ⟨fun h01 => absurd h01 (by decide), by first | rfl | assumption⟩) | (exact ⟨fun _ => by decide, by first | rfl | assumption⟩) | (exact ⟨by assumption, by omega, by omega⟩) | (unfold inI; omega) | omega), ?_⟩; conv => whnf) | (refine ⟨fun c => False.elim (by omega), fun c => ?_⟩) | (refine ⟨fun c => ?_, fun c => False.elim (by omega)⟩) | (refine ⟨fun c => ?_, fun c => ?_⟩) | (intro c) | fail))
    (all_goals (first | exact hq | (rw [if_pos (by omega)] at hq; exact hq) | (rw [if_neg (by omega)] at hq; exact hq) | (rw [if_neg (by omega), if_pos (by omega)] at hq; exact hq) | (rw [if_neg (by omega), if_neg (by omega)] at hq; exact hq) | (rw [if_pos (by omega), if_pos (by omega)] at hq; exact hq) | (rw [if_pos (by omega), if_neg (by omega)] at hq; exact hq) | (exfalso; omega)))
set_option maxHeartbeats 4000000 in
theorem m_arch {X : Int → Int} {XL : Int} {d : Nat} {A : Int → Int} {a w : Int} (hd : 9 ≤ d) : CR X XL d 261 [vI a, vI w] A A (o_arch A a w) := by
  intro K h Q hR hK hq
  have hq := hq h (Rr_K hR (by omega) (by omega)) FrH.refl; have kq := hR.1.1; have hA := hR.2.2
  have b0 := hA.1
  unfold o_arch at hq
  refine eX10_arch (by omega) ?_
  (repeat' (first | (refine r_isArch (by omega) hR (fun c => ?_) (fun c => ?_)) | (refine r_borneBy (by omega) hR (by omega) (by omega) ?_) | (refine r_archOf (by omega) hR (by omega) (by omega) ?_) | (refine r_gives (by omega) kq ?_) | (refine r_refuse (by omega) kq ?_) | (refine Ex_step ?_; conv => whnf) | (refine ⟨?_, trivial⟩) | (refine (show den _ _ _ _ _ _ _ _ from ?_); conv => whnf) | (refine ⟨by (first | assumption | rfl | (exact Nat.le_of_ble_eq_true rfl) | (exact ⟨fun h01 => absurd h01 (by decide), by first | rfl | assumption⟩) | (exact ⟨fun _ => by decide, by first | rfl | assumption⟩) | (exact ⟨by assumption, by omega, by omega⟩) | (unfold inI; omega) | omega), ?_⟩; conv => whnf) | (refine ⟨fun c => False.elim (by omega), fun c => ?_⟩) | (refine ⟨fun c => ?_, fun c => False.elim (by omega)⟩) | (refine ⟨fun c => ?_, fun c => ?_⟩) | (intro c) | fail))
  all_goals first | (rw [if_neg (by omega)] at hq; exact hq) | (rw [if_pos (by omega), if_neg (by omega)] at hq; exact hq) | (rw [if_pos (by omega), if_pos (by omega)] at hq; exact hq) | (exfalso; omega)
def o_person (A : Int → Int) (p w : Int) : Int × Int := if (0 ≤ p ∧ p < A 1) ∧ 0 ≤ w ∧ w ≤ 5 then (pA A p w, 0) else (-1, 1)
set_option maxHeartbeats 4000000 in
theorem c_person {X : Int → Int} {XL : Int} {d : Nat} {A : Int → Int} {p w : Int} (hd : 9 ≤ d) : CV X XL d 131 [vI p, vI w] A A (o_person A p w) := by
  intro K n h Q hC hK hq
  obtain ⟨⟨k00, r7, hT⟩, hV⟩ := id hC; have kn := hV.1.1; have hA := hV.2.2
  have hq := hq h (Vr_K hV (by omega) (by omega)) Fr.refl
  unfold o_person at hq
  by_cases hp : 0 ≤ p ∧ p < A 1
  · obtain ⟨hp0, hp1⟩ := hp
    obtain ⟨⟨k0, -, -, -, -, ⟨k7, l7⟩, ⟨k8, l8⟩, ⟨k9, l9⟩, ⟨k10, l10⟩, ⟨k11, l11⟩, ⟨k12, l12⟩, -⟩, ⟨-, -, rp, -⟩, -⟩ := id hV
    obtain ⟨e7, e8, e9, e10, e11, e12⟩ := rp p hp0 hp1
    have b1 := hA.2.1
    refine eX9_person (by omega) ?_
    (repeat' (first | (rw [r7]) | (refine w_hasPerson (by omega) hV (fun c => ?_) (fun c => ?_)) | (refine w_given (by omega) k00 ?_) | (refine w_none (by omega) k00 ?_) | (refine Ex_step ?_; conv => whnf) | (refine ⟨?_, trivial⟩) | (refine (show den _ _ _ _ _ _ _ _ from ?_); conv => whnf) | (refine ⟨by (first | assumption | rfl | (exact Nat.le_of_ble_eq_true rfl) | (exact ⟨fun h01 => absurd h01 (by decide), by first | rfl | assumption⟩) | (exact ⟨fun _ => by decide, by first | rfl | assumption⟩) | (exact ⟨by assumption, by omega, by omega⟩) | (unfold inI; omega) | omega), ?_⟩; conv => whnf) | (refine ⟨fun c => False.elim (by omega), fun c => ?_⟩) | (refine ⟨fun c => ?_, fun c => False.elim (by omega)⟩) | (refine ⟨fun c => ?_, fun c => ?_⟩) | (intro c) | fail))
    all_goals (try rw [e7]); (try rw [e8]); (try rw [e9]); (try rw [e10]); (try rw [e11]); (try rw [e12])
    all_goals first | (exfalso; omega) | (rw [if_neg (by omega)] at hq; exact hq) | (subst c; rw [if_pos (by omega)] at hq; exact hq)
  · refine eX9_person (by omega) ?_
    (repeat' (first | (rw [r7]) | (refine w_hasPerson (by omega) hV (fun c => ?_) (fun c => ?_)) | (refine w_given (by omega) k00 ?_) | (refine w_none (by omega) k00 ?_) | (refine Ex_step ?_; conv => whnf) | (refine ⟨?_, trivial⟩) | (refine (show den _ _ _ _ _ _ _ _ from ?_); conv => whnf) | (refine ⟨by (first | assumption | rfl | (exact Nat.le_of_ble_eq_true rfl) | (exact ⟨fun h01 => absurd h01 (by decide), by first | rfl | assumption⟩) | (exact ⟨fun _ => by decide, by first | rfl | assumption⟩) | (exact ⟨by assumption, by omega, by omega⟩) | (unfold inI; omega) | omega), ?_⟩; conv => whnf) | (refine ⟨fun c => False.elim (by omega), fun c => ?_⟩) | (refine ⟨fun c => ?_, fun c => False.elim (by omega)⟩) | (refine ⟨fun c => ?_, fun c => ?_⟩) | (intro c) | fail))
    (all_goals (first | exact hq | (rw [if_pos (by omega)] at hq; exact hq) | (rw [if_neg (by omega)] at hq; exact hq) | (rw [if_neg (by omega), if_pos (by omega)] at hq; exact hq) | (rw [if_neg (by omega), if_neg (by omega)] at hq; exact hq) | (rw [if_pos (by omega), if_pos (by omega)] at hq; exact hq) | (rw [if_pos (by omega), if_neg (by omega)] at hq; exact hq) | (exfalso; omega)))
set_option maxHeartbeats 4000000 in
theorem m_person {X : Int → Int} {XL : Int} {d : Nat} {A : Int → Int} {p w : Int} (hd : 9 ≤ d) : CR X XL d 262 [vI p, vI w] A A (o_person A p w) := by
  intro K h Q hR hK hq
  have hq := hq h (Rr_K hR (by omega) (by omega)) FrH.refl; have kq := hR.1.1; have hA := hR.2.2
  have b1 := hA.2.1
  unfold o_person at hq
  refine eX10_person (by omega) ?_
  (repeat' (first | (refine r_isPerson (by omega) hR (fun c => ?_) (fun c => ?_)) | (refine r_personOf (by omega) hR (by omega) (by omega) ?_) | (refine r_gives (by omega) kq ?_) | (refine r_refuse (by omega) kq ?_) | (refine Ex_step ?_; conv => whnf) | (refine ⟨?_, trivial⟩) | (refine (show den _ _ _ _ _ _ _ _ from ?_); conv => whnf) | (refine ⟨by (first | assumption | rfl | (exact Nat.le_of_ble_eq_true rfl) | (exact ⟨fun h01 => absurd h01 (by decide), by first | rfl | assumption⟩) | (exact ⟨fun _ => by decide, by first | rfl | assumption⟩) | (exact ⟨by assumption, by omega, by omega⟩) | (unfold inI; omega) | omega), ?_⟩; conv => whnf) | (refine ⟨fun c => False.elim (by omega), fun c => ?_⟩) | (refine ⟨fun c => ?_, fun c => False.elim (by omega)⟩) | (refine ⟨fun c => ?_, fun c => ?_⟩) | (intro c) | fail))
  (all_goals (first | exact hq | (rw [if_pos (by omega)] at hq; exact hq) | (rw [if_neg (by omega)] at hq; exact hq) | (rw [if_neg (by omega), if_pos (by omega)] at hq; exact hq) | (rw [if_neg (by omega), if_neg (by omega)] at hq; exact hq) | (rw [if_pos (by omega), if_pos (by omega)] at hq; exact hq) | (rw [if_pos (by omega), if_neg (by omega)] at hq; exact hq) | (exfalso; omega)))
def o_plant (A : Int → Int) (q w : Int) : Int × Int := if (0 ≤ q ∧ q < A 2) ∧ 0 ≤ w ∧ w ≤ 1 then (plA A q w, 0) else (-1, 1)
set_option maxHeartbeats 4000000 in
theorem c_plant {X : Int → Int} {XL : Int} {d : Nat} {A : Int → Int} {q w : Int} (hd : 9 ≤ d) : CV X XL d 132 [vI q, vI w] A A (o_plant A q w) := by
  intro K n h Q hC hK hq
  obtain ⟨⟨k00, r7, hT⟩, hV⟩ := id hC; have kn := hV.1.1; have hA := hV.2.2
  have hq := hq h (Vr_K hV (by omega) (by omega)) Fr.refl
  unfold o_plant at hq
  have b2 := hA.2.2.1
  obtain ⟨⟨k0, -, -, -, -, -, -, -, -, -, -, ⟨k14, l14⟩, ⟨k15, l15⟩⟩, ⟨⟨g0, g5, g13, -⟩, -, -, rq⟩, -⟩ := id hV
  have rq' : 0 ≤ q ∧ q < A 2 → _ := fun h => rq q h.1 h.2
  by_cases hqq : 0 ≤ q ∧ q < A 2
  · obtain ⟨e14, e15⟩ := rq q hqq.1 hqq.2
    refine eX9_plant (by omega) ?_
    (repeat' (first | (rw [r7]) | (refine w_within (by omega) (fun c => ?_) (fun c => ?_)) | (refine w_given (by omega) k00 ?_) | (refine w_none (by omega) k00 ?_) | (refine Ex_step ?_; conv => whnf) | (refine ⟨?_, trivial⟩) | (refine (show den _ _ _ _ _ _ _ _ from ?_); conv => whnf) | (refine ⟨by (first | assumption | rfl | (exact Nat.le_of_ble_eq_true rfl) | (exact ⟨fun h01 => absurd h01 (by decide), by first | rfl | assumption⟩) | (exact ⟨fun _ => by decide, by first | rfl | assumption⟩) | (exact ⟨by assumption, by omega, by omega⟩) | (unfold inI; omega) | omega), ?_⟩; conv => whnf) | (refine ⟨fun c => False.elim (by omega), fun c => ?_⟩) | (refine ⟨fun c => ?_, fun c => False.elim (by omega)⟩) | (refine ⟨fun c => ?_, fun c => ?_⟩) | (intro c) | fail))
    all_goals (try rw [e14]); (try rw [e15])
    all_goals first | (exfalso; omega) | (rw [if_neg (by omega)] at hq; exact hq) | (subst c; rw [if_pos (by omega)] at hq; exact hq)
  · refine eX9_plant (by omega) ?_
    (repeat' (first | (rw [r7]) | (refine w_within (by omega) (fun c => ?_) (fun c => ?_)) | (refine w_given (by omega) k00 ?_) | (refine w_none (by omega) k00 ?_) | (refine Ex_step ?_; conv => whnf) | (refine ⟨?_, trivial⟩) | (refine (show den _ _ _ _ _ _ _ _ from ?_); conv => whnf) | (refine ⟨by (first | assumption | rfl | (exact Nat.le_of_ble_eq_true rfl) | (exact ⟨fun h01 => absurd h01 (by decide), by first | rfl | assumption⟩) | (exact ⟨fun _ => by decide, by first | rfl | assumption⟩) | (exact ⟨by assumption, by omega, by omega⟩) | (unfold inI; omega) | omega), ?_⟩; conv => whnf) | (refine ⟨fun c => False.elim (by omega), fun c => ?_⟩) | (refine ⟨fun c => ?_, fun c => False.elim (by omega)⟩) | (refine ⟨fun c => ?_, fun c => ?_⟩) | (intro c) | fail))
    (all_goals (first | exact hq | (rw [if_pos (by omega)] at hq; exact hq) | (rw [if_neg (by omega)] at hq; exact hq) | (rw [if_neg (by omega), if_pos (by omega)] at hq; exact hq) | (rw [if_neg (by omega), if_neg (by omega)] at hq; exact hq) | (rw [if_pos (by omega), if_pos (by omega)] at hq; exact hq) | (rw [if_pos (by omega), if_neg (by omega)] at hq; exact hq) | (exfalso; omega)))
set_option maxHeartbeats 4000000 in
theorem m_plant {X : Int → Int} {XL : Int} {d : Nat} {A : Int → Int} {q w : Int} (hd : 9 ≤ d) : CR X XL d 263 [vI q, vI w] A A (o_plant A q w) := by
  intro K h Q hR hK hq
  have hq := hq h (Rr_K hR (by omega) (by omega)) FrH.refl; have kq := hR.1.1; have hA := hR.2.2
  unfold o_plant at hq
  obtain ⟨⟨kq, r0, kt, lt⟩, eA, ⟨b0, b1, b2, b3, b4, b5, b6, b8, bK, ba, bp, bq⟩⟩ := id hR
  refine eX10_plant (by omega) ?_
  (repeat' (first | (refine r_plantRow (by omega) (by omega) ?_) | (refine r_gives (by omega) kq ?_) | (refine r_refuse (by omega) kq ?_) | (refine Ex_step ?_; conv => whnf) | (refine ⟨?_, trivial⟩) | (refine (show den _ _ _ _ _ _ _ _ from ?_); conv => whnf) | (refine ⟨by (first | assumption | rfl | (exact Nat.le_of_ble_eq_true rfl) | (exact ⟨fun h01 => absurd h01 (by decide), by first | rfl | assumption | trivial⟩) | (exact ⟨fun _ => by decide, by first | rfl | assumption | trivial⟩) | (exact ⟨kt, by omega, Int.lt_of_lt_of_le (by omega : _ < (3198 : Int)) (Int.le_of_eq lt.symm)⟩) | (unfold inI; omega) | omega), ?_⟩; conv => whnf; try simp (disch := omega) only [r0, gR_sG, g_same, g_ne, eA]) | (refine ⟨fun c => False.elim (by omega), fun c => ?_⟩) | (refine ⟨fun c => ?_, fun c => False.elim (by omega)⟩) | (refine ⟨fun c => ?_, fun c => ?_⟩) | (intro c) | fail))
  (all_goals (first | exact hq | (rw [if_pos (by omega)] at hq; exact hq) | (rw [if_neg (by omega)] at hq; exact hq) | (rw [if_neg (by omega), if_pos (by omega)] at hq; exact hq) | (rw [if_neg (by omega), if_neg (by omega)] at hq; exact hq) | (rw [if_pos (by omega), if_pos (by omega)] at hq; exact hq) | (rw [if_pos (by omega), if_neg (by omega)] at hq; exact hq) | (exfalso; omega)))
def o_stopsBoth (A : Int → Int) (p o : Int) : Int × Int := if (0 ≤ p ∧ p < A 1) ∧ (0 ≤ o ∧ o < A 1) ∧ ¬ p = o then (if stN (A 0) (okRo A p o) 0 < A 0 then (stN (A 0) (okRo A p o) 0, 0) else (-1, 6)) else (-1, 1)
set_option maxHeartbeats 4000000 in
theorem c_stopsBoth {X : Int → Int} {XL : Int} {d : Nat} {A : Int → Int} {p o : Int} (hd : 9 ≤ d) : CV X XL d 148 [vI p, vI o] A A (o_stopsBoth A p o) := by
  intro K n h Q hC hK hq
  obtain ⟨⟨k00, r7, hT⟩, hV⟩ := id hC; have kn := hV.1.1; have hA := hV.2.2
  have hq := hq h (Vr_K hV (by omega) (by omega)) Fr.refl
  unfold o_stopsBoth at hq
  have hb := stN_rng (n := A 0) (ok := okRo A p o) _ 0 rfl hA.1.1
  refine eX9_stopsBoth (by omega) ?_
  (repeat' (first | (rw [r7]) | (refine w_hasTwo (by omega) hV (fun c => ?_) (fun c => ?_)) | (refine w_stopRoped (by omega) hV (by omega) (by omega) (by omega) (by omega) (by omega) ?_) | (refine w_givenIfArch (by omega) hC (fun c => ?_) (fun c => ?_)) | (refine w_given (by omega) k00 ?_) | (refine w_none (by omega) k00 ?_) | (refine Ex_step ?_; conv => whnf) | (refine ⟨?_, trivial⟩) | (refine (show den _ _ _ _ _ _ _ _ from ?_); conv => whnf) | (refine ⟨by (first | assumption | rfl | (exact Nat.le_of_ble_eq_true rfl) | (exact ⟨fun h01 => absurd h01 (by decide), by first | rfl | assumption⟩) | (exact ⟨fun _ => by decide, by first | rfl | assumption⟩) | (exact ⟨by assumption, by omega, by omega⟩) | (unfold inI; omega) | omega), ?_⟩; conv => whnf) | (refine ⟨fun c => False.elim (by omega), fun c => ?_⟩) | (refine ⟨fun c => ?_, fun c => False.elim (by omega)⟩) | (refine ⟨fun c => ?_, fun c => ?_⟩) | (intro c) | fail))
  (all_goals (first | exact hq | (rw [if_pos (by omega)] at hq; exact hq) | (rw [if_neg (by omega)] at hq; exact hq) | (rw [if_neg (by omega), if_pos (by omega)] at hq; exact hq) | (rw [if_neg (by omega), if_neg (by omega)] at hq; exact hq) | (rw [if_pos (by omega), if_pos (by omega)] at hq; exact hq) | (rw [if_pos (by omega), if_neg (by omega)] at hq; exact hq) | (exfalso; omega)))
set_option maxHeartbeats 4000000 in
theorem m_stopsBoth {X : Int → Int} {XL : Int} {d : Nat} {A : Int → Int} {p o : Int} (hd : 9 ≤ d) : CR X XL d 293 [vI p, vI o] A A (o_stopsBoth A p o) := by
  intro K h Q hR hK hq
  have hq := hq h (Rr_K hR (by omega) (by omega)) FrH.refl; have kq := hR.1.1; have hA := hR.2.2
  unfold o_stopsBoth at hq
  have b0 := hA.1
  have hb := stN_rng (n := A 0) (ok := okRo A p o) _ 0 rfl hA.1.1
  have hn := nonN_1 (n := A 0) hb.1
  by_cases hpo : p = o
  · refine eX10_stopsBoth (by omega) ?_
    (repeat' (first | (refine r_isPerson (by omega) hR (fun c => ?_) (fun c => ?_)) | (refine r_gives (by omega) kq ?_) | (refine r_refuse (by omega) kq ?_) | (refine Ex_step ?_; conv => whnf) | (refine ⟨?_, trivial⟩) | (refine (show den _ _ _ _ _ _ _ _ from ?_); conv => whnf) | (refine ⟨by (first | assumption | rfl | (exact Nat.le_of_ble_eq_true rfl) | (exact ⟨fun h01 => absurd h01 (by decide), by first | rfl | assumption⟩) | (exact ⟨fun _ => by decide, by first | rfl | assumption⟩) | (exact ⟨by assumption, by omega, by omega⟩) | (unfold inI; omega) | omega), ?_⟩; conv => whnf) | (refine ⟨fun c => False.elim (by omega), fun c => ?_⟩) | (refine ⟨fun c => ?_, fun c => False.elim (by omega)⟩) | (refine ⟨fun c => ?_, fun c => ?_⟩) | (intro c) | fail))
    (all_goals (first | exact hq | (rw [if_pos (by omega)] at hq; exact hq) | (rw [if_neg (by omega)] at hq; exact hq) | (rw [if_neg (by omega), if_pos (by omega)] at hq; exact hq) | (rw [if_neg (by omega), if_neg (by omega)] at hq; exact hq) | (rw [if_pos (by omega), if_pos (by omega)] at hq; exact hq) | (rw [if_pos (by omega), if_neg (by omega)] at hq; exact hq) | (exfalso; omega)))
  · refine eX10_stopsBoth (by omega) ?_
    (repeat' (first | (refine r_isPerson (by omega) hR (fun c => ?_) (fun c => ?_)) | (refine r_stopOf (by omega) hR (by omega) (by omega) (by omega) (by omega) (by omega) (by omega) ?_; rw [okB_2 hpo]) | (refine r_orNone (by omega) kq (fun c => ?_) (fun c => ?_)) | (refine r_gives (by omega) kq ?_) | (refine r_refuse (by omega) kq ?_) | (refine Ex_step ?_; conv => whnf) | (refine ⟨?_, trivial⟩) | (refine (show den _ _ _ _ _ _ _ _ from ?_); conv => whnf) | (refine ⟨by (first | assumption | rfl | (exact Nat.le_of_ble_eq_true rfl) | (exact ⟨fun h01 => absurd h01 (by decide), by first | rfl | assumption⟩) | (exact ⟨fun _ => by decide, by first | rfl | assumption⟩) | (exact ⟨by assumption, by omega, by omega⟩) | (unfold inI; omega) | omega), ?_⟩; conv => whnf) | (refine ⟨fun c => False.elim (by omega), fun c => ?_⟩) | (refine ⟨fun c => ?_, fun c => False.elim (by omega)⟩) | (refine ⟨fun c => ?_, fun c => ?_⟩) | (intro c) | fail))
    all_goals first | (exfalso; omega) | (rw [if_neg (by omega)] at hq; exact hq) | (rw [if_pos (by omega), if_neg (by omega)] at hq; exact hq) | (rw [if_pos (by omega), if_pos (by omega)] at hq; rw [(hn.1 (by omega)).1]; exact hq)
def o_pays (A : Int → Int) (p : Int) : Int × Int := if 0 ≤ p ∧ p < A 1 then (tlS A (pA A p 3) (rrS A p p), 0) else (-1, 1)
set_option maxHeartbeats 4000000 in
theorem c_pays {X : Int → Int} {XL : Int} {d : Nat} {A : Int → Int} {p : Int} (hd : 9 ≤ d) : CV X XL d 149 [vI p] A A (o_pays A p) := by
  intro K n h Q hC hK hq
  obtain ⟨⟨k00, r7, hT⟩, hV⟩ := id hC; have kn := hV.1.1; have hA := hV.2.2
  have hq := hq h (Vr_K hV (by omega) (by omega)) Fr.refl
  unfold o_pays at hq
  by_cases hp : 0 ≤ p ∧ p < A 1
  · have hb := rrS_b hA (o := p) hp.1 hp.2
    have hp3 := bp_of hA hp.1 hp.2
    have b1 := hA.2.1
    rw [rrS_1] at hq hb
    obtain ⟨⟨k0, -, -, -, -, ⟨k7, l7⟩, ⟨k8, l8⟩, ⟨k9, l9⟩, ⟨k10, l10⟩, ⟨k11, l11⟩, ⟨k12, l12⟩, -⟩, ⟨-, -, rp, -⟩, -⟩ := id hV
    obtain ⟨e7, e8, e9, e10, e11, e12⟩ := rp p hp.1 hp.2
    refine eX9_pays (by omega) ?_
    (repeat' (first | (rw [r7]) | (refine w_hasPerson (by omega) hV (fun c => ?_) (fun c => ?_)) | (rw [e10]) | (refine w_stopAlone (by omega) hV (by omega) (by omega) ?_) | (refine w_tollsBetween (by omega) hV (by omega) (by omega) ?_) | (refine w_given (by omega) k00 ?_) | (refine w_none (by omega) k00 ?_) | (refine Ex_step ?_; conv => whnf) | (refine ⟨?_, trivial⟩) | (refine (show den _ _ _ _ _ _ _ _ from ?_); conv => whnf) | (refine ⟨by (first | assumption | rfl | (exact Nat.le_of_ble_eq_true rfl) | (exact ⟨fun h01 => absurd h01 (by decide), by first | rfl | assumption⟩) | (exact ⟨fun _ => by decide, by first | rfl | assumption⟩) | (exact ⟨by assumption, by omega, by omega⟩) | (unfold inI; omega) | omega), ?_⟩; conv => whnf) | (refine ⟨fun c => False.elim (by omega), fun c => ?_⟩) | (refine ⟨fun c => ?_, fun c => False.elim (by omega)⟩) | (refine ⟨fun c => ?_, fun c => ?_⟩) | (intro c) | fail))
    (all_goals (first | exact hq | (rw [if_pos (by omega)] at hq; exact hq) | (rw [if_neg (by omega)] at hq; exact hq) | (rw [if_neg (by omega), if_pos (by omega)] at hq; exact hq) | (rw [if_neg (by omega), if_neg (by omega)] at hq; exact hq) | (rw [if_pos (by omega), if_pos (by omega)] at hq; exact hq) | (rw [if_pos (by omega), if_neg (by omega)] at hq; exact hq) | (exfalso; omega)))
  · refine eX9_pays (by omega) ?_
    (repeat' (first | (rw [r7]) | (refine w_hasPerson (by omega) hV (fun c => ?_) (fun c => ?_)) | (refine w_given (by omega) k00 ?_) | (refine w_none (by omega) k00 ?_) | (refine Ex_step ?_; conv => whnf) | (refine ⟨?_, trivial⟩) | (refine (show den _ _ _ _ _ _ _ _ from ?_); conv => whnf) | (refine ⟨by (first | assumption | rfl | (exact Nat.le_of_ble_eq_true rfl) | (exact ⟨fun h01 => absurd h01 (by decide), by first | rfl | assumption⟩) | (exact ⟨fun _ => by decide, by first | rfl | assumption⟩) | (exact ⟨by assumption, by omega, by omega⟩) | (unfold inI; omega) | omega), ?_⟩; conv => whnf) | (refine ⟨fun c => False.elim (by omega), fun c => ?_⟩) | (refine ⟨fun c => ?_, fun c => False.elim (by omega)⟩) | (refine ⟨fun c => ?_, fun c => ?_⟩) | (intro c) | fail))
    (all_goals (first | exact hq | (rw [if_pos (by omega)] at hq; exact hq) | (rw [if_neg (by omega)] at hq; exact hq) | (rw [if_neg (by omega), if_pos (by omega)] at hq; exact hq) | (rw [if_neg (by omega), if_neg (by omega)] at hq; exact hq) | (rw [if_pos (by omega), if_pos (by omega)] at hq; exact hq) | (rw [if_pos (by omega), if_neg (by omega)] at hq; exact hq) | (exfalso; omega)))
theorem tlS_b {K : Int} {A : Int → Int} (hA : AOk K A) {fr to : Int} (h0 : 0 ≤ fr) (h1 : to ≤ A 0) : ∀ (k : Nat) (a s : Int), (to - a).toNat = k → fr ≤ a → 0 ≤ s → s ≤ 9 * a → 0 ≤ foN to (fun a s => s + toA A a) a s ∧ (a ≤ to → foN to (fun a s => s + toA A a) a s ≤ 9 * to) ∧ (to < a → foN to (fun a s => s + toA A a) a s = s) := by
  intro k; induction k with
  | zero => intro a s hk ha hs0 hs1; rw [foN_end (by omega)]; omega
  | succ k ih =>
    intro a s hk ha hs0 hs1
    rw [foN_go (by omega)]
    have hb := hA.2.2.2.2.2.2.2.2.2.1 a (by omega) (by omega)
    have := ih (a + 1) (s + toA A a) (by omega) (by omega) (by omega) (by omega)
    omega
set_option maxHeartbeats 4000000 in
theorem m_pays {X : Int → Int} {XL : Int} {d : Nat} {A : Int → Int} {p : Int} (hd : 9 ≤ d) : CR X XL d 294 [vI p] A A (o_pays A p) := by
  intro K h Q hR hK hq
  have hq := hq h (Rr_K hR (by omega) (by omega)) FrH.refl; have kq := hR.1.1; have hA := hR.2.2
  unfold o_pays at hq
  obtain ⟨⟨kq, r0, kt, lt⟩, eA, ⟨b0, b1, b2, b3, b4, b5, b6, b8, bK, ba, bp, bq⟩⟩ := id hR
  by_cases hp : 0 ≤ p ∧ p < A 1
  · obtain ⟨hp0, hp1⟩ := hp
    have hp3 := bp_of hA hp0 hp1
    rw [if_pos ⟨hp0, hp1⟩] at hq
    have loop : ∀ (k : Nat) (a : Int), (A 0 - a).toNat = k → pA A p 3 ≤ a → a ≤ A 0 → rrS A p p = stN (A 0) (okB A p p) a → Ex (WP X XL (d - 1)) KX10_pays h.1 Q 23 [some (vR 127), some (vI p), some (vI (tlS A (pA A p 3) a)), some (vI a)] [] h := by
      intro k; induction k with
      | zero =>
        intro a hk ha0 ha1 he
        rw [stN_end (Or.inl (by omega))] at he
        rw [he] at hq
        (repeat' (first | (refine r_gives (by omega) kq ?_) | (refine r_refuse (by omega) kq ?_) | (refine Ex_step ?_; conv => whnf) | (refine ⟨?_, trivial⟩) | (refine (show den _ _ _ _ _ _ _ _ from ?_); conv => whnf) | (refine ⟨by (first | assumption | rfl | (exact Nat.le_of_ble_eq_true rfl) | (exact ⟨fun h01 => absurd h01 (by decide), by first | rfl | assumption | trivial⟩) | (exact ⟨fun _ => by decide, by first | rfl | assumption | trivial⟩) | (exact ⟨kt, by omega, Int.lt_of_lt_of_le (by omega : _ < (3198 : Int)) (Int.le_of_eq lt.symm)⟩) | (unfold inI; omega) | omega), ?_⟩; conv => whnf; try simp (disch := omega) only [r0, gR_sG, g_same, g_ne, eA]) | (refine ⟨fun c => False.elim (by omega), fun c => ?_⟩) | (refine ⟨fun c => ?_, fun c => False.elim (by omega)⟩) | (refine ⟨fun c => ?_, fun c => ?_⟩) | (intro c) | fail))
        exact hq
      | succ k ih =>
        intro a hk ha0 ha1 he
        have ha2 : a < A 0 := by omega
        have hb := hA.2.2.2.2.2.2.2.2.2.1 a (by omega) ha2
        have ht := tlS_b hA (fr := 0) (to := a) (by omega) (by omega) _ (pA A p 3) 0 rfl (by omega) (by omega) (by omega)
        by_cases hok : okB A p p a = true
        · rw [stN_go ha2 hok] at he
          have ih2 := ih (a + 1) (by omega) (by omega) (by omega) he
          unfold tlS at *
          rw [foN_snoc _ _ _ rfl ha0] at ih2
          refine Ex_step ?_; conv => whnf
          (repeat' (first | (exact ih2) | (refine r_bears (by omega) hR hp0 hp1 hp0 hp1 (by omega) (by omega) (fun c => ?_) (fun c => absurd (c.symm.trans hok) Bool.false_ne_true)) | (refine r_to (by omega) hR (by omega) ?_) | (refine Ex_step ?_; conv => whnf) | (refine ⟨?_, trivial⟩) | (refine (show den _ _ _ _ _ _ _ _ from ?_); conv => whnf) | (refine ⟨by (first | assumption | rfl | (exact Nat.le_of_ble_eq_true rfl) | (exact ⟨fun h01 => absurd h01 (by decide), by first | rfl | assumption | trivial⟩) | (exact ⟨fun _ => by decide, by first | rfl | assumption | trivial⟩) | (exact ⟨kt, by omega, Int.lt_of_lt_of_le (by omega : _ < (3198 : Int)) (Int.le_of_eq lt.symm)⟩) | (unfold inI; omega) | omega), ?_⟩; conv => whnf; try simp (disch := omega) only [r0, gR_sG, g_same, g_ne, eA]) | (refine ⟨fun c => False.elim (by omega), fun c => ?_⟩) | (refine ⟨fun c => ?_, fun c => False.elim (by omega)⟩) | (refine ⟨fun c => ?_, fun c => ?_⟩) | (intro c) | fail))
        · rw [stN_end (Or.inr (by simpa using hok))] at he
          rw [he] at hq
          (repeat' (first | (refine r_bears (by omega) hR hp0 hp1 hp0 hp1 (by omega) (by omega) (fun c => absurd c hok) (fun c => ?_)) | (refine r_gives (by omega) kq ?_) | (refine r_refuse (by omega) kq ?_) | (refine Ex_step ?_; conv => whnf) | (refine ⟨?_, trivial⟩) | (refine (show den _ _ _ _ _ _ _ _ from ?_); conv => whnf) | (refine ⟨by (first | assumption | rfl | (exact Nat.le_of_ble_eq_true rfl) | (exact ⟨fun h01 => absurd h01 (by decide), by first | rfl | assumption | trivial⟩) | (exact ⟨fun _ => by decide, by first | rfl | assumption | trivial⟩) | (exact ⟨kt, by omega, Int.lt_of_lt_of_le (by omega : _ < (3198 : Int)) (Int.le_of_eq lt.symm)⟩) | (unfold inI; omega) | omega), ?_⟩; conv => whnf; try simp (disch := omega) only [r0, gR_sG, g_same, g_ne, eA]) | (refine ⟨fun c => False.elim (by omega), fun c => ?_⟩) | (refine ⟨fun c => ?_, fun c => False.elim (by omega)⟩) | (refine ⟨fun c => ?_, fun c => ?_⟩) | (intro c) | fail))
          exact hq
    have h0 : tlS A (pA A p 3) (pA A p 3) = 0 := foN_end (by omega)
    have loop0 := loop _ (pA A p 3) rfl (by omega) (by omega) rfl
    rw [h0] at loop0
    refine eX10_pays (by omega) ?_
    (repeat' (first | (refine r_isPerson (by omega) hR (fun c => ?_) (fun c => ?_)) | (exact loop0) | (refine r_personOf (by omega) hR (by omega) (by omega) ?_) | (refine r_gives (by omega) kq ?_) | (refine r_refuse (by omega) kq ?_) | (refine Ex_step ?_; conv => whnf) | (refine ⟨?_, trivial⟩) | (refine (show den _ _ _ _ _ _ _ _ from ?_); conv => whnf) | (refine ⟨by (first | assumption | rfl | (exact Nat.le_of_ble_eq_true rfl) | (exact ⟨fun h01 => absurd h01 (by decide), by first | rfl | assumption | trivial⟩) | (exact ⟨fun _ => by decide, by first | rfl | assumption | trivial⟩) | (exact ⟨kt, by omega, Int.lt_of_lt_of_le (by omega : _ < (3198 : Int)) (Int.le_of_eq lt.symm)⟩) | (unfold inI; omega) | omega), ?_⟩; conv => whnf; try simp (disch := omega) only [r0, gR_sG, g_same, g_ne, eA]) | (refine ⟨fun c => False.elim (by omega), fun c => ?_⟩) | (refine ⟨fun c => ?_, fun c => False.elim (by omega)⟩) | (refine ⟨fun c => ?_, fun c => ?_⟩) | (intro c) | fail))
    all_goals (exfalso; omega)
  · refine eX10_pays (by omega) ?_
    (repeat' (first | (refine r_isPerson (by omega) hR (fun c => ?_) (fun c => ?_)) | (refine r_gives (by omega) kq ?_) | (refine r_refuse (by omega) kq ?_) | (refine Ex_step ?_; conv => whnf) | (refine ⟨?_, trivial⟩) | (refine (show den _ _ _ _ _ _ _ _ from ?_); conv => whnf) | (refine ⟨by (first | assumption | rfl | (exact Nat.le_of_ble_eq_true rfl) | (exact ⟨fun h01 => absurd h01 (by decide), by first | rfl | assumption⟩) | (exact ⟨fun _ => by decide, by first | rfl | assumption⟩) | (exact ⟨by assumption, by omega, by omega⟩) | (unfold inI; omega) | omega), ?_⟩; conv => whnf) | (refine ⟨fun c => False.elim (by omega), fun c => ?_⟩) | (refine ⟨fun c => ?_, fun c => False.elim (by omega)⟩) | (refine ⟨fun c => ?_, fun c => ?_⟩) | (intro c) | fail))
    (all_goals (first | exact hq | (rw [if_pos (by omega)] at hq; exact hq) | (rw [if_neg (by omega)] at hq; exact hq) | (rw [if_neg (by omega), if_pos (by omega)] at hq; exact hq) | (rw [if_neg (by omega), if_neg (by omega)] at hq; exact hq) | (rw [if_pos (by omega), if_pos (by omega)] at hq; exact hq) | (rw [if_pos (by omega), if_neg (by omega)] at hq; exact hq) | (exfalso; omega)))
