/-! LEVEL 2: calls that do something: teach, come, build, sow, rule -/
def tchA (A : Int → Int) (p w m : Int) : Int → Int := pu A (37 + 6 * p + w) m
theorem tch_ok {K : Int} {A : Int → Int} {p w m : Int} (hA : AOk K A) (hp0 : 0 ≤ p) (hp1 : p < A 1) (hw : 0 ≤ w ∧ w ≤ 2) (h0 : w = 0 → 1 ≤ m ∧ m ≤ 40) (h1 : ¬ w = 0 → 0 ≤ m ∧ m ≤ 9) : AOk K (tchA A p w m) := by
  obtain ⟨b0, b1, b2, b3, b4, b5, b6, b8, bK, ba, bp, bq⟩ := id hA
  rcases (show w = 0 ∨ w = 1 ∨ w = 2 by omega) with rfl | rfl | rfl <;> (refine ⟨?_, ?_, ?_, ?_, ?_, ?_, ?_, ?_, ?_, fun x hx0 hx1 => ⟨?_, ?_, ?_⟩, fun x hx0 hx1 => ⟨?_, ?_, ?_, ?_, ?_, ?_⟩, fun x hx0 hx1 => ⟨?_, ?_⟩⟩ <;> simp only [Nat.reduceEqDiff, Nat.add_eq_left, Nat.left_eq_add, Nat.add_left_cancel_iff, Nat.succ_ne_self, Nat.reduceEqDiff, Nat.succ_ne_zero, Int.reduceEq, false_and, and_false, true_and, and_true, if_true, if_false, reduceIte, Int.add_zero, not_true_eq_false, not_false_eq_true, tchA, pu, hoA, moA, toA, pA, plA] at * <;> first | omega | (rcases Int.lt_or_le x (A 0) with hxx | hxx); (have := ba x hx0 hxx; omega); omega | (rcases Int.lt_or_le x (A 1) with hxx | hxx); (have := bp x hx0 hxx; omega); omega | (rcases Int.lt_or_le x (A 2) with hxx | hxx); (have := bq x hx0 hxx; omega); omega)
set_option maxHeartbeats 4000000 in
theorem tch_v {X : Int → Int} {XL : Int} {d : Nat} {h : Mem} {Q : RetP} {K : Int} {A : Int → Int} {v : Nat} {p w m : Int} {r : Nat} (hV : Vr K h v A) (hT : VAt h v) (hp0 : 0 ≤ p) (hp1 : p < A 1) (hw : (w = 0 ∧ r = v + 5) ∨ (w = 1 ∧ r = v + 6) ∨ (w = 2 ∧ r = v + 7)) (h0 : w = 0 → 1 ≤ m ∧ m ≤ 40) (h1 : ¬ w = 0 → 0 ≤ m ∧ m ≤ 9) : Vr K (sG h r p m) v (tchA A p w m) ∧ Fr (VP v) h (sG h r p m) := by
  have fr : Fr (VP v) h (sG h r p m) := Fr.refl.sG (by unfold VP; omega)
  refine ⟨⟨VOk_fr fr hV.1, ?_, tch_ok hV.2.2 hp0 hp1 (by omega) h0 h1⟩, fr⟩
  obtain ⟨⟨k0, ⟨k1, l1⟩, ⟨k2, l2⟩, ⟨k3, l3⟩, ⟨k6, l6⟩, ⟨k7, l7⟩, ⟨k8, l8⟩, ⟨k9, l9⟩, ⟨k10, l10⟩, ⟨k11, l11⟩, ⟨k12, l12⟩, ⟨k14, l14⟩, ⟨k15, l15⟩⟩, ⟨⟨g0, g5, g13, g16, g17, g18, g19, g4⟩, ra, rp, rq⟩, ⟨b0, b1, b2, b3, b4, b5, b6, b8, bK, ba, bp, bq⟩⟩ := id hV
  obtain ⟨t1, t2, t3, t6, t7, t8, t9, t10, t11, t12, t14, t15⟩ := id hT; rw [t1] at k1 l1; rw [t2] at k2 l2; rw [t3] at k3 l3; rw [t6] at k6 l6; rw [t7] at k7 l7; rw [t8] at k8 l8; rw [t9] at k9 l9; rw [t10] at k10 l10; rw [t11] at k11 l11; rw [t12] at k12 l12; rw [t14] at k14 l14; rw [t15] at k15 l15; simp only [t1, t2, t3] at ra; simp only [t7, t8, t9, t10, t11, t12] at rp; simp only [t14, t15] at rq
  rcases hw with ⟨rfl, rfl⟩ | ⟨rfl, rfl⟩ | ⟨rfl, rfl⟩ <;> (refine ⟨⟨?_, ?_, ?_, ?_, ?_, ?_, ?_, ?_⟩, fun x hx0 hx1 => ⟨?_, ?_, ?_⟩, fun x hx0 hx1 => ⟨?_, ?_, ?_, ?_, ?_, ?_⟩, fun x hx0 hx1 => ⟨?_, ?_⟩⟩ <;> simp only [gG_sG, gR_sG, kd_sG, ln_sG, ixOk, inI, t1, t2, t3, t6, t7, t8, t9, t10, t11, t12, t14, t15, Nat.reduceEqDiff, Nat.add_eq_left, Nat.left_eq_add, Nat.add_left_cancel_iff, Nat.succ_ne_self, Nat.reduceEqDiff, Nat.succ_ne_zero, Int.reduceEq, false_and, and_false, true_and, and_true, if_true, if_false, reduceIte, Int.add_zero, not_true_eq_false, not_false_eq_true, tchA, pu, hoA, moA, toA, pA, plA, g0, g5, g13, g16, g17, g18, g19, g4] at * <;> first | omega | (rcases Int.lt_or_le x (A 0) with hxx | hxx); (have := ra x hx0 hxx; omega); omega | (rcases Int.lt_or_le x (A 1) with hxx | hxx); (have := rp x hx0 hxx; omega); omega | (rcases Int.lt_or_le x (A 2) with hxx | hxx); (have := rq x hx0 hxx; omega); omega)
set_option maxHeartbeats 4000000 in
theorem w_put {X : Int → Int} {XL : Int} {d : Nat} {h : Mem} {Q : RetP} {r : Nat} {p m lo hi : Int} (hd : 2 ≤ d) (k0 : kd h 0 = 9) (kr : kd h r = 100) (hp : 0 ≤ p) (hp1 : p < ln h r) (hq1 : lo ≤ m ∧ m ≤ hi → Q (some (vI 1)) (sG (sG h r p m) 0 0 0)) (hq0 : ¬ (lo ≤ m ∧ m ≤ hi) → Q (some (vI 0)) (sG h 0 0 1)) : WP X XL d 180 [vR 0, vR r, vI p, vI m, vI lo, vI hi] h Q := by
  refine eX9_put (by omega) ?_
  (repeat' (first | (refine w_within (by omega) (fun c => ?_) (fun c => ?_)) | (refine w_not (by omega) k0 ?_) | (refine w_yes (by omega) k0 ?_) | (refine Ex_step ?_; conv => whnf) | (refine ⟨?_, trivial⟩) | (refine (show den _ _ _ _ _ _ _ _ from ?_); conv => whnf) | (refine ⟨by (first | assumption | rfl | (exact Nat.le_of_ble_eq_true rfl) | (exact ⟨fun h01 => absurd h01 (by decide), by first | rfl | assumption⟩) | (exact ⟨fun _ => by decide, by first | rfl | assumption⟩) | (exact ⟨by assumption, by omega, by omega⟩) | (unfold inI; omega) | omega), ?_⟩; conv => whnf) | (refine ⟨fun c => False.elim (by omega), fun c => ?_⟩) | (refine ⟨fun c => ?_, fun c => False.elim (by omega)⟩) | (refine ⟨fun c => ?_, fun c => ?_⟩) | (intro c) | fail))
  · exact hq1 (by assumption)
  · exact hq0 (by assumption)
def okT (A : Int → Int) (p w m : Int) : Prop := (0 ≤ p ∧ p < A 1) ∧ (0 ≤ w ∧ w ≤ 2) ∧ (w = 0 → 1 ≤ m ∧ m ≤ 40) ∧ (¬ w = 0 → 0 ≤ m ∧ m ≤ 9)
set_option maxHeartbeats 4000000 in
theorem c_teachY {X : Int → Int} {XL : Int} {d : Nat} {A : Int → Int} {p w m : Int} (hd : 9 ≤ d) (ht : okT A p w m) : CV X XL d 138 [vI p, vI w, vI m] A (tchA A p w m) (1, 0) := by
  intro K n h Q hC hK hq
  obtain ⟨⟨k00, r7, hT⟩, hV⟩ := id hC; have kn := hV.1.1; have hA := hV.2.2
  obtain ⟨hp, hw, h0, h1⟩ := ht
  obtain ⟨⟨kv, -, -, -, -, ⟨k7, l7⟩, ⟨k8, l8⟩, ⟨k9, l9⟩, -⟩, -⟩ := id hV
  have b1 := hA.2.1
  refine eX9_teach (by omega) ?_
  obtain ⟨-, -, -, -, t7, t8, t9, -⟩ := id hT
  rcases (show w = 0 ∨ w = 1 ∨ w = 2 by omega) with rfl | rfl | rfl
  · have hm := h0 rfl
    (repeat' (first | (rw [r7]) | (refine w_hasPerson (by omega) hV (fun c => ?_) (fun c => ?_)) | (refine w_put (by omega) k00 k7 (by omega) (by omega) (fun c => ?_) (fun c => absurd hm c)) | (refine Ex_step ?_; conv => whnf) | (refine ⟨?_, trivial⟩) | (refine (show den _ _ _ _ _ _ _ _ from ?_); conv => whnf) | (refine ⟨by (first | assumption | rfl | (exact Nat.le_of_ble_eq_true rfl) | (exact ⟨fun h01 => absurd h01 (by decide), by first | rfl | assumption⟩) | (exact ⟨fun _ => by decide, by first | rfl | assumption⟩) | (exact ⟨by assumption, by omega, by omega⟩) | (unfold inI; omega) | omega), ?_⟩; conv => whnf) | (refine ⟨fun c => False.elim (by omega), fun c => ?_⟩) | (refine ⟨fun c => ?_, fun c => False.elim (by omega)⟩) | (refine ⟨fun c => ?_, fun c => ?_⟩) | (intro c) | fail))
    have q := tch_v (m := m) hV hT hp.1 hp.2 (w := 0) (r := gR h n 7) (by omega) h0 h1
    exact hq _ (Vr_K q.1 (by omega) (by omega)) q.2
  · have hm := h1 (by omega)
    (repeat' (first | (rw [r7]) | (refine w_hasPerson (by omega) hV (fun c => ?_) (fun c => ?_)) | (refine w_put (by omega) k00 k8 (by omega) (by omega) (fun c => ?_) (fun c => absurd hm c)) | (refine Ex_step ?_; conv => whnf) | (refine ⟨?_, trivial⟩) | (refine (show den _ _ _ _ _ _ _ _ from ?_); conv => whnf) | (refine ⟨by (first | assumption | rfl | (exact Nat.le_of_ble_eq_true rfl) | (exact ⟨fun h01 => absurd h01 (by decide), by first | rfl | assumption⟩) | (exact ⟨fun _ => by decide, by first | rfl | assumption⟩) | (exact ⟨by assumption, by omega, by omega⟩) | (unfold inI; omega) | omega), ?_⟩; conv => whnf) | (refine ⟨fun c => False.elim (by omega), fun c => ?_⟩) | (refine ⟨fun c => ?_, fun c => False.elim (by omega)⟩) | (refine ⟨fun c => ?_, fun c => ?_⟩) | (intro c) | fail))
    have q := tch_v (m := m) hV hT hp.1 hp.2 (w := 1) (r := gR h n 8) (by omega) h0 h1
    exact hq _ (Vr_K q.1 (by omega) (by omega)) q.2
  · have hm := h1 (by omega)
    (repeat' (first | (rw [r7]) | (refine w_hasPerson (by omega) hV (fun c => ?_) (fun c => ?_)) | (refine w_put (by omega) k00 k9 (by omega) (by omega) (fun c => ?_) (fun c => absurd hm c)) | (refine Ex_step ?_; conv => whnf) | (refine ⟨?_, trivial⟩) | (refine (show den _ _ _ _ _ _ _ _ from ?_); conv => whnf) | (refine ⟨by (first | assumption | rfl | (exact Nat.le_of_ble_eq_true rfl) | (exact ⟨fun h01 => absurd h01 (by decide), by first | rfl | assumption⟩) | (exact ⟨fun _ => by decide, by first | rfl | assumption⟩) | (exact ⟨by assumption, by omega, by omega⟩) | (unfold inI; omega) | omega), ?_⟩; conv => whnf) | (refine ⟨fun c => False.elim (by omega), fun c => ?_⟩) | (refine ⟨fun c => ?_, fun c => False.elim (by omega)⟩) | (refine ⟨fun c => ?_, fun c => ?_⟩) | (intro c) | fail))
    have q := tch_v (m := m) hV hT hp.1 hp.2 (w := 2) (r := gR h n 9) (by omega) h0 h1
    exact hq _ (Vr_K q.1 (by omega) (by omega)) q.2
set_option maxHeartbeats 4000000 in
theorem c_teachN {X : Int → Int} {XL : Int} {d : Nat} {A : Int → Int} {p w m : Int} (hd : 9 ≤ d) (ht : ¬ okT A p w m) : CV X XL d 138 [vI p, vI w, vI m] A A (0, 1) := by
  intro K n h Q hC hK hq
  obtain ⟨⟨k00, r7, hT⟩, hV⟩ := id hC; have kn := hV.1.1; have hA := hV.2.2
  have hq := hq h (Vr_K hV (by omega) (by omega)) Fr.refl
  obtain ⟨⟨kv, -, -, -, -, ⟨k7, l7⟩, ⟨k8, l8⟩, ⟨k9, l9⟩, -⟩, -⟩ := id hV
  have b1 := hA.2.1
  unfold okT at ht
  refine eX9_teach (by omega) ?_
  by_cases hp : 0 ≤ p ∧ p < A 1
  · by_cases hw0 : w = 0
    · subst hw0
      (repeat' (first | (rw [r7]) | (refine w_hasPerson (by omega) hV (fun c => ?_) (fun c => ?_)) | (refine w_put (by omega) k00 k7 (by omega) (by omega) (fun c => absurd ⟨hp, by omega, fun _ => c, by omega⟩ ht) (fun c => ?_)) | (refine Ex_step ?_; conv => whnf) | (refine ⟨?_, trivial⟩) | (refine (show den _ _ _ _ _ _ _ _ from ?_); conv => whnf) | (refine ⟨by (first | assumption | rfl | (exact Nat.le_of_ble_eq_true rfl) | (exact ⟨fun h01 => absurd h01 (by decide), by first | rfl | assumption⟩) | (exact ⟨fun _ => by decide, by first | rfl | assumption⟩) | (exact ⟨by assumption, by omega, by omega⟩) | (unfold inI; omega) | omega), ?_⟩; conv => whnf) | (refine ⟨fun c => False.elim (by omega), fun c => ?_⟩) | (refine ⟨fun c => ?_, fun c => False.elim (by omega)⟩) | (refine ⟨fun c => ?_, fun c => ?_⟩) | (intro c) | fail))
      exact hq
    · by_cases hw1 : w = 1
      · subst hw1
        (repeat' (first | (rw [r7]) | (refine w_hasPerson (by omega) hV (fun c => ?_) (fun c => ?_)) | (refine w_put (by omega) k00 k8 (by omega) (by omega) (fun c => absurd ⟨hp, by omega, by omega, fun _ => c⟩ ht) (fun c => ?_)) | (refine Ex_step ?_; conv => whnf) | (refine ⟨?_, trivial⟩) | (refine (show den _ _ _ _ _ _ _ _ from ?_); conv => whnf) | (refine ⟨by (first | assumption | rfl | (exact Nat.le_of_ble_eq_true rfl) | (exact ⟨fun h01 => absurd h01 (by decide), by first | rfl | assumption⟩) | (exact ⟨fun _ => by decide, by first | rfl | assumption⟩) | (exact ⟨by assumption, by omega, by omega⟩) | (unfold inI; omega) | omega), ?_⟩; conv => whnf) | (refine ⟨fun c => False.elim (by omega), fun c => ?_⟩) | (refine ⟨fun c => ?_, fun c => False.elim (by omega)⟩) | (refine ⟨fun c => ?_, fun c => ?_⟩) | (intro c) | fail))
        exact hq
      · by_cases hw2 : w = 2
        · subst hw2
          (repeat' (first | (rw [r7]) | (refine w_hasPerson (by omega) hV (fun c => ?_) (fun c => ?_)) | (refine w_put (by omega) k00 k9 (by omega) (by omega) (fun c => absurd ⟨hp, by omega, by omega, fun _ => c⟩ ht) (fun c => ?_)) | (refine Ex_step ?_; conv => whnf) | (refine ⟨?_, trivial⟩) | (refine (show den _ _ _ _ _ _ _ _ from ?_); conv => whnf) | (refine ⟨by (first | assumption | rfl | (exact Nat.le_of_ble_eq_true rfl) | (exact ⟨fun h01 => absurd h01 (by decide), by first | rfl | assumption⟩) | (exact ⟨fun _ => by decide, by first | rfl | assumption⟩) | (exact ⟨by assumption, by omega, by omega⟩) | (unfold inI; omega) | omega), ?_⟩; conv => whnf) | (refine ⟨fun c => False.elim (by omega), fun c => ?_⟩) | (refine ⟨fun c => ?_, fun c => False.elim (by omega)⟩) | (refine ⟨fun c => ?_, fun c => ?_⟩) | (intro c) | fail))
          exact hq
        · (repeat' (first | (rw [r7]) | (refine w_hasPerson (by omega) hV (fun c => ?_) (fun c => ?_)) | (refine w_not (by omega) k00 ?_) | (refine Ex_step ?_; conv => whnf) | (refine ⟨?_, trivial⟩) | (refine (show den _ _ _ _ _ _ _ _ from ?_); conv => whnf) | (refine ⟨by (first | assumption | rfl | (exact Nat.le_of_ble_eq_true rfl) | (exact ⟨fun h01 => absurd h01 (by decide), by first | rfl | assumption⟩) | (exact ⟨fun _ => by decide, by first | rfl | assumption⟩) | (exact ⟨by assumption, by omega, by omega⟩) | (unfold inI; omega) | omega), ?_⟩; conv => whnf) | (refine ⟨fun c => False.elim (by omega), fun c => ?_⟩) | (refine ⟨fun c => ?_, fun c => False.elim (by omega)⟩) | (refine ⟨fun c => ?_, fun c => ?_⟩) | (intro c) | fail))
          exact hq
  · (repeat' (first | (rw [r7]) | (refine w_hasPerson (by omega) hV (fun c => ?_) (fun c => ?_)) | (refine w_not (by omega) k00 ?_) | (refine Ex_step ?_; conv => whnf) | (refine ⟨?_, trivial⟩) | (refine (show den _ _ _ _ _ _ _ _ from ?_); conv => whnf) | (refine ⟨by (first | assumption | rfl | (exact Nat.le_of_ble_eq_true rfl) | (exact ⟨fun h01 => absurd h01 (by decide), by first | rfl | assumption⟩) | (exact ⟨fun _ => by decide, by first | rfl | assumption⟩) | (exact ⟨by assumption, by omega, by omega⟩) | (unfold inI; omega) | omega), ?_⟩; conv => whnf) | (refine ⟨fun c => False.elim (by omega), fun c => ?_⟩) | (refine ⟨fun c => ?_, fun c => False.elim (by omega)⟩) | (refine ⟨fun c => ?_, fun c => ?_⟩) | (intro c) | fail))
    exact hq
set_option maxHeartbeats 4000000 in
theorem m_teachY {X : Int → Int} {XL : Int} {d : Nat} {A : Int → Int} {p w m : Int} (hd : 9 ≤ d) (ht : okT A p w m) : CR X XL d 278 [vI p, vI w, vI m] A (tchA A p w m) (1, 0) := by
  intro K h Q hR hK hq; have kq := hR.1.1; have hA := hR.2.2
  obtain ⟨hp, hw, h0, h1⟩ := ht
  have b1 := hA.2.1
  obtain ⟨⟨-, r0, kt, lt⟩, eA, -⟩ := id hR
  have hR1 : Rr K (sG h 128 (37 + 6 * p + w) m) (tchA A p w m) := hR.z.put.ok rfl (tch_ok hA hp.1 hp.2 hw h0 h1)
  refine eX10_teach (by omega) ?_
  (repeat' (first | (refine r_isPerson (by omega) hR (fun c => ?_) (fun c => ?_)) | (refine r_isFrom (by omega) (fun c => ?_) (fun c => absurd (by omega) c)) | (refine r_personRow (by omega) (by omega) ?_) | (refine r_is (by omega) kq (fun _ => ?_) (fun c => absurd rfl c)) | (refine Ex_step ?_; conv => whnf) | (refine ⟨?_, trivial⟩) | (refine (show den _ _ _ _ _ _ _ _ from ?_); conv => whnf) | (refine ⟨by (first | assumption | rfl | (exact Nat.le_of_ble_eq_true rfl) | (exact ⟨fun h01 => absurd h01 (by decide), by first | rfl | assumption | trivial⟩) | (exact ⟨fun _ => by decide, by first | rfl | assumption | trivial⟩) | (exact ⟨kt, by omega, Int.lt_of_lt_of_le (by omega : _ < (3198 : Int)) (Int.le_of_eq lt.symm)⟩) | (unfold inI; omega) | omega), ?_⟩; conv => whnf; try simp (disch := omega) only [r0, gR_sG, g_same, g_ne, eA]) | (refine ⟨fun c => False.elim (by omega), fun c => ?_⟩) | (refine ⟨fun c => ?_, fun c => False.elim (by omega)⟩) | (refine ⟨fun c => ?_, fun c => ?_⟩) | (intro c) | fail))
  all_goals exact hq _ (Rr_K hR1 (by omega) (by omega)) (FrA.refl.sG (by omega)).H
set_option maxHeartbeats 4000000 in
theorem m_teachN {X : Int → Int} {XL : Int} {d : Nat} {A : Int → Int} {p w m : Int} (hd : 9 ≤ d) (ht : ¬ okT A p w m) : CR X XL d 278 [vI p, vI w, vI m] A A (0, 1) := by
  intro K h Q hR hK hq; have kq := hR.1.1; have hA := hR.2.2
  have b1 := hA.2.1
  unfold okT at ht
  refine eX10_teach (by omega) ?_
  (repeat' (first | (refine r_isPerson (by omega) hR (fun c => ?_) (fun c => ?_)) | (refine r_isFrom (by omega) (fun c => absurd ⟨by omega, by omega, by omega, by omega⟩ ht) (fun c => ?_)) | (refine r_is (by omega) kq (fun c => absurd c (by omega)) (fun c => ?_)) | (refine Ex_step ?_; conv => whnf) | (refine ⟨?_, trivial⟩) | (refine (show den _ _ _ _ _ _ _ _ from ?_); conv => whnf) | (refine ⟨by (first | assumption | rfl | (exact Nat.le_of_ble_eq_true rfl) | (exact ⟨fun h01 => absurd h01 (by decide), by first | rfl | assumption⟩) | (exact ⟨fun _ => by decide, by first | rfl | assumption⟩) | (exact ⟨by assumption, by omega, by omega⟩) | (unfold inI; omega) | omega), ?_⟩; conv => whnf) | (refine ⟨fun c => False.elim (by omega), fun c => ?_⟩) | (refine ⟨fun c => ?_, fun c => False.elim (by omega)⟩) | (refine ⟨fun c => ?_, fun c => ?_⟩) | (intro c) | fail))
  all_goals exact hq h (Rr_K hR (by omega) (by omega)) FrH.refl
-- rule
def rulA (A : Int → Int) (w m : Int) : Int → Int := pu A w m
def okR (w m : Int) : Prop := (3 ≤ w ∧ w ≤ 5) ∧ 0 ≤ m ∧ (w = 3 → m ≤ 9) ∧ (w = 4 → m ≤ 5) ∧ (w = 5 → m ≤ 16)
theorem rul_ok {K : Int} {A : Int → Int} {w m : Int} (hA : AOk K A) (h : okR w m) : AOk K (rulA A w m) := by
  obtain ⟨b0, b1, b2, b3, b4, b5, b6, b8, bK, ba, bp, bq⟩ := id hA
  obtain ⟨hw, h0, h3, h4, h5⟩ := h
  rcases (show w = 3 ∨ w = 4 ∨ w = 5 by omega) with rfl | rfl | rfl <;> (refine ⟨?_, ?_, ?_, ?_, ?_, ?_, ?_, ?_, ?_, fun x hx0 hx1 => ⟨?_, ?_, ?_⟩, fun x hx0 hx1 => ⟨?_, ?_, ?_, ?_, ?_, ?_⟩, fun x hx0 hx1 => ⟨?_, ?_⟩⟩ <;> simp only [Nat.reduceEqDiff, Nat.add_eq_left, Nat.left_eq_add, Nat.add_left_cancel_iff, Nat.succ_ne_self, Nat.reduceEqDiff, Nat.succ_ne_zero, Int.reduceEq, false_and, and_false, true_and, and_true, if_true, if_false, reduceIte, Int.add_zero, not_true_eq_false, not_false_eq_true, rulA, pu, hoA, moA, toA, pA, plA] at * <;> first | omega | (rcases Int.lt_or_le x (A 0) with hxx | hxx); (have := ba x hx0 hxx; omega); omega | (rcases Int.lt_or_le x (A 1) with hxx | hxx); (have := bp x hx0 hxx; omega); omega | (rcases Int.lt_or_le x (A 2) with hxx | hxx); (have := bq x hx0 hxx; omega); omega)
set_option maxHeartbeats 4000000 in
theorem rul_v {X : Int → Int} {XL : Int} {d : Nat} {h : Mem} {Q : RetP} {K : Int} {A : Int → Int} {v : Nat} {w m f : Int} (hV : Vr K h v A) (hT : VAt h v) (hk : okR w m) (hf : f = w + 13) : Vr K (sG h v f m) v (rulA A w m) ∧ Fr (VP v) h (sG h v f m) := by
  have fr : Fr (VP v) h (sG h v f m) := Fr.refl.sG (by unfold VP; omega)
  refine ⟨⟨VOk_fr fr hV.1, ?_, rul_ok hV.2.2 hk⟩, fr⟩
  obtain ⟨hw, h0, h3, h4, h5⟩ := hk
  obtain ⟨⟨k0, ⟨k1, l1⟩, ⟨k2, l2⟩, ⟨k3, l3⟩, ⟨k6, l6⟩, ⟨k7, l7⟩, ⟨k8, l8⟩, ⟨k9, l9⟩, ⟨k10, l10⟩, ⟨k11, l11⟩, ⟨k12, l12⟩, ⟨k14, l14⟩, ⟨k15, l15⟩⟩, ⟨⟨g0, g5, g13, g16, g17, g18, g19, g4⟩, ra, rp, rq⟩, ⟨b0, b1, b2, b3, b4, b5, b6, b8, bK, ba, bp, bq⟩⟩ := id hV
  obtain ⟨t1, t2, t3, t6, t7, t8, t9, t10, t11, t12, t14, t15⟩ := id hT; rw [t1] at k1 l1; rw [t2] at k2 l2; rw [t3] at k3 l3; rw [t6] at k6 l6; rw [t7] at k7 l7; rw [t8] at k8 l8; rw [t9] at k9 l9; rw [t10] at k10 l10; rw [t11] at k11 l11; rw [t12] at k12 l12; rw [t14] at k14 l14; rw [t15] at k15 l15; simp only [t1, t2, t3] at ra; simp only [t7, t8, t9, t10, t11, t12] at rp; simp only [t14, t15] at rq
  rcases (show w = 3 ∨ w = 4 ∨ w = 5 by omega) with rfl | rfl | rfl <;> subst hf <;> (refine ⟨⟨?_, ?_, ?_, ?_, ?_, ?_, ?_, ?_⟩, fun x hx0 hx1 => ⟨?_, ?_, ?_⟩, fun x hx0 hx1 => ⟨?_, ?_, ?_, ?_, ?_, ?_⟩, fun x hx0 hx1 => ⟨?_, ?_⟩⟩ <;> simp only [gG_sG, gR_sG, kd_sG, ln_sG, ixOk, inI, t1, t2, t3, t6, t7, t8, t9, t10, t11, t12, t14, t15, Nat.reduceEqDiff, Nat.add_eq_left, Nat.left_eq_add, Nat.add_left_cancel_iff, Nat.succ_ne_self, Nat.reduceEqDiff, Nat.succ_ne_zero, Int.reduceEq, false_and, and_false, true_and, and_true, if_true, if_false, reduceIte, Int.add_zero, not_true_eq_false, not_false_eq_true, rulA, pu, hoA, moA, toA, pA, plA, g0, g5, g13, g16, g17, g18, g19, g4] at * <;> first | omega | (rcases Int.lt_or_le x (A 0) with hxx | hxx); (have := ra x hx0 hxx; omega); omega | (rcases Int.lt_or_le x (A 1) with hxx | hxx); (have := rp x hx0 hxx; omega); omega | (rcases Int.lt_or_le x (A 2) with hxx | hxx); (have := rq x hx0 hxx; omega); omega)
set_option maxHeartbeats 4000000 in
theorem c_ruleY {X : Int → Int} {XL : Int} {d : Nat} {A : Int → Int} {w m : Int} (hd : 9 ≤ d) (hk : okR w m) : CV X XL d 142 [vI w, vI m] A (rulA A w m) (1, 0) := by
  intro K n h Q hC hK hq
  obtain ⟨⟨k00, r7, hT⟩, hV⟩ := id hC; have kn := hV.1.1; have hA := hV.2.2
  have hk2 := hk
  obtain ⟨hw, h0, h3, h4, h5⟩ := hk2
  refine eX9_rule (by omega) ?_
  rcases (show w = 3 ∨ w = 4 ∨ w = 5 by omega) with rfl | rfl | rfl
  · have q := rul_v (f := 16) hV hT hk (by omega)
    (repeat' (first | (rw [r7]) | (refine w_within (by omega) (fun c => ?_) (fun c => absurd (by omega) c)) | (refine w_yes (by omega) k00 ?_) | (refine Ex_step ?_; conv => whnf) | (refine ⟨?_, trivial⟩) | (refine (show den _ _ _ _ _ _ _ _ from ?_); conv => whnf) | (refine ⟨by (first | assumption | rfl | (exact Nat.le_of_ble_eq_true rfl) | (exact ⟨fun h01 => absurd h01 (by decide), by first | rfl | assumption⟩) | (exact ⟨fun _ => by decide, by first | rfl | assumption⟩) | (exact ⟨by assumption, by omega, by omega⟩) | (unfold inI; omega) | omega), ?_⟩; conv => whnf) | (refine ⟨fun c => False.elim (by omega), fun c => ?_⟩) | (refine ⟨fun c => ?_, fun c => False.elim (by omega)⟩) | (refine ⟨fun c => ?_, fun c => ?_⟩) | (intro c) | fail))
    exact hq _ (Vr_K q.1 (by omega) (by omega)) q.2
  · have q := rul_v (f := 17) hV hT hk (by omega)
    (repeat' (first | (rw [r7]) | (refine w_within (by omega) (fun c => ?_) (fun c => absurd (by omega) c)) | (refine w_yes (by omega) k00 ?_) | (refine Ex_step ?_; conv => whnf) | (refine ⟨?_, trivial⟩) | (refine (show den _ _ _ _ _ _ _ _ from ?_); conv => whnf) | (refine ⟨by (first | assumption | rfl | (exact Nat.le_of_ble_eq_true rfl) | (exact ⟨fun h01 => absurd h01 (by decide), by first | rfl | assumption⟩) | (exact ⟨fun _ => by decide, by first | rfl | assumption⟩) | (exact ⟨by assumption, by omega, by omega⟩) | (unfold inI; omega) | omega), ?_⟩; conv => whnf) | (refine ⟨fun c => False.elim (by omega), fun c => ?_⟩) | (refine ⟨fun c => ?_, fun c => False.elim (by omega)⟩) | (refine ⟨fun c => ?_, fun c => ?_⟩) | (intro c) | fail))
    exact hq _ (Vr_K q.1 (by omega) (by omega)) q.2
  · have q := rul_v (f := 18) hV hT hk (by omega)
    (repeat' (first | (rw [r7]) | (refine w_within (by omega) (fun c => ?_) (fun c => absurd (by omega) c)) | (refine w_yes (by omega) k00 ?_) | (refine Ex_step ?_; conv => whnf) | (refine ⟨?_, trivial⟩) | (refine (show den _ _ _ _ _ _ _ _ from ?_); conv => whnf) | (refine ⟨by (first | assumption | rfl | (exact Nat.le_of_ble_eq_true rfl) | (exact ⟨fun h01 => absurd h01 (by decide), by first | rfl | assumption⟩) | (exact ⟨fun _ => by decide, by first | rfl | assumption⟩) | (exact ⟨by assumption, by omega, by omega⟩) | (unfold inI; omega) | omega), ?_⟩; conv => whnf) | (refine ⟨fun c => False.elim (by omega), fun c => ?_⟩) | (refine ⟨fun c => ?_, fun c => False.elim (by omega)⟩) | (refine ⟨fun c => ?_, fun c => ?_⟩) | (intro c) | fail))
    exact hq _ (Vr_K q.1 (by omega) (by omega)) q.2
set_option maxHeartbeats 4000000 in
theorem c_ruleN {X : Int → Int} {XL : Int} {d : Nat} {A : Int → Int} {w m : Int} (hd : 9 ≤ d) (hk : ¬ okR w m) : CV X XL d 142 [vI w, vI m] A A (0, 1) := by
  intro K n h Q hC hK hq
  obtain ⟨⟨k00, r7, hT⟩, hV⟩ := id hC; have kn := hV.1.1; have hA := hV.2.2
  have hq := hq h (Vr_K hV (by omega) (by omega)) Fr.refl
  unfold okR at hk
  refine eX9_rule (by omega) ?_
  (repeat' (first | (rw [r7]) | (refine w_within (by omega) (fun c => absurd (by omega) hk) (fun c => ?_)) | (refine w_not (by omega) k00 ?_) | (refine Ex_step ?_; conv => whnf) | (refine ⟨?_, trivial⟩) | (refine (show den _ _ _ _ _ _ _ _ from ?_); conv => whnf) | (refine ⟨by (first | assumption | rfl | (exact Nat.le_of_ble_eq_true rfl) | (exact ⟨fun h01 => absurd h01 (by decide), by first | rfl | assumption⟩) | (exact ⟨fun _ => by decide, by first | rfl | assumption⟩) | (exact ⟨by assumption, by omega, by omega⟩) | (unfold inI; omega) | omega), ?_⟩; conv => whnf) | (refine ⟨fun c => False.elim (by omega), fun c => ?_⟩) | (refine ⟨fun c => ?_, fun c => False.elim (by omega)⟩) | (refine ⟨fun c => ?_, fun c => ?_⟩) | (intro c) | fail))
  all_goals exact hq
set_option maxHeartbeats 4000000 in
theorem m_ruleY {X : Int → Int} {XL : Int} {d : Nat} {A : Int → Int} {w m : Int} (hd : 9 ≤ d) (hk : okR w m) : CR X XL d 282 [vI w, vI m] A (rulA A w m) (1, 0) := by
  intro K h Q hR hK hq; have kq := hR.1.1; have hA := hR.2.2
  have hR1 : Rr K (sG h 128 w m) (rulA A w m) := hR.z.put.ok rfl (rul_ok hA hk)
  obtain ⟨hw, h0, h3, h4, h5⟩ := hk
  obtain ⟨⟨-, r0, kt, lt⟩, eA, -⟩ := id hR
  refine eX10_rule (by omega) ?_
  (repeat' (first | (refine r_isFrom (by omega) (fun c => ?_) (fun c => absurd (by omega) c)) | (refine r_is (by omega) kq (fun _ => ?_) (fun c => absurd rfl c)) | (refine Ex_step ?_; conv => whnf) | (refine ⟨?_, trivial⟩) | (refine (show den _ _ _ _ _ _ _ _ from ?_); conv => whnf) | (refine ⟨by (first | assumption | rfl | (exact Nat.le_of_ble_eq_true rfl) | (exact ⟨fun h01 => absurd h01 (by decide), by first | rfl | assumption | trivial⟩) | (exact ⟨fun _ => by decide, by first | rfl | assumption | trivial⟩) | (exact ⟨kt, by omega, Int.lt_of_lt_of_le (by omega : _ < (3198 : Int)) (Int.le_of_eq lt.symm)⟩) | (unfold inI; omega) | omega), ?_⟩; conv => whnf; try simp (disch := omega) only [r0, gR_sG, g_same, g_ne, eA]) | (refine ⟨fun c => False.elim (by omega), fun c => ?_⟩) | (refine ⟨fun c => ?_, fun c => False.elim (by omega)⟩) | (refine ⟨fun c => ?_, fun c => ?_⟩) | (intro c) | fail))
  all_goals exact hq _ (Rr_K hR1 (by omega) (by omega)) (FrA.refl.sG (by omega)).H
set_option maxHeartbeats 4000000 in
theorem m_ruleN {X : Int → Int} {XL : Int} {d : Nat} {A : Int → Int} {w m : Int} (hd : 9 ≤ d) (hk : ¬ okR w m) : CR X XL d 282 [vI w, vI m] A A (0, 1) := by
  intro K h Q hR hK hq; have kq := hR.1.1; have hA := hR.2.2
  unfold okR at hk
  refine eX10_rule (by omega) ?_
  (repeat' (first | (refine r_isFrom (by omega) (fun c => absurd (by omega) hk) (fun c => ?_)) | (refine r_is (by omega) kq (fun c => absurd c (by omega)) (fun c => ?_)) | (refine Ex_step ?_; conv => whnf) | (refine ⟨?_, trivial⟩) | (refine (show den _ _ _ _ _ _ _ _ from ?_); conv => whnf) | (refine ⟨by (first | assumption | rfl | (exact Nat.le_of_ble_eq_true rfl) | (exact ⟨fun h01 => absurd h01 (by decide), by first | rfl | assumption⟩) | (exact ⟨fun _ => by decide, by first | rfl | assumption⟩) | (exact ⟨by assumption, by omega, by omega⟩) | (unfold inI; omega) | omega), ?_⟩; conv => whnf) | (refine ⟨fun c => False.elim (by omega), fun c => ?_⟩) | (refine ⟨fun c => ?_, fun c => False.elim (by omega)⟩) | (refine ⟨fun c => ?_, fun c => ?_⟩) | (intro c) | fail))
  all_goals exact hq h (Rr_K hR (by omega) (by omega)) FrH.refl
-- build, sow
def okBd (A : Int → Int) (ho to : Int) : Prop := (0 ≤ ho ∧ ho ≤ 60) ∧ 0 ≤ to ∧ to ≤ 9
def a_build (A : Int → Int) (ho to : Int) : Int → Int := if (0 ≤ ho ∧ ho ≤ 60) ∧ (0 ≤ to ∧ to ≤ 9) ∧ A 0 < 9 then arcA A ho to else A
def o_build (A : Int → Int) (ho to : Int) : Int × Int := if (0 ≤ ho ∧ ho ≤ 60) ∧ (0 ≤ to ∧ to ≤ 9) then (if A 0 < 9 then (A 0, 0) else (-1, 4)) else (-1, 1)
def a_sow (A : Int → Int) (s j : Int) : Int → Int := if (1 ≤ s ∧ s ≤ 30) ∧ (0 ≤ j ∧ j ≤ 99) ∧ A 2 < 8 then plnA A s j else A
def o_sow (A : Int → Int) (s j : Int) : Int × Int := if (1 ≤ s ∧ s ≤ 30) ∧ (0 ≤ j ∧ j ≤ 99) then (if A 2 < 8 then (A 2, 0) else (-1, 4)) else (-1, 1)
theorem fin3 {Q : RetP} {z w : Int} {hh : Mem} (e : z = w) (q : Q (some (vI w)) hh) : Q (some (vI z)) hh := e ▸ q
set_option maxHeartbeats 4000000 in
theorem c_build {X : Int → Int} {XL : Int} {d : Nat} {A : Int → Int} {s t : Int} (hd : 9 ≤ d) : CV X XL d 140 [vI s, vI t] A (a_build A s t) (o_build A s t) := by
  intro K n h Q hC hK hq
  obtain ⟨⟨k00, r7, hT⟩, hV⟩ := id hC; have kn := hV.1.1; have hA := hV.2.2
  have b0 := hA.1
  have g0 := hV.2.1.1.1
  refine eX9_build (by omega) ?_
  by_cases hp : (0 ≤ s ∧ s ≤ 60) ∧ (0 ≤ t ∧ t ≤ 9)
  · by_cases ho : A 0 < 9
    · rw [show a_build A s t = arcA A s t from if_pos ⟨hp.1, hp.2, ho⟩, show o_build A s t = (A 0, 0) by unfold o_build; rw [if_pos hp, if_pos ho]] at hq
      (repeat' (first | (rw [r7]) | (refine w_within (by omega) (fun c => ?_) (fun c => ?_)) | (rw [r71]) | (rw [g01]) | (refine w_addArch (by omega) hV hT ho (by omega) (by omega) (by omega) (by omega) (fun h1 hV1 fr1 => ?_); have k1 := (kd_fr fr1 0).trans k00; have g1 := fr1.1; have g01 : gG h1 n 0 = A 0 + 1 := hV1.2.1.1.1.trans pu_e; have r71 : gR h1 0 7 = n := (gR_fr fr1 0 7).trans r7; have kn1 := hV1.1.1) | (refine w_given (by omega) k1 ?_) | (refine Ex_step ?_; conv => whnf) | (refine ⟨?_, trivial⟩) | (refine (show den _ _ _ _ _ _ _ _ from ?_); conv => whnf) | (refine ⟨by (first | assumption | rfl | (exact Nat.le_of_ble_eq_true rfl) | (exact ⟨fun h01 => absurd h01 (by decide), by first | rfl | assumption⟩) | (exact ⟨fun _ => by decide, by first | rfl | assumption⟩) | (exact ⟨by assumption, by omega, by omega⟩) | (unfold inI; omega) | omega), ?_⟩; conv => whnf) | (refine ⟨fun c => False.elim (by omega), fun c => ?_⟩) | (refine ⟨fun c => ?_, fun c => False.elim (by omega)⟩) | (refine ⟨fun c => ?_, fun c => ?_⟩) | (intro c) | fail))
      exact fin3 (by omega) (hq h1 (Vr_K hV1 (by omega) (by omega)) fr1)
    · rw [show a_build A s t = A from if_neg (fun q => ho q.2.2), show o_build A s t = (-1, 4) by unfold o_build; rw [if_pos hp, if_neg ho]] at hq
      (repeat' (first | (rw [r7]) | (refine w_within (by omega) (fun c => ?_) (fun c => ?_)) | (refine w_given (by omega) k00 ?_) | (refine w_none (by omega) k00 ?_) | (refine Ex_step ?_; conv => whnf) | (refine ⟨?_, trivial⟩) | (refine (show den _ _ _ _ _ _ _ _ from ?_); conv => whnf) | (refine ⟨by (first | assumption | rfl | (exact Nat.le_of_ble_eq_true rfl) | (exact ⟨fun h01 => absurd h01 (by decide), by first | rfl | assumption⟩) | (exact ⟨fun _ => by decide, by first | rfl | assumption⟩) | (exact ⟨by assumption, by omega, by omega⟩) | (unfold inI; omega) | omega), ?_⟩; conv => whnf) | (refine ⟨fun c => False.elim (by omega), fun c => ?_⟩) | (refine ⟨fun c => ?_, fun c => False.elim (by omega)⟩) | (refine ⟨fun c => ?_, fun c => ?_⟩) | (intro c) | fail))
      exact hq h (Vr_K hV (by omega) (by omega)) Fr.refl
  · rw [show a_build A s t = A from if_neg (fun q => hp ⟨q.1, q.2.1⟩), show o_build A s t = (-1, 1) from if_neg hp] at hq
    (repeat' (first | (rw [r7]) | (refine w_within (by omega) (fun c => ?_) (fun c => ?_)) | (refine w_given (by omega) k00 ?_) | (refine w_none (by omega) k00 ?_) | (refine Ex_step ?_; conv => whnf) | (refine ⟨?_, trivial⟩) | (refine (show den _ _ _ _ _ _ _ _ from ?_); conv => whnf) | (refine ⟨by (first | assumption | rfl | (exact Nat.le_of_ble_eq_true rfl) | (exact ⟨fun h01 => absurd h01 (by decide), by first | rfl | assumption⟩) | (exact ⟨fun _ => by decide, by first | rfl | assumption⟩) | (exact ⟨by assumption, by omega, by omega⟩) | (unfold inI; omega) | omega), ?_⟩; conv => whnf) | (refine ⟨fun c => False.elim (by omega), fun c => ?_⟩) | (refine ⟨fun c => ?_, fun c => False.elim (by omega)⟩) | (refine ⟨fun c => ?_, fun c => ?_⟩) | (intro c) | fail))
    all_goals exact hq h (Vr_K hV (by omega) (by omega)) Fr.refl
set_option maxHeartbeats 4000000 in
theorem c_sow {X : Int → Int} {XL : Int} {d : Nat} {A : Int → Int} {s t : Int} (hd : 9 ≤ d) : CV X XL d 141 [vI s, vI t] A (a_sow A s t) (o_sow A s t) := by
  intro K n h Q hC hK hq
  obtain ⟨⟨k00, r7, hT⟩, hV⟩ := id hC; have kn := hV.1.1; have hA := hV.2.2
  have b2 := hA.2.2.1
  have g13 := hV.2.1.1.2.2.1
  refine eX9_sow (by omega) ?_
  by_cases hp : (1 ≤ s ∧ s ≤ 30) ∧ (0 ≤ t ∧ t ≤ 99)
  · by_cases ho : A 2 < 8
    · rw [show a_sow A s t = plnA A s t from if_pos ⟨hp.1, hp.2, ho⟩, show o_sow A s t = (A 2, 0) by unfold o_sow; rw [if_pos hp, if_pos ho]] at hq
      (repeat' (first | (rw [r7]) | (refine w_within (by omega) (fun c => ?_) (fun c => ?_)) | (rw [r71]) | (rw [g01]) | (refine w_addPlant (by omega) hV hT ho (by omega) (by omega) (by omega) (by omega) (fun h1 hV1 fr1 => ?_); have k1 := (kd_fr fr1 0).trans k00; have g1 := fr1.1; have g01 : gG h1 n 13 = A 2 + 1 := hV1.2.1.1.2.2.1.trans pu_e; have r71 : gR h1 0 7 = n := (gR_fr fr1 0 7).trans r7; have kn1 := hV1.1.1) | (refine w_given (by omega) k1 ?_) | (refine Ex_step ?_; conv => whnf) | (refine ⟨?_, trivial⟩) | (refine (show den _ _ _ _ _ _ _ _ from ?_); conv => whnf) | (refine ⟨by (first | assumption | rfl | (exact Nat.le_of_ble_eq_true rfl) | (exact ⟨fun h01 => absurd h01 (by decide), by first | rfl | assumption⟩) | (exact ⟨fun _ => by decide, by first | rfl | assumption⟩) | (exact ⟨by assumption, by omega, by omega⟩) | (unfold inI; omega) | omega), ?_⟩; conv => whnf) | (refine ⟨fun c => False.elim (by omega), fun c => ?_⟩) | (refine ⟨fun c => ?_, fun c => False.elim (by omega)⟩) | (refine ⟨fun c => ?_, fun c => ?_⟩) | (intro c) | fail))
      exact fin3 (by omega) (hq h1 (Vr_K hV1 (by omega) (by omega)) fr1)
    · rw [show a_sow A s t = A from if_neg (fun q => ho q.2.2), show o_sow A s t = (-1, 4) by unfold o_sow; rw [if_pos hp, if_neg ho]] at hq
      (repeat' (first | (rw [r7]) | (refine w_within (by omega) (fun c => ?_) (fun c => ?_)) | (refine w_given (by omega) k00 ?_) | (refine w_none (by omega) k00 ?_) | (refine Ex_step ?_; conv => whnf) | (refine ⟨?_, trivial⟩) | (refine (show den _ _ _ _ _ _ _ _ from ?_); conv => whnf) | (refine ⟨by (first | assumption | rfl | (exact Nat.le_of_ble_eq_true rfl) | (exact ⟨fun h01 => absurd h01 (by decide), by first | rfl | assumption⟩) | (exact ⟨fun _ => by decide, by first | rfl | assumption⟩) | (exact ⟨by assumption, by omega, by omega⟩) | (unfold inI; omega) | omega), ?_⟩; conv => whnf) | (refine ⟨fun c => False.elim (by omega), fun c => ?_⟩) | (refine ⟨fun c => ?_, fun c => False.elim (by omega)⟩) | (refine ⟨fun c => ?_, fun c => ?_⟩) | (intro c) | fail))
      exact hq h (Vr_K hV (by omega) (by omega)) Fr.refl
  · rw [show a_sow A s t = A from if_neg (fun q => hp ⟨q.1, q.2.1⟩), show o_sow A s t = (-1, 1) from if_neg hp] at hq
    (repeat' (first | (rw [r7]) | (refine w_within (by omega) (fun c => ?_) (fun c => ?_)) | (refine w_given (by omega) k00 ?_) | (refine w_none (by omega) k00 ?_) | (refine Ex_step ?_; conv => whnf) | (refine ⟨?_, trivial⟩) | (refine (show den _ _ _ _ _ _ _ _ from ?_); conv => whnf) | (refine ⟨by (first | assumption | rfl | (exact Nat.le_of_ble_eq_true rfl) | (exact ⟨fun h01 => absurd h01 (by decide), by first | rfl | assumption⟩) | (exact ⟨fun _ => by decide, by first | rfl | assumption⟩) | (exact ⟨by assumption, by omega, by omega⟩) | (unfold inI; omega) | omega), ?_⟩; conv => whnf) | (refine ⟨fun c => False.elim (by omega), fun c => ?_⟩) | (refine ⟨fun c => ?_, fun c => False.elim (by omega)⟩) | (refine ⟨fun c => ?_, fun c => ?_⟩) | (intro c) | fail))
    all_goals exact hq h (Vr_K hV (by omega) (by omega)) Fr.refl
theorem arc_c {A : Int → Int} {s t : Int} (h0 : 0 ≤ A 0) : pu (pu (pu (pu A 0 (A 0 + 1)) (10 + 3 * A 0) s) (10 + 3 * A 0 + 1) 0) (10 + 3 * A 0 + 2) t = arcA A s t := by
  unfold arcA
  rw [pu_c (i := 0) (j := 10 + 3 * A 0) (by omega), pu_c (i := 0) (j := 10 + 3 * A 0 + 1) (by omega), pu_c (i := 0) (j := 10 + 3 * A 0 + 2) (by omega)]
theorem pln_c {A : Int → Int} {s t : Int} (h0 : 0 ≤ A 2) : pu (pu (pu A 2 (A 2 + 1)) (73 + 2 * A 2) s) (73 + 2 * A 2 + 1) t = plnA A s t := by
  unfold plnA
  rw [pu_c (i := 2) (j := 73 + 2 * A 2) (by omega), pu_c (i := 2) (j := 73 + 2 * A 2 + 1) (by omega)]
set_option maxHeartbeats 4000000 in
theorem m_build {X : Int → Int} {XL : Int} {d : Nat} {A : Int → Int} {s t : Int} (hd : 9 ≤ d) : CR X XL d 280 [vI s, vI t] A (a_build A s t) (o_build A s t) := by
  intro K h Q hR hK hq; have kq := hR.1.1; have hA := hR.2.2
  have b0 := hA.1
  obtain ⟨⟨-, r0, kt, lt⟩, eA, -⟩ := id hR
  refine eX10_build (by omega) ?_
  by_cases hp : (0 ≤ s ∧ s ≤ 60) ∧ (0 ≤ t ∧ t ≤ 9)
  · by_cases ho : A 0 < 9
    · rw [show a_build A s t = arcA A s t from if_pos ⟨hp.1, hp.2, ho⟩, show o_build A s t = (A 0, 0) by unfold o_build; rw [if_pos hp, if_pos ho]] at hq
      (repeat' (first | (refine r_isFrom (by omega) (fun c => ?_) (fun c => ?_)) | (refine r_archRow (by omega) (by omega) ?_) | (refine r_gives (by omega) kq ?_) | (refine Ex_step ?_; conv => whnf) | (refine ⟨?_, trivial⟩) | (refine (show den _ _ _ _ _ _ _ _ from ?_); conv => whnf) | (refine ⟨by (first | assumption | rfl | (exact Nat.le_of_ble_eq_true rfl) | (exact ⟨fun h01 => absurd h01 (by decide), by first | rfl | assumption | trivial⟩) | (exact ⟨fun _ => by decide, by first | rfl | assumption | trivial⟩) | (exact ⟨kt, by omega, Int.lt_of_lt_of_le (by omega : _ < (3198 : Int)) (Int.le_of_eq lt.symm)⟩) | (unfold inI; omega) | omega), ?_⟩; conv => whnf; try simp (disch := omega) only [r0, gR_sG, g_same, g_ne, eA]) | (refine ⟨fun c => False.elim (by omega), fun c => ?_⟩) | (refine ⟨fun c => ?_, fun c => False.elim (by omega)⟩) | (refine ⟨fun c => ?_, fun c => ?_⟩) | (intro c) | fail))
      exact hq _ (Rr_K (hR.z.put.put.put.put.ok (arc_c b0.1) (arc_ok hA ho (by omega) (by omega) (by omega) (by omega))) (by omega) (by omega)) ((((FrA.refl.sG (by omega)).sG (by omega)).sG (by omega)).sG (by omega)).H
    · rw [show a_build A s t = A from if_neg (fun q => ho q.2.2), show o_build A s t = (-1, 4) by unfold o_build; rw [if_pos hp, if_neg ho]] at hq
      (repeat' (first | (refine r_isFrom (by omega) (fun c => ?_) (fun c => ?_)) | (refine r_gives (by omega) kq ?_) | (refine r_refuse (by omega) kq ?_) | (refine Ex_step ?_; conv => whnf) | (refine ⟨?_, trivial⟩) | (refine (show den _ _ _ _ _ _ _ _ from ?_); conv => whnf) | (refine ⟨by (first | assumption | rfl | (exact Nat.le_of_ble_eq_true rfl) | (exact ⟨fun h01 => absurd h01 (by decide), by first | rfl | assumption | trivial⟩) | (exact ⟨fun _ => by decide, by first | rfl | assumption | trivial⟩) | (exact ⟨kt, by omega, Int.lt_of_lt_of_le (by omega : _ < (3198 : Int)) (Int.le_of_eq lt.symm)⟩) | (unfold inI; omega) | omega), ?_⟩; conv => whnf; try simp (disch := omega) only [r0, gR_sG, g_same, g_ne, eA]) | (refine ⟨fun c => False.elim (by omega), fun c => ?_⟩) | (refine ⟨fun c => ?_, fun c => False.elim (by omega)⟩) | (refine ⟨fun c => ?_, fun c => ?_⟩) | (intro c) | fail))
      exact hq h (Rr_K hR (by omega) (by omega)) FrH.refl
  · rw [show a_build A s t = A from if_neg (fun q => hp ⟨q.1, q.2.1⟩), show o_build A s t = (-1, 1) from if_neg hp] at hq
    (repeat' (first | (refine r_isFrom (by omega) (fun c => ?_) (fun c => ?_)) | (refine r_gives (by omega) kq ?_) | (refine r_refuse (by omega) kq ?_) | (refine Ex_step ?_; conv => whnf) | (refine ⟨?_, trivial⟩) | (refine (show den _ _ _ _ _ _ _ _ from ?_); conv => whnf) | (refine ⟨by (first | assumption | rfl | (exact Nat.le_of_ble_eq_true rfl) | (exact ⟨fun h01 => absurd h01 (by decide), by first | rfl | assumption | trivial⟩) | (exact ⟨fun _ => by decide, by first | rfl | assumption | trivial⟩) | (exact ⟨kt, by omega, Int.lt_of_lt_of_le (by omega : _ < (3198 : Int)) (Int.le_of_eq lt.symm)⟩) | (unfold inI; omega) | omega), ?_⟩; conv => whnf; try simp (disch := omega) only [r0, gR_sG, g_same, g_ne, eA]) | (refine ⟨fun c => False.elim (by omega), fun c => ?_⟩) | (refine ⟨fun c => ?_, fun c => False.elim (by omega)⟩) | (refine ⟨fun c => ?_, fun c => ?_⟩) | (intro c) | fail))
    all_goals exact hq h (Rr_K hR (by omega) (by omega)) FrH.refl
set_option maxHeartbeats 4000000 in
theorem m_sow {X : Int → Int} {XL : Int} {d : Nat} {A : Int → Int} {s t : Int} (hd : 9 ≤ d) : CR X XL d 281 [vI s, vI t] A (a_sow A s t) (o_sow A s t) := by
  intro K h Q hR hK hq; have kq := hR.1.1; have hA := hR.2.2
  have b2 := hA.2.2.1
  obtain ⟨⟨-, r0, kt, lt⟩, eA, -⟩ := id hR
  refine eX10_sow (by omega) ?_
  by_cases hp : (1 ≤ s ∧ s ≤ 30) ∧ (0 ≤ t ∧ t ≤ 99)
  · by_cases ho : A 2 < 8
    · rw [show a_sow A s t = plnA A s t from if_pos ⟨hp.1, hp.2, ho⟩, show o_sow A s t = (A 2, 0) by unfold o_sow; rw [if_pos hp, if_pos ho]] at hq
      (repeat' (first | (refine r_isFrom (by omega) (fun c => ?_) (fun c => ?_)) | (refine r_plantRow (by omega) (by omega) ?_) | (refine r_gives (by omega) kq ?_) | (refine Ex_step ?_; conv => whnf) | (refine ⟨?_, trivial⟩) | (refine (show den _ _ _ _ _ _ _ _ from ?_); conv => whnf) | (refine ⟨by (first | assumption | rfl | (exact Nat.le_of_ble_eq_true rfl) | (exact ⟨fun h01 => absurd h01 (by decide), by first | rfl | assumption | trivial⟩) | (exact ⟨fun _ => by decide, by first | rfl | assumption | trivial⟩) | (exact ⟨kt, by omega, Int.lt_of_lt_of_le (by omega : _ < (3198 : Int)) (Int.le_of_eq lt.symm)⟩) | (unfold inI; omega) | omega), ?_⟩; conv => whnf; try simp (disch := omega) only [r0, gR_sG, g_same, g_ne, eA]) | (refine ⟨fun c => False.elim (by omega), fun c => ?_⟩) | (refine ⟨fun c => ?_, fun c => False.elim (by omega)⟩) | (refine ⟨fun c => ?_, fun c => ?_⟩) | (intro c) | fail))
      exact hq _ (Rr_K (hR.z.put.put.put.ok (pln_c b2.1) (pln_ok hA ho (by omega) (by omega) (by omega) (by omega))) (by omega) (by omega)) (((FrA.refl.sG (by omega)).sG (by omega)).sG (by omega)).H
    · rw [show a_sow A s t = A from if_neg (fun q => ho q.2.2), show o_sow A s t = (-1, 4) by unfold o_sow; rw [if_pos hp, if_neg ho]] at hq
      (repeat' (first | (refine r_isFrom (by omega) (fun c => ?_) (fun c => ?_)) | (refine r_gives (by omega) kq ?_) | (refine r_refuse (by omega) kq ?_) | (refine Ex_step ?_; conv => whnf) | (refine ⟨?_, trivial⟩) | (refine (show den _ _ _ _ _ _ _ _ from ?_); conv => whnf) | (refine ⟨by (first | assumption | rfl | (exact Nat.le_of_ble_eq_true rfl) | (exact ⟨fun h01 => absurd h01 (by decide), by first | rfl | assumption | trivial⟩) | (exact ⟨fun _ => by decide, by first | rfl | assumption | trivial⟩) | (exact ⟨kt, by omega, Int.lt_of_lt_of_le (by omega : _ < (3198 : Int)) (Int.le_of_eq lt.symm)⟩) | (unfold inI; omega) | omega), ?_⟩; conv => whnf; try simp (disch := omega) only [r0, gR_sG, g_same, g_ne, eA]) | (refine ⟨fun c => False.elim (by omega), fun c => ?_⟩) | (refine ⟨fun c => ?_, fun c => False.elim (by omega)⟩) | (refine ⟨fun c => ?_, fun c => ?_⟩) | (intro c) | fail))
      exact hq h (Rr_K hR (by omega) (by omega)) FrH.refl
  · rw [show a_sow A s t = A from if_neg (fun q => hp ⟨q.1, q.2.1⟩), show o_sow A s t = (-1, 1) from if_neg hp] at hq
    (repeat' (first | (refine r_isFrom (by omega) (fun c => ?_) (fun c => ?_)) | (refine r_gives (by omega) kq ?_) | (refine r_refuse (by omega) kq ?_) | (refine Ex_step ?_; conv => whnf) | (refine ⟨?_, trivial⟩) | (refine (show den _ _ _ _ _ _ _ _ from ?_); conv => whnf) | (refine ⟨by (first | assumption | rfl | (exact Nat.le_of_ble_eq_true rfl) | (exact ⟨fun h01 => absurd h01 (by decide), by first | rfl | assumption | trivial⟩) | (exact ⟨fun _ => by decide, by first | rfl | assumption | trivial⟩) | (exact ⟨kt, by omega, Int.lt_of_lt_of_le (by omega : _ < (3198 : Int)) (Int.le_of_eq lt.symm)⟩) | (unfold inI; omega) | omega), ?_⟩; conv => whnf; try simp (disch := omega) only [r0, gR_sG, g_same, g_ne, eA]) | (refine ⟨fun c => False.elim (by omega), fun c => ?_⟩) | (refine ⟨fun c => ?_, fun c => False.elim (by omega)⟩) | (refine ⟨fun c => ?_, fun c => ?_⟩) | (intro c) | fail))
    all_goals exact hq h (Rr_K hR (by omega) (by omega)) FrH.refl
-- come
set_option maxHeartbeats 4000000 in
theorem c_come {X : Int → Int} {XL : Int} {d : Nat} {h : Mem} {Q : RetP} {K : Int} {A : Int → Int} {n : Nat} {w : Int} (hd : 9 ≤ d) (hC : Cls K n h A) (hK : K + 25000 ≤ 30000000) (hq0 : ¬ (1 ≤ w ∧ w ≤ 40) → Q (some (vI (-1))) (sG h 0 0 1)) (hq4 : (1 ≤ w ∧ w ≤ 40) → 6 ≤ A 1 → Q (some (vI (-1))) (sG h 0 0 4)) (hq : (1 ≤ w ∧ w ≤ 40) → A 1 < 6 → ∀ h', Vr K h' n (perA A w) → Fr (VQ n) h h' → (∀ i, gG h' (n + 4) i = if i = A 1 then 0 else gG h (n + 4) i) → Q (some (vI (A 1))) (sG h' 0 0 0)) (hn : 1 ≤ n) : WP X XL d 139 [vR 0, vI w] h Q := by
  obtain ⟨⟨k00, r7, hT⟩, hV⟩ := id hC; have kn := hV.1.1; have hA := hV.2.2
  have b1 := hA.2.1
  have g5 := hV.2.1.1.2.1
  refine eX9_come (by omega) ?_
  by_cases hp : 1 ≤ w ∧ w ≤ 40
  · by_cases ho : A 1 < 6
    · have hq := hq hp ho
      (repeat' (first | (rw [r7]) | (refine w_within (by omega) (fun c => ?_) (fun c => ?_)) | (rw [r71]) | (rw [g01]) | (refine w_addPerson (by omega) hV hT ho (by omega) (by omega) (fun h1 hV1 fr1 nm1 => ?_); have k1 := (kd_fr fr1 0).trans k00; have g1 := fr1.1; have g01 : gG h1 n 5 = A 1 + 1 := hV1.2.1.1.2.1; have r71 : gR h1 0 7 = n := (gR_fr fr1 0 7).trans r7; have kn1 := hV1.1.1) | (refine w_given (by omega) k1 ?_) | (refine Ex_step ?_; conv => whnf) | (refine ⟨?_, trivial⟩) | (refine (show den _ _ _ _ _ _ _ _ from ?_); conv => whnf) | (refine ⟨by (first | assumption | rfl | (exact Nat.le_of_ble_eq_true rfl) | (exact ⟨fun h01 => absurd h01 (by decide), by first | rfl | assumption⟩) | (exact ⟨fun _ => by decide, by first | rfl | assumption⟩) | (exact ⟨by assumption, by omega, by omega⟩) | (unfold inI; omega) | omega), ?_⟩; conv => whnf) | (refine ⟨fun c => False.elim (by omega), fun c => ?_⟩) | (refine ⟨fun c => ?_, fun c => False.elim (by omega)⟩) | (refine ⟨fun c => ?_, fun c => ?_⟩) | (intro c) | fail))
      exact fin3 (by omega) (hq h1 hV1 fr1 nm1)
    · have hq := hq4 hp (by omega)
      (repeat' (first | (rw [r7]) | (refine w_within (by omega) (fun c => ?_) (fun c => ?_)) | (refine w_given (by omega) k00 ?_) | (refine w_none (by omega) k00 ?_) | (refine Ex_step ?_; conv => whnf) | (refine ⟨?_, trivial⟩) | (refine (show den _ _ _ _ _ _ _ _ from ?_); conv => whnf) | (refine ⟨by (first | assumption | rfl | (exact Nat.le_of_ble_eq_true rfl) | (exact ⟨fun h01 => absurd h01 (by decide), by first | rfl | assumption⟩) | (exact ⟨fun _ => by decide, by first | rfl | assumption⟩) | (exact ⟨by assumption, by omega, by omega⟩) | (unfold inI; omega) | omega), ?_⟩; conv => whnf) | (refine ⟨fun c => False.elim (by omega), fun c => ?_⟩) | (refine ⟨fun c => ?_, fun c => False.elim (by omega)⟩) | (refine ⟨fun c => ?_, fun c => ?_⟩) | (intro c) | fail))
      exact hq
  · have hq := hq0 hp
    (repeat' (first | (rw [r7]) | (refine w_within (by omega) (fun c => ?_) (fun c => ?_)) | (refine w_given (by omega) k00 ?_) | (refine w_none (by omega) k00 ?_) | (refine Ex_step ?_; conv => whnf) | (refine ⟨?_, trivial⟩) | (refine (show den _ _ _ _ _ _ _ _ from ?_); conv => whnf) | (refine ⟨by (first | assumption | rfl | (exact Nat.le_of_ble_eq_true rfl) | (exact ⟨fun h01 => absurd h01 (by decide), by first | rfl | assumption⟩) | (exact ⟨fun _ => by decide, by first | rfl | assumption⟩) | (exact ⟨by assumption, by omega, by omega⟩) | (unfold inI; omega) | omega), ?_⟩; conv => whnf) | (refine ⟨fun c => False.elim (by omega), fun c => ?_⟩) | (refine ⟨fun c => ?_, fun c => False.elim (by omega)⟩) | (refine ⟨fun c => ?_, fun c => ?_⟩) | (intro c) | fail))
    exact hq
theorem per_c {A : Int → Int} {w : Int} (h0 : 0 ≤ A 1) : pu (pu (pu (pu (pu (pu (pu (pu (pu A 1 (A 1 + 1)) (37 + 6 * A 1 + 0) 0) (37 + 6 * A 1 + (0 + 1)) 0) (37 + 6 * A 1 + (0 + 1 + 1)) 0) (37 + 6 * A 1 + (0 + 1 + 1 + 1)) 0) (37 + 6 * A 1 + (0 + 1 + 1 + 1 + 1)) 0) (37 + 6 * A 1 + (0 + 1 + 1 + 1 + 1 + 1)) 0) (37 + 6 * A 1) w) (37 + 6 * A 1 + 1) 1 = perA A w := by
  funext j
  unfold perA pu
  (repeat' split) <;> first | rfl | (exfalso; omega) | omega
set_option maxHeartbeats 4000000 in
theorem m_come {X : Int → Int} {XL : Int} {d : Nat} {h : Mem} {Q : RetP} {K : Int} {A : Int → Int} {w : Int} (hd : 9 ≤ d) (hR : Rr K h A) (r1 : gR h 127 1 = 129) (kn : kd h 129 = 101) (lnn : ln h 129 = 36) (hq0 : ¬ (1 ≤ w ∧ w ≤ 40) → Q (some (vI (-1))) (sG h 127 2 1)) (hq4 : (1 ≤ w ∧ w ≤ 40) → 6 ≤ A 1 → Q (some (vI (-1))) (sG h 127 2 4)) (hq : (1 ≤ w ∧ w ≤ 40) → A 1 < 6 → ∀ h', Rr K h' (perA A w) → FrA h h' → Q (some (vI (A 1))) (sG (sG h' 129 (A 1) 0) 127 2 0)) : WP X XL d 279 [vR 127, vI w] h Q := by
  have kq := hR.1.1
  have hA := hR.2.2
  have b1 := hA.2.1
  obtain ⟨⟨-, r0, kt, lt⟩, eA, -⟩ := id hR
  refine eX10_come (by omega) ?_
  by_cases hp : 1 ≤ w ∧ w ≤ 40
  · by_cases ho : A 1 < 6
    · have hq := hq hp ho
      (repeat' (first | (refine r_isFrom (by omega) (fun c => ?_) (fun c => ?_)) | (refine r_personRow (by omega) (by omega) ?_) | (refine r_gives (by omega) kq ?_) | (refine ⟨⟨kn, by omega, Int.lt_of_lt_of_le (by omega : _ < (36 : Int)) (Int.le_of_eq lnn.symm)⟩, ?_⟩; conv => whnf) | (rw [show gR (sG _ _ _ _) 127 1 = 129 from r1]) | (refine Ex_step ?_; conv => whnf) | (refine ⟨?_, trivial⟩) | (refine (show den _ _ _ _ _ _ _ _ from ?_); conv => whnf) | (refine ⟨by (first | assumption | rfl | (exact Nat.le_of_ble_eq_true rfl) | (exact ⟨fun h01 => absurd h01 (by decide), by first | rfl | assumption | trivial⟩) | (exact ⟨fun _ => by decide, by first | rfl | assumption | trivial⟩) | (exact ⟨kt, by omega, Int.lt_of_lt_of_le (by omega : _ < (3198 : Int)) (Int.le_of_eq lt.symm)⟩) | (unfold inI; omega) | omega), ?_⟩; conv => whnf; try simp (disch := omega) only [r0, gR_sG, g_same, g_ne, eA]) | (refine ⟨fun c => False.elim (by omega), fun c => ?_⟩) | (refine ⟨fun c => ?_, fun c => False.elim (by omega)⟩) | (refine ⟨fun c => ?_, fun c => ?_⟩) | (intro c) | fail))
      exact hq _ (hR.z.put.put.put.put.put.put.put.put.put.ok (per_c b1.1) (per_ok hA ho (by omega) (by omega))) (((((((((FrA.refl.sG (by omega)).sG (by omega)).sG (by omega)).sG (by omega)).sG (by omega)).sG (by omega)).sG (by omega)).sG (by omega)).sG (by omega))
    · have hq := hq4 hp (by omega)
      (repeat' (first | (refine r_isFrom (by omega) (fun c => ?_) (fun c => ?_)) | (refine r_gives (by omega) kq ?_) | (refine r_refuse (by omega) kq ?_) | (refine Ex_step ?_; conv => whnf) | (refine ⟨?_, trivial⟩) | (refine (show den _ _ _ _ _ _ _ _ from ?_); conv => whnf) | (refine ⟨by (first | assumption | rfl | (exact Nat.le_of_ble_eq_true rfl) | (exact ⟨fun h01 => absurd h01 (by decide), by first | rfl | assumption | trivial⟩) | (exact ⟨fun _ => by decide, by first | rfl | assumption | trivial⟩) | (exact ⟨kt, by omega, Int.lt_of_lt_of_le (by omega : _ < (3198 : Int)) (Int.le_of_eq lt.symm)⟩) | (unfold inI; omega) | omega), ?_⟩; conv => whnf; try simp (disch := omega) only [r0, gR_sG, g_same, g_ne, eA]) | (refine ⟨fun c => False.elim (by omega), fun c => ?_⟩) | (refine ⟨fun c => ?_, fun c => False.elim (by omega)⟩) | (refine ⟨fun c => ?_, fun c => ?_⟩) | (intro c) | fail))
      exact hq
  · have hq := hq0 hp
    (repeat' (first | (refine r_isFrom (by omega) (fun c => ?_) (fun c => ?_)) | (refine r_gives (by omega) kq ?_) | (refine r_refuse (by omega) kq ?_) | (refine Ex_step ?_; conv => whnf) | (refine ⟨?_, trivial⟩) | (refine (show den _ _ _ _ _ _ _ _ from ?_); conv => whnf) | (refine ⟨by (first | assumption | rfl | (exact Nat.le_of_ble_eq_true rfl) | (exact ⟨fun h01 => absurd h01 (by decide), by first | rfl | assumption | trivial⟩) | (exact ⟨fun _ => by decide, by first | rfl | assumption | trivial⟩) | (exact ⟨kt, by omega, Int.lt_of_lt_of_le (by omega : _ < (3198 : Int)) (Int.le_of_eq lt.symm)⟩) | (unfold inI; omega) | omega), ?_⟩; conv => whnf; try simp (disch := omega) only [r0, gR_sG, g_same, g_ne, eA]) | (refine ⟨fun c => False.elim (by omega), fun c => ?_⟩) | (refine ⟨fun c => ?_, fun c => False.elim (by omega)⟩) | (refine ⟨fun c => ?_, fun c => ?_⟩) | (intro c) | fail))
    exact hq
