/-! LEVEL 2: the class's Viaduct: runs -/
def trF (p : Int) : Int → (Int → Int) → Int → Int := fun i A => pu (pu A (37 + 6 * p + 4) (pA A p 4 + toA A i)) 8 (zor (A 8) (shlZ 1 i))
theorem trF_ok {K : Int} {A : Int → Int} {p i : Int} (hA : AOk K A) (hK : K + 9 ≤ 30000000) (hp0 : 0 ≤ p) (hp1 : p < A 1) (hi0 : 0 ≤ i) (hi1 : i < A 0) : AOk (K + 9) (trF p i A) := by
  obtain ⟨b0, b1, b2, b3, b4, b5, b6, b8, bK, ba, bp, bq⟩ := id hA
  have h8 := tr_b b8.1 b8.2 hi0 (by omega)
  have hb := ba i hi0 hi1
  have hc := bp p hp0 hp1
  (refine ⟨?_, ?_, ?_, ?_, ?_, ?_, ?_, ?_, ?_, fun x hx0 hx1 => ⟨?_, ?_, ?_⟩, fun x hx0 hx1 => ⟨?_, ?_, ?_, ?_, ?_, ?_⟩, fun x hx0 hx1 => ⟨?_, ?_⟩⟩ <;> simp only [Nat.reduceEqDiff, Nat.add_eq_left, Nat.left_eq_add, Nat.add_left_cancel_iff, Nat.succ_ne_self, Nat.reduceEqDiff, Nat.succ_ne_zero, Int.reduceEq, false_and, and_false, true_and, and_true, if_true, if_false, reduceIte, Int.add_zero, not_true_eq_false, not_false_eq_true, trF, pu, hoA, moA, toA, pA, plA] at * <;> first | omega | (rcases Int.lt_or_le x (A 0) with hxx | hxx); (have := ba x hx0 hxx; omega); omega | (rcases Int.lt_or_le x (A 1) with hxx | hxx); (have := bp x hx0 hxx; omega); omega | (rcases Int.lt_or_le x (A 2) with hxx | hxx); (have := bq x hx0 hxx; omega); omega)
theorem trF_0 {A : Int → Int} {p i j : Int} (hp0 : 0 ≤ p) (h : j < 37) (h8 : ¬ j = 8) : trF p i A j = A j := by
  simp only [trF, pu]; omega
theorem trF_p {A : Int → Int} {p i j : Int} (hp0 : 0 ≤ p) (h : 37 ≤ j) (h8 : ¬ j = 37 + 6 * p + 4) : trF p i A j = A j := by
  simp only [trF, pu]; omega
set_option maxHeartbeats 4000000 in
theorem w_tread {X : Int → Int} {XL : Int} {d : Nat} {h : Mem} {Q : RetP} {K : Int} {A : Int → Int} {v : Nat} {p s : Int} (hd : 1 ≤ d) (hV : Vr K h v A) (hT : VAt h v) (hp0 : 0 ≤ p) (hp1 : p < A 1) (hs : s ≤ A 0) (hK : K + 81 ≤ 30000000) (hq : ∀ h', Vr (K + 81) h' v (foN s (trF p) (pA A p 3) A) → Fr (VP v) h h' → Q none h') : WP X XL d 42 [vR v, vI p, vI s] h Q := by
  have loop : ∀ (k : Nat) (i K' : Int) (B : Int → Int) (h' : Mem), (s - i).toNat = k → 0 ≤ i → (∀ j, j < 37 → ¬ j = 8 → B j = A j) → Vr K' h' v B → VAt h' v → Fr (VP v) h h' → K' + 9 * (s - i) ≤ K + 81 → K' ≤ K + 81 → (∀ h', Vr (K + 81) h' v (foN s (trF p) i B) → Fr (VP v) h h' → Q none h') → Ex (WP X XL (d - 1)) KX7_tread h.1 Q 7 [some (vR v), some (vI p), some (vI s), some (vI i)] [] h' := by
    intro k; induction k with
    | zero =>
      intro i K' B h' hk hi0 hB hV hT fr hK1 hK2 hq
      rw [foN_end (by omega)] at hq
      have k0 := hV.1.1
      have fr1 := fr.1
      (repeat' (first | (refine Ex_step ?_; conv => whnf) | (refine ⟨?_, trivial⟩) | (refine (show den _ _ _ _ _ _ _ _ from ?_); conv => whnf) | (refine ⟨by (first | assumption | rfl | (exact Nat.le_of_ble_eq_true rfl) | (exact ⟨fun h01 => absurd h01 (by decide), by first | rfl | assumption⟩) | (exact ⟨fun _ => by decide, by first | rfl | assumption⟩) | (exact ⟨by assumption, by omega, by omega⟩) | (unfold inI; omega) | omega), ?_⟩; conv => whnf) | (refine ⟨fun c => False.elim (by omega), fun c => ?_⟩) | (refine ⟨fun c => ?_, fun c => False.elim (by omega)⟩) | (refine ⟨fun c => ?_, fun c => ?_⟩) | (intro c) | fail))
      exact hq _ (Vr_K hV hK2 hK) fr
    | succ k ih =>
      intro i K' B h' hk hi0 hB hV hT fr hK1 hK2 hq
      have hB0 := hB 0 (by omega) (by omega)
      have hB1 := hB 1 (by omega) (by omega)
      rw [foN_go (by omega)] at hq
      have hok := trF_ok (p := p) (i := i) hV.2.2 (by omega) hp0 (by omega) hi0 (by omega)
      have hsh := shl1 hi0 (show i ≤ 20 by have := hV.2.2.1; omega)
      have ih2 : ∀ h'', Vr (K' + 9) h'' v (trF p i B) → VAt h'' v → Fr (VP v) h h'' → Ex (WP X XL (d - 1)) KX7_tread h.1 Q 7 [some (vR v), some (vI p), some (vI s), some (vI (i + 1))] [] h'' := fun h'' a b c => ih (i + 1) (K' + 9) (trF p i B) h'' (by omega) (by omega) (fun j hj hj8 => (trF_0 hp0 hj hj8).trans (hB j hj hj8)) a b c (by omega) (by omega) hq
      obtain ⟨⟨k0, ⟨k1, l1⟩, ⟨k2, l2⟩, ⟨k3, l3⟩, ⟨k6, l6⟩, ⟨k7, l7⟩, ⟨k8, l8⟩, ⟨k9, l9⟩, ⟨k10, l10⟩, ⟨k11, l11⟩, ⟨k12, l12⟩, ⟨k14, l14⟩, ⟨k15, l15⟩⟩, ⟨⟨g0, g5, g13, g16, g17, g18, g19, g4⟩, ra, rp, rq⟩, ⟨b0, b1, b2, b3, b4, b5, b6, b8, bK, ba, bp, bq⟩⟩ := id hV
      obtain ⟨t1, t2, t3, t6, t7, t8, t9, t10, t11, t12, t14, t15⟩ := id hT; rw [t1] at k1 l1; rw [t2] at k2 l2; rw [t3] at k3 l3; rw [t6] at k6 l6; rw [t7] at k7 l7; rw [t8] at k8 l8; rw [t9] at k9 l9; rw [t10] at k10 l10; rw [t11] at k11 l11; rw [t12] at k12 l12; rw [t14] at k14 l14; rw [t15] at k15 l15; simp only [t1, t2, t3] at ra; simp only [t7, t8, t9, t10, t11, t12] at rp; simp only [t14, t15] at rq
      have hp2 : p < B 1 := by omega
      obtain ⟨e7, e8, e9, e10, e11, e12⟩ := rp p hp0 hp2
      obtain ⟨f0, f1, f2, f3, f4, f5⟩ := bp p hp0 hp2
      obtain ⟨e1, e2, e3⟩ := ra i hi0 (by omega)
      obtain ⟨fa0, fa1, fa2⟩ := ba i hi0 (by omega)
      have hva : VP v (gR h' v 11) := by rw [t11]; unfold VP; omega
      have hvb : VP v v := by unfold VP; omega
      refine Ex_step ?_
      conv => whnf
      (repeat' (first | (refine ih2 _ ⟨VOk_fr ((Fr.refl.sG hva).sG hvb) hV.1, ?_, hok⟩ (VAt_fr ((Fr.refl.sG hva).sG hvb) hT) (fr.trans ((Fr.refl.sG hva).sG hvb))) | (refine ⟨⟨by omega, by omega, hsh⟩, ?_⟩; conv => whnf) | (refine Ex_step ?_; conv => whnf) | (refine ⟨?_, trivial⟩) | (refine (show den _ _ _ _ _ _ _ _ from ?_); conv => whnf) | (refine ⟨by (first | (first | assumption | rfl | (exact Nat.le_of_ble_eq_true rfl) | (exact ⟨fun h01 => absurd h01 (by decide), by first | rfl | assumption⟩) | (exact ⟨fun _ => by decide, by first | rfl | assumption⟩) | (exact ⟨by assumption, by omega, by omega⟩) | (unfold inI; omega) | omega) | (first | (simp only [gG_sG, gR_sG, kd_sG, ln_sG, ixOk, inI, t1, t2, t3, t6, t7, t8, t9, t10, t11, t12, t14, t15]; done) | (simp only [gG_sG, gR_sG, kd_sG, ln_sG, ixOk, inI, t1, t2, t3, t6, t7, t8, t9, t10, t11, t12, t14, t15]; assumption) | (simp only [gG_sG, gR_sG, kd_sG, ln_sG, ixOk, inI, t1, t2, t3, t6, t7, t8, t9, t10, t11, t12, t14, t15]; omega) | (simp only [gG_sG, gR_sG, kd_sG, ln_sG, ixOk, inI, t1, t2, t3, t6, t7, t8, t9, t10, t11, t12, t14, t15]; exact ⟨by assumption, by omega, by omega⟩))), ?_⟩; conv => whnf) | (refine ⟨fun c => False.elim (by omega), fun c => ?_⟩) | (refine ⟨fun c => ?_, fun c => False.elim (by omega)⟩) | (refine ⟨fun c => ?_, fun c => ?_⟩) | (intro c) | fail))
      (refine ⟨⟨?_, ?_, ?_, ?_, ?_, ?_, ?_, ?_⟩, fun x hx0 hx1 => ⟨?_, ?_, ?_⟩, fun x hx0 hx1 => ⟨?_, ?_, ?_, ?_, ?_, ?_⟩, fun x hx0 hx1 => ⟨?_, ?_⟩⟩ <;> simp only [gG_sG, gR_sG, kd_sG, ln_sG, ixOk, inI, t1, t2, t3, t6, t7, t8, t9, t10, t11, t12, t14, t15, Nat.reduceEqDiff, Nat.add_eq_left, Nat.left_eq_add, Nat.add_left_cancel_iff, Nat.succ_ne_self, Nat.reduceEqDiff, Nat.succ_ne_zero, Int.reduceEq, false_and, and_false, true_and, and_true, if_true, if_false, reduceIte, Int.add_zero, not_true_eq_false, not_false_eq_true, trF, pu, hoA, moA, toA, pA, plA, g0, g5, g13, g16, g17, g18, g19, g4] at * <;> first | omega | (rcases Int.lt_or_le x (B 0) with hxx | hxx); (have := ra x hx0 hxx; omega); omega | (rcases Int.lt_or_le x (B 1) with hxx | hxx); (have := rp x hx0 hxx; omega); omega | (rcases Int.lt_or_le x (B 2) with hxx | hxx); (have := rq x hx0 hxx; omega); omega)
  obtain ⟨⟨k0, ⟨k1, l1⟩, ⟨k2, l2⟩, ⟨k3, l3⟩, ⟨k6, l6⟩, ⟨k7, l7⟩, ⟨k8, l8⟩, ⟨k9, l9⟩, ⟨k10, l10⟩, ⟨k11, l11⟩, ⟨k12, l12⟩, ⟨k14, l14⟩, ⟨k15, l15⟩⟩, ⟨⟨g0, g5, g13, g16, g17, g18, g19, g4⟩, ra, rp, rq⟩, ⟨b0, b1, b2, b3, b4, b5, b6, b8, bK, ba, bp, bq⟩⟩ := id hV
  obtain ⟨t1, t2, t3, t6, t7, t8, t9, t10, t11, t12, t14, t15⟩ := id hT; rw [t1] at k1 l1; rw [t2] at k2 l2; rw [t3] at k3 l3; rw [t6] at k6 l6; rw [t7] at k7 l7; rw [t8] at k8 l8; rw [t9] at k9 l9; rw [t10] at k10 l10; rw [t11] at k11 l11; rw [t12] at k12 l12; rw [t14] at k14 l14; rw [t15] at k15 l15; simp only [t1, t2, t3] at ra; simp only [t7, t8, t9, t10, t11, t12] at rp; simp only [t14, t15] at rq
  obtain ⟨e7, e8, e9, e10, e11, e12⟩ := rp p hp0 hp1; obtain ⟨f0, f1, f2, f3, f4, f5⟩ := bp p hp0 hp1
  refine eX7_tread (by omega) ?_
  have e10' : gG h (gR h v 10) p = pA A p 3 := by rw [t10]; exact e10
  rw [← e10'] at hq
  refine Ex_step ?_
  conv => whnf
  (repeat' (first | (exact loop _ (gG h (gR h v 10) p) K A h rfl (by omega) (fun _ _ _ => rfl) hV hT Fr.refl (by omega) (by omega) hq) | (refine Ex_step ?_; conv => whnf) | (refine ⟨?_, trivial⟩) | (refine (show den _ _ _ _ _ _ _ _ from ?_); conv => whnf) | (refine ⟨by (first | (first | assumption | rfl | (exact Nat.le_of_ble_eq_true rfl) | (exact ⟨fun h01 => absurd h01 (by decide), by first | rfl | assumption⟩) | (exact ⟨fun _ => by decide, by first | rfl | assumption⟩) | (exact ⟨by assumption, by omega, by omega⟩) | (unfold inI; omega) | omega) | (first | (simp only [gG_sG, gR_sG, kd_sG, ln_sG, ixOk, inI, t1, t2, t3, t6, t7, t8, t9, t10, t11, t12, t14, t15]; done) | (simp only [gG_sG, gR_sG, kd_sG, ln_sG, ixOk, inI, t1, t2, t3, t6, t7, t8, t9, t10, t11, t12, t14, t15]; assumption) | (simp only [gG_sG, gR_sG, kd_sG, ln_sG, ixOk, inI, t1, t2, t3, t6, t7, t8, t9, t10, t11, t12, t14, t15]; omega) | (simp only [gG_sG, gR_sG, kd_sG, ln_sG, ixOk, inI, t1, t2, t3, t6, t7, t8, t9, t10, t11, t12, t14, t15]; exact ⟨by assumption, by omega, by omega⟩))), ?_⟩; conv => whnf) | (refine ⟨fun c => False.elim (by omega), fun c => ?_⟩) | (refine ⟨fun c => ?_, fun c => False.elim (by omega)⟩) | (refine ⟨fun c => ?_, fun c => ?_⟩) | (intro c) | fail))
def lanA (A : Int → Int) (p s : Int) : Int → Int := pu (pu A (37 + 6 * p + 3) (aft A s (pA A p 1))) (37 + 6 * p + 5) (pA A p 5 + if aft A s (pA A p 1) < s then 1 else 0)
theorem aft_b {A : Int → Int} {s db : Int} (h0 : 0 ≤ A 3) (h1 : 0 ≤ s) (h2 : s ≤ A 0) : 0 ≤ aft A s db ∧ aft A s db ≤ A 0 := by unfold aft; split <;> omega
theorem lan_ok {K : Int} {A : Int → Int} {p s : Int} (hA : AOk K A) (hK : K + 1 ≤ 30000000) (hp0 : 0 ≤ p) (hp1 : p < A 1) (hs0 : 0 ≤ s) (hs : s ≤ A 0) : AOk (K + 1) (lanA A p s) := by
  obtain ⟨b0, b1, b2, b3, b4, b5, b6, b8, bK, ba, bp, bq⟩ := id hA
  have hb := bp p hp0 hp1
  have hc := aft_b (db := pA A p 1) b3.1 hs0 hs
  (refine ⟨?_, ?_, ?_, ?_, ?_, ?_, ?_, ?_, ?_, fun x hx0 hx1 => ⟨?_, ?_, ?_⟩, fun x hx0 hx1 => ⟨?_, ?_, ?_, ?_, ?_, ?_⟩, fun x hx0 hx1 => ⟨?_, ?_⟩⟩ <;> simp only [Nat.reduceEqDiff, Nat.add_eq_left, Nat.left_eq_add, Nat.add_left_cancel_iff, Nat.succ_ne_self, Nat.reduceEqDiff, Nat.succ_ne_zero, Int.reduceEq, false_and, and_false, true_and, and_true, if_true, if_false, reduceIte, Int.add_zero, not_true_eq_false, not_false_eq_true, lanA, pu, hoA, moA, toA, pA, plA] at * <;> first | omega | (rcases Int.lt_or_le x (A 0) with hxx | hxx); (have := ba x hx0 hxx; omega); omega | (rcases Int.lt_or_le x (A 1) with hxx | hxx); (have := bp x hx0 hxx; omega); omega | (rcases Int.lt_or_le x (A 2) with hxx | hxx); (have := bq x hx0 hxx; omega); omega)
theorem lan_f {A : Int → Int} {p s : Int} (h : s ≤ aft A s (pA A p 1)) : lanA A p s = pu A (37 + 6 * p + 3) (aft A s (pA A p 1)) := by
  funext j
  simp only [lanA, pu]
  rw [if_neg (show ¬ aft A s (pA A p 1) < s by omega)]
  by_cases hj : j = 37 + 6 * p + 5
  · rw [if_pos hj, if_neg (by omega), hj]
    exact Int.add_zero _
  · rw [if_neg hj]
set_option maxHeartbeats 4000000 in
theorem w_land {X : Int → Int} {XL : Int} {d : Nat} {h : Mem} {Q : RetP} {K : Int} {A : Int → Int} {v : Nat} {p s : Int} (hd : 2 ≤ d) (hV : Vr K h v A) (hT : VAt h v) (hp0 : 0 ≤ p) (hp1 : p < A 1) (hs0 : 0 ≤ s) (hs : s ≤ A 0) (hK : K + 1 ≤ 30000000) (hq : ∀ h', Vr (K + 1) h' v (lanA A p s) → Fr (VP v) h h' → Q none h') : WP X XL d 43 [vR v, vI p, vI s] h Q := by
  obtain ⟨⟨k0, ⟨k1, l1⟩, ⟨k2, l2⟩, ⟨k3, l3⟩, ⟨k6, l6⟩, ⟨k7, l7⟩, ⟨k8, l8⟩, ⟨k9, l9⟩, ⟨k10, l10⟩, ⟨k11, l11⟩, ⟨k12, l12⟩, ⟨k14, l14⟩, ⟨k15, l15⟩⟩, ⟨⟨g0, g5, g13, g16, g17, g18, g19, g4⟩, ra, rp, rq⟩, ⟨b0, b1, b2, b3, b4, b5, b6, b8, bK, ba, bp, bq⟩⟩ := id hV
  obtain ⟨t1, t2, t3, t6, t7, t8, t9, t10, t11, t12, t14, t15⟩ := id hT; rw [t1] at k1 l1; rw [t2] at k2 l2; rw [t3] at k3 l3; rw [t6] at k6 l6; rw [t7] at k7 l7; rw [t8] at k8 l8; rw [t9] at k9 l9; rw [t10] at k10 l10; rw [t11] at k11 l11; rw [t12] at k12 l12; rw [t14] at k14 l14; rw [t15] at k15 l15; simp only [t1, t2, t3] at ra; simp only [t7, t8, t9, t10, t11, t12] at rp; simp only [t14, t15] at rq
  obtain ⟨e7, e8, e9, e10, e11, e12⟩ := rp p hp0 hp1; obtain ⟨f0, f1, f2, f3, f4, f5⟩ := bp p hp0 hp1
  have hc := aft_b (db := pA A p 1) b3.1 hs0 hs
  have hok := lan_ok hV.2.2 hK hp0 hp1 hs0 hs
  refine eX7_land (by omega) ?_
  (repeat' (first | (refine w_afterFall (by omega) hV ?_) | (refine Ex_step ?_; conv => whnf) | (refine ⟨?_, trivial⟩) | (refine (show den _ _ _ _ _ _ _ _ from ?_); conv => whnf) | (refine ⟨by (first | (first | assumption | rfl | (exact Nat.le_of_ble_eq_true rfl) | (exact ⟨fun h01 => absurd h01 (by decide), by first | rfl | assumption⟩) | (exact ⟨fun _ => by decide, by first | rfl | assumption⟩) | (exact ⟨by assumption, by omega, by omega⟩) | (unfold inI; omega) | omega) | (first | (simp only [gG_sG, gR_sG, kd_sG, ln_sG, ixOk, inI, t1, t2, t3, t6, t7, t8, t9, t10, t11, t12, t14, t15]; done) | (simp only [gG_sG, gR_sG, kd_sG, ln_sG, ixOk, inI, t1, t2, t3, t6, t7, t8, t9, t10, t11, t12, t14, t15]; assumption) | (simp only [gG_sG, gR_sG, kd_sG, ln_sG, ixOk, inI, t1, t2, t3, t6, t7, t8, t9, t10, t11, t12, t14, t15]; omega) | (simp only [gG_sG, gR_sG, kd_sG, ln_sG, ixOk, inI, t1, t2, t3, t6, t7, t8, t9, t10, t11, t12, t14, t15]; exact ⟨by assumption, by omega, by omega⟩))), ?_⟩; conv => whnf) | (refine ⟨fun c => False.elim (by omega), fun c => ?_⟩) | (refine ⟨fun c => ?_, fun c => False.elim (by omega)⟩) | (refine ⟨fun c => ?_, fun c => ?_⟩) | (intro c) | fail))
  · have hle : s ≤ aft A s (pA A p 1) := by
      simp only [gG_sG, gR_sG, kd_sG, ln_sG, ixOk, inI, t1, t2, t3, t6, t7, t8, t9, t10, t11, t12, t14, t15, Nat.reduceEqDiff, Nat.add_eq_left, Nat.left_eq_add, Nat.add_left_cancel_iff, Nat.succ_ne_self, Nat.reduceEqDiff, Nat.succ_ne_zero, Int.reduceEq, false_and, and_false, true_and, and_true, if_true, if_false, reduceIte, Int.add_zero, not_true_eq_false, not_false_eq_true] at c
      rw [e8] at c
      exact c
    rw [lan_f hle] at hq hok
    simp only [gG_sG, gR_sG, kd_sG, ln_sG, ixOk, inI, t1, t2, t3, t6, t7, t8, t9, t10, t11, t12, t14, t15, Nat.reduceEqDiff, Nat.add_eq_left, Nat.left_eq_add, Nat.add_left_cancel_iff, Nat.succ_ne_self, Nat.reduceEqDiff, Nat.succ_ne_zero, Int.reduceEq, false_and, and_false, true_and, and_true, if_true, if_false, reduceIte, Int.add_zero, not_true_eq_false, not_false_eq_true]
    refine (fun (fr : Fr (VP v) h _) => hq _ ⟨VOk_fr fr hV.1, ?_, hok⟩ fr) ?_
    · clear hq hok; (refine ⟨⟨?_, ?_, ?_, ?_, ?_, ?_, ?_, ?_⟩, fun x hx0 hx1 => ⟨?_, ?_, ?_⟩, fun x hx0 hx1 => ⟨?_, ?_, ?_, ?_, ?_, ?_⟩, fun x hx0 hx1 => ⟨?_, ?_⟩⟩ <;> simp only [gG_sG, gR_sG, kd_sG, ln_sG, ixOk, inI, t1, t2, t3, t6, t7, t8, t9, t10, t11, t12, t14, t15, Nat.reduceEqDiff, Nat.add_eq_left, Nat.left_eq_add, Nat.add_left_cancel_iff, Nat.succ_ne_self, Nat.reduceEqDiff, Nat.succ_ne_zero, Int.reduceEq, false_and, and_false, true_and, and_true, if_true, if_false, reduceIte, Int.add_zero, not_true_eq_false, not_false_eq_true, e8, pu, hoA, moA, toA, pA, plA, g0, g5, g13, g16, g17, g18, g19, g4] at * <;> first | omega | (rcases Int.lt_or_le x (A 0) with hxx | hxx); (have := ra x hx0 hxx; omega); omega | (rcases Int.lt_or_le x (A 1) with hxx | hxx); (have := rp x hx0 hxx; omega); omega | (rcases Int.lt_or_le x (A 2) with hxx | hxx); (have := rq x hx0 hxx; omega); omega)
    · exact Fr.refl.sG (by unfold VP; omega)
  · simp only [gG_sG, gR_sG, kd_sG, ln_sG, ixOk, inI, t1, t2, t3, t6, t7, t8, t9, t10, t11, t12, t14, t15, Nat.reduceEqDiff, Nat.add_eq_left, Nat.left_eq_add, Nat.add_left_cancel_iff, Nat.succ_ne_self, Nat.reduceEqDiff, Nat.succ_ne_zero, Int.reduceEq, false_and, and_false, true_and, and_true, if_true, if_false, reduceIte, Int.add_zero, not_true_eq_false, not_false_eq_true]
    refine (fun (fr : Fr (VP v) h _) => hq _ ⟨VOk_fr fr hV.1, ?_, hok⟩ fr) ?_
    · (refine ⟨⟨?_, ?_, ?_, ?_, ?_, ?_, ?_, ?_⟩, fun x hx0 hx1 => ⟨?_, ?_, ?_⟩, fun x hx0 hx1 => ⟨?_, ?_, ?_, ?_, ?_, ?_⟩, fun x hx0 hx1 => ⟨?_, ?_⟩⟩ <;> simp only [gG_sG, gR_sG, kd_sG, ln_sG, ixOk, inI, t1, t2, t3, t6, t7, t8, t9, t10, t11, t12, t14, t15, Nat.reduceEqDiff, Nat.add_eq_left, Nat.left_eq_add, Nat.add_left_cancel_iff, Nat.succ_ne_self, Nat.reduceEqDiff, Nat.succ_ne_zero, Int.reduceEq, false_and, and_false, true_and, and_true, if_true, if_false, reduceIte, Int.add_zero, not_true_eq_false, not_false_eq_true, lanA, e8, pu, hoA, moA, toA, pA, plA, g0, g5, g13, g16, g17, g18, g19, g4] at * <;> first | omega | (rcases Int.lt_or_le x (A 0) with hxx | hxx); (have := ra x hx0 hxx; omega); omega | (rcases Int.lt_or_le x (A 1) with hxx | hxx); (have := rp x hx0 hxx; omega); omega | (rcases Int.lt_or_le x (A 2) with hxx | hxx); (have := rq x hx0 hxx; omega); omega)
    · exact (Fr.refl.sG (by unfold VP; omega)).sG (by unfold VP; omega)
def runS (A : Int → Int) (p : Int) : Int := stN (A 0) (okBy A p (pA A p 1) (A 4)) (pA A p 3)
/-- what becomes of all when one runs -/
def runA (A : Int → Int) (p : Int) : Int → Int := lanA (foN (runS A p) (trF p) (pA A p 3) A) p (runS A p)
theorem foF_0 {p s : Int} (hp0 : 0 ≤ p) : ∀ (k : Nat) (i : Int) (A : Int → Int), (s - i).toNat = k → (∀ j, j < 37 → ¬ j = 8 → foN s (trF p) i A j = A j) ∧ (∀ j, 37 ≤ j → ¬ j = 37 + 6 * p + 4 → foN s (trF p) i A j = A j) := by
  intro k; induction k with
  | zero => intro i A hk; rw [foN_end (by omega)]; exact ⟨fun _ _ _ => rfl, fun _ _ _ => rfl⟩
  | succ k ih =>
    intro i A hk
    rw [foN_go (by omega)]
    obtain ⟨q1, q2⟩ := ih (i + 1) (trF p i A) (by omega)
    exact ⟨fun j a b => (q1 j a b).trans (trF_0 hp0 a b), fun j a b => (q2 j a b).trans (trF_p hp0 a b)⟩
set_option maxHeartbeats 4000000 in
theorem w_letRun {X : Int → Int} {XL : Int} {d : Nat} {h : Mem} {Q : RetP} {K : Int} {A : Int → Int} {v : Nat} {p : Int} (hd : 4 ≤ d) (hV : Vr K h v A) (hT : VAt h v) (hp0 : 0 ≤ p) (hp1 : p < A 1) (hK : K + 82 ≤ 30000000) (hq0 : A 0 ≤ pA A p 3 → Q (some (vI (-1))) h) (hq1 : pA A p 3 < A 0 → ∀ h', Vr (K + 82) h' v (runA A p) → Fr (VP v) h h' → Q (some (vI (aft A (runS A p) (pA A p 1)))) h') : WP X XL d 40 [vR v, vI p] h Q := by
  have hbS := stN_rng (n := A 0) (ok := okBy A p (pA A p 1) (A 4)) _ (pA A p 3) rfl (by have := hV.2.2.2.2.2.2.2.2.2.2.2.2.1 p hp0 hp1; omega)
  have hF := foF_0 (s := runS A p) hp0 _ (pA A p 3) A rfl
  have hF0 := hF.1 0 (by omega) (by omega)
  have hF1 := hF.1 1 (by omega) (by omega)
  have hF3 := hF.1 3 (by omega) (by omega)
  have hFd := hF.2 (37 + 6 * p + 1) (by omega) (by omega)
  obtain ⟨⟨k0, ⟨k1, l1⟩, ⟨k2, l2⟩, ⟨k3, l3⟩, ⟨k6, l6⟩, ⟨k7, l7⟩, ⟨k8, l8⟩, ⟨k9, l9⟩, ⟨k10, l10⟩, ⟨k11, l11⟩, ⟨k12, l12⟩, ⟨k14, l14⟩, ⟨k15, l15⟩⟩, ⟨⟨g0, g5, g13, g16, g17, g18, g19, g4⟩, ra, rp, rq⟩, ⟨b0, b1, b2, b3, b4, b5, b6, b8, bK, ba, bp, bq⟩⟩ := id hV
  obtain ⟨t1, t2, t3, t6, t7, t8, t9, t10, t11, t12, t14, t15⟩ := id hT; rw [t1] at k1 l1; rw [t2] at k2 l2; rw [t3] at k3 l3; rw [t6] at k6 l6; rw [t7] at k7 l7; rw [t8] at k8 l8; rw [t9] at k9 l9; rw [t10] at k10 l10; rw [t11] at k11 l11; rw [t12] at k12 l12; rw [t14] at k14 l14; rw [t15] at k15 l15; simp only [t1, t2, t3] at ra; simp only [t7, t8, t9, t10, t11, t12] at rp; simp only [t14, t15] at rq
  obtain ⟨e7, e8, e9, e10, e11, e12⟩ := rp p hp0 hp1; obtain ⟨f0, f1, f2, f3, f4, f5⟩ := bp p hp0 hp1
  have hbS : pA A p 3 ≤ runS A p ∧ runS A p ≤ A 0 := hbS
  have haf : aft (foN (runS A p) (trF p) (pA A p 3) A) (runS A p) (pA A p 1) = aft A (runS A p) (pA A p 1) := by unfold aft; rw [hF0, hF3]
  unfold runS at *
  refine eX7_letRun (by omega) ?_
  have e10' : gG h (gR h v 10) p = pA A p 3 := by rw [t10]; exact e10
  have e8' : gG h (gR h v 8) p = pA A p 1 := by rw [t8]; exact e8
  (repeat' (first | (refine w_isOver (by omega) hV hp0 hp1 (fun c => ?_) (fun c => ?_)) | (rw [e10', e8', g17]; refine w_stopBy (by omega) hV hp0 hp1 (by omega) (by omega) (by omega) ?_) | (refine w_tread (by omega) hV hT hp0 hp1 (by omega) (by omega) (fun h' hV' fr => ?_); have k0' := hV'.1.1) | (refine w_land (by omega) hV' (VAt_fr fr hT) hp0 (by omega) (by omega) (by omega) (by omega) (fun h2 hV2 fr2 => ?_); have k02 := hV2.1.1; obtain ⟨k102, l102⟩ := hV2.1.2.2.2.2.2.2.2.2.1; have f1 : h2.1 = h.1 := fr2.1.trans fr.1) | (refine Ex_step ?_; conv => whnf) | (refine ⟨?_, trivial⟩) | (refine (show den _ _ _ _ _ _ _ _ from ?_); conv => whnf) | (refine ⟨by (first | (first | assumption | rfl | (exact Nat.le_of_ble_eq_true rfl) | (exact ⟨fun h01 => absurd h01 (by decide), by first | rfl | assumption⟩) | (exact ⟨fun _ => by decide, by first | rfl | assumption⟩) | (exact ⟨by assumption, by omega, by omega⟩) | (unfold inI; omega) | omega) | (first | (simp only [gG_sG, gR_sG, kd_sG, ln_sG, ixOk, inI, t1, t2, t3, t6, t7, t8, t9, t10, t11, t12, t14, t15]; done) | (simp only [gG_sG, gR_sG, kd_sG, ln_sG, ixOk, inI, t1, t2, t3, t6, t7, t8, t9, t10, t11, t12, t14, t15]; assumption) | (simp only [gG_sG, gR_sG, kd_sG, ln_sG, ixOk, inI, t1, t2, t3, t6, t7, t8, t9, t10, t11, t12, t14, t15]; omega) | (simp only [gG_sG, gR_sG, kd_sG, ln_sG, ixOk, inI, t1, t2, t3, t6, t7, t8, t9, t10, t11, t12, t14, t15]; exact ⟨by assumption, by omega, by omega⟩))), ?_⟩; conv => whnf) | (refine ⟨fun c => False.elim (by omega), fun c => ?_⟩) | (refine ⟨fun c => ?_, fun c => False.elim (by omega)⟩) | (refine ⟨fun c => ?_, fun c => ?_⟩) | (intro c) | fail))
  · exact hq0 (by omega)
  · refine fin1 ?_ (hq1 (by omega) h2 (Vr_K hV2 (by omega) (by omega)) (fr.trans fr2))
    have hP : lanA (foN (stN (A 0) (okBy A p (pA A p 1) (A 4)) (pA A p 3)) (trF p) (pA A p 3) A) p (stN (A 0) (okBy A p (pA A p 1) (A 4)) (pA A p 3)) 1 = A 1 := by
      simp only [lanA, pu]; rw [if_neg (by omega), if_neg (by omega)]; exact hF1
    rw [(hV2.2.1.2.2.1 p hp0 (by omega)).2.2.2.1, ← haf]
    unfold pA at hFd ⊢
    simp only [lanA, pu, pA]
    rw [if_neg (by omega), if_pos trivial, hFd]
def ropS (A : Int → Int) (p o : Int) : Int := stN (A 0) (okRo A p o) (pA A p 3)
/-- what becomes of all when two run with a rope -/
def ropA (A : Int → Int) (p o : Int) : Int → Int := lanA (lanA (foN (ropS A p o) (trF p) (pA A p 3) A) p (ropS A p o)) o (ropS A p o)
theorem lan_0 {A : Int → Int} {p s j : Int} (hp0 : 0 ≤ p) (hj : j < 37) : lanA A p s j = A j := by
  simp only [lanA, pu]; rw [if_neg (by omega), if_neg (by omega)]
set_option maxHeartbeats 4000000 in
theorem w_letRope {X : Int → Int} {XL : Int} {d : Nat} {h : Mem} {Q : RetP} {K : Int} {A : Int → Int} {v : Nat} {p o : Int} (hd : 4 ≤ d) (hV : Vr K h v A) (hT : VAt h v) (hp0 : 0 ≤ p) (hp1 : p < A 1) (ho0 : 0 ≤ o) (ho1 : o < A 1) (hK : K + 83 ≤ 30000000) (hq0 : p = o ∨ ¬ pA A p 3 = pA A o 3 ∨ A 0 ≤ pA A p 3 → Q (some (vI (-1))) h) (hq1 : ¬ p = o → pA A p 3 = pA A o 3 → pA A p 3 < A 0 → ∀ h', Vr (K + 83) h' v (ropA A p o) → Fr (VP v) h h' → Q (some (vI (ropS A p o - pA A p 3))) h') : WP X XL d 41 [vR v, vI p, vI o] h Q := by
  have hbS := stN_rng (n := A 0) (ok := okRo A p o) _ (pA A p 3) rfl (by have := hV.2.2.2.2.2.2.2.2.2.2.2.2.1 p hp0 hp1; omega)
  have hF := foF_0 (s := ropS A p o) hp0 _ (pA A p 3) A rfl
  have hF0 := hF.1 0 (by omega) (by omega)
  have hF1 := hF.1 1 (by omega) (by omega)
  have hG0 := (lan_0 (A := foN (ropS A p o) (trF p) (pA A p 3) A) (p := p) (s := ropS A p o) (j := 0) hp0 (by omega)).trans hF0
  have hG1 := (lan_0 (A := foN (ropS A p o) (trF p) (pA A p 3) A) (p := p) (s := ropS A p o) (j := 1) hp0 (by omega)).trans hF1
  obtain ⟨⟨k0, ⟨k1, l1⟩, ⟨k2, l2⟩, ⟨k3, l3⟩, ⟨k6, l6⟩, ⟨k7, l7⟩, ⟨k8, l8⟩, ⟨k9, l9⟩, ⟨k10, l10⟩, ⟨k11, l11⟩, ⟨k12, l12⟩, ⟨k14, l14⟩, ⟨k15, l15⟩⟩, ⟨⟨g0, g5, g13, g16, g17, g18, g19, g4⟩, ra, rp, rq⟩, ⟨b0, b1, b2, b3, b4, b5, b6, b8, bK, ba, bp, bq⟩⟩ := id hV
  obtain ⟨t1, t2, t3, t6, t7, t8, t9, t10, t11, t12, t14, t15⟩ := id hT; rw [t1] at k1 l1; rw [t2] at k2 l2; rw [t3] at k3 l3; rw [t6] at k6 l6; rw [t7] at k7 l7; rw [t8] at k8 l8; rw [t9] at k9 l9; rw [t10] at k10 l10; rw [t11] at k11 l11; rw [t12] at k12 l12; rw [t14] at k14 l14; rw [t15] at k15 l15; simp only [t1, t2, t3] at ra; simp only [t7, t8, t9, t10, t11, t12] at rp; simp only [t14, t15] at rq
  obtain ⟨e7, e8, e9, e10, e11, e12⟩ := rp p hp0 hp1; obtain ⟨f0, f1, f2, f3, f4, f5⟩ := bp p hp0 hp1
  obtain ⟨o7, o8, o9, o10, o11, o12⟩ := rp o ho0 ho1; obtain ⟨fo0, fo1, fo2, fo3, fo4, fo5⟩ := bp o ho0 ho1
  have hbS : pA A p 3 ≤ ropS A p o ∧ ropS A p o ≤ A 0 := hbS
  unfold ropS at *
  refine eX7_letRope (by omega) ?_
  have e10' : gG h (gR h v 10) p = pA A p 3 := by rw [t10]; exact e10
  have o10' : gG h (gR h v 10) o = pA A o 3 := by rw [t10]; exact o10
  (repeat' (first | (refine w_isOver (by omega) hV hp0 hp1 (fun c => ?_) (fun c => ?_)) | (rw [e10']; refine w_stopRoped (by omega) hV hp0 hp1 ho0 ho1 (by omega) ?_) | (refine w_tread (by omega) hV hT hp0 hp1 (by omega) (by omega) (fun h' hV' fr => ?_); have k0' := hV'.1.1) | (refine w_land (by omega) hV' (VAt_fr fr hT) hp0 (by omega) (by omega) (by omega) (by omega) (fun h2 hV2 fr2 => ?_); have k02 := hV2.1.1; have f1 : h2.1 = h.1 := fr2.1.trans fr.1) | (refine w_land (by omega) hV2 (VAt_fr (fr.trans fr2) hT) ho0 (by omega) (by omega) (by omega) (by omega) (fun h3 hV3 fr3 => ?_); have k03 := hV3.1.1; have f3 : h3.1 = h.1 := fr3.1.trans f1) | (refine Ex_step ?_; conv => whnf) | (refine ⟨?_, trivial⟩) | (refine (show den _ _ _ _ _ _ _ _ from ?_); conv => whnf) | (refine ⟨by (first | (first | assumption | rfl | (exact Nat.le_of_ble_eq_true rfl) | (exact ⟨fun h01 => absurd h01 (by decide), by first | rfl | assumption⟩) | (exact ⟨fun _ => by decide, by first | rfl | assumption⟩) | (exact ⟨by assumption, by omega, by omega⟩) | (unfold inI; omega) | omega) | (first | (simp only [gG_sG, gR_sG, kd_sG, ln_sG, ixOk, inI, t1, t2, t3, t6, t7, t8, t9, t10, t11, t12, t14, t15]; done) | (simp only [gG_sG, gR_sG, kd_sG, ln_sG, ixOk, inI, t1, t2, t3, t6, t7, t8, t9, t10, t11, t12, t14, t15]; assumption) | (simp only [gG_sG, gR_sG, kd_sG, ln_sG, ixOk, inI, t1, t2, t3, t6, t7, t8, t9, t10, t11, t12, t14, t15]; omega) | (simp only [gG_sG, gR_sG, kd_sG, ln_sG, ixOk, inI, t1, t2, t3, t6, t7, t8, t9, t10, t11, t12, t14, t15]; exact ⟨by assumption, by omega, by omega⟩))), ?_⟩; conv => whnf) | (refine ⟨fun c => False.elim (by omega), fun c => ?_⟩) | (refine ⟨fun c => ?_, fun c => False.elim (by omega)⟩) | (refine ⟨fun c => ?_, fun c => ?_⟩) | (intro c) | fail))
  all_goals first | (exact hq0 (by omega)) | skip
  exact hq1 (by assumption) (by omega) (by omega) h3 (Vr_K hV3 (by omega) (by omega)) ((fr.trans fr2).trans fr3)
