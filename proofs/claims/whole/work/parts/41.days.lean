/-! LEVEL 2: the class's Viaduct: days -/
def dyF (T : Int) (n : Int) : Int → (Int → Int) → Int → Int := fun i A => pu A (10 + 3 * i + 1) (msA (pu A 8 T) i n)
/-- what becomes of all in so many days -/
def dayA (A : Int → Int) (n : Int) : Int → Int := fun j => if j = 8 then 0 else if j = 6 then A 6 + n else if 10 ≤ j ∧ j < 10 + 3 * A 0 ∧ (j - 10) % 3 = 1 then msA A ((j - 10) / 3) n else A j
def midA (A : Int → Int) (n i : Int) : Int → Int := fun j => if 10 ≤ j ∧ j < 10 + 3 * i ∧ (j - 10) % 3 = 1 then msA A ((j - 10) / 3) n else A j
theorem day_ok {K : Int} {A : Int → Int} {n : Int} (hA : AOk K A) (h0 : 0 ≤ n) (h1 : A 6 + n ≤ 20000) : AOk K (dayA A n) := by
  have hms : ∀ a, 0 ≤ a → a < A 0 → 0 ≤ msA A a n ∧ msA A a n ≤ 9 := fun a => msA_b hA
  obtain ⟨b0, b1, b2, b3, b4, b5, b6, b8, bK, ba, bp, bq⟩ := id hA
  refine ⟨?_, ?_, ?_, ?_, ?_, ?_, ?_, ?_, ?_, fun x hx0 hx1 => ⟨?_, ?_, ?_⟩, fun x hx0 hx1 => ⟨?_, ?_, ?_, ?_, ?_, ?_⟩, fun x hx0 hx1 => ⟨?_, ?_⟩⟩
  all_goals simp only [Nat.reduceEqDiff, Nat.add_eq_left, Nat.left_eq_add, Nat.add_left_cancel_iff, Nat.succ_ne_self, Nat.reduceEqDiff, Nat.succ_ne_zero, Int.reduceEq, false_and, and_false, true_and, and_true, if_true, if_false, reduceIte, Int.add_zero, not_true_eq_false, not_false_eq_true, dayA, hoA, moA, toA, pA, plA] at *
  all_goals first | omega | skip
  · have := ba x hx0 (by omega); omega
  · rw [if_neg (by omega), if_neg (by omega), if_pos (by omega), show (10 + 3 * x + 1 - 10) / 3 = x by omega]
    exact hms x hx0 (by omega)
  · have := ba x hx0 (by omega); omega
  all_goals first | (have := bp x hx0 (by omega); omega) | (have := bq x hx0 (by omega); omega)
theorem mid_ok {K : Int} {A : Int → Int} {n i : Int} (hA : AOk K A) (h0 : 0 ≤ n) (hi : i ≤ A 0) : AOk K (midA A n i) := by
  have hms : ∀ a, 0 ≤ a → a < A 0 → 0 ≤ msA A a n ∧ msA A a n ≤ 9 := fun a => msA_b hA
  obtain ⟨b0, b1, b2, b3, b4, b5, b6, b8, bK, ba, bp, bq⟩ := id hA
  refine ⟨?_, ?_, ?_, ?_, ?_, ?_, ?_, ?_, ?_, fun x hx0 hx1 => ⟨?_, ?_, ?_⟩, fun x hx0 hx1 => ⟨?_, ?_, ?_, ?_, ?_, ?_⟩, fun x hx0 hx1 => ⟨?_, ?_⟩⟩
  all_goals simp only [Nat.reduceEqDiff, Nat.add_eq_left, Nat.left_eq_add, Nat.add_left_cancel_iff, Nat.succ_ne_self, Nat.reduceEqDiff, Nat.succ_ne_zero, Int.reduceEq, false_and, and_false, true_and, and_true, if_true, if_false, reduceIte, Int.add_zero, not_true_eq_false, not_false_eq_true, midA, hoA, moA, toA, pA, plA] at *
  all_goals first | omega | skip
  · have := ba x hx0 (by omega); omega
  · by_cases hx : x < i
    · rw [if_pos (by omega), show (10 + 3 * x + 1 - 10) / 3 = x by omega]
      exact hms x hx0 (by omega)
    · rw [if_neg (by omega)]
      exact (ba x hx0 (by omega)).2.1
  · have := ba x hx0 (by omega); omega
  all_goals first | (have := bp x hx0 (by omega); omega) | (have := bq x hx0 (by omega); omega)
theorem mid_s {A : Int → Int} {n i : Int} (hi : 0 ≤ i) : midA A n (i + 1) = pu (midA A n i) (10 + 3 * i + 1) (msA A i n) := by
  funext j
  simp only [midA, pu]
  by_cases hj : j = 10 + 3 * i + 1
  · subst hj
    rw [if_pos (by omega), if_pos rfl, show (10 + 3 * i + 1 - 10) / 3 = i by omega]
  · rw [if_neg hj]
    by_cases hc : 10 ≤ j ∧ j < 10 + 3 * i ∧ (j - 10) % 3 = 1
    · rw [if_pos hc, if_pos (by omega)]
    · rw [if_neg hc, if_neg (by omega)]
theorem mid_l {A : Int → Int} {n i j : Int} (hj : j < 10) : midA A n i j = A j := by
  unfold midA
  rw [if_neg (by omega)]
theorem mid_ms {A : Int → Int} {n i : Int} (hi : 0 ≤ i) : msA (midA A n i) i n = msA A i n := by
  have e1 : moA (midA A n i) i = moA A i := by unfold moA midA; rw [if_neg (by omega)]
  unfold msA
  rw [e1, mid_l (show (8 : Int) < 10 by omega)]
theorem mid_0 {A : Int → Int} {n : Int} : midA A n 0 = A := by
  funext j
  unfold midA
  rw [if_neg (by omega)]
theorem day_mid {A : Int → Int} {n : Int} : dayA A n = pu (pu (midA A n (A 0)) 8 0) 6 (A 6 + n) := by
  funext j
  unfold dayA midA pu
  by_cases h1 : j = 8
  · rw [if_pos h1, if_neg (by omega), if_pos h1]
  · rw [if_neg h1]
    by_cases h2 : j = 6
    · rw [if_pos h2, if_pos h2]
    · rw [if_neg h2, if_neg h2, if_neg h1]
def dyS (A : Int → Int) (n i s : Int) : Int := foN (A 0) (fun a s => s + msA A a n) i s
theorem fin2 {C : Cal} {K : List (Nat × List OpI)} {S : List (Nat × Nat)} {Q : RetP} {pc : Nat} {lo lo' : Lo} {st : List MV} {h : Mem} (e : lo = lo') (q : Ex C K S Q pc lo' st h) : Ex C K S Q pc lo st h := e ▸ q
set_option maxHeartbeats 4000000 in
theorem w_passDays {X : Int → Int} {XL : Int} {d : Nat} {h : Mem} {Q : RetP} {K : Int} {A : Int → Int} {v : Nat} {n : Int} (hd : 3 ≤ d) (hV : Vr K h v A) (hT : VAt h v) (hn0 : 0 ≤ n) (hn1 : n ≤ 100) (hq0 : 9999 < A 6 + n → Q (some (vI (-1))) h) (hq1 : A 6 + n ≤ 9999 → ∀ h', Vr K h' v (dayA A n) → Fr (VP v) h h' → Q (some (vI (dyS A n 0 0))) h') : WP X XL d 48 [vR v, vI n] h Q := by
  have loop : A 6 + n ≤ 9999 → ∀ (k : Nat) (i s : Int) (h' : Mem), (A 0 - i).toNat = k → 0 ≤ i → i ≤ A 0 → 0 ≤ s → s ≤ 9 * i → Vr K h' v (midA A n i) → VAt h' v → Fr (VP v) h h' → (∀ h', Vr K h' v (dayA A n) → Fr (VP v) h h' → Q (some (vI (dyS A n i s))) h') → Ex (WP X XL (d - 1)) KX7_passDays h.1 Q 18 [some (vR v), some (vI n), some (vI s), some (vI i)] [] h' := by
    intro hn
    intro k; induction k with
    | zero =>
      intro i s h' hk hi0 hi1 hs0 hs1 hV' hT fr hq
      have hi : i = A 0 := by omega
      subst hi
      have hms := day_ok hV.2.2 hn0 (by omega)
      rw [day_mid] at hq hms
      unfold dyS at hq
      rw [foN_end (by omega)] at hq
      have hm0 := mid_l (A := A) (n := n) (i := A 0) (j := 0) (by omega)
      have hm6 := mid_l (A := A) (n := n) (i := A 0) (j := 6) (by omega)
      generalize midA A n (A 0) = B at *
      have hA6 := hV.2.2.2.2.2.2.2.2.1
      have fr1 := fr.1
      clear hV
      obtain ⟨⟨k0, ⟨k1, l1⟩, ⟨k2, l2⟩, ⟨k3, l3⟩, ⟨k6, l6⟩, ⟨k7, l7⟩, ⟨k8, l8⟩, ⟨k9, l9⟩, ⟨k10, l10⟩, ⟨k11, l11⟩, ⟨k12, l12⟩, ⟨k14, l14⟩, ⟨k15, l15⟩⟩, ⟨⟨g0, g5, g13, g16, g17, g18, g19, g4⟩, ra, rp, rq⟩, ⟨b0, b1, b2, b3, b4, b5, b6, b8, bK, ba, bp, bq⟩⟩ := id hV'
      obtain ⟨t1, t2, t3, t6, t7, t8, t9, t10, t11, t12, t14, t15⟩ := id hT; rw [t1] at k1 l1; rw [t2] at k2 l2; rw [t3] at k3 l3; rw [t6] at k6 l6; rw [t7] at k7 l7; rw [t8] at k8 l8; rw [t9] at k9 l9; rw [t10] at k10 l10; rw [t11] at k11 l11; rw [t12] at k12 l12; rw [t14] at k14 l14; rw [t15] at k15 l15; simp only [t1, t2, t3] at ra; simp only [t7, t8, t9, t10, t11, t12] at rp; simp only [t14, t15] at rq
      (repeat' (first | (refine ⟨by (simp only [gG_sG, inI, Nat.reduceEqDiff, Nat.add_eq_left, Nat.left_eq_add, Nat.add_left_cancel_iff, Nat.succ_ne_self, Nat.reduceEqDiff, Nat.succ_ne_zero, Int.reduceEq, false_and, and_false, true_and, and_true, if_true, if_false, reduceIte, Int.add_zero, not_true_eq_false, not_false_eq_true]; omega), ?_⟩; conv => whnf) | (refine Ex_step ?_; conv => whnf) | (refine ⟨?_, trivial⟩) | (refine (show den _ _ _ _ _ _ _ _ from ?_); conv => whnf) | (refine ⟨by (first | (first | assumption | rfl | (exact Nat.le_of_ble_eq_true rfl) | (exact ⟨fun h01 => absurd h01 (by decide), by first | rfl | assumption⟩) | (exact ⟨fun _ => by decide, by first | rfl | assumption⟩) | (exact ⟨by assumption, by omega, by omega⟩) | (unfold inI; omega) | omega) | (first | (simp only [gG_sG, gR_sG, kd_sG, ln_sG, ixOk, inI, t1, t2, t3, t6, t7, t8, t9, t10, t11, t12, t14, t15]; done) | (simp only [gG_sG, gR_sG, kd_sG, ln_sG, ixOk, inI, t1, t2, t3, t6, t7, t8, t9, t10, t11, t12, t14, t15]; assumption) | (simp only [gG_sG, gR_sG, kd_sG, ln_sG, ixOk, inI, t1, t2, t3, t6, t7, t8, t9, t10, t11, t12, t14, t15]; omega) | (simp only [gG_sG, gR_sG, kd_sG, ln_sG, ixOk, inI, t1, t2, t3, t6, t7, t8, t9, t10, t11, t12, t14, t15, Nat.reduceEqDiff, Nat.add_eq_left, Nat.left_eq_add, Nat.add_left_cancel_iff, Nat.succ_ne_self, Nat.reduceEqDiff, Nat.succ_ne_zero, Int.reduceEq, false_and, and_false, true_and, and_true, if_true, if_false, reduceIte, Int.add_zero, not_true_eq_false, not_false_eq_true]; omega) | (simp only [gG_sG, gR_sG, kd_sG, ln_sG, ixOk, inI, t1, t2, t3, t6, t7, t8, t9, t10, t11, t12, t14, t15]; exact ⟨by assumption, by omega, by omega⟩))), ?_⟩; conv => whnf) | (refine ⟨fun c => False.elim (by omega), fun c => ?_⟩) | (refine ⟨fun c => ?_, fun c => False.elim (by omega)⟩) | (refine ⟨fun c => ?_, fun c => ?_⟩) | (intro c) | fail))
      simp only [gG_sG, gR_sG, kd_sG, ln_sG, ixOk, inI, t1, t2, t3, t6, t7, t8, t9, t10, t11, t12, t14, t15, Nat.reduceEqDiff, Nat.add_eq_left, Nat.left_eq_add, Nat.add_left_cancel_iff, Nat.succ_ne_self, Nat.reduceEqDiff, Nat.succ_ne_zero, Int.reduceEq, false_and, and_false, true_and, and_true, if_true, if_false, reduceIte, Int.add_zero, not_true_eq_false, not_false_eq_true]
      refine (fun (fr2 : Fr (VP v) h' _) => hq _ ⟨VOk_fr fr2 hV'.1, ?_, hms⟩ (fr.trans fr2)) ?_
      · clear hq hms; (refine ⟨⟨?_, ?_, ?_, ?_, ?_, ?_, ?_, ?_⟩, fun x hx0 hx1 => ⟨?_, ?_, ?_⟩, fun x hx0 hx1 => ⟨?_, ?_, ?_, ?_, ?_, ?_⟩, fun x hx0 hx1 => ⟨?_, ?_⟩⟩ <;> simp only [gG_sG, gR_sG, kd_sG, ln_sG, ixOk, inI, t1, t2, t3, t6, t7, t8, t9, t10, t11, t12, t14, t15, Nat.reduceEqDiff, Nat.add_eq_left, Nat.left_eq_add, Nat.add_left_cancel_iff, Nat.succ_ne_self, Nat.reduceEqDiff, Nat.succ_ne_zero, Int.reduceEq, false_and, and_false, true_and, and_true, if_true, if_false, reduceIte, Int.add_zero, not_true_eq_false, not_false_eq_true, hm6, pu, hoA, moA, toA, pA, plA, g0, g5, g13, g16, g17, g18, g19, g4] at * <;> first | omega | (rcases Int.lt_or_le x (B 0) with hxx | hxx); (have := ra x hx0 hxx; omega); omega | (rcases Int.lt_or_le x (B 1) with hxx | hxx); (have := rp x hx0 hxx; omega); omega | (rcases Int.lt_or_le x (B 2) with hxx | hxx); (have := rq x hx0 hxx; omega); omega)
      · exact (Fr.refl.sG (by unfold VP; omega)).sG (by unfold VP; omega)
    | succ k ih =>
      intro i s h' hk hi0 hi1 hs0 hs1 hV' hT fr hq
      have hmo := mid_ok (n := n) (i := i + 1) hV.2.2 hn0 (by omega)
      have hmb := msA_b hV.2.2 (days := n) hi0 (show i < A 0 by omega)
      have ih2 : ∀ h'', Vr K h'' v (midA A n (i + 1)) → Fr (VP v) h' h'' → Ex (WP X XL (d - 1)) KX7_passDays h.1 Q 18 [some (vR v), some (vI n), some (vI (s + msA A i n)), some (vI (i + 1))] [] h'' := fun h'' a c => ih (i + 1) (s + msA A i n) h'' (by omega) (by omega) (by omega) (by omega) (by omega) a (VAt_fr c hT) (fr.trans c) (by unfold dyS at hq ⊢; rw [foN_go (by omega)] at hq; exact hq)
      rw [mid_s hi0] at ih2 hmo
      rw [← mid_ms hi0] at ih2 hmo hmb
      have hm0 := mid_l (A := A) (n := n) (i := i) (j := 0) (by omega)
      have hil : i < A 0 := by omega
      generalize midA A n i = B at *
      clear hq ih hV
      obtain ⟨⟨k0, ⟨k1, l1⟩, ⟨k2, l2⟩, ⟨k3, l3⟩, ⟨k6, l6⟩, ⟨k7, l7⟩, ⟨k8, l8⟩, ⟨k9, l9⟩, ⟨k10, l10⟩, ⟨k11, l11⟩, ⟨k12, l12⟩, ⟨k14, l14⟩, ⟨k15, l15⟩⟩, ⟨⟨g0, g5, g13, g16, g17, g18, g19, g4⟩, ra, rp, rq⟩, ⟨b0, b1, b2, b3, b4, b5, b6, b8, bK, ba, bp, bq⟩⟩ := id hV'
      obtain ⟨t1, t2, t3, t6, t7, t8, t9, t10, t11, t12, t14, t15⟩ := id hT; rw [t1] at k1 l1; rw [t2] at k2 l2; rw [t3] at k3 l3; rw [t6] at k6 l6; rw [t7] at k7 l7; rw [t8] at k8 l8; rw [t9] at k9 l9; rw [t10] at k10 l10; rw [t11] at k11 l11; rw [t12] at k12 l12; rw [t14] at k14 l14; rw [t15] at k15 l15; simp only [t1, t2, t3] at ra; simp only [t7, t8, t9, t10, t11, t12] at rp; simp only [t14, t15] at rq
      have hva : VP v (gR h' v 2) := by rw [t2]; unfold VP; omega
      refine Ex_step ?_
      conv => whnf
      (repeat' (first | (refine fin2 ?_ (ih2 _ ⟨VOk_fr (Fr.refl.sG hva) hV'.1, ?_, hmo⟩ (Fr.refl.sG hva))) | (refine w_mossAfter (by omega) hV' hi0 (by omega) hn1 ?_) | (refine Ex_step ?_; conv => whnf) | (refine ⟨?_, trivial⟩) | (refine (show den _ _ _ _ _ _ _ _ from ?_); conv => whnf) | (refine ⟨by (first | (first | assumption | rfl | (exact Nat.le_of_ble_eq_true rfl) | (exact ⟨fun h01 => absurd h01 (by decide), by first | rfl | assumption⟩) | (exact ⟨fun _ => by decide, by first | rfl | assumption⟩) | (exact ⟨by assumption, by omega, by omega⟩) | (unfold inI; omega) | omega) | (first | (simp only [gG_sG, gR_sG, kd_sG, ln_sG, ixOk, inI, t1, t2, t3, t6, t7, t8, t9, t10, t11, t12, t14, t15]; done) | (simp only [gG_sG, gR_sG, kd_sG, ln_sG, ixOk, inI, t1, t2, t3, t6, t7, t8, t9, t10, t11, t12, t14, t15]; assumption) | (simp only [gG_sG, gR_sG, kd_sG, ln_sG, ixOk, inI, t1, t2, t3, t6, t7, t8, t9, t10, t11, t12, t14, t15]; omega) | (simp only [gG_sG, gR_sG, kd_sG, ln_sG, ixOk, inI, t1, t2, t3, t6, t7, t8, t9, t10, t11, t12, t14, t15, Nat.reduceEqDiff, Nat.add_eq_left, Nat.left_eq_add, Nat.add_left_cancel_iff, Nat.succ_ne_self, Nat.reduceEqDiff, Nat.succ_ne_zero, Int.reduceEq, false_and, and_false, true_and, and_true, if_true, if_false, reduceIte, Int.add_zero, not_true_eq_false, not_false_eq_true]; omega) | (simp only [gG_sG, gR_sG, kd_sG, ln_sG, ixOk, inI, t1, t2, t3, t6, t7, t8, t9, t10, t11, t12, t14, t15]; exact ⟨by assumption, by omega, by omega⟩))), ?_⟩; conv => whnf) | (refine ⟨fun c => False.elim (by omega), fun c => ?_⟩) | (refine ⟨fun c => ?_, fun c => False.elim (by omega)⟩) | (refine ⟨fun c => ?_, fun c => ?_⟩) | (intro c) | fail))
      · simp only [gG_sG, gR_sG, kd_sG, ln_sG, ixOk, inI, t1, t2, t3, t6, t7, t8, t9, t10, t11, t12, t14, t15, Nat.reduceEqDiff, Nat.add_eq_left, Nat.left_eq_add, Nat.add_left_cancel_iff, Nat.succ_ne_self, Nat.reduceEqDiff, Nat.succ_ne_zero, Int.reduceEq, false_and, and_false, true_and, and_true, if_true, if_false, reduceIte, Int.add_zero, not_true_eq_false, not_false_eq_true]
        rfl
      · clear ih2; simp only [gG_sG, gR_sG, kd_sG, ln_sG, ixOk, inI, t1, t2, t3, t6, t7, t8, t9, t10, t11, t12, t14, t15, Nat.reduceEqDiff, Nat.add_eq_left, Nat.left_eq_add, Nat.add_left_cancel_iff, Nat.succ_ne_self, Nat.reduceEqDiff, Nat.succ_ne_zero, Int.reduceEq, false_and, and_false, true_and, and_true, if_true, if_false, reduceIte, Int.add_zero, not_true_eq_false, not_false_eq_true]; (refine ⟨⟨?_, ?_, ?_, ?_, ?_, ?_, ?_, ?_⟩, fun x hx0 hx1 => ⟨?_, ?_, ?_⟩, fun x hx0 hx1 => ⟨?_, ?_, ?_, ?_, ?_, ?_⟩, fun x hx0 hx1 => ⟨?_, ?_⟩⟩ <;> simp only [gG_sG, gR_sG, kd_sG, ln_sG, ixOk, inI, t1, t2, t3, t6, t7, t8, t9, t10, t11, t12, t14, t15, Nat.reduceEqDiff, Nat.add_eq_left, Nat.left_eq_add, Nat.add_left_cancel_iff, Nat.succ_ne_self, Nat.reduceEqDiff, Nat.succ_ne_zero, Int.reduceEq, false_and, and_false, true_and, and_true, if_true, if_false, reduceIte, Int.add_zero, not_true_eq_false, not_false_eq_true, pu, pu, hoA, moA, toA, pA, plA, g0, g5, g13, g16, g17, g18, g19, g4] at * <;> first | omega | (rcases Int.lt_or_le x (B 0) with hxx | hxx); (have := ra x hx0 hxx; omega); omega | (rcases Int.lt_or_le x (B 1) with hxx | hxx); (have := rp x hx0 hxx; omega); omega | (rcases Int.lt_or_le x (B 2) with hxx | hxx); (have := rq x hx0 hxx; omega); omega)
  obtain ⟨⟨k0, ⟨k1, l1⟩, ⟨k2, l2⟩, ⟨k3, l3⟩, ⟨k6, l6⟩, ⟨k7, l7⟩, ⟨k8, l8⟩, ⟨k9, l9⟩, ⟨k10, l10⟩, ⟨k11, l11⟩, ⟨k12, l12⟩, ⟨k14, l14⟩, ⟨k15, l15⟩⟩, ⟨⟨g0, g5, g13, g16, g17, g18, g19, g4⟩, ra, rp, rq⟩, ⟨b0, b1, b2, b3, b4, b5, b6, b8, bK, ba, bp, bq⟩⟩ := id hV
  refine eX7_passDays (by omega) ?_
  refine Ex_step ?_
  conv => whnf
  (repeat' (first | (exact loop (by omega) _ 0 0 h rfl (by omega) (by omega) (by omega) (by omega) (by rw [mid_0]; exact hV) hT Fr.refl (fun h' a b => hq1 (by omega) h' a b)) | (refine Ex_step ?_; conv => whnf) | (refine ⟨?_, trivial⟩) | (refine (show den _ _ _ _ _ _ _ _ from ?_); conv => whnf) | (refine ⟨by (first | (first | assumption | rfl | (exact Nat.le_of_ble_eq_true rfl) | (exact ⟨fun h01 => absurd h01 (by decide), by first | rfl | assumption⟩) | (exact ⟨fun _ => by decide, by first | rfl | assumption⟩) | (exact ⟨by assumption, by omega, by omega⟩) | (unfold inI; omega) | omega) | (first | (simp only [gG_sG, gR_sG, kd_sG, ln_sG, ixOk, inI, t1, t2, t3, t6, t7, t8, t9, t10, t11, t12, t14, t15]; done) | (simp only [gG_sG, gR_sG, kd_sG, ln_sG, ixOk, inI, t1, t2, t3, t6, t7, t8, t9, t10, t11, t12, t14, t15]; assumption) | (simp only [gG_sG, gR_sG, kd_sG, ln_sG, ixOk, inI, t1, t2, t3, t6, t7, t8, t9, t10, t11, t12, t14, t15]; omega) | (simp only [gG_sG, gR_sG, kd_sG, ln_sG, ixOk, inI, t1, t2, t3, t6, t7, t8, t9, t10, t11, t12, t14, t15, Nat.reduceEqDiff, Nat.add_eq_left, Nat.left_eq_add, Nat.add_left_cancel_iff, Nat.succ_ne_self, Nat.reduceEqDiff, Nat.succ_ne_zero, Int.reduceEq, false_and, and_false, true_and, and_true, if_true, if_false, reduceIte, Int.add_zero, not_true_eq_false, not_false_eq_true]; omega) | (simp only [gG_sG, gR_sG, kd_sG, ln_sG, ixOk, inI, t1, t2, t3, t6, t7, t8, t9, t10, t11, t12, t14, t15]; exact ⟨by assumption, by omega, by omega⟩))), ?_⟩; conv => whnf) | (refine ⟨fun c => False.elim (by omega), fun c => ?_⟩) | (refine ⟨fun c => ?_, fun c => False.elim (by omega)⟩) | (refine ⟨fun c => ?_, fun c => ?_⟩) | (intro c) | fail))
  exact hq0 (by omega)
