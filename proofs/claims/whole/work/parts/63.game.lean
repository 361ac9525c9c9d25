/-! LEVEL 2: games: what they are worth; the class -/
def eq8 (A B : Int → Int) : Prop := ∀ j, ¬ j = 8 → A j = B j
theorem eq8.refl {A : Int → Int} : eq8 A A := fun _ _ => rfl
theorem eq8.symm {A B : Int → Int} (h : eq8 A B) : eq8 B A := fun j hj => (h j hj).symm
theorem eq8.trans {A B C : Int → Int} (h : eq8 A B) (g : eq8 B C) : eq8 A C := fun j hj => (h j hj).trans (g j hj)
def mvr (p o t : Int) : Int := if t % 2 = 0 then p else o
def cGo (A : Int → Int) (m : Int) : Prop := pA A m 3 < A 0 ∧ sAl A m (pA A m 3) ≤ hoA A (pA A m 3)
def cJp (A : Int → Int) (m : Int) : Prop := pA A m 3 < A 0 ∧ (hoA A (pA A m 3) < 60 ∨ 0 < moA A (pA A m 3))
def bst (t a b : Int) : Int := if t % 2 = 0 then max a b else min a b
def goB (A : Int → Int) (m : Int) : Int → Int := pu A (37 + 6 * m + 3) (pA A m 3 + 1)
def jmB (A : Int → Int) (a : Int) : Int → Int := pu (pu A (10 + 3 * a) (min 60 (hoA A a + 1))) (10 + 3 * a + 1) (max 0 (moA A a - 1))
theorem cGo_d (A : Int → Int) (m : Int) : cGo A m ∨ ¬ cGo A m := by unfold cGo; omega
/-- what a state is worth with k turns left, the next the one of number t -/
def gvN (p o : Int) : Nat → Int → (Int → Int) → Int
  | 0, _, A => pA A p 3 - pA A o 3
  | k + 1, t, A =>
    let b1 := if pA A (mvr p o t) 3 < A 0 ∧ sAl A (mvr p o t) (pA A (mvr p o t) 3) ≤ hoA A (pA A (mvr p o t) 3) then bst t (gvN p o k (t + 1) A) (gvN p o k (t + 1) (goB A (mvr p o t))) else gvN p o k (t + 1) A
    if pA A (mvr p o t) 3 < A 0 ∧ (hoA A (pA A (mvr p o t) 3) < 60 ∨ 0 < moA A (pA A (mvr p o t) 3)) then bst t b1 (gvN p o k (t + 1) (jmB A (pA A (mvr p o t) 3))) else b1
theorem goB_ok {K : Int} {A : Int → Int} {m : Int} (hA : AOk K A) (hp0 : 0 ≤ m) (hp1 : m < A 1) (h3 : pA A m 3 < A 0) : AOk K (goB A m) := by
  obtain ⟨b0, b1, b2, b3, b4, b5, b6, b8, bK, ba, bp, bq⟩ := id hA
  have hc := bp m hp0 hp1
  (refine ⟨?_, ?_, ?_, ?_, ?_, ?_, ?_, ?_, ?_, fun x hx0 hx1 => ⟨?_, ?_, ?_⟩, fun x hx0 hx1 => ⟨?_, ?_, ?_, ?_, ?_, ?_⟩, fun x hx0 hx1 => ⟨?_, ?_⟩⟩ <;> simp only [Nat.reduceEqDiff, Nat.add_eq_left, Nat.left_eq_add, Nat.add_left_cancel_iff, Nat.succ_ne_self, Nat.reduceEqDiff, Nat.succ_ne_zero, Int.reduceEq, false_and, and_false, true_and, and_true, if_true, if_false, reduceIte, Int.add_zero, not_true_eq_false, not_false_eq_true, goB, pu, hoA, moA, toA, pA, plA] at * <;> first | omega | (rcases Int.lt_or_le x (A 0) with hxx | hxx); (have := ba x hx0 hxx; omega); omega | (rcases Int.lt_or_le x (A 1) with hxx | hxx); (have := bp x hx0 hxx; omega); omega | (rcases Int.lt_or_le x (A 2) with hxx | hxx); (have := bq x hx0 hxx; omega); omega)
theorem jmB_ok {K : Int} {A : Int → Int} {a : Int} (hA : AOk K A) (ha0 : 0 ≤ a) (ha1 : a < A 0) : AOk K (jmB A a) := by
  obtain ⟨b0, b1, b2, b3, b4, b5, b6, b8, bK, ba, bp, bq⟩ := id hA
  have hc := ba a ha0 ha1
  (refine ⟨?_, ?_, ?_, ?_, ?_, ?_, ?_, ?_, ?_, fun x hx0 hx1 => ⟨?_, ?_, ?_⟩, fun x hx0 hx1 => ⟨?_, ?_, ?_, ?_, ?_, ?_⟩, fun x hx0 hx1 => ⟨?_, ?_⟩⟩ <;> simp only [Nat.reduceEqDiff, Nat.add_eq_left, Nat.left_eq_add, Nat.add_left_cancel_iff, Nat.succ_ne_self, Nat.reduceEqDiff, Nat.succ_ne_zero, Int.reduceEq, false_and, and_false, true_and, and_true, if_true, if_false, reduceIte, Int.add_zero, not_true_eq_false, not_false_eq_true, jmB, pu, hoA, moA, toA, pA, plA] at * <;> first | omega | (rcases Int.lt_or_le x (A 0) with hxx | hxx); (have := ba x hx0 hxx; omega); omega | (rcases Int.lt_or_le x (A 1) with hxx | hxx); (have := bp x hx0 hxx; omega); omega | (rcases Int.lt_or_le x (A 2) with hxx | hxx); (have := bq x hx0 hxx; omega); omega)
theorem mvr_b {A : Int → Int} {p o t : Int} (hp : 0 ≤ p ∧ p < A 1) (ho : 0 ≤ o ∧ o < A 1) : 0 ≤ mvr p o t ∧ mvr p o t < A 1 := by unfold mvr; split <;> omega
theorem pu_8 {A B : Int → Int} (h : eq8 A B) {i z : Int} : eq8 (pu A i z) (pu B i z) := by
  intro j hj
  unfold pu
  split
  · rfl
  · exact h j hj
theorem gv_c {p o : Int} (hp0 : 0 ≤ p) (ho0 : 0 ≤ o) : ∀ (k : Nat) (t K : Int) (A B : Int → Int), AOk K A → p < A 1 → o < A 1 → eq8 A B → gvN p o k t A = gvN p o k t B := by
  intro k; induction k with
  | zero =>
    intro t K A B hA hp ho e
    show pA A p 3 - pA A o 3 = pA B p 3 - pA B o 3
    rw [show pA A p 3 = pA B p 3 from e _ (by omega), show pA A o 3 = pA B o 3 from e _ (by omega)]
  | succ k ih =>
    intro t K A B hA hp ho e
    have hm := mvr_b (A := A) (t := t) ⟨hp0, hp⟩ ⟨ho0, ho⟩
    generalize hM : mvr p o t = m at hm
    have hb := bp_of hA hm.1 hm.2
    have e0 : A 0 = B 0 := e 0 (by omega)
    have e4 : A 4 = B 4 := e 4 (by omega)
    have eP : ∀ w, 0 ≤ w → pA A m w = pA B m w := fun w hw => e _ (by omega)
    have e3 := eP 3 (by omega)
    have eh : hoA A (pA A m 3) = hoA B (pA B m 3) := by rw [← e3]; exact e _ (by omega)
    have em : moA A (pA A m 3) = moA B (pA B m 3) := by rw [← e3]; exact e _ (by omega)
    have es : sAl A m (pA A m 3) = sAl B m (pA B m 3) := by
      unfold sAl sBy
      rw [eP 0 (by omega), eP 1 (by omega), eP 2 (by omega), em, e4]
    have v2 := ih (t + 1) K A B hA hp ho e
    show (if pA A (mvr p o t) 3 < A 0 ∧ (hoA A (pA A (mvr p o t) 3) < 60 ∨ 0 < moA A (pA A (mvr p o t) 3)) then bst t (if pA A (mvr p o t) 3 < A 0 ∧ sAl A (mvr p o t) (pA A (mvr p o t) 3) ≤ hoA A (pA A (mvr p o t) 3) then bst t (gvN p o k (t + 1) A) (gvN p o k (t + 1) (goB A (mvr p o t))) else gvN p o k (t + 1) A) (gvN p o k (t + 1) (jmB A (pA A (mvr p o t) 3))) else (if pA A (mvr p o t) 3 < A 0 ∧ sAl A (mvr p o t) (pA A (mvr p o t) 3) ≤ hoA A (pA A (mvr p o t) 3) then bst t (gvN p o k (t + 1) A) (gvN p o k (t + 1) (goB A (mvr p o t))) else gvN p o k (t + 1) A)) = (if pA B (mvr p o t) 3 < B 0 ∧ (hoA B (pA B (mvr p o t) 3) < 60 ∨ 0 < moA B (pA B (mvr p o t) 3)) then bst t (if pA B (mvr p o t) 3 < B 0 ∧ sAl B (mvr p o t) (pA B (mvr p o t) 3) ≤ hoA B (pA B (mvr p o t) 3) then bst t (gvN p o k (t + 1) B) (gvN p o k (t + 1) (goB B (mvr p o t))) else gvN p o k (t + 1) B) (gvN p o k (t + 1) (jmB B (pA B (mvr p o t) 3))) else (if pA B (mvr p o t) 3 < B 0 ∧ sAl B (mvr p o t) (pA B (mvr p o t) 3) ≤ hoA B (pA B (mvr p o t) 3) then bst t (gvN p o k (t + 1) B) (gvN p o k (t + 1) (goB B (mvr p o t))) else gvN p o k (t + 1) B))
    rw [hM]
    have r1 : (pA A m 3 < A 0 ∧ sAl A m (pA A m 3) ≤ hoA A (pA A m 3)) ↔ (pA B m 3 < B 0 ∧ sAl B m (pA B m 3) ≤ hoA B (pA B m 3)) := by rw [es, eh, e3, e0]
    have r2 : (pA A m 3 < A 0 ∧ (hoA A (pA A m 3) < 60 ∨ 0 < moA A (pA A m 3))) ↔ (pA B m 3 < B 0 ∧ (hoA B (pA B m 3) < 60 ∨ 0 < moA B (pA B m 3))) := by rw [em, eh, e3, e0]
    have i1 : (if pA A m 3 < A 0 ∧ sAl A m (pA A m 3) ≤ hoA A (pA A m 3) then bst t (gvN p o k (t + 1) A) (gvN p o k (t + 1) (goB A m)) else gvN p o k (t + 1) A) = (if pA B m 3 < B 0 ∧ sAl B m (pA B m 3) ≤ hoA B (pA B m 3) then bst t (gvN p o k (t + 1) B) (gvN p o k (t + 1) (goB B m)) else gvN p o k (t + 1) B) := by
      by_cases c : pA A m 3 < A 0 ∧ sAl A m (pA A m 3) ≤ hoA A (pA A m 3)
      · rw [if_pos c, if_pos (r1.mp c), v2]
        have g1 : goB A m 1 = A 1 := pu_n (by omega)
        rw [ih (t + 1) K (goB A m) (goB B m) (goB_ok hA hm.1 hm.2 c.1) (by omega) (by omega) (by unfold goB; rw [e3]; exact pu_8 e)]
      · rw [if_neg c, if_neg (fun q => c (r1.mpr q)), v2]
    rw [i1]
    by_cases c : pA A m 3 < A 0 ∧ (hoA A (pA A m 3) < 60 ∨ 0 < moA A (pA A m 3))
    · rw [if_pos c, if_pos (r2.mp c)]
      have g1 : jmB A (pA A m 3) 1 = A 1 := by unfold jmB; rw [pu_n (by omega), pu_n (by omega)]
      rw [ih (t + 1) K (jmB A (pA A m 3)) (jmB B (pA B m 3)) (jmB_ok hA hb.2.2.2.1.1 c.1) (by omega) (by omega) (by unfold jmB; rw [eh, em, ← e3]; exact pu_8 (pu_8 e))]
    · rw [if_neg c, if_neg (fun q => c (r2.mpr q))]
theorem gv_s {p o t : Int} {k : Nat} {A : Int → Int} : gvN p o (k + 1) t A = (if pA A (mvr p o t) 3 < A 0 ∧ (hoA A (pA A (mvr p o t) 3) < 60 ∨ 0 < moA A (pA A (mvr p o t) 3)) then bst t (if pA A (mvr p o t) 3 < A 0 ∧ sAl A (mvr p o t) (pA A (mvr p o t) 3) ≤ hoA A (pA A (mvr p o t) 3) then bst t (gvN p o k (t + 1) A) (gvN p o k (t + 1) (goB A (mvr p o t))) else gvN p o k (t + 1) A) (gvN p o k (t + 1) (jmB A (pA A (mvr p o t) 3))) else (if pA A (mvr p o t) 3 < A 0 ∧ sAl A (mvr p o t) (pA A (mvr p o t) 3) ≤ hoA A (pA A (mvr p o t) 3) then bst t (gvN p o k (t + 1) A) (gvN p o k (t + 1) (goB A (mvr p o t))) else gvN p o k (t + 1) A)) := rfl
-- single cells of a Viaduct
theorem Vr.bh {h : Mem} {K : Int} {A : Int → Int} {v : Nat} {p z : Int} (hV : Vr K h v A) (hT : VAt h v) (hp0 : 0 ≤ p) (hp1 : p < A 1) (hz : 0 ≤ z ∧ z ≤ A 0) : Vr K (sG h (v + 8) p z) v (pu A (37 + 6 * p + 3) z) := by
  have fr : Fr (VP v) h (sG h (v + 8) p z) := Fr.refl.sG (by unfold VP; omega)
  refine ⟨VOk_fr fr hV.1, ?_, ?_⟩
  · obtain ⟨⟨k0, ⟨k1, l1⟩, ⟨k2, l2⟩, ⟨k3, l3⟩, ⟨k6, l6⟩, ⟨k7, l7⟩, ⟨k8, l8⟩, ⟨k9, l9⟩, ⟨k10, l10⟩, ⟨k11, l11⟩, ⟨k12, l12⟩, ⟨k14, l14⟩, ⟨k15, l15⟩⟩, ⟨⟨g0, g5, g13, g16, g17, g18, g19, g4⟩, ra, rp, rq⟩, ⟨b0, b1, b2, b3, b4, b5, b6, b8, bK, ba, bp, bq⟩⟩ := id hV
    obtain ⟨t1, t2, t3, t6, t7, t8, t9, t10, t11, t12, t14, t15⟩ := id hT; rw [t1] at k1 l1; rw [t2] at k2 l2; rw [t3] at k3 l3; rw [t6] at k6 l6; rw [t7] at k7 l7; rw [t8] at k8 l8; rw [t9] at k9 l9; rw [t10] at k10 l10; rw [t11] at k11 l11; rw [t12] at k12 l12; rw [t14] at k14 l14; rw [t15] at k15 l15; simp only [t1, t2, t3] at ra; simp only [t7, t8, t9, t10, t11, t12] at rp; simp only [t14, t15] at rq
    (refine ⟨⟨?_, ?_, ?_, ?_, ?_, ?_, ?_, ?_⟩, fun x hx0 hx1 => ⟨?_, ?_, ?_⟩, fun x hx0 hx1 => ⟨?_, ?_, ?_, ?_, ?_, ?_⟩, fun x hx0 hx1 => ⟨?_, ?_⟩⟩ <;> simp only [gG_sG, gR_sG, kd_sG, ln_sG, ixOk, inI, t1, t2, t3, t6, t7, t8, t9, t10, t11, t12, t14, t15, Nat.reduceEqDiff, Nat.add_eq_left, Nat.left_eq_add, Nat.add_left_cancel_iff, Nat.succ_ne_self, Nat.reduceEqDiff, Nat.succ_ne_zero, Int.reduceEq, false_and, and_false, true_and, and_true, if_true, if_false, reduceIte, Int.add_zero, not_true_eq_false, not_false_eq_true, pu, pu, hoA, moA, toA, pA, plA, g0, g5, g13, g16, g17, g18, g19, g4] at * <;> first | omega | (rcases Int.lt_or_le x (A 0) with hxx | hxx); (have := ra x hx0 hxx; omega); omega | (rcases Int.lt_or_le x (A 1) with hxx | hxx); (have := rp x hx0 hxx; omega); omega | (rcases Int.lt_or_le x (A 2) with hxx | hxx); (have := rq x hx0 hxx; omega); omega)
  · have hA := hV.2.2
    obtain ⟨b0, b1, b2, b3, b4, b5, b6, b8, bK, ba, bp, bq⟩ := id hA
    (refine ⟨?_, ?_, ?_, ?_, ?_, ?_, ?_, ?_, ?_, fun x hx0 hx1 => ⟨?_, ?_, ?_⟩, fun x hx0 hx1 => ⟨?_, ?_, ?_, ?_, ?_, ?_⟩, fun x hx0 hx1 => ⟨?_, ?_⟩⟩ <;> simp only [Nat.reduceEqDiff, Nat.add_eq_left, Nat.left_eq_add, Nat.add_left_cancel_iff, Nat.succ_ne_self, Nat.reduceEqDiff, Nat.succ_ne_zero, Int.reduceEq, false_and, and_false, true_and, and_true, if_true, if_false, reduceIte, Int.add_zero, not_true_eq_false, not_false_eq_true, pu, pu, hoA, moA, toA, pA, plA] at * <;> first | omega | (rcases Int.lt_or_le x (A 0) with hxx | hxx); (have := ba x hx0 hxx; omega); omega | (rcases Int.lt_or_le x (A 1) with hxx | hxx); (have := bp x hx0 hxx; omega); omega | (rcases Int.lt_or_le x (A 2) with hxx | hxx); (have := bq x hx0 hxx; omega); omega)
theorem Vr.ho {h : Mem} {K : Int} {A : Int → Int} {v : Nat} {a z : Int} (hV : Vr K h v A) (hT : VAt h v) (ha0 : 0 ≤ a) (ha1 : a < A 0) (hz : 0 ≤ z ∧ z ≤ 60) : Vr K (sG h (v + 1) a z) v (pu A (10 + 3 * a) z) := by
  have fr : Fr (VP v) h (sG h (v + 1) a z) := Fr.refl.sG (by unfold VP; omega)
  refine ⟨VOk_fr fr hV.1, ?_, ?_⟩
  · obtain ⟨⟨k0, ⟨k1, l1⟩, ⟨k2, l2⟩, ⟨k3, l3⟩, ⟨k6, l6⟩, ⟨k7, l7⟩, ⟨k8, l8⟩, ⟨k9, l9⟩, ⟨k10, l10⟩, ⟨k11, l11⟩, ⟨k12, l12⟩, ⟨k14, l14⟩, ⟨k15, l15⟩⟩, ⟨⟨g0, g5, g13, g16, g17, g18, g19, g4⟩, ra, rp, rq⟩, ⟨b0, b1, b2, b3, b4, b5, b6, b8, bK, ba, bp, bq⟩⟩ := id hV
    obtain ⟨t1, t2, t3, t6, t7, t8, t9, t10, t11, t12, t14, t15⟩ := id hT; rw [t1] at k1 l1; rw [t2] at k2 l2; rw [t3] at k3 l3; rw [t6] at k6 l6; rw [t7] at k7 l7; rw [t8] at k8 l8; rw [t9] at k9 l9; rw [t10] at k10 l10; rw [t11] at k11 l11; rw [t12] at k12 l12; rw [t14] at k14 l14; rw [t15] at k15 l15; simp only [t1, t2, t3] at ra; simp only [t7, t8, t9, t10, t11, t12] at rp; simp only [t14, t15] at rq
    (refine ⟨⟨?_, ?_, ?_, ?_, ?_, ?_, ?_, ?_⟩, fun x hx0 hx1 => ⟨?_, ?_, ?_⟩, fun x hx0 hx1 => ⟨?_, ?_, ?_, ?_, ?_, ?_⟩, fun x hx0 hx1 => ⟨?_, ?_⟩⟩ <;> simp only [gG_sG, gR_sG, kd_sG, ln_sG, ixOk, inI, t1, t2, t3, t6, t7, t8, t9, t10, t11, t12, t14, t15, Nat.reduceEqDiff, Nat.add_eq_left, Nat.left_eq_add, Nat.add_left_cancel_iff, Nat.succ_ne_self, Nat.reduceEqDiff, Nat.succ_ne_zero, Int.reduceEq, false_and, and_false, true_and, and_true, if_true, if_false, reduceIte, Int.add_zero, not_true_eq_false, not_false_eq_true, pu, pu, hoA, moA, toA, pA, plA, g0, g5, g13, g16, g17, g18, g19, g4] at * <;> first | omega | (rcases Int.lt_or_le x (A 0) with hxx | hxx); (have := ra x hx0 hxx; omega); omega | (rcases Int.lt_or_le x (A 1) with hxx | hxx); (have := rp x hx0 hxx; omega); omega | (rcases Int.lt_or_le x (A 2) with hxx | hxx); (have := rq x hx0 hxx; omega); omega)
  · have hA := hV.2.2
    obtain ⟨b0, b1, b2, b3, b4, b5, b6, b8, bK, ba, bp, bq⟩ := id hA
    (refine ⟨?_, ?_, ?_, ?_, ?_, ?_, ?_, ?_, ?_, fun x hx0 hx1 => ⟨?_, ?_, ?_⟩, fun x hx0 hx1 => ⟨?_, ?_, ?_, ?_, ?_, ?_⟩, fun x hx0 hx1 => ⟨?_, ?_⟩⟩ <;> simp only [Nat.reduceEqDiff, Nat.add_eq_left, Nat.left_eq_add, Nat.add_left_cancel_iff, Nat.succ_ne_self, Nat.reduceEqDiff, Nat.succ_ne_zero, Int.reduceEq, false_and, and_false, true_and, and_true, if_true, if_false, reduceIte, Int.add_zero, not_true_eq_false, not_false_eq_true, pu, pu, hoA, moA, toA, pA, plA] at * <;> first | omega | (rcases Int.lt_or_le x (A 0) with hxx | hxx); (have := ba x hx0 hxx; omega); omega | (rcases Int.lt_or_le x (A 1) with hxx | hxx); (have := bp x hx0 hxx; omega); omega | (rcases Int.lt_or_le x (A 2) with hxx | hxx); (have := bq x hx0 hxx; omega); omega)
theorem Vr.mo {h : Mem} {K : Int} {A : Int → Int} {v : Nat} {a z : Int} (hV : Vr K h v A) (hT : VAt h v) (ha0 : 0 ≤ a) (ha1 : a < A 0) (hz : 0 ≤ z ∧ z ≤ 9) : Vr K (sG h (v + 2) a z) v (pu A (10 + 3 * a + 1) z) := by
  have fr : Fr (VP v) h (sG h (v + 2) a z) := Fr.refl.sG (by unfold VP; omega)
  refine ⟨VOk_fr fr hV.1, ?_, ?_⟩
  · obtain ⟨⟨k0, ⟨k1, l1⟩, ⟨k2, l2⟩, ⟨k3, l3⟩, ⟨k6, l6⟩, ⟨k7, l7⟩, ⟨k8, l8⟩, ⟨k9, l9⟩, ⟨k10, l10⟩, ⟨k11, l11⟩, ⟨k12, l12⟩, ⟨k14, l14⟩, ⟨k15, l15⟩⟩, ⟨⟨g0, g5, g13, g16, g17, g18, g19, g4⟩, ra, rp, rq⟩, ⟨b0, b1, b2, b3, b4, b5, b6, b8, bK, ba, bp, bq⟩⟩ := id hV
    obtain ⟨t1, t2, t3, t6, t7, t8, t9, t10, t11, t12, t14, t15⟩ := id hT; rw [t1] at k1 l1; rw [t2] at k2 l2; rw [t3] at k3 l3; rw [t6] at k6 l6; rw [t7] at k7 l7; rw [t8] at k8 l8; rw [t9] at k9 l9; rw [t10] at k10 l10; rw [t11] at k11 l11; rw [t12] at k12 l12; rw [t14] at k14 l14; rw [t15] at k15 l15; simp only [t1, t2, t3] at ra; simp only [t7, t8, t9, t10, t11, t12] at rp; simp only [t14, t15] at rq
    (refine ⟨⟨?_, ?_, ?_, ?_, ?_, ?_, ?_, ?_⟩, fun x hx0 hx1 => ⟨?_, ?_, ?_⟩, fun x hx0 hx1 => ⟨?_, ?_, ?_, ?_, ?_, ?_⟩, fun x hx0 hx1 => ⟨?_, ?_⟩⟩ <;> simp only [gG_sG, gR_sG, kd_sG, ln_sG, ixOk, inI, t1, t2, t3, t6, t7, t8, t9, t10, t11, t12, t14, t15, Nat.reduceEqDiff, Nat.add_eq_left, Nat.left_eq_add, Nat.add_left_cancel_iff, Nat.succ_ne_self, Nat.reduceEqDiff, Nat.succ_ne_zero, Int.reduceEq, false_and, and_false, true_and, and_true, if_true, if_false, reduceIte, Int.add_zero, not_true_eq_false, not_false_eq_true, pu, pu, hoA, moA, toA, pA, plA, g0, g5, g13, g16, g17, g18, g19, g4] at * <;> first | omega | (rcases Int.lt_or_le x (A 0) with hxx | hxx); (have := ra x hx0 hxx; omega); omega | (rcases Int.lt_or_le x (A 1) with hxx | hxx); (have := rp x hx0 hxx; omega); omega | (rcases Int.lt_or_le x (A 2) with hxx | hxx); (have := rq x hx0 hxx; omega); omega)
  · have hA := hV.2.2
    obtain ⟨b0, b1, b2, b3, b4, b5, b6, b8, bK, ba, bp, bq⟩ := id hA
    (refine ⟨?_, ?_, ?_, ?_, ?_, ?_, ?_, ?_, ?_, fun x hx0 hx1 => ⟨?_, ?_, ?_⟩, fun x hx0 hx1 => ⟨?_, ?_, ?_, ?_, ?_, ?_⟩, fun x hx0 hx1 => ⟨?_, ?_⟩⟩ <;> simp only [Nat.reduceEqDiff, Nat.add_eq_left, Nat.left_eq_add, Nat.add_left_cancel_iff, Nat.succ_ne_self, Nat.reduceEqDiff, Nat.succ_ne_zero, Int.reduceEq, false_and, and_false, true_and, and_true, if_true, if_false, reduceIte, Int.add_zero, not_true_eq_false, not_false_eq_true, pu, pu, hoA, moA, toA, pA, plA] at * <;> first | omega | (rcases Int.lt_or_le x (A 0) with hxx | hxx); (have := ba x hx0 hxx; omega); omega | (rcases Int.lt_or_le x (A 1) with hxx | hxx); (have := bp x hx0 hxx; omega); omega | (rcases Int.lt_or_le x (A 2) with hxx | hxx); (have := bq x hx0 hxx; omega); omega)
def CO (h : Mem) (v : Nat) (p o n : Int) : Prop := kd h 123 = 0 ∧ gR h 123 0 = v ∧ gG h 123 1 = p ∧ gG h 123 2 = o ∧ gG h 123 3 = n
theorem CO.fr {h h' : Mem} {v : Nat} {p o n : Int} (a : Fr (VP v) h h') (hv : v + 12 < 123) (q : CO h v p o n) : CO h' v p o n := by
  have np : ¬ VP v 123 := by unfold VP; omega
  exact ⟨(kd_fr a _).trans q.1, (gR_fr a _ _).trans q.2.1, (a.2.2 _ np _).trans q.2.2.1, (a.2.2 _ np _).trans q.2.2.2.1, (a.2.2 _ np _).trans q.2.2.2.2⟩
set_option maxHeartbeats 4000000 in
theorem w_canGo {X : Int → Int} {XL : Int} {d : Nat} {h : Mem} {Q : RetP} {K : Int} {A : Int → Int} {v : Nat} {p o n m mv : Int} (hd : 4 ≤ d) (hV : Vr K h v A) (hO : CO h v p o n) (hm0 : 0 ≤ m) (hm1 : m < A 1) (hmv : mv = 0) (hq1 : cGo A m → Q (some (vI 1)) h) (hq0 : ¬ cGo A m → Q (some (vI 0)) h) : WP X XL d 106 [vR 123, vI m, vI mv] h Q := by
  subst hmv
  obtain ⟨kc, c0, c1, c2, c3⟩ := id hO
  obtain ⟨kv, -, -, -, -, -, -, -, ⟨kbh, lbh⟩, -⟩ := id hV.1
  have b1 := hV.2.2.2.1
  have eb := (hV.2.1.2.2.1 m hm0 hm1).2.2.2.1
  have hb := bp_of hV.2.2 hm0 hm1
  unfold cGo at hq1 hq0
  refine eX0_canMove (by omega) ?_
  (repeat' (first | (rw [c0]) | (rw [eb]) | (refine w_hasArch (by omega) hV (fun c => ?_) (fun c => False.elim (by omega))) | (refine w_hasArch (by omega) hV (fun c => False.elim (by omega)) (fun c => ?_)) | (refine w_hasArch (by omega) hV (fun c => ?_) (fun c => ?_)) | (refine w_bearsAlone (by omega) hV hm0 hm1 (by omega) (by omega) (fun c => ?_) (fun c => ?_)) | (refine Ex_step ?_; conv => whnf) | (refine ⟨?_, trivial⟩) | (refine (show den _ _ _ _ _ _ _ _ from ?_); conv => whnf) | (refine ⟨by (first | assumption | rfl | (exact Nat.le_of_ble_eq_true rfl) | (exact ⟨fun h01 => absurd h01 (by decide), by first | rfl | assumption⟩) | (exact ⟨fun _ => by decide, by first | rfl | assumption⟩) | (exact ⟨by assumption, by omega, by omega⟩) | (unfold inI; omega) | omega), ?_⟩; conv => whnf) | (refine ⟨fun c => False.elim (by omega), fun c => ?_⟩) | (refine ⟨fun c => ?_, fun c => False.elim (by omega)⟩) | (refine ⟨fun c => ?_, fun c => ?_⟩) | (intro c) | fail))
  all_goals first | (exact hq1 (by omega)) | (exact hq0 (by omega))
set_option maxHeartbeats 4000000 in
theorem w_canJp {X : Int → Int} {XL : Int} {d : Nat} {h : Mem} {Q : RetP} {K : Int} {A : Int → Int} {v : Nat} {p o n m mv : Int} (hd : 4 ≤ d) (hV : Vr K h v A) (hO : CO h v p o n) (hm0 : 0 ≤ m) (hm1 : m < A 1) (hmv : mv = 1) (hq1 : cJp A m → Q (some (vI 1)) h) (hq0 : ¬ cJp A m → Q (some (vI 0)) h) : WP X XL d 106 [vR 123, vI m, vI mv] h Q := by
  subst hmv
  obtain ⟨kc, c0, c1, c2, c3⟩ := id hO
  obtain ⟨kv, -, -, -, -, -, -, -, ⟨kbh, lbh⟩, -⟩ := id hV.1
  have b1 := hV.2.2.2.1
  have eb := (hV.2.1.2.2.1 m hm0 hm1).2.2.2.1
  have hb := bp_of hV.2.2 hm0 hm1
  unfold cJp at hq1 hq0
  refine eX0_canMove (by omega) ?_
  (repeat' (first | (rw [c0]) | (rw [eb]) | (refine w_hasArch (by omega) hV (fun c => ?_) (fun c => False.elim (by omega))) | (refine w_hasArch (by omega) hV (fun c => False.elim (by omega)) (fun c => ?_)) | (refine w_hasArch (by omega) hV (fun c => ?_) (fun c => ?_)) | (refine w_canJumpOn (by omega) hV (by omega) (by omega) (fun c => ?_) (fun c => ?_)) | (refine Ex_step ?_; conv => whnf) | (refine ⟨?_, trivial⟩) | (refine (show den _ _ _ _ _ _ _ _ from ?_); conv => whnf) | (refine ⟨by (first | assumption | rfl | (exact Nat.le_of_ble_eq_true rfl) | (exact ⟨fun h01 => absurd h01 (by decide), by first | rfl | assumption⟩) | (exact ⟨fun _ => by decide, by first | rfl | assumption⟩) | (exact ⟨by assumption, by omega, by omega⟩) | (unfold inI; omega) | omega), ?_⟩; conv => whnf) | (refine ⟨fun c => False.elim (by omega), fun c => ?_⟩) | (refine ⟨fun c => ?_, fun c => False.elim (by omega)⟩) | (refine ⟨fun c => ?_, fun c => ?_⟩) | (intro c) | fail))
  all_goals first | (exact hq1 (by omega)) | (exact hq0 (by omega))
def WO (X : Int → Int) (XL K : Int) (v : Nat) (p o n : Int) (k : Nat) (t : Int) : Prop := ∀ (d : Nat) (h : Mem) (Q : RetP) (A : Int → Int), 2 * k + 7 ≤ d → Vr K h v A → VAt h v → CO h v p o n → p < A 1 → o < A 1 → (∀ h' B, Vr K h' v B → eq8 A B → Fr (VP v) h h' → Q (some (vI (gvN p o k t A))) h') → WP X XL d 105 [vR 123, vI t] h Q
set_option maxHeartbeats 4000000 in
theorem w_wbS {X : Int → Int} {XL : Int} {d : Nat} {h : Mem} {Q : RetP} {K : Int} {A : Int → Int} {v : Nat} {p o n m t : Int} {k : Nat} (hd : 2 * k + 8 ≤ d) (hW : WO X XL K v p o n k (t + 1)) (ht : 0 ≤ t ∧ t ≤ 4) (hv : v + 12 < 123) (hV : Vr K h v A) (hT : VAt h v) (hO : CO h v p o n) (hp1 : p < A 1) (ho1 : o < A 1) (hm0 : 0 ≤ m) (hm1 : m < A 1) (hq : ∀ h' B, Vr K h' v B → eq8 A B → Fr (VP v) h h' → Q (some (vI (gvN p o k (t + 1) A))) h') : WP X XL d 107 [vR 123, vI t, vI m, vI 2] h Q := by
  obtain ⟨kc, c0, c1, c2, c3⟩ := id hO
  obtain ⟨kv, -, -, -, -, -, -, -, ⟨kbh, lbh⟩, -⟩ := id hV.1
  have b1 := hV.2.2.2.1
  refine eX0_worthBehind (by omega) ?_
  (repeat' (first | (rw [c0]) | (refine hW _ _ _ A (by omega) hV hT hO hp1 ho1 (fun h1 B1 hV1 e1 f1 => ?_); have g1 := f1.1) | (refine Ex_step ?_; conv => whnf) | (refine ⟨?_, trivial⟩) | (refine (show den _ _ _ _ _ _ _ _ from ?_); conv => whnf) | (refine ⟨by (first | assumption | rfl | (exact Nat.le_of_ble_eq_true rfl) | (exact ⟨fun h01 => absurd h01 (by decide), by first | rfl | assumption⟩) | (exact ⟨fun _ => by decide, by first | rfl | assumption⟩) | (exact ⟨by assumption, by omega, by omega⟩) | (unfold inI; omega) | omega), ?_⟩; conv => whnf) | (refine ⟨fun c => False.elim (by omega), fun c => ?_⟩) | (refine ⟨fun c => ?_, fun c => False.elim (by omega)⟩) | (refine ⟨fun c => ?_, fun c => ?_⟩) | (intro c) | fail))
  exact hq h1 B1 hV1 e1 f1
set_option maxHeartbeats 4000000 in
theorem w_wbG {X : Int → Int} {XL : Int} {d : Nat} {h : Mem} {Q : RetP} {K : Int} {A : Int → Int} {v : Nat} {p o n m t : Int} {k : Nat} (hd : 2 * k + 8 ≤ d) (hW : WO X XL K v p o n k (t + 1)) (ht : 0 ≤ t ∧ t ≤ 4) (hv : v + 12 < 123) (hV : Vr K h v A) (hT : VAt h v) (hO : CO h v p o n) (hp1 : p < A 1) (ho1 : o < A 1) (hm0 : 0 ≤ m) (hm1 : m < A 1) (hg : cGo A m) (hq : ∀ h' B, Vr K h' v B → eq8 A B → Fr (VP v) h h' → Q (some (vI (gvN p o k (t + 1) (goB A m)))) h') : WP X XL d 107 [vR 123, vI t, vI m, vI 0] h Q := by
  obtain ⟨kc, c0, c1, c2, c3⟩ := id hO
  obtain ⟨kv, -, -, -, -, -, -, -, ⟨kbh, lbh⟩, -⟩ := id hV.1
  have b0 := hV.2.2.1
  have b1 := hV.2.2.2.1
  have hb := bp_of hV.2.2 hm0 hm1
  have eb := (hV.2.1.2.2.1 m hm0 hm1).2.2.2.1
  obtain ⟨-, -, -, -, -, -, -, t10, -⟩ := id hT
  have f0 : Fr (VP v) h (sG h (v + 8) m (pA A m 3 + 1)) := Fr.refl.sG (by unfold VP; omega)
  have hV0 := hV.bh hT hm0 hm1 (z := pA A m 3 + 1) ⟨by omega, by have := hg.1; omega⟩
  have hT0 := VAt_fr f0 hT
  have hO0 := hO.fr f0 hv
  have q1 : goB A m 1 = A 1 := pu_n (by omega)
  have q0 : goB A m 0 = A 0 := pu_n (by omega)
  refine eX0_worthBehind (by omega) ?_
  rw [t10] at kbh lbh eb
  (repeat' (first | (rw [c0]) | (rw [t10]) | (rw [eb]) | (rw [c01]) | (rw [t101]) | (rw [eb1]) | (refine hW _ _ _ (goB A m) (by omega) hV0 hT0 hO0 (by omega) (by omega) (fun h1 B1 hV1 e1 f1 => ?_); have g1 : h1.1 = h.1 := f1.1; obtain ⟨kc1, c01, -, -, -⟩ := hO0.fr f1 hv; have hT1 := VAt_fr f1 hT0; obtain ⟨-, -, -, -, -, -, -, t101, -⟩ := id hT1; have kv1 := hV1.1.1; have x0 := e1 0 (by omega); have x1 := e1 1 (by omega); have kbh1 := (kd_fr f1 _).trans ((kd_fr f0 _).trans kbh); have lbh1 := (ln_fr f1 _).trans ((ln_fr f0 _).trans lbh); have eb1 := (hV1.2.1.2.2.1 m hm0 (by omega)).2.2.2.1; rw [t101] at eb1; have x3 : pA B1 m 3 = pA A m 3 + 1 := (e1 _ (by omega)).symm.trans pu_e) | (refine ⟨⟨kbh, by omega, Int.lt_of_lt_of_le (by omega : _ < (6 : Int)) (Int.le_of_eq lbh.symm)⟩, ?_⟩; conv => whnf) | (refine ⟨⟨kbh1, by omega, Int.lt_of_lt_of_le (by omega : _ < (6 : Int)) (Int.le_of_eq lbh1.symm)⟩, ?_⟩; conv => whnf) | (refine Ex_step ?_; conv => whnf) | (refine ⟨?_, trivial⟩) | (refine (show den _ _ _ _ _ _ _ _ from ?_); conv => whnf) | (refine ⟨by (first | assumption | rfl | (exact Nat.le_of_ble_eq_true rfl) | (exact ⟨fun h01 => absurd h01 (by decide), by first | rfl | assumption⟩) | (exact ⟨fun _ => by decide, by first | rfl | assumption⟩) | (exact ⟨by assumption, by omega, by omega⟩) | (unfold inI; omega) | omega), ?_⟩; conv => whnf) | (refine ⟨fun c => False.elim (by omega), fun c => ?_⟩) | (refine ⟨fun c => ?_, fun c => False.elim (by omega)⟩) | (refine ⟨fun c => ?_, fun c => ?_⟩) | (intro c) | fail))
  have hV2 := hV1.bh hT1 hm0 (by omega) (z := pA B1 m 3 - 1) (by omega)
  refine hq _ _ hV2 ?_ ((f0.trans f1).sG (by unfold VP; omega))
  intro j hj
  rw [x3, show pA A m 3 + 1 - 1 = pA A m 3 by omega]
  by_cases e : j = 37 + 6 * m + 3
  · rw [e, pu_e]; rfl
  · rw [pu_n e, ← e1 j hj]
    exact (pu_n e).symm
theorem jm_8 {A : Int → Int} {a : Int} : eq8 (jmB A a) (jmpA A a) := by
  intro j hj
  unfold jmB jmpA
  rw [pu_n hj]
set_option maxHeartbeats 4000000 in
theorem w_wbJ {X : Int → Int} {XL : Int} {d : Nat} {h : Mem} {Q : RetP} {K : Int} {A : Int → Int} {v : Nat} {p o n m t : Int} {k : Nat} (hd : 2 * k + 8 ≤ d) (hW : WO X XL K v p o n k (t + 1)) (ht : 0 ≤ t ∧ t ≤ 4) (hv : v + 12 < 123) (hV : Vr K h v A) (hT : VAt h v) (hO : CO h v p o n) (hp1 : p < A 1) (ho1 : o < A 1) (hm0 : 0 ≤ m) (hm1 : m < A 1) {mv : Int} (hmv : mv = 1) (hp0 : 0 ≤ p) (ho0 : 0 ≤ o) (hg : cJp A m) (hq : ∀ h' B, Vr K h' v B → eq8 A B → Fr (VP v) h h' → Q (some (vI (gvN p o k (t + 1) (jmB A (pA A m 3))))) h') : WP X XL d 107 [vR 123, vI t, vI m, vI mv] h Q := by
  subst hmv
  obtain ⟨kc, c0, c1, c2, c3⟩ := id hO
  obtain ⟨kv, ⟨kho, lho⟩, ⟨kmo, lmo⟩, -, -, -, -, -, ⟨kbh, lbh⟩, -⟩ := id hV.1
  have hA := hV.2.2
  have b0 := hA.1
  have b1 := hA.2.1
  have hb := bp_of hA hm0 hm1
  have h3 := hg.1
  have ha := hA.2.2.2.2.2.2.2.2.2.1 (pA A m 3) (by omega) h3
  have eb := (hV.2.1.2.2.1 m hm0 hm1).2.2.2.1
  obtain ⟨eh, em, -⟩ := hV.2.1.2.1 (pA A m 3) (by omega) h3
  obtain ⟨t1, t2, -, -, -, -, -, t10, -⟩ := id hT
  have q1 : jmpA A (pA A m 3) 1 = A 1 := by unfold jmpA; rw [pu_n (by omega), pu_n (by omega), pu_n (by omega)]
  have q0 : jmpA A (pA A m 3) 0 = A 0 := by unfold jmpA; rw [pu_n (by omega), pu_n (by omega), pu_n (by omega)]
  have gc := gv_c hp0 ho0 k (t + 1) K (jmB A (pA A m 3)) (jmpA A (pA A m 3)) (jmB_ok hA (by omega) h3) (by unfold jmB; rw [pu_n (by omega), pu_n (by omega)]; exact hp1) (by unfold jmB; rw [pu_n (by omega), pu_n (by omega)]; exact ho1) jm_8
  rw [gc] at hq
  refine eX0_worthBehind (by omega) ?_
  (repeat' (first | (rw [c0]) | (rw [eb]) | (rw [eh]) | (rw [em]) | (rw [c01]) | (rw [c02]) | (rw [t11]) | (rw [gR_sG]) | (rw [t12]) | (refine w_hasArch (by omega) hV (fun c => ?_) (fun c => False.elim (by omega))) | (refine w_jumpOn (by omega) hV hT (by omega) h3 (fun c => absurd hg.2 c) (fun c h1 hV1 f1 => ?_); have g1 : h1.1 = h.1 := f1.1; have hO1 := hO.fr f1 hv; obtain ⟨kc1, c01, -, -, -⟩ := id hO1; have hT1 := VAt_fr f1 hT; have kv1 := hV1.1.1) | (refine hW _ _ _ (jmpA A (pA A m 3)) (by omega) hV1 hT1 hO1 (by omega) (by omega) (fun h2 B2 hV2 e2 f2 => ?_); have g2 : h2.1 = h.1 := f2.1.trans g1; obtain ⟨kc2, c02, -, -, -⟩ := hO1.fr f2 hv; have hT2 := VAt_fr f2 hT1; obtain ⟨t11, t12, -, -, -, -, -, -, -⟩ := id hT2; have kv2 := hV2.1.1; have x0 := e2 0 (by omega); have kho2 := hV2.1.2.1.1; have lho2 := hV2.1.2.1.2; have kmo2 := hV2.1.2.2.1.1; have lmo2 := hV2.1.2.2.1.2; rw [t11] at kho2 lho2; rw [t12] at kmo2 lmo2) | (refine ⟨⟨kho, by omega, Int.lt_of_lt_of_le (by omega : _ < (9 : Int)) (Int.le_of_eq lho.symm)⟩, ?_⟩; conv => whnf) | (refine ⟨⟨kmo, by omega, Int.lt_of_lt_of_le (by omega : _ < (9 : Int)) (Int.le_of_eq lmo.symm)⟩, ?_⟩; conv => whnf) | (refine ⟨⟨kho2, by omega, Int.lt_of_lt_of_le (by omega : _ < (9 : Int)) (Int.le_of_eq lho2.symm)⟩, ?_⟩; conv => whnf) | (refine ⟨⟨kmo2, by omega, Int.lt_of_lt_of_le (by omega : _ < (9 : Int)) (Int.le_of_eq lmo2.symm)⟩, ?_⟩; conv => whnf) | (refine Ex_step ?_; conv => whnf) | (refine ⟨?_, trivial⟩) | (refine (show den _ _ _ _ _ _ _ _ from ?_); conv => whnf) | (refine ⟨by (first | assumption | rfl | (exact Nat.le_of_ble_eq_true rfl) | (exact ⟨fun h01 => absurd h01 (by decide), by first | rfl | assumption⟩) | (exact ⟨fun _ => by decide, by first | rfl | assumption⟩) | (exact ⟨by assumption, by omega, by omega⟩) | (unfold inI; omega) | omega), ?_⟩; conv => whnf) | (refine ⟨fun c => False.elim (by omega), fun c => ?_⟩) | (refine ⟨fun c => ?_, fun c => False.elim (by omega)⟩) | (refine ⟨fun c => ?_, fun c => ?_⟩) | (intro c) | fail))
  have hV3 := hV2.ho hT2 (a := pA A m 3) (z := hoA A (pA A m 3)) (by omega) (by omega) (by omega)
  have f3 : Fr (VP v) h2 (sG h2 (v + 1) (pA A m 3) (hoA A (pA A m 3))) := Fr.refl.sG (by unfold VP; omega)
  have hV4 := hV3.mo (VAt_fr f3 hT2) (a := pA A m 3) (z := moA A (pA A m 3)) (by omega) (by rw [pu_n (by omega)]; omega) (by omega)
  refine hq _ _ hV4 ?_ (((f1.trans f2).trans f3).sG (by unfold VP; omega))
  intro j hj
  by_cases e : j = 10 + 3 * pA A m 3 + 1
  · rw [e, pu_e]; rfl
  · rw [pu_n e]
    by_cases e5 : j = 10 + 3 * pA A m 3
    · rw [e5, pu_e]; rfl
    · rw [pu_n e5, ← e2 j hj]
      unfold jmpA
      rw [pu_n hj, pu_n e, pu_n e5]
