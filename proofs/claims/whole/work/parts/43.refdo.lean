/-! LEVEL 2: the reference: what is done to its array -/
theorem foN_snoc {σ : Type} {n : Int} {f : Int → σ → σ} : ∀ (k : Nat) (i : Int) (s : σ), (n - i).toNat = k → i ≤ n → foN (n + 1) f i s = f n (foN n f i s) := by
  intro k; induction k with
  | zero =>
    intro i s hk hi
    have : i = n := by omega
    subst this
    rw [foN_go (by omega), foN_end (by omega), foN_end (by omega)]
  | succ k ih =>
    intro i s hk hi
    rw [foN_go (by omega), foN_go (n := n) (by omega)]
    exact ih (i + 1) _ (by omega) (by omega)
/-- nothing but the reference's array below 90 has changed -/
def FrA (h h' : Mem) : Prop := Fr (fun r => r = 128) h h' ∧ ∀ j, j < 0 ∨ 90 ≤ j → gG h' 128 j = gG h 128 j
theorem FrA.refl {h : Mem} : FrA h h := ⟨Fr.refl, fun _ _ => rfl⟩
theorem FrA.trans {h h' h'' : Mem} (a : FrA h h') (b : FrA h' h'') : FrA h h'' := ⟨a.1.trans b.1, fun j hj => (b.2 j hj).trans (a.2 j hj)⟩
theorem FrA.sG {h h' : Mem} {i z : Int} (a : FrA h h') (hi : 0 ≤ i ∧ i < 90) : FrA h (sG h' 128 i z) := ⟨a.1.sG rfl, fun j hj => by rw [g_ne (by omega)]; exact a.2 j hj⟩
theorem Rr.put {K K' : Int} {h : Mem} {A : Int → Int} {i z : Int} (a : Rr K h A) (b : AOk K' (pu A i z)) : Rr K' (sG h 128 i z) (pu A i z) := ⟨a.1, fun j h0 h1 => by
  have := a.2.1 j h0 h1
  rw [gG_sG]
  unfold pu
  by_cases hj : j = i
  · rw [if_pos ⟨rfl, hj⟩, if_pos hj]
  · rw [if_neg (fun q => hj q.2), if_neg hj]; exact this, b⟩
/-- without what the values are -/
def Rz (h : Mem) (A : Int → Int) : Prop := (kd h 127 = 10 ∧ gR h 127 0 = 128 ∧ kd h 128 = 100 ∧ ln h 128 = 3198) ∧ (∀ j, 0 ≤ j → j < 90 → gG h 128 j = A j)
theorem Rr.z {K : Int} {h : Mem} {A : Int → Int} (a : Rr K h A) : Rz h A := ⟨a.1, a.2.1⟩
theorem Rz.put {h : Mem} {A : Int → Int} {i z : Int} (a : Rz h A) : Rz (sG h 128 i z) (pu A i z) := ⟨a.1, fun j h0 h1 => by
  have := a.2 j h0 h1
  rw [gG_sG]
  unfold pu
  by_cases hj : j = i
  · rw [if_pos ⟨rfl, hj⟩, if_pos hj]
  · rw [if_neg (fun q => hj q.2), if_neg hj]; exact this⟩
theorem Rz.ok {K : Int} {h : Mem} {A A' : Int → Int} (a : Rz h A') (e : A' = A) (b : AOk K A) : Rr K h A := by subst e; exact ⟨a.1, a.2, b⟩
def goA (A : Int → Int) (p a : Int) : Int → Int := pu (pu A 8 (zor (A 8) (shlZ 1 a))) (37 + 6 * p + 3) (pA A p 3 + 1)
theorem go_ok {K : Int} {A : Int → Int} {p a : Int} (hA : AOk K A) (hp0 : 0 ≤ p) (hp1 : p < A 1) (ha0 : 0 ≤ a) (ha1 : a < A 0) (h3 : pA A p 3 < A 0) : AOk K (goA A p a) := by
  obtain ⟨b0, b1, b2, b3, b4, b5, b6, b8, bK, ba, bp, bq⟩ := id hA
  have h8 := tr_b b8.1 b8.2 ha0 (by omega)
  have hc := bp p hp0 hp1
  (refine ⟨?_, ?_, ?_, ?_, ?_, ?_, ?_, ?_, ?_, fun x hx0 hx1 => ⟨?_, ?_, ?_⟩, fun x hx0 hx1 => ⟨?_, ?_, ?_, ?_, ?_, ?_⟩, fun x hx0 hx1 => ⟨?_, ?_⟩⟩ <;> simp only [Nat.reduceEqDiff, Nat.add_eq_left, Nat.left_eq_add, Nat.add_left_cancel_iff, Nat.succ_ne_self, Nat.reduceEqDiff, Nat.succ_ne_zero, Int.reduceEq, false_and, and_false, true_and, and_true, if_true, if_false, reduceIte, Int.add_zero, not_true_eq_false, not_false_eq_true, goA, pu, hoA, moA, toA, pA, plA] at * <;> first | omega | (rcases Int.lt_or_le x (A 0) with hxx | hxx); (have := ba x hx0 hxx; omega); omega | (rcases Int.lt_or_le x (A 1) with hxx | hxx); (have := bp x hx0 hxx; omega); omega | (rcases Int.lt_or_le x (A 2) with hxx | hxx); (have := bq x hx0 hxx; omega); omega)
set_option maxHeartbeats 4000000 in
theorem r_goes {X : Int → Int} {XL : Int} {d : Nat} {h : Mem} {Q : RetP} {K : Int} {A : Int → Int} {p a : Int} (hd : 2 ≤ d) (hR : Rr K h A) (hp0 : 0 ≤ p) (hp1 : p < A 1) (ha0 : 0 ≤ a) (ha1 : a < A 0) (h3 : pA A p 3 < A 0) (hq : ∀ h', Rr K h' (goA A p a) → FrA h h' → Q none h') : WP X XL d 264 [vR 127, vI p, vI a] h Q := by
  obtain ⟨⟨kq, r0, kt, lt⟩, eA, ⟨b0, b1, b2, b3, b4, b5, b6, b8, bK, ba, bp, bq⟩⟩ := id hR
  obtain ⟨f0, f1, f2, f3, f4, f5⟩ := bp p hp0 hp1
  have hsh := shl1 ha0 (show a ≤ 20 by omega)
  refine eX10_goes (by omega) ?_
  unfold pA at f3 h3
  (repeat' (first | (refine r_personRow (by omega) (by omega) ?_) | (refine ⟨⟨by omega, by omega, hsh⟩, ?_⟩; conv => whnf) | (refine Ex_step ?_; conv => whnf) | (refine ⟨?_, trivial⟩) | (refine (show den _ _ _ _ _ _ _ _ from ?_); conv => whnf) | (refine ⟨by (first | assumption | rfl | (exact Nat.le_of_ble_eq_true rfl) | (exact ⟨fun h01 => absurd h01 (by decide), by first | rfl | assumption | trivial⟩) | (exact ⟨fun _ => by decide, by first | rfl | assumption | trivial⟩) | (exact ⟨kt, by omega, Int.lt_of_lt_of_le (by omega : _ < (3198 : Int)) (Int.le_of_eq lt.symm)⟩) | (unfold inI; omega) | omega), ?_⟩; conv => whnf; try simp (disch := omega) only [r0, gR_sG, g_same, g_ne, eA]) | (refine ⟨fun c => False.elim (by omega), fun c => ?_⟩) | (refine ⟨fun c => ?_, fun c => False.elim (by omega)⟩) | (refine ⟨fun c => ?_, fun c => ?_⟩) | (intro c) | fail))
  exact hq _ (hR.z.put.put.ok rfl (go_ok hR.2.2 hp0 hp1 ha0 ha1 h3)) ((FrA.refl.sG (by omega)).sG (by omega))
def pyA (A : Int → Int) (p a : Int) : Int → Int := pu A (37 + 6 * p + 4) (pA A p 4 + toA A a)
theorem py_ok {K : Int} {A : Int → Int} {p a : Int} (hA : AOk K A) (hK : K + 9 ≤ 30000000) (hp0 : 0 ≤ p) (hp1 : p < A 1) (ha0 : 0 ≤ a) (ha1 : a < A 0) : AOk (K + 9) (pyA A p a) := by
  obtain ⟨b0, b1, b2, b3, b4, b5, b6, b8, bK, ba, bp, bq⟩ := id hA
  have hb := ba a ha0 ha1
  have hc := bp p hp0 hp1
  (refine ⟨?_, ?_, ?_, ?_, ?_, ?_, ?_, ?_, ?_, fun x hx0 hx1 => ⟨?_, ?_, ?_⟩, fun x hx0 hx1 => ⟨?_, ?_, ?_, ?_, ?_, ?_⟩, fun x hx0 hx1 => ⟨?_, ?_⟩⟩ <;> simp only [Nat.reduceEqDiff, Nat.add_eq_left, Nat.left_eq_add, Nat.add_left_cancel_iff, Nat.succ_ne_self, Nat.reduceEqDiff, Nat.succ_ne_zero, Int.reduceEq, false_and, and_false, true_and, and_true, if_true, if_false, reduceIte, Int.add_zero, not_true_eq_false, not_false_eq_true, pyA, pu, hoA, moA, toA, pA, plA] at * <;> first | omega | (rcases Int.lt_or_le x (A 0) with hxx | hxx); (have := ba x hx0 hxx; omega); omega | (rcases Int.lt_or_le x (A 1) with hxx | hxx); (have := bp x hx0 hxx; omega); omega | (rcases Int.lt_or_le x (A 2) with hxx | hxx); (have := bq x hx0 hxx; omega); omega)
set_option maxHeartbeats 4000000 in
theorem r_paysAt {X : Int → Int} {XL : Int} {d : Nat} {h : Mem} {Q : RetP} {K : Int} {A : Int → Int} {p a : Int} (hd : 3 ≤ d) (hR : Rr K h A) (hK : K + 9 ≤ 30000000) (hp0 : 0 ≤ p) (hp1 : p < A 1) (ha0 : 0 ≤ a) (ha1 : a < A 0) (hq : ∀ h', Rr (K + 9) h' (pyA A p a) → FrA h h' → Q none h') : WP X XL d 265 [vR 127, vI p, vI a] h Q := by
  obtain ⟨⟨kq, r0, kt, lt⟩, eA, ⟨b0, b1, b2, b3, b4, b5, b6, b8, bK, ba, bp, bq⟩⟩ := id hR
  obtain ⟨f0, f1, f2, f3, f4, f5⟩ := bp p hp0 hp1
  obtain ⟨fa0, fa1, fa2⟩ := ba a ha0 ha1
  refine eX10_paysAt (by omega) ?_
  unfold pA at f4
  (repeat' (first | (refine r_personRow (by omega) (by omega) ?_) | (refine r_to (by omega) hR (by omega) ?_) | (refine Ex_step ?_; conv => whnf) | (refine ⟨?_, trivial⟩) | (refine (show den _ _ _ _ _ _ _ _ from ?_); conv => whnf) | (refine ⟨by (first | assumption | rfl | (exact Nat.le_of_ble_eq_true rfl) | (exact ⟨fun h01 => absurd h01 (by decide), by first | rfl | assumption | trivial⟩) | (exact ⟨fun _ => by decide, by first | rfl | assumption | trivial⟩) | (exact ⟨kt, by omega, Int.lt_of_lt_of_le (by omega : _ < (3198 : Int)) (Int.le_of_eq lt.symm)⟩) | (unfold inI; omega) | omega), ?_⟩; conv => whnf; try simp (disch := omega) only [r0, gR_sG, g_same, g_ne, eA]) | (refine ⟨fun c => False.elim (by omega), fun c => ?_⟩) | (refine ⟨fun c => ?_, fun c => False.elim (by omega)⟩) | (refine ⟨fun c => ?_, fun c => ?_⟩) | (intro c) | fail))
  exact hq _ (hR.z.put.ok rfl (py_ok hR.2.2 hK hp0 hp1 ha0 ha1)) (FrA.refl.sG (by omega))
/-- one who was stopped falls, if he doubts -/
def flA (A : Int → Int) (p : Int) : Int → Int := if A 0 ≤ pA A p 3 ∨ pA A p 1 = 0 ∨ pA A p 3 ≤ A 3 then A else pu (pu A (37 + 6 * p + 3) (A 3)) (37 + 6 * p + 5) (pA A p 5 + 1)
theorem flA_n {A : Int → Int} {p : Int} (h : A 0 ≤ pA A p 3 ∨ pA A p 1 = 0 ∨ pA A p 3 ≤ A 3) : flA A p = A := if_pos h
theorem flA_y {A : Int → Int} {p : Int} (h : ¬ (A 0 ≤ pA A p 3 ∨ pA A p 1 = 0 ∨ pA A p 3 ≤ A 3)) : flA A p = pu (pu A (37 + 6 * p + 3) (A 3)) (37 + 6 * p + 5) (pA A p 5 + 1) := if_neg h
theorem AOk_K {K K' : Int} {A : Int → Int} (q : AOk K A) (h1 : K ≤ K') (h2 : K' ≤ 30000000) : AOk K' A := by
  obtain ⟨b0, b1, b2, b3, b4, b5, b6, b8, bK, ba, bp, bq⟩ := q
  refine ⟨b0, b1, b2, b3, b4, b5, b6, b8, by omega, ba, fun x hx0 hx1 => ?_, bq⟩
  have := bp x hx0 hx1
  omega
theorem Rr_K {K K' : Int} {h : Mem} {A : Int → Int} (q : Rr K h A) (h1 : K ≤ K') (h2 : K' ≤ 30000000) : Rr K' h A := ⟨q.1, q.2.1, AOk_K q.2.2 h1 h2⟩
theorem fl_ok {K : Int} {A : Int → Int} {p : Int} (hA : AOk K A) (hK : K + 1 ≤ 30000000) (hp0 : 0 ≤ p) (hp1 : p < A 1) : AOk (K + 1) (flA A p) := by
  by_cases hc : A 0 ≤ pA A p 3 ∨ pA A p 1 = 0 ∨ pA A p 3 ≤ A 3
  · rw [flA_n hc]; exact AOk_K hA (by omega) hK
  · rw [flA_y hc]
    obtain ⟨b0, b1, b2, b3, b4, b5, b6, b8, bK, ba, bp, bq⟩ := id hA
    have hb := bp p hp0 hp1
    (refine ⟨?_, ?_, ?_, ?_, ?_, ?_, ?_, ?_, ?_, fun x hx0 hx1 => ⟨?_, ?_, ?_⟩, fun x hx0 hx1 => ⟨?_, ?_, ?_, ?_, ?_, ?_⟩, fun x hx0 hx1 => ⟨?_, ?_⟩⟩ <;> simp only [Nat.reduceEqDiff, Nat.add_eq_left, Nat.left_eq_add, Nat.add_left_cancel_iff, Nat.succ_ne_self, Nat.reduceEqDiff, Nat.succ_ne_zero, Int.reduceEq, false_and, and_false, true_and, and_true, if_true, if_false, reduceIte, Int.add_zero, not_true_eq_false, not_false_eq_true, pu, pu, hoA, moA, toA, pA, plA] at * <;> first | omega | (rcases Int.lt_or_le x (A 0) with hxx | hxx); (have := ba x hx0 hxx; omega); omega | (rcases Int.lt_or_le x (A 1) with hxx | hxx); (have := bp x hx0 hxx; omega); omega | (rcases Int.lt_or_le x (A 2) with hxx | hxx); (have := bq x hx0 hxx; omega); omega)
set_option maxHeartbeats 4000000 in
theorem r_mayFall {X : Int → Int} {XL : Int} {d : Nat} {h : Mem} {Q : RetP} {K : Int} {A : Int → Int} {p : Int} (hd : 4 ≤ d) (hR : Rr K h A) (hK : K + 1 ≤ 30000000) (hp0 : 0 ≤ p) (hp1 : p < A 1) (hq : ∀ h', Rr (K + 1) h' (flA A p) → FrA h h' → Q none h') : WP X XL d 266 [vR 127, vI p] h Q := by
  have hok := fl_ok hR.2.2 hK hp0 hp1
  by_cases hc : A 0 ≤ pA A p 3 ∨ pA A p 1 = 0 ∨ pA A p 3 ≤ A 3
  · rw [flA_n hc] at hq hok
    have hq := hq h (Rr_K hR (by omega) hK) FrA.refl
    obtain ⟨⟨kq, r0, kt, lt⟩, eA, ⟨b0, b1, b2, b3, b4, b5, b6, b8, bK, ba, bp, bq⟩⟩ := id hR
    obtain ⟨f0, f1, f2, f3, f4, f5⟩ := bp p hp0 hp1
    refine eX10_mayFall (by omega) ?_
    (repeat' (first | (refine r_isOver (by omega) hR hp0 hp1 (fun c => ?_) (fun c => ?_)) | (refine r_personOf (by omega) hR (by omega) (by omega) ?_) | (refine Ex_step ?_; conv => whnf) | (refine ⟨?_, trivial⟩) | (refine (show den _ _ _ _ _ _ _ _ from ?_); conv => whnf) | (refine ⟨by (first | assumption | rfl | (exact Nat.le_of_ble_eq_true rfl) | (exact ⟨fun h01 => absurd h01 (by decide), by first | rfl | assumption | trivial⟩) | (exact ⟨fun _ => by decide, by first | rfl | assumption | trivial⟩) | (exact ⟨kt, by omega, Int.lt_of_lt_of_le (by omega : _ < (3198 : Int)) (Int.le_of_eq lt.symm)⟩) | (unfold inI; omega) | omega), ?_⟩; conv => whnf; try simp (disch := omega) only [r0, gR_sG, g_same, g_ne, eA]) | (refine ⟨fun c => False.elim (by omega), fun c => ?_⟩) | (refine ⟨fun c => ?_, fun c => False.elim (by omega)⟩) | (refine ⟨fun c => ?_, fun c => ?_⟩) | (intro c) | fail))
    all_goals first | exact hq | (exfalso; omega)
  · rw [flA_y hc] at hq hok
    obtain ⟨⟨kq, r0, kt, lt⟩, eA, ⟨b0, b1, b2, b3, b4, b5, b6, b8, bK, ba, bp, bq⟩⟩ := id hR
    obtain ⟨f0, f1, f2, f3, f4, f5⟩ := bp p hp0 hp1
    refine eX10_mayFall (by omega) ?_
    unfold pA at f5
    (repeat' (first | (refine r_isOver (by omega) hR hp0 hp1 (fun c => ?_) (fun c => ?_)) | (refine r_personOf (by omega) hR (by omega) (by omega) ?_) | (refine r_personRow (by omega) (by omega) ?_) | (refine Ex_step ?_; conv => whnf) | (refine ⟨?_, trivial⟩) | (refine (show den _ _ _ _ _ _ _ _ from ?_); conv => whnf) | (refine ⟨by (first | assumption | rfl | (exact Nat.le_of_ble_eq_true rfl) | (exact ⟨fun h01 => absurd h01 (by decide), by first | rfl | assumption | trivial⟩) | (exact ⟨fun _ => by decide, by first | rfl | assumption | trivial⟩) | (exact ⟨kt, by omega, Int.lt_of_lt_of_le (by omega : _ < (3198 : Int)) (Int.le_of_eq lt.symm)⟩) | (unfold inI; omega) | omega), ?_⟩; conv => whnf; try simp (disch := omega) only [r0, gR_sG, g_same, g_ne, eA]) | (refine ⟨fun c => False.elim (by omega), fun c => ?_⟩) | (refine ⟨fun c => ?_, fun c => False.elim (by omega)⟩) | (refine ⟨fun c => ?_, fun c => ?_⟩) | (intro c) | fail))
    all_goals first | (exfalso; omega) | skip
    exact hq _ (hR.z.put.put.ok rfl hok) ((FrA.refl.sG (by omega)).sG (by omega))
-- runs: the state with both at arch a
def rnA (A : Int → Int) (p o a : Int) : Int → Int := pu (pu (foN a (trF p) (pA A p 3) A) (37 + 6 * p + 3) a) (37 + 6 * o + 3) a
theorem or_tab : ∀ s, s < 512 → ∀ i, i < 9 → zor (zor (s : Nat) (shlZ 1 (i : Nat))) (shlZ 1 (i : Nat)) = zor (s : Nat) (shlZ 1 (i : Nat)) := by decide +kernel
theorem or_or {s i : Int} (h0 : 0 ≤ s) (h1 : s ≤ 511) (h2 : 0 ≤ i) (h3 : i < 9) : zor (zor s (shlZ 1 i)) (shlZ 1 i) = zor s (shlZ 1 i) := by
  obtain ⟨m, rfl⟩ := Int.eq_ofNat_of_zero_le h0
  obtain ⟨n, rfl⟩ := Int.eq_ofNat_of_zero_le h2
  exact or_tab m (by omega) n (by omega)
theorem pu_id {A : Int → Int} {i z : Int} (h : A i = z) : pu A i z = A := by
  funext j
  unfold pu
  by_cases hj : j = i
  · rw [if_pos hj, hj, h]
  · rw [if_neg hj]
theorem pu_pu {A : Int → Int} {i z w : Int} : pu (pu A i z) i w = pu A i w := by
  funext j
  unfold pu
  by_cases hj : j = i
  · rw [if_pos hj, if_pos hj]
  · rw [if_neg hj, if_neg hj, if_neg hj]
theorem pu_c {A : Int → Int} {i j z w : Int} (h : ¬ i = j) : pu (pu A i z) j w = pu (pu A j w) i z := by
  funext x
  unfold pu
  by_cases h1 : x = i
  · rw [if_neg (by omega), if_pos h1, if_pos h1]
  · rw [if_neg h1, if_neg h1]
theorem pu_e {A : Int → Int} {i z : Int} : pu A i z i = z := if_pos rfl
theorem pu_n {A : Int → Int} {i j z : Int} (h : ¬ j = i) : pu A i z j = A j := if_neg h
theorem rn_0 {A : Int → Int} {p o : Int} (ho : pA A o 3 = pA A p 3) : rnA A p o (pA A p 3) = A := by
  unfold rnA
  rw [foN_end (by omega), pu_id (A := A) (i := 37 + 6 * p + 3) (z := pA A p 3) rfl, pu_id (A := A) ho]
theorem rn_low {A : Int → Int} {p o a j : Int} (hp0 : 0 ≤ p) (ho0 : 0 ≤ o) (hj : j < 37) (h8 : ¬ j = 8) : rnA A p o a j = A j := by
  unfold rnA
  rw [pu_n (by omega), pu_n (by omega)]
  exact (foF_0 hp0 _ _ A rfl).1 j hj h8
theorem rn_hi {A : Int → Int} {p o a j : Int} (hp0 : 0 ≤ p) (ho0 : 0 ≤ o) (hj : 37 ≤ j) (h4 : ¬ j = 37 + 6 * p + 4) (h3 : ¬ j = 37 + 6 * p + 3) (h5 : ¬ j = 37 + 6 * o + 3) : rnA A p o a j = A j := by
  unfold rnA
  rw [pu_n (by omega), pu_n (by omega)]
  exact (foF_0 hp0 _ _ A rfl).2 j hj h4
theorem rn_p {A : Int → Int} {p o a : Int} : pA (rnA A p o a) p 3 = a := by
  unfold pA rnA pu
  by_cases h : 37 + 6 * p + 3 = 37 + 6 * o + 3
  · rw [if_pos h]
  · rw [if_neg h, if_pos rfl]
theorem rn_o {A : Int → Int} {p o a : Int} : pA (rnA A p o a) o 3 = a := by
  unfold pA rnA
  exact pu_e
theorem rn_st1 {A : Int → Int} {p a : Int} (hp0 : 0 ≤ p) (ha : pA A p 3 ≤ a) (ha8 : a < 9) : goA (pyA (rnA A p p a) p a) p a = rnA A p p (a + 1) := by
  have h0 : pA (pyA (rnA A p p a) p a) p 3 = a := by unfold pyA; unfold pA; rw [pu_n (by omega)]; exact rn_p
  unfold goA
  rw [h0]
  unfold rnA
  rw [foN_snoc _ _ _ rfl ha]
  generalize foN a (trF p) (pA A p 3) A = C
  funext j
  simp only [trF, pyA, pu, pA, toA]
  by_cases h1 : j = 37 + 6 * p + 3
  · (repeat (first | rw [if_neg (by omega)] | rw [if_pos (by omega)] | rw [if_pos trivial]))
  · by_cases h2 : j = 8
    · (repeat (first | rw [if_neg (by omega)] | rw [if_pos (by omega)] | rw [if_pos trivial]))
    · by_cases h3 : j = 37 + 6 * p + 4
      · (repeat (first | rw [if_neg (by omega)] | rw [if_pos (by omega)] | rw [if_pos trivial]))
      · (repeat (first | rw [if_neg (by omega)] | rw [if_pos (by omega)] | rw [if_pos trivial]))
theorem rn_st2 {A : Int → Int} {p o a : Int} (hp0 : 0 ≤ p) (ho0 : 0 ≤ o) (hne : ¬ p = o) (ha : pA A p 3 ≤ a) (ha0 : 0 ≤ a) (ha8 : a < 9) (h80 : 0 ≤ rnA A p o a 8) (h81 : rnA A p o a 8 ≤ 511) : goA (goA (pyA (rnA A p o a) p a) p a) o a = rnA A p o (a + 1) := by
  have h0 : pA (pyA (rnA A p o a) p a) p 3 = a := by unfold pyA; unfold pA; rw [pu_n (by omega)]; exact rn_p
  have h1 : pA (goA (pyA (rnA A p o a) p a) p a) o 3 = a := by
    unfold goA pyA; unfold pA; rw [pu_n (by omega), pu_n (by omega), pu_n (by omega)]; exact rn_o
  have h2 : rnA A p o a 8 = foN a (trF p) (pA A p 3) A 8 := by unfold rnA; rw [pu_n (by omega), pu_n (by omega)]
  rw [h2] at h80 h81
  rw [show ∀ B, goA B o a = pu (pu B 8 (zor (B 8) (shlZ 1 a))) (37 + 6 * o + 3) (pA B o 3 + 1) from fun _ => rfl, h1]
  rw [show ∀ B, goA B p a = pu (pu B 8 (zor (B 8) (shlZ 1 a))) (37 + 6 * p + 3) (pA B p 3 + 1) from fun _ => rfl, h0]
  unfold rnA
  rw [foN_snoc _ _ _ rfl ha]
  generalize foN a (trF p) (pA A p 3) A = C at *
  have hor := or_or h80 h81 ha0 ha8
  funext j
  simp only [trF, pyA, pu, pA, toA]
  by_cases h1 : j = 37 + 6 * p + 3
  · (repeat (first | rw [if_neg (by omega)] | rw [if_pos (by omega)] | rw [if_pos trivial]))
  · by_cases h4 : j = 37 + 6 * o + 3
    · (repeat (first | rw [if_neg (by omega)] | rw [if_pos (by omega)] | rw [if_pos trivial]))
    · by_cases h2 : j = 8
      · (repeat (first | rw [if_neg (by omega)] | rw [if_pos (by omega)] | rw [if_pos trivial]))
        exact hor
      · by_cases h3 : j = 37 + 6 * p + 4
        · (repeat (first | rw [if_neg (by omega)] | rw [if_pos (by omega)] | rw [if_pos trivial]))
        · (repeat (first | rw [if_neg (by omega)] | rw [if_pos (by omega)] | rw [if_pos trivial]))
theorem fl_lan {C : Int → Int} {p s : Int} (hp0 : 0 ≤ p) (hdb : 0 ≤ pA C p 1) : flA (pu C (37 + 6 * p + 3) s) p = lanA C p s := by
  have e0 : pu C (37 + 6 * p + 3) s 0 = C 0 := pu_n (by omega)
  have e3 : pu C (37 + 6 * p + 3) s 3 = C 3 := pu_n (by omega)
  have ep : pA (pu C (37 + 6 * p + 3) s) p 3 = s := by unfold pA; exact pu_e
  have e1 : pA (pu C (37 + 6 * p + 3) s) p 1 = pA C p 1 := by unfold pA; exact pu_n (by omega)
  have e5 : pA (pu C (37 + 6 * p + 3) s) p 5 = pA C p 5 := by unfold pA; exact pu_n (by omega)
  unfold flA lanA
  rw [e0, e3, ep, e1, e5]
  by_cases hc : C 0 ≤ s ∨ pA C p 1 = 0 ∨ s ≤ C 3
  · rw [if_pos hc, aft_f (by omega), if_neg (by omega), Int.add_zero, pu_id (i := 37 + 6 * p + 5)]
    exact pu_n (by omega)
  · rw [if_neg hc, aft_t (by omega), if_pos (by omega), pu_pu]
theorem lan_c {C : Int → Int} {p o s : Int} (hp0 : 0 ≤ p) (ho0 : 0 ≤ o) (hne : ¬ p = o) : lanA (pu C (37 + 6 * o + 3) s) p s = pu (lanA C p s) (37 + 6 * o + 3) s := by
  have e0 : pu C (37 + 6 * o + 3) s 0 = C 0 := pu_n (by omega)
  have e3 : pu C (37 + 6 * o + 3) s 3 = C 3 := pu_n (by omega)
  have e1 : pA (pu C (37 + 6 * o + 3) s) p 1 = pA C p 1 := by unfold pA; exact pu_n (by omega)
  have e5 : pA (pu C (37 + 6 * o + 3) s) p 5 = pA C p 5 := by unfold pA; exact pu_n (by omega)
  unfold lanA aft
  rw [e0, e3, e1, e5]
  rw [pu_c (show ¬ (37 + 6 * o + 3) = 37 + 6 * p + 3 by omega), pu_c (show ¬ (37 + 6 * o + 3) = 37 + 6 * p + 5 by omega)]
/-- what becomes of all when one runs (with himself), or two with a rope -/
def rrA (A : Int → Int) (p o : Int) : Int → Int := if p = o then runA A p else ropA A p o
def rrS (A : Int → Int) (p o : Int) : Int := stN (A 0) (okB A p o) (pA A p 3)
theorem rr_1 {A : Int → Int} {p : Int} (hp0 : 0 ≤ p) (hdb : 0 ≤ pA A p 1) : flA (rnA A p p (rrS A p p)) p = rrA A p p := by
  unfold rrA rrS rnA
  rw [if_pos rfl, okB_1, pu_pu, fl_lan hp0]
  · rfl
  · unfold pA at hdb ⊢
    rw [(foF_0 hp0 _ _ A rfl).2 (37 + 6 * p + 1) (by omega) (by omega)]
    exact hdb
theorem rr_2 {A : Int → Int} {p o : Int} (hp0 : 0 ≤ p) (ho0 : 0 ≤ o) (hne : ¬ p = o) (hdb : 0 ≤ pA A p 1) (hdo : 0 ≤ pA A o 1) : flA (flA (rnA A p o (rrS A p o)) p) o = rrA A p o := by
  unfold rrA rrS rnA
  rw [if_neg hne, okB_2 hne, pu_c (show ¬ (37 + 6 * p + 3) = 37 + 6 * o + 3 by omega), fl_lan hp0, lan_c hp0 ho0 hne, fl_lan ho0]
  · rfl
  · unfold pA at hdo ⊢
    unfold lanA
    rw [pu_n (by omega), pu_n (by omega), (foF_0 hp0 _ _ A rfl).2 (37 + 6 * o + 1) (by omega) (by omega)]
    exact hdo
  · unfold pA at hdb ⊢
    rw [pu_n (by omega)]
    rw [(foF_0 hp0 _ _ A rfl).2 (37 + 6 * p + 1) (by omega) (by omega)]
    exact hdb
/-- what an arch bears isn't changed by who is where and paid what -/
theorem okB_c {A B : Int → Int} {p o a : Int} (h4 : B 4 = A 4) (hh : hoA B a = hoA A a) (hm : moA B a = moA A a) (hp : ∀ w, 0 ≤ w → w ≤ 2 → pA B p w = pA A p w) (ho : ∀ w, 0 ≤ w → w ≤ 2 → pA B o w = pA A o w) : okB B p o a = okB A p o a := by
  have p0 := hp 0 (by omega) (by omega)
  have p1 := hp 1 (by omega) (by omega)
  have p2 := hp 2 (by omega) (by omega)
  have o0 := ho 0 (by omega) (by omega)
  have o1 := ho 1 (by omega) (by omega)
  have o2 := ho 2 (by omega) (by omega)
  unfold okB okBy okRo sBy sRo
  rw [h4, hh, hm, p0, p1, p2, o0, o1, o2]
theorem rn_ok {A : Int → Int} {p o a b : Int} (hp0 : 0 ≤ p) (ho0 : 0 ≤ o) (hb : b < 9) (hb0 : 0 ≤ b) : okB (rnA A p o a) p o b = okB A p o b := by
  refine okB_c (rn_low hp0 ho0 (by omega) (by omega)) ?_ ?_ ?_ ?_
  · unfold hoA; exact rn_low hp0 ho0 (by omega) (by omega)
  · unfold moA; exact rn_low hp0 ho0 (by omega) (by omega)
  · intro w h0 h1; unfold pA; exact rn_hi hp0 ho0 (by omega) (by omega) (by omega) (by omega)
  · intro w h0 h1; unfold pA; exact rn_hi hp0 ho0 (by omega) (by omega) (by omega) (by omega)
set_option maxHeartbeats 4000000 in
theorem r_runs {X : Int → Int} {XL : Int} {d : Nat} {h : Mem} {Q : RetP} {K : Int} {A : Int → Int} {p o : Int} (hd : 6 ≤ d) (hR : Rr K h A) (hK : K + 83 ≤ 30000000) (hp0 : 0 ≤ p) (hp1 : p < A 1) (ho0 : 0 ≤ o) (ho1 : o < A 1) (heq : pA A o 3 = pA A p 3) (hq : ∀ h', Rr (K + 83) h' (rrA A p o) → FrA h h' → Q (some (vI (rrS A p o - pA A p 3))) h') : WP X XL d 267 [vR 127, vI p, vI o] h Q := by
  have hA := hR.2.2
  obtain ⟨b0, b1, b2, b3, b4, b5, b6, b8, bK, ba, bp, bq⟩ := id hA
  obtain ⟨f0, f1, f2, f3, f4, f5⟩ := bp p hp0 hp1
  obtain ⟨fo0, fo1, fo2, fo3, fo4, fo5⟩ := bp o ho0 ho1
  have fin : ∀ (K' : Int) (h' : Mem) (jk : Option MV), Rr K' h' (rnA A p o (rrS A p o)) → K' ≤ K + 81 → FrA h h' → Ex (WP X XL (d - 1)) KX10_runs h.1 Q 65 [some (vR 127), some (vI p), some (vI o), some (vI (rrS A p o - pA A p 3)), jk] [] h' := by
    intro K' h' jk hR' hK' fr
    have e1 := rn_low (A := A) (p := p) (o := o) (a := rrS A p o) (j := 1) hp0 ho0 (by omega) (by omega)
    have kq := hR'.1.1
    have g1 := fr.1.1
    by_cases hc : p = o
    · subst hc
      refine Ex_step ?_; conv => whnf
      (repeat' (first | (refine r_mayFall (by omega) hR' (by omega) hp0 (by omega) (fun h2 hR2 fr2 => ?_); have kq2 := hR2.1.1; have g2 : h2.1 = h.1 := fr2.1.1.trans g1) | (refine Ex_step ?_; conv => whnf) | (refine ⟨?_, trivial⟩) | (refine (show den _ _ _ _ _ _ _ _ from ?_); conv => whnf) | (refine ⟨by (first | assumption | rfl | (exact Nat.le_of_ble_eq_true rfl) | (exact ⟨fun h01 => absurd h01 (by decide), by first | rfl | assumption⟩) | (exact ⟨fun _ => by decide, by first | rfl | assumption⟩) | (exact ⟨by assumption, by omega, by omega⟩) | (unfold inI; omega) | omega), ?_⟩; conv => whnf) | (refine ⟨fun c => False.elim (by omega), fun c => ?_⟩) | (refine ⟨fun c => ?_, fun c => False.elim (by omega)⟩) | (refine ⟨fun c => ?_, fun c => ?_⟩) | (intro c) | fail))
      rw [rr_1 hp0 f1.1] at hR2
      exact hq _ (Rr_K hR2 (by omega) (by omega)) (fr.trans fr2)
    · have e2 : flA (rnA A p o (rrS A p o)) p 1 = A 1 := by
        rw [← e1]
        unfold flA
        split
        · rfl
        · rw [pu_n (by omega), pu_n (by omega)]
      refine Ex_step ?_; conv => whnf
      (repeat' (first | (refine r_mayFall (by omega) hR' (by omega) hp0 (by omega) (fun h2 hR2 fr2 => ?_); have kq2 := hR2.1.1; have g2 : h2.1 = h.1 := fr2.1.1.trans g1) | (refine r_mayFall (by omega) hR2 (by omega) ho0 (by omega) (fun h3 hR3 fr3 => ?_); have kq3 := hR3.1.1; have g3 : h3.1 = h.1 := fr3.1.1.trans g2) | (refine Ex_step ?_; conv => whnf) | (refine ⟨?_, trivial⟩) | (refine (show den _ _ _ _ _ _ _ _ from ?_); conv => whnf) | (refine ⟨by (first | assumption | rfl | (exact Nat.le_of_ble_eq_true rfl) | (exact ⟨fun h01 => absurd h01 (by decide), by first | rfl | assumption⟩) | (exact ⟨fun _ => by decide, by first | rfl | assumption⟩) | (exact ⟨by assumption, by omega, by omega⟩) | (unfold inI; omega) | omega), ?_⟩; conv => whnf) | (refine ⟨fun c => False.elim (by omega), fun c => ?_⟩) | (refine ⟨fun c => ?_, fun c => False.elim (by omega)⟩) | (refine ⟨fun c => ?_, fun c => ?_⟩) | (intro c) | fail))
      rw [rr_2 hp0 ho0 hc f1.1 fo1.1] at hR3
      exact hq _ (Rr_K hR3 (by omega) (by omega)) ((fr.trans fr2).trans fr3)
  have loop : ∀ (k : Nat) (a K' : Int) (h' : Mem) (jk : Option MV), (A 0 - a).toNat = k → 0 ≤ a → a ≤ A 0 → pA A p 3 ≤ a → Rr K' h' (rnA A p o a) → FrA h h' → K' + 9 * (A 0 - a) ≤ K + 81 → K' ≤ K + 81 → rrS A p o = stN (A 0) (okB A p o) a → Ex (WP X XL (d - 1)) KX10_runs h.1 Q 2 [some (vR 127), some (vI p), some (vI o), some (vI (a - pA A p 3)), jk] [] h' := by
    intro k; induction k with
    | zero =>
      intro a K' h' jk hk ha0 ha1 hpa hR' fr hK1 hK2 hS
      rw [stN_end (Or.inl (by omega))] at hS
      have e0 := rn_low (A := A) (p := p) (o := o) (a := a) (j := 0) hp0 ho0 (by omega) (by omega)
      have e1 := rn_low (A := A) (p := p) (o := o) (a := a) (j := 1) hp0 ho0 (by omega) (by omega)
      have e3 := rn_p (A := A) (p := p) (o := o) (a := a)
      have kq := hR'.1.1
      refine Ex_step ?_; conv => whnf
      (repeat' (first | (refine r_isOver (by omega) hR' hp0 (by omega) (fun c => ?_) (fun c => False.elim (by omega))) | (rw [← hS]; exact fin K' h' jk (by rw [hS]; exact hR') hK2 fr) | (refine Ex_step ?_; conv => whnf) | (refine ⟨?_, trivial⟩) | (refine (show den _ _ _ _ _ _ _ _ from ?_); conv => whnf) | (refine ⟨by (first | assumption | rfl | (exact Nat.le_of_ble_eq_true rfl) | (exact ⟨fun h01 => absurd h01 (by decide), by first | rfl | assumption⟩) | (exact ⟨fun _ => by decide, by first | rfl | assumption⟩) | (exact ⟨by assumption, by omega, by omega⟩) | (unfold inI; omega) | omega), ?_⟩; conv => whnf) | (refine ⟨fun c => False.elim (by omega), fun c => ?_⟩) | (refine ⟨fun c => ?_, fun c => False.elim (by omega)⟩) | (refine ⟨fun c => ?_, fun c => ?_⟩) | (intro c) | fail))
    | succ k ih =>
      intro a K' h' jk hk ha0 ha1 hpa hR' fr hK1 hK2 hS
      have ha9 : a < A 0 := by omega
      have e0 := rn_low (A := A) (p := p) (o := o) (a := a) (j := 0) hp0 ho0 (by omega) (by omega)
      have e1 := rn_low (A := A) (p := p) (o := o) (a := a) (j := 1) hp0 ho0 (by omega) (by omega)
      have e3 := rn_p (A := A) (p := p) (o := o) (a := a)
      have e3o := rn_o (A := A) (p := p) (o := o) (a := a)
      have hB := rn_ok (A := A) (p := p) (o := o) (a := a) (b := a) hp0 ho0 (by omega) (by omega)
      have kq := hR'.1.1
      have g1 := fr.1.1
      by_cases hok : okB A p o a = true
      · rw [stN_go ha9 hok] at hS
        rw [hok] at hB
        have ih2 : ∀ h'' jk, Rr (K' + 9) h'' (rnA A p o (a + 1)) → FrA h h'' → Ex (WP X XL (d - 1)) KX10_runs h.1 Q 2 [some (vR 127), some (vI p), some (vI o), some (vI (a - pA A p 3 + 1)), jk] [] h'' := fun h'' jk q1 q2 => fin2 (by rw [show a - pA A p 3 + 1 = a + 1 - pA A p 3 by omega]) (ih (a + 1) (K' + 9) h'' jk (by omega) (by omega) (by omega) (by omega) q1 q2 (by omega) (by omega) hS)
        have y0 : pyA (rnA A p o a) p a 0 = A 0 := by unfold pyA; rw [pu_n (by omega)]; exact e0
        have y1 : pyA (rnA A p o a) p a 1 = A 1 := by unfold pyA; rw [pu_n (by omega)]; exact e1
        have y3 : pA (pyA (rnA A p o a) p a) p 3 = a := by unfold pyA; unfold pA; rw [pu_n (by omega)]; exact e3
        by_cases hc : p = o
        · subst hc
          have hst := rn_st1 (A := A) (a := a) hp0 hpa (by omega)
          refine Ex_step ?_; conv => whnf
          (repeat' (first | (rw [e3]) | (refine r_isOver (by omega) hR' hp0 (by omega) (fun c => False.elim (by omega)) (fun c => ?_)) | (refine r_personOf (by omega) hR' (by omega) (by omega) ?_) | (refine r_bears (by omega) hR' hp0 (by omega) ho0 (by omega) ha0 (by omega) (fun c => ?_) (fun c => absurd (c.symm.trans hB) Bool.false_ne_true)) | (refine r_paysAt (by omega) hR' (by omega) hp0 (by omega) ha0 (by omega) (fun h2 hR2 fr2 => ?_); have kq2 := hR2.1.1) | (refine r_goes (by omega) hR2 hp0 (by omega) ha0 (by omega) (by omega) (fun h3 hR3 fr3 => ?_); rw [hst] at hR3) | (refine ih2 h3 _ hR3 ((fr.trans fr2).trans fr3)) | (refine Ex_step ?_; conv => whnf) | (refine ⟨?_, trivial⟩) | (refine (show den _ _ _ _ _ _ _ _ from ?_); conv => whnf) | (refine ⟨by (first | assumption | rfl | (exact Nat.le_of_ble_eq_true rfl) | (exact ⟨fun h01 => absurd h01 (by decide), by first | rfl | assumption⟩) | (exact ⟨fun _ => by decide, by first | rfl | assumption⟩) | (exact ⟨by assumption, by omega, by omega⟩) | (unfold inI; omega) | omega), ?_⟩; conv => whnf) | (refine ⟨fun c => False.elim (by omega), fun c => ?_⟩) | (refine ⟨fun c => ?_, fun c => False.elim (by omega)⟩) | (refine ⟨fun c => ?_, fun c => ?_⟩) | (intro c) | fail))
        · have hst := rn_st2 (A := A) (a := a) hp0 ho0 hc hpa ha0 (by omega) hR'.2.2.2.2.2.2.2.2.2.1.1 hR'.2.2.2.2.2.2.2.2.2.1.2
          have z0 : goA (pyA (rnA A p o a) p a) p a 0 = A 0 := by unfold goA; rw [pu_n (by omega), pu_n (by omega)]; exact y0
          have z1 : goA (pyA (rnA A p o a) p a) p a 1 = A 1 := by unfold goA; rw [pu_n (by omega), pu_n (by omega)]; exact y1
          have z3 : pA (goA (pyA (rnA A p o a) p a) p a) o 3 = a := by unfold goA pyA; unfold pA; rw [pu_n (by omega), pu_n (by omega), pu_n (by omega)]; exact e3o
          refine Ex_step ?_; conv => whnf
          (repeat' (first | (rw [e3]) | (refine r_isOver (by omega) hR' hp0 (by omega) (fun c => False.elim (by omega)) (fun c => ?_)) | (refine r_personOf (by omega) hR' (by omega) (by omega) ?_) | (refine r_bears (by omega) hR' hp0 (by omega) ho0 (by omega) ha0 (by omega) (fun c => ?_) (fun c => absurd (c.symm.trans hB) Bool.false_ne_true)) | (refine r_paysAt (by omega) hR' (by omega) hp0 (by omega) ha0 (by omega) (fun h2 hR2 fr2 => ?_); have kq2 := hR2.1.1) | (refine r_goes (by omega) hR2 hp0 (by omega) ha0 (by omega) (by omega) (fun h3 hR3 fr3 => ?_); have kq3 := hR3.1.1) | (refine r_goes (by omega) hR3 ho0 (by omega) ha0 (by omega) (by omega) (fun h4 hR4 fr4 => ?_); rw [hst] at hR4) | (refine ih2 h4 _ hR4 (((fr.trans fr2).trans fr3).trans fr4)) | (refine Ex_step ?_; conv => whnf) | (refine ⟨?_, trivial⟩) | (refine (show den _ _ _ _ _ _ _ _ from ?_); conv => whnf) | (refine ⟨by (first | assumption | rfl | (exact Nat.le_of_ble_eq_true rfl) | (exact ⟨fun h01 => absurd h01 (by decide), by first | rfl | assumption⟩) | (exact ⟨fun _ => by decide, by first | rfl | assumption⟩) | (exact ⟨by assumption, by omega, by omega⟩) | (unfold inI; omega) | omega), ?_⟩; conv => whnf) | (refine ⟨fun c => False.elim (by omega), fun c => ?_⟩) | (refine ⟨fun c => ?_, fun c => False.elim (by omega)⟩) | (refine ⟨fun c => ?_, fun c => ?_⟩) | (intro c) | fail))
      · have hok : okB A p o a = false := by simpa using hok
        rw [stN_end (Or.inr hok)] at hS
        rw [hok] at hB
        refine Ex_step ?_; conv => whnf
        (repeat' (first | (rw [e3]) | (refine r_isOver (by omega) hR' hp0 (by omega) (fun c => False.elim (by omega)) (fun c => ?_)) | (refine r_personOf (by omega) hR' (by omega) (by omega) ?_) | (refine r_bears (by omega) hR' hp0 (by omega) ho0 (by omega) ha0 (by omega) (fun c => absurd (c.symm.trans hB) (by decide)) (fun c => ?_)) | (rw [← hS]; exact fin K' h' jk (by rw [hS]; exact hR') hK2 fr) | (refine Ex_step ?_; conv => whnf) | (refine ⟨?_, trivial⟩) | (refine (show den _ _ _ _ _ _ _ _ from ?_); conv => whnf) | (refine ⟨by (first | assumption | rfl | (exact Nat.le_of_ble_eq_true rfl) | (exact ⟨fun h01 => absurd h01 (by decide), by first | rfl | assumption⟩) | (exact ⟨fun _ => by decide, by first | rfl | assumption⟩) | (exact ⟨by assumption, by omega, by omega⟩) | (unfold inI; omega) | omega), ?_⟩; conv => whnf) | (refine ⟨fun c => False.elim (by omega), fun c => ?_⟩) | (refine ⟨fun c => ?_, fun c => False.elim (by omega)⟩) | (refine ⟨fun c => ?_, fun c => ?_⟩) | (intro c) | fail))
  refine eX10_runs (by omega) ?_
  refine Ex_step ?_; conv => whnf
  refine ⟨?_, trivial⟩
  refine fin2 ?_ (loop _ (pA A p 3) K h none rfl f3.1 f3.2 (Int.le_refl _) (by rw [rn_0 heq]; exact hR) FrA.refl (by omega) (by omega) rfl)
  rw [Int.sub_self]; rfl
