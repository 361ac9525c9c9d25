/-! LEVEL 2: calls that only look: weakest, garden, mends -/
theorem s6_tab : ∀ s, s < 64 → ∀ i, i < 6 → (0 ≤ zor (s : Nat) (shlZ 1 (i : Nat)) ∧ zor (s : Nat) (shlZ 1 (i : Nat)) < 64) ∧ ∀ j, j < 6 → bt (zor (s : Nat) (shlZ 1 (i : Nat))) (j : Nat) = (bt (s : Nat) (j : Nat) || decide (j = i)) := by decide +kernel
theorem s6_b {s i : Int} (h0 : 0 ≤ s) (h1 : s < 64) (h2 : 0 ≤ i) (h3 : i < 6) : 0 ≤ zor s (shlZ 1 i) ∧ zor s (shlZ 1 i) < 64 := by
  obtain ⟨s, rfl⟩ := Int.eq_ofNat_of_zero_le h0
  obtain ⟨i, rfl⟩ := Int.eq_ofNat_of_zero_le h2
  exact (s6_tab s (by omega) i (by omega)).1
theorem s6_bt {s i j : Int} (h0 : 0 ≤ s) (h1 : s < 64) (h2 : 0 ≤ i) (h3 : i < 6) (h4 : 0 ≤ j) (h5 : j < 6) : bt (zor s (shlZ 1 i)) j = (bt s j || decide (j = i)) := by
  obtain ⟨s, rfl⟩ := Int.eq_ofNat_of_zero_le h0
  obtain ⟨i, rfl⟩ := Int.eq_ofNat_of_zero_le h2
  obtain ⟨j, rfl⟩ := Int.eq_ofNat_of_zero_le h4
  rw [(s6_tab s (by omega) i (by omega)).2 j (by omega)]
  congr 1
  exact decide_eq_decide.mpr (by omega)
theorem stF_6 {n : Int} {ok : Int → Bool} (hn : n ≤ 6) : ∀ (k : Nat) (i s : Int), (n - i).toNat = k → 0 ≤ i → 0 ≤ s → s < 64 → (∀ j, i ≤ j → j < 6 → bt s j = false) → (0 ≤ foN n (stF ok) i s ∧ foN n (stF ok) i s < 64) ∧ ∀ j, 0 ≤ j → j < 6 → bt (foN n (stF ok) i s) j = (bt s j || (decide (i ≤ j ∧ j < n) && ok j)) := by
  intro k; induction k with
  | zero =>
    intro i s hk hi h0 h1 hz
    rw [foN_end (by omega)]
    refine ⟨⟨h0, h1⟩, fun j hj0 hj1 => ?_⟩
    rw [decide_eq_false (by omega)]; simp
  | succ k ih =>
    intro i s hk hi h0 h1 hz
    rw [foN_go (by omega)]
    unfold stF
    by_cases hc : ok i = true
    · rw [if_pos hc]
      have hb := s6_b h0 h1 hi (by omega : i < 6)
      obtain ⟨q1, q2⟩ := ih (i + 1) (zor s (shlZ 1 i)) (by omega) (by omega) hb.1 hb.2 (fun j hj0 hj1 => by rw [s6_bt h0 h1 hi (by omega) (by omega) hj1, hz j (by omega) hj1, decide_eq_false (by omega)]; rfl)
      unfold stF at q1 q2
      refine ⟨q1, fun j hj0 hj1 => ?_⟩
      rw [q2 j hj0 hj1, s6_bt h0 h1 hi (by omega) hj0 hj1]
      by_cases e : j = i
      · subst e; rw [decide_eq_true rfl, decide_eq_true (by omega : j ≤ j ∧ j < n), hc]; simp
      · rw [decide_eq_false e]
        by_cases e2 : i + 1 ≤ j ∧ j < n
        · rw [decide_eq_true e2, decide_eq_true (by omega : i ≤ j ∧ j < n)]; simp
        · rw [decide_eq_false e2, decide_eq_false (by omega : ¬ (i ≤ j ∧ j < n))]; simp
    · rw [if_neg hc]
      obtain ⟨q1, q2⟩ := ih (i + 1) s (by omega) (by omega) h0 h1 (fun j hj0 hj1 => hz j (by omega) hj1)
      unfold stF at q1 q2
      refine ⟨q1, fun j hj0 hj1 => ?_⟩
      rw [q2 j hj0 hj1]
      by_cases e : j = i
      · subst e; rw [decide_eq_false (by omega : ¬ (j + 1 ≤ j ∧ j < n)), show ok j = false by simpa using hc]; simp
      · by_cases e2 : i + 1 ≤ j ∧ j < n
        · rw [decide_eq_true e2, decide_eq_true (by omega : i ≤ j ∧ j < n)]
        · rw [decide_eq_false e2, decide_eq_false (by omega : ¬ (i ≤ j ∧ j < n))]
theorem bor_6 {K : Int} {A : Int → Int} (hA : AOk K A) {a : Int} : (0 ≤ borA A a ∧ borA A a < 64) ∧ ∀ j, 0 ≤ j → j < 6 → bt (borA A a) j = (decide (j < A 1) && decide (sAl A j a ≤ hoA A a)) := by
  obtain ⟨q1, q2⟩ := stF_6 (ok := fun p => decide (sAl A p a ≤ hoA A a)) hA.2.1.2 _ 0 0 rfl (by omega) (by omega) (by omega) (fun j _ _ => bt0)
  refine ⟨q1, fun j h0 h1 => ?_⟩
  unfold borA
  rw [q2 j h0 h1, bt0, Bool.false_or]
  congr 1
  by_cases h : j < A 1
  · rw [decide_eq_true h, decide_eq_true ⟨h0, h⟩]
  · rw [decide_eq_false h, decide_eq_false (by omega)]
theorem pc_tab : ∀ n, n < 1024 → (n = 0 → popc (n : Nat) = 0) ∧ (¬ n = 0 → popc (zand (n : Nat) ((n : Nat) - 1)) + 1 = popc (n : Nat) ∧ 0 ≤ zand (n : Nat) ((n : Nat) - 1) ∧ zand (n : Nat) ((n : Nat) - 1) < (n : Nat)) ∧ 0 ≤ popc (n : Nat) ∧ popc (n : Nat) ≤ 10 ∧ (n < 64 → popc (n : Nat) ≤ 6) := by decide +kernel
theorem pc_b {z : Int} (h0 : 0 ≤ z) (h1 : z < 1024) : (z = 0 → popc z = 0) ∧ (¬ z = 0 → popc (zand z (z - 1)) + 1 = popc z ∧ 0 ≤ zand z (z - 1) ∧ zand z (z - 1) < z) ∧ 0 ≤ popc z ∧ popc z ≤ 10 ∧ (z < 64 → popc z ≤ 6) := by
  obtain ⟨n, rfl⟩ := Int.eq_ofNat_of_zero_le h0
  have := pc_tab n (by omega)
  refine ⟨fun h => this.1 (by omega), fun h => this.2.1 (by omega), this.2.2.1, this.2.2.2.1, fun h => this.2.2.2.2 (by omega)⟩
set_option maxHeartbeats 4000000 in
theorem r_bits {X : Int → Int} {XL : Int} {d : Nat} {h : Mem} {Q : RetP} {z : Int} (hd : 1 ≤ d) (h0 : 0 ≤ z) (h1 : z < 1024) (hq : Q (some (vI (popc z))) h) : WP X XL d 248 [vI z] h Q := by
  have loop : ∀ (k : Nat) (w n : Int), w.toNat ≤ k → 0 ≤ w → w < 1024 → 0 ≤ n → n + popc w = popc z → Ex (WP X XL (d - 1)) KX10_bits h.1 Q 4 [some (vI z), some (vI n), some (vI w)] [] h := by
    intro k; induction k with
    | zero =>
      intro w n hk hw0 hw1 hn he
      have hp := pc_b hw0 hw1
      have e : n = popc z := by have := hp.1 (by omega); omega
      rw [e]
      (repeat' (first | (refine Ex_step ?_; conv => whnf) | (refine ⟨?_, trivial⟩) | (refine (show den _ _ _ _ _ _ _ _ from ?_); conv => whnf) | (refine ⟨by (first | assumption | rfl | (exact Nat.le_of_ble_eq_true rfl) | (exact ⟨fun h01 => absurd h01 (by decide), by first | rfl | assumption⟩) | (exact ⟨fun _ => by decide, by first | rfl | assumption⟩) | (exact ⟨by assumption, by omega, by omega⟩) | (unfold inI; omega) | omega), ?_⟩; conv => whnf) | (refine ⟨fun c => False.elim (by omega), fun c => ?_⟩) | (refine ⟨fun c => ?_, fun c => False.elim (by omega)⟩) | (refine ⟨fun c => ?_, fun c => ?_⟩) | (intro c) | fail))
      exact hq
    | succ k ih =>
      intro w n hk hw0 hw1 hn he
      have hp := pc_b hw0 hw1
      have hz := pc_b h0 h1
      by_cases h : w = 0
      · have e : n = popc z := by have := hp.1 h; omega
        rw [e]
        (repeat' (first | (refine Ex_step ?_; conv => whnf) | (refine ⟨?_, trivial⟩) | (refine (show den _ _ _ _ _ _ _ _ from ?_); conv => whnf) | (refine ⟨by (first | assumption | rfl | (exact Nat.le_of_ble_eq_true rfl) | (exact ⟨fun h01 => absurd h01 (by decide), by first | rfl | assumption⟩) | (exact ⟨fun _ => by decide, by first | rfl | assumption⟩) | (exact ⟨by assumption, by omega, by omega⟩) | (unfold inI; omega) | omega), ?_⟩; conv => whnf) | (refine ⟨fun c => False.elim (by omega), fun c => ?_⟩) | (refine ⟨fun c => ?_, fun c => False.elim (by omega)⟩) | (refine ⟨fun c => ?_, fun c => ?_⟩) | (intro c) | fail))
        exact hq
      · have := hp.2.1 h
        refine Ex_step ?_; conv => whnf
        (repeat' (first | (exact ih _ _ (by omega) (by omega) (by omega) (by omega) (by omega)) | (refine Ex_step ?_; conv => whnf) | (refine ⟨?_, trivial⟩) | (refine (show den _ _ _ _ _ _ _ _ from ?_); conv => whnf) | (refine ⟨by (first | assumption | rfl | (exact Nat.le_of_ble_eq_true rfl) | (exact ⟨fun h01 => absurd h01 (by decide), by first | rfl | assumption⟩) | (exact ⟨fun _ => by decide, by first | rfl | assumption⟩) | (exact ⟨by assumption, by omega, by omega⟩) | (unfold inI; omega) | omega), ?_⟩; conv => whnf) | (refine ⟨fun c => False.elim (by omega), fun c => ?_⟩) | (refine ⟨fun c => ?_, fun c => False.elim (by omega)⟩) | (refine ⟨fun c => ?_, fun c => ?_⟩) | (intro c) | fail))
  refine eX10_bits hd ?_
  refine Ex_step ?_; conv => whnf
  refine ⟨?_, trivial⟩
  exact loop _ z 0 (Nat.le_refl _) h0 h1 (by omega) (by omega)
def o_weakest (A : Int → Int) : Int × Int := if (wkA A).1 = -1 then (-1, 6) else ((wkA A).1, 0)
set_option maxHeartbeats 4000000 in
theorem c_weakest {X : Int → Int} {XL : Int} {d : Nat} {A : Int → Int} (hd : 9 ≤ d) : CV X XL d 152 [] A A (o_weakest A) := by
  intro K n h Q hC hK hq
  obtain ⟨⟨k00, r7, hT⟩, hV⟩ := id hC; have kn := hV.1.1; have hA := hV.2.2
  have hq := hq h (Vr_K hV (by omega) (by omega)) Fr.refl
  unfold o_weakest at hq
  refine eX9_weakest (by omega) ?_
  (repeat' (first | (rw [r7]) | (refine w_weakestArch (by omega) hV ?_) | (refine w_givenUnless (by omega) k00 (fun c => ?_) (fun c => ?_)) | (refine w_given (by omega) k00 ?_) | (refine w_none (by omega) k00 ?_) | (refine Ex_step ?_; conv => whnf) | (refine ⟨?_, trivial⟩) | (refine (show den _ _ _ _ _ _ _ _ from ?_); conv => whnf) | (refine ⟨by (first | assumption | rfl | (exact Nat.le_of_ble_eq_true rfl) | (exact ⟨fun h01 => absurd h01 (by decide), by first | rfl | assumption⟩) | (exact ⟨fun _ => by decide, by first | rfl | assumption⟩) | (exact ⟨by assumption, by omega, by omega⟩) | (unfold inI; omega) | omega), ?_⟩; conv => whnf) | (refine ⟨fun c => False.elim (by omega), fun c => ?_⟩) | (refine ⟨fun c => ?_, fun c => False.elim (by omega)⟩) | (refine ⟨fun c => ?_, fun c => ?_⟩) | (intro c) | fail))
  (all_goals (first | exact hq | (rw [if_pos (by omega)] at hq; exact hq) | (rw [if_neg (by omega)] at hq; exact hq) | (rw [if_neg (by omega), if_pos (by omega)] at hq; exact hq) | (rw [if_neg (by omega), if_neg (by omega)] at hq; exact hq) | (rw [if_pos (by omega), if_pos (by omega)] at hq; exact hq) | (rw [if_pos (by omega), if_neg (by omega)] at hq; exact hq) | (exfalso; omega)))
def wkF (A : Int → Int) : Int → Int × Int → Int × Int := fun a s => if popc (borA A a) < s.2 then (a, popc (borA A a)) else s
set_option maxHeartbeats 4000000 in
theorem m_weakest {X : Int → Int} {XL : Int} {d : Nat} {A : Int → Int} (hd : 10 ≤ d) : CR X XL d 298 [] A A (o_weakest A) := by
  intro K h Q hR hK hq
  have hq := hq h (Rr_K hR (by omega) (by omega)) FrH.refl; have kq := hR.1.1; have hA := hR.2.2
  unfold o_weakest at hq
  obtain ⟨⟨kq, r0, kt, lt⟩, eA, ⟨b0, b1, b2, b3, b4, b5, b6, b8, bK, ba, bp, bq⟩⟩ := id hR
  have loop : ∀ (k : Nat) (a b f : Int), (A 0 - a).toNat = k → 0 ≤ a → a ≤ A 0 → wkA A = foN (A 0) (wkF A) a (b, f) → (b = -1 ∧ f = 7) ∨ (0 ≤ b ∧ b < A 0 ∧ f = popc (borA A b)) → Ex (WP X XL (d - 1)) KX10_weakest h.1 Q 4 [some (vR 127), some (vI b), some (vI a)] [] h := by
    intro k; induction k with
    | zero =>
      intro a b f hk ha0 ha1 he hi
      rw [foN_end (by omega)] at he
      rw [he] at hq
      (repeat' (first | (refine r_orNone (by omega) kq (fun c => ?_) (fun c => ?_)) | (refine Ex_step ?_; conv => whnf) | (refine ⟨?_, trivial⟩) | (refine (show den _ _ _ _ _ _ _ _ from ?_); conv => whnf) | (refine ⟨by (first | assumption | rfl | (exact Nat.le_of_ble_eq_true rfl) | (exact ⟨fun h01 => absurd h01 (by decide), by first | rfl | assumption | trivial⟩) | (exact ⟨fun _ => by decide, by first | rfl | assumption | trivial⟩) | (exact ⟨kt, by omega, Int.lt_of_lt_of_le (by omega : _ < (3198 : Int)) (Int.le_of_eq lt.symm)⟩) | (unfold inI; omega) | omega), ?_⟩; conv => whnf; try simp (disch := omega) only [r0, gR_sG, g_same, g_ne, eA]) | (refine ⟨fun c => False.elim (by omega), fun c => ?_⟩) | (refine ⟨fun c => ?_, fun c => False.elim (by omega)⟩) | (refine ⟨fun c => ?_, fun c => ?_⟩) | (intro c) | fail))
      (all_goals (first | exact hq | (rw [if_pos (by omega)] at hq; exact hq) | (rw [if_neg (by omega)] at hq; exact hq) | (rw [if_neg (by omega), if_pos (by omega)] at hq; exact hq) | (rw [if_neg (by omega), if_neg (by omega)] at hq; exact hq) | (rw [if_pos (by omega), if_pos (by omega)] at hq; exact hq) | (rw [if_pos (by omega), if_neg (by omega)] at hq; exact hq) | (exfalso; omega)))
    | succ k ih =>
      intro a b f hk ha0 ha1 he hi
      have ha2 : a < A 0 := by omega
      rw [foN_go ha2] at he
      have ha := bor_6 hA (a := a)
      have hb := bor_6 hA (a := b)
      have pa := pc_b ha.1.1 (by omega)
      have pb := pc_b hb.1.1 (by omega)
      have ia := ha.1
      have ib := hb.1
      by_cases hc : popc (borA A a) < f
      · rw [show wkF A a (b, f) = (a, popc (borA A a)) from if_pos hc] at he
        have ih2 := ih (a + 1) a (popc (borA A a)) (by omega) (by omega) (by omega) he (Or.inr ⟨ha0, ha2, rfl⟩)
        refine Ex_step ?_; conv => whnf
        (repeat' (first | (exact ih2) | (refine r_borneBy (by omega) hR (by omega) (by omega) ?_) | (refine r_bits (by omega) (by omega) (by omega) ?_) | (refine Ex_step ?_; conv => whnf) | (refine ⟨?_, trivial⟩) | (refine (show den _ _ _ _ _ _ _ _ from ?_); conv => whnf) | (refine ⟨by (first | assumption | rfl | (exact Nat.le_of_ble_eq_true rfl) | (exact ⟨fun h01 => absurd h01 (by decide), by first | rfl | assumption | trivial⟩) | (exact ⟨fun _ => by decide, by first | rfl | assumption | trivial⟩) | (exact ⟨kt, by omega, Int.lt_of_lt_of_le (by omega : _ < (3198 : Int)) (Int.le_of_eq lt.symm)⟩) | (unfold inI; omega) | omega), ?_⟩; conv => whnf; try simp (disch := omega) only [r0, gR_sG, g_same, g_ne, eA]) | (refine ⟨fun c => False.elim (by omega), fun c => ?_⟩) | (refine ⟨fun c => ?_, fun c => False.elim (by omega)⟩) | (refine ⟨fun c => ?_, fun c => ?_⟩) | (intro c) | fail))
      · rw [show wkF A a (b, f) = (b, f) from if_neg hc] at he
        have ih2 := ih (a + 1) b f (by omega) (by omega) (by omega) he hi
        have hb7 : 0 ≤ b ∧ b < A 0 ∧ f = popc (borA A b) := by omega
        refine Ex_step ?_; conv => whnf
        (repeat' (first | (exact ih2) | (refine r_borneBy (by omega) hR (by omega) (by omega) ?_) | (refine r_bits (by omega) (by omega) (by omega) ?_) | (refine Ex_step ?_; conv => whnf) | (refine ⟨?_, trivial⟩) | (refine (show den _ _ _ _ _ _ _ _ from ?_); conv => whnf) | (refine ⟨by (first | assumption | rfl | (exact Nat.le_of_ble_eq_true rfl) | (exact ⟨fun h01 => absurd h01 (by decide), by first | rfl | assumption | trivial⟩) | (exact ⟨fun _ => by decide, by first | rfl | assumption | trivial⟩) | (exact ⟨kt, by omega, Int.lt_of_lt_of_le (by omega : _ < (3198 : Int)) (Int.le_of_eq lt.symm)⟩) | (unfold inI; omega) | omega), ?_⟩; conv => whnf; try simp (disch := omega) only [r0, gR_sG, g_same, g_ne, eA]) | (refine ⟨fun c => False.elim (by omega), fun c => ?_⟩) | (refine ⟨fun c => ?_, fun c => False.elim (by omega)⟩) | (refine ⟨fun c => ?_, fun c => ?_⟩) | (intro c) | fail))
  refine eX10_weakest (by omega) ?_
  refine Ex_step ?_; conv => whnf
  refine ⟨?_, trivial⟩
  exact loop _ 0 (-1) 7 rfl (by omega) (by omega) rfl (Or.inl ⟨rfl, rfl⟩)
-- the garden
set_option maxHeartbeats 4000000 in
theorem r_plantsOf {X : Int → Int} {XL : Int} {d : Nat} {h : Mem} {Q : RetP} {K : Int} {A : Int → Int} {set w : Int} (hd : 3 ≤ d) (hR : Rr K h A) (hw : 0 ≤ w ∧ w ≤ 1) (hq : Q (some (vI (plS A set w))) h) : WP X XL d 326 [vR 127, vI set, vI w] h Q := by
  obtain ⟨⟨kq, r0, kt, lt⟩, eA, ⟨b0, b1, b2, b3, b4, b5, b6, b8, bK, ba, bp, bq⟩⟩ := id hR
  have loop : ∀ (k : Nat) (i s : Int), (A 2 - i).toNat = k → 0 ≤ i → 0 ≤ s → s ≤ 99 * i → Q (some (vI (foN (A 2) (fun i s => if bt set i = true then s + plA A i w else s) i s))) h → Ex (WP X XL (d - 1)) KX10_plantsOf h.1 Q 5 [some (vR 127), some (vI set), some (vI w), some (vI s), some (vI i)] [] h := by
    intro k; induction k with
    | zero =>
      intro i s hk hi0 hs0 hs1 hq
      rw [foN_end (by omega)] at hq
      (repeat' (first | (refine Ex_step ?_; conv => whnf) | (refine ⟨?_, trivial⟩) | (refine (show den _ _ _ _ _ _ _ _ from ?_); conv => whnf) | (refine ⟨by (first | assumption | rfl | (exact Nat.le_of_ble_eq_true rfl) | (exact ⟨fun h01 => absurd h01 (by decide), by first | rfl | assumption | trivial⟩) | (exact ⟨fun _ => by decide, by first | rfl | assumption | trivial⟩) | (exact ⟨kt, by omega, Int.lt_of_lt_of_le (by omega : _ < (3198 : Int)) (Int.le_of_eq lt.symm)⟩) | (unfold inI; omega) | omega), ?_⟩; conv => whnf; try simp (disch := omega) only [r0, gR_sG, g_same, g_ne, eA]) | (refine ⟨fun c => False.elim (by omega), fun c => ?_⟩) | (refine ⟨fun c => ?_, fun c => False.elim (by omega)⟩) | (refine ⟨fun c => ?_, fun c => ?_⟩) | (intro c) | fail))
      exact hq
    | succ k ih =>
      intro i s hk hi0 hs0 hs1 hq
      have hb := bq i hi0 (show i < A 2 by omega)
      have hb2 : 0 ≤ plA A i w ∧ plA A i w ≤ 99 := by rcases (show w = 0 ∨ w = 1 by omega) with rfl | rfl <;> omega
      unfold plA at hb2
      rw [foN_go (by omega)] at hq
      by_cases hc : bt set i = true
      · rw [if_pos hc] at hq
        refine Ex_step ?_; conv => whnf
        (repeat' (first | (refine ih _ _ (by omega) (by omega) (by omega) (by omega) hq) | (refine r_isIn (by omega) (by omega) (fun c => ?_) (fun c => absurd (c.symm.trans hc) Bool.false_ne_true)) | (refine r_plantRow (by omega) (by omega) ?_) | (refine Ex_step ?_; conv => whnf) | (refine ⟨?_, trivial⟩) | (refine (show den _ _ _ _ _ _ _ _ from ?_); conv => whnf) | (refine ⟨by (first | assumption | rfl | (exact Nat.le_of_ble_eq_true rfl) | (exact ⟨fun h01 => absurd h01 (by decide), by first | rfl | assumption | trivial⟩) | (exact ⟨fun _ => by decide, by first | rfl | assumption | trivial⟩) | (exact ⟨kt, by omega, Int.lt_of_lt_of_le (by omega : _ < (3198 : Int)) (Int.le_of_eq lt.symm)⟩) | (unfold inI; omega) | omega), ?_⟩; conv => whnf; try simp (disch := omega) only [r0, gR_sG, g_same, g_ne, eA]) | (refine ⟨fun c => False.elim (by omega), fun c => ?_⟩) | (refine ⟨fun c => ?_, fun c => False.elim (by omega)⟩) | (refine ⟨fun c => ?_, fun c => ?_⟩) | (intro c) | fail))
      · rw [if_neg hc] at hq
        refine Ex_step ?_; conv => whnf
        (repeat' (first | (rw [Int.add_zero]; refine ih _ _ (by omega) (by omega) (by omega) (by omega) hq) | (refine r_isIn (by omega) (by omega) (fun c => absurd c hc) (fun c => ?_)) | (refine Ex_step ?_; conv => whnf) | (refine ⟨?_, trivial⟩) | (refine (show den _ _ _ _ _ _ _ _ from ?_); conv => whnf) | (refine ⟨by (first | assumption | rfl | (exact Nat.le_of_ble_eq_true rfl) | (exact ⟨fun h01 => absurd h01 (by decide), by first | rfl | assumption | trivial⟩) | (exact ⟨fun _ => by decide, by first | rfl | assumption | trivial⟩) | (exact ⟨kt, by omega, Int.lt_of_lt_of_le (by omega : _ < (3198 : Int)) (Int.le_of_eq lt.symm)⟩) | (unfold inI; omega) | omega), ?_⟩; conv => whnf; try simp (disch := omega) only [r0, gR_sG, g_same, g_ne, eA]) | (refine ⟨fun c => False.elim (by omega), fun c => ?_⟩) | (refine ⟨fun c => ?_, fun c => False.elim (by omega)⟩) | (refine ⟨fun c => ?_, fun c => ?_⟩) | (intro c) | fail))
  refine eX10_plantsOf (by omega) ?_
  refine Ex_step ?_; conv => whnf
  refine ⟨?_, trivial⟩
  exact loop _ 0 0 rfl (by omega) (by omega) (by omega) hq
theorem pl0 {A : Int → Int} {w : Int} : plS A 0 w = 0 := by
  unfold plS
  have : ∀ (k : Nat) (i : Int), (A 2 - i).toNat = k → foN (A 2) (fun i s => if bt 0 i = true then s + plA A i w else s) i 0 = 0 := by
    intro k; induction k with
    | zero => intro i hk; exact foN_end (by omega)
    | succ k ih => intro i hk; rw [foN_go (by omega), if_neg (by rw [bt0]; simp)]; exact ih (i + 1) (by omega)
  exact this _ 0 rfl
set_option maxHeartbeats 4000000 in
theorem r_gardenOf {X : Int → Int} {XL : Int} {d : Nat} {h : Mem} {Q : RetP} {K : Int} {A : Int → Int} {n : Int} (hd : 5 ≤ d) (hR : Rr K h A) (hq : Q (some (vI (gaA A n).1)) h) : WP X XL d 327 [vR 127, vI n] h Q := by
  obtain ⟨⟨kq, r0, kt, lt⟩, eA, ⟨b0, b1, b2, b3, b4, b5, b6, b8, bK, ba, bp, bq⟩⟩ := id hR
  have hs8 := shl8 b2.1 b2.2
  have hsh : inI (shlZ 1 (A 2)) := ⟨by omega, by omega⟩
  have loop : ∀ (k : Nat) (set b : Int), (shlZ 1 (A 2) - set).toNat = k → 0 ≤ set → gaA A n = foN (shlZ 1 (A 2)) (gaF A n) set (b, plS A b 1) → Ex (WP X XL (d - 1)) KX10_gardenOf h.1 Q 4 [some (vR 127), some (vI n), some (vI b), some (vI set)] [] h := by
    intro k; induction k with
    | zero =>
      intro set b hk hs0 he
      rw [foN_end (by omega)] at he
      rw [he] at hq
      (repeat' (first | (refine ⟨⟨by omega, by omega, hsh⟩, ?_⟩; conv => whnf) | (refine Ex_step ?_; conv => whnf) | (refine ⟨?_, trivial⟩) | (refine (show den _ _ _ _ _ _ _ _ from ?_); conv => whnf) | (refine ⟨by (first | assumption | rfl | (exact Nat.le_of_ble_eq_true rfl) | (exact ⟨fun h01 => absurd h01 (by decide), by first | rfl | assumption | trivial⟩) | (exact ⟨fun _ => by decide, by first | rfl | assumption | trivial⟩) | (exact ⟨kt, by omega, Int.lt_of_lt_of_le (by omega : _ < (3198 : Int)) (Int.le_of_eq lt.symm)⟩) | (unfold inI; omega) | omega), ?_⟩; conv => whnf; try simp (disch := omega) only [r0, gR_sG, g_same, g_ne, eA]) | (refine ⟨fun c => False.elim (by omega), fun c => ?_⟩) | (refine ⟨fun c => ?_, fun c => False.elim (by omega)⟩) | (refine ⟨fun c => ?_, fun c => ?_⟩) | (intro c) | fail))
      exact hq
    | succ k ih =>
      intro set b hk hs0 he
      rw [foN_go (by omega)] at he
      by_cases hc : plS A b 1 < plS A set 1 ∧ plS A set 0 ≤ n
      · rw [show gaF A n set (b, plS A b 1) = (set, plS A set 1) from if_pos hc] at he
        have ih2 := ih (set + 1) set (by omega) (by omega) he
        refine Ex_step ?_; conv => whnf
        (repeat' (first | (exact ih2) | (refine ⟨⟨by omega, by omega, hsh⟩, ?_⟩; conv => whnf) | (refine r_plantsOf (by omega) hR (by omega) ?_) | (refine Ex_step ?_; conv => whnf) | (refine ⟨?_, trivial⟩) | (refine (show den _ _ _ _ _ _ _ _ from ?_); conv => whnf) | (refine ⟨by (first | assumption | rfl | (exact Nat.le_of_ble_eq_true rfl) | (exact ⟨fun h01 => absurd h01 (by decide), by first | rfl | assumption | trivial⟩) | (exact ⟨fun _ => by decide, by first | rfl | assumption | trivial⟩) | (exact ⟨kt, by omega, Int.lt_of_lt_of_le (by omega : _ < (3198 : Int)) (Int.le_of_eq lt.symm)⟩) | (unfold inI; omega) | omega), ?_⟩; conv => whnf; try simp (disch := omega) only [r0, gR_sG, g_same, g_ne, eA]) | (refine ⟨fun c => False.elim (by omega), fun c => ?_⟩) | (refine ⟨fun c => ?_, fun c => False.elim (by omega)⟩) | (refine ⟨fun c => ?_, fun c => ?_⟩) | (intro c) | fail))
      · rw [show gaF A n set (b, plS A b 1) = (b, plS A b 1) from if_neg hc] at he
        have ih2 := ih (set + 1) b (by omega) (by omega) he
        refine Ex_step ?_; conv => whnf
        (repeat' (first | (exact ih2) | (refine ⟨⟨by omega, by omega, hsh⟩, ?_⟩; conv => whnf) | (refine r_plantsOf (by omega) hR (by omega) ?_) | (refine Ex_step ?_; conv => whnf) | (refine ⟨?_, trivial⟩) | (refine (show den _ _ _ _ _ _ _ _ from ?_); conv => whnf) | (refine ⟨by (first | assumption | rfl | (exact Nat.le_of_ble_eq_true rfl) | (exact ⟨fun h01 => absurd h01 (by decide), by first | rfl | assumption | trivial⟩) | (exact ⟨fun _ => by decide, by first | rfl | assumption | trivial⟩) | (exact ⟨kt, by omega, Int.lt_of_lt_of_le (by omega : _ < (3198 : Int)) (Int.le_of_eq lt.symm)⟩) | (unfold inI; omega) | omega), ?_⟩; conv => whnf; try simp (disch := omega) only [r0, gR_sG, g_same, g_ne, eA]) | (refine ⟨fun c => False.elim (by omega), fun c => ?_⟩) | (refine ⟨fun c => ?_, fun c => False.elim (by omega)⟩) | (refine ⟨fun c => ?_, fun c => ?_⟩) | (intro c) | fail))
  refine eX10_gardenOf (by omega) ?_
  refine Ex_step ?_; conv => whnf
  refine ⟨?_, trivial⟩
  exact loop _ 1 0 rfl (by omega) (by rw [pl0]; rfl)
def o_garden (A : Int → Int) (n : Int) : Int × Int := if 0 ≤ n ∧ n ≤ 99 then (plS A (gaA A n).1 1, 0) else (-1, 1)
def o_gardenSet (A : Int → Int) (n : Int) : Int × Int := if 0 ≤ n ∧ n ≤ 99 then ((gaA A n).1, 0) else (-1, 1)
set_option maxHeartbeats 4000000 in
theorem c_garden {X : Int → Int} {XL : Int} {d : Nat} {A : Int → Int} {m : Int} (hd : 9 ≤ d) : CV X XL d 164 [vI m] A A (o_garden A m) := by
  intro K n h Q hC hK hq
  obtain ⟨⟨k00, r7, hT⟩, hV⟩ := id hC; have kn := hV.1.1; have hA := hV.2.2
  have hq := hq h (Vr_K hV (by omega) (by omega)) Fr.refl
  unfold o_garden at hq
  refine eX9_garden (by omega) ?_
  (repeat' (first | (rw [r7]) | (refine w_within (by omega) (fun c => ?_) (fun c => ?_)) | (refine w_bestGarden (by omega) hV ?_) | (refine w_joyOf (by omega) hV ?_) | (refine w_given (by omega) k00 ?_) | (refine w_none (by omega) k00 ?_) | (refine Ex_step ?_; conv => whnf) | (refine ⟨?_, trivial⟩) | (refine (show den _ _ _ _ _ _ _ _ from ?_); conv => whnf) | (refine ⟨by (first | assumption | rfl | (exact Nat.le_of_ble_eq_true rfl) | (exact ⟨fun h01 => absurd h01 (by decide), by first | rfl | assumption⟩) | (exact ⟨fun _ => by decide, by first | rfl | assumption⟩) | (exact ⟨by assumption, by omega, by omega⟩) | (unfold inI; omega) | omega), ?_⟩; conv => whnf) | (refine ⟨fun c => False.elim (by omega), fun c => ?_⟩) | (refine ⟨fun c => ?_, fun c => False.elim (by omega)⟩) | (refine ⟨fun c => ?_, fun c => ?_⟩) | (intro c) | fail))
  (all_goals (first | exact hq | (rw [if_pos (by omega)] at hq; exact hq) | (rw [if_neg (by omega)] at hq; exact hq) | (rw [if_neg (by omega), if_pos (by omega)] at hq; exact hq) | (rw [if_neg (by omega), if_neg (by omega)] at hq; exact hq) | (rw [if_pos (by omega), if_pos (by omega)] at hq; exact hq) | (rw [if_pos (by omega), if_neg (by omega)] at hq; exact hq) | (exfalso; omega)))
set_option maxHeartbeats 4000000 in
theorem m_garden {X : Int → Int} {XL : Int} {d : Nat} {A : Int → Int} {m : Int} (hd : 10 ≤ d) : CR X XL d 328 [vI m] A A (o_garden A m) := by
  intro K h Q hR hK hq
  have hq := hq h (Rr_K hR (by omega) (by omega)) FrH.refl; have kq := hR.1.1; have hA := hR.2.2
  unfold o_garden at hq
  refine eX10_garden (by omega) ?_
  (repeat' (first | (refine r_isFrom (by omega) (fun c => ?_) (fun c => ?_)) | (refine r_gardenOf (by omega) hR ?_) | (refine r_plantsOf (by omega) hR (by omega) ?_) | (refine r_gives (by omega) kq ?_) | (refine r_refuse (by omega) kq ?_) | (refine Ex_step ?_; conv => whnf) | (refine ⟨?_, trivial⟩) | (refine (show den _ _ _ _ _ _ _ _ from ?_); conv => whnf) | (refine ⟨by (first | assumption | rfl | (exact Nat.le_of_ble_eq_true rfl) | (exact ⟨fun h01 => absurd h01 (by decide), by first | rfl | assumption⟩) | (exact ⟨fun _ => by decide, by first | rfl | assumption⟩) | (exact ⟨by assumption, by omega, by omega⟩) | (unfold inI; omega) | omega), ?_⟩; conv => whnf) | (refine ⟨fun c => False.elim (by omega), fun c => ?_⟩) | (refine ⟨fun c => ?_, fun c => False.elim (by omega)⟩) | (refine ⟨fun c => ?_, fun c => ?_⟩) | (intro c) | fail))
  (all_goals (first | exact hq | (rw [if_pos (by omega)] at hq; exact hq) | (rw [if_neg (by omega)] at hq; exact hq) | (rw [if_neg (by omega), if_pos (by omega)] at hq; exact hq) | (rw [if_neg (by omega), if_neg (by omega)] at hq; exact hq) | (rw [if_pos (by omega), if_pos (by omega)] at hq; exact hq) | (rw [if_pos (by omega), if_neg (by omega)] at hq; exact hq) | (exfalso; omega)))
set_option maxHeartbeats 4000000 in
theorem c_gardenSet {X : Int → Int} {XL : Int} {d : Nat} {A : Int → Int} {m : Int} (hd : 9 ≤ d) : CV X XL d 165 [vI m] A A (o_gardenSet A m) := by
  intro K n h Q hC hK hq
  obtain ⟨⟨k00, r7, hT⟩, hV⟩ := id hC; have kn := hV.1.1; have hA := hV.2.2
  have hq := hq h (Vr_K hV (by omega) (by omega)) Fr.refl
  unfold o_gardenSet at hq
  refine eX9_gardenSet (by omega) ?_
  (repeat' (first | (rw [r7]) | (refine w_within (by omega) (fun c => ?_) (fun c => ?_)) | (refine w_bestGarden (by omega) hV ?_) | (refine w_given (by omega) k00 ?_) | (refine w_none (by omega) k00 ?_) | (refine Ex_step ?_; conv => whnf) | (refine ⟨?_, trivial⟩) | (refine (show den _ _ _ _ _ _ _ _ from ?_); conv => whnf) | (refine ⟨by (first | assumption | rfl | (exact Nat.le_of_ble_eq_true rfl) | (exact ⟨fun h01 => absurd h01 (by decide), by first | rfl | assumption⟩) | (exact ⟨fun _ => by decide, by first | rfl | assumption⟩) | (exact ⟨by assumption, by omega, by omega⟩) | (unfold inI; omega) | omega), ?_⟩; conv => whnf) | (refine ⟨fun c => False.elim (by omega), fun c => ?_⟩) | (refine ⟨fun c => ?_, fun c => False.elim (by omega)⟩) | (refine ⟨fun c => ?_, fun c => ?_⟩) | (intro c) | fail))
  (all_goals (first | exact hq | (rw [if_pos (by omega)] at hq; exact hq) | (rw [if_neg (by omega)] at hq; exact hq) | (rw [if_neg (by omega), if_pos (by omega)] at hq; exact hq) | (rw [if_neg (by omega), if_neg (by omega)] at hq; exact hq) | (rw [if_pos (by omega), if_pos (by omega)] at hq; exact hq) | (rw [if_pos (by omega), if_neg (by omega)] at hq; exact hq) | (exfalso; omega)))
set_option maxHeartbeats 4000000 in
theorem m_gardenSet {X : Int → Int} {XL : Int} {d : Nat} {A : Int → Int} {m : Int} (hd : 10 ≤ d) : CR X XL d 329 [vI m] A A (o_gardenSet A m) := by
  intro K h Q hR hK hq
  have hq := hq h (Rr_K hR (by omega) (by omega)) FrH.refl; have kq := hR.1.1; have hA := hR.2.2
  unfold o_gardenSet at hq
  refine eX10_gardenSet (by omega) ?_
  (repeat' (first | (refine r_isFrom (by omega) (fun c => ?_) (fun c => ?_)) | (refine r_gardenOf (by omega) hR ?_) | (refine r_gives (by omega) kq ?_) | (refine r_refuse (by omega) kq ?_) | (refine Ex_step ?_; conv => whnf) | (refine ⟨?_, trivial⟩) | (refine (show den _ _ _ _ _ _ _ _ from ?_); conv => whnf) | (refine ⟨by (first | assumption | rfl | (exact Nat.le_of_ble_eq_true rfl) | (exact ⟨fun h01 => absurd h01 (by decide), by first | rfl | assumption⟩) | (exact ⟨fun _ => by decide, by first | rfl | assumption⟩) | (exact ⟨by assumption, by omega, by omega⟩) | (unfold inI; omega) | omega), ?_⟩; conv => whnf) | (refine ⟨fun c => False.elim (by omega), fun c => ?_⟩) | (refine ⟨fun c => ?_, fun c => False.elim (by omega)⟩) | (refine ⟨fun c => ?_, fun c => ?_⟩) | (intro c) | fail))
  (all_goals (first | exact hq | (rw [if_pos (by omega)] at hq; exact hq) | (rw [if_neg (by omega)] at hq; exact hq) | (rw [if_neg (by omega), if_pos (by omega)] at hq; exact hq) | (rw [if_neg (by omega), if_neg (by omega)] at hq; exact hq) | (rw [if_pos (by omega), if_pos (by omega)] at hq; exact hq) | (rw [if_pos (by omega), if_neg (by omega)] at hq; exact hq) | (exfalso; omega)))
