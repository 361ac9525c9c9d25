/-! LEVEL 2: calls that only look: mends -/
theorem zx_tab : ∀ s, s < 64 → ∀ b, b < 64 → (zand (s : Nat) (zxor (b : Nat) (-1)) = 0 ↔ ∀ i, i < 6 → bt (s : Nat) (i : Nat) = true → bt (b : Nat) (i : Nat) = true) := by decide +kernel
theorem hi_tab : ∀ n, n ≤ 6 → ∀ s, s < 2 ^ n → ∀ i, i < 6 → n ≤ i → bt (s : Nat) (i : Nat) = false := by decide +kernel
theorem sh6_tab : ∀ n, n ≤ 6 → shlZ 1 (n : Nat) = ((2 ^ n : Nat) : Int) ∧ 2 ^ n ≤ 64 ∧ 1 ≤ 2 ^ n := by decide +kernel
theorem sh6 {n : Int} (h0 : 0 ≤ n) (h1 : n ≤ 6) : 1 ≤ shlZ 1 n ∧ shlZ 1 n ≤ 64 := by
  obtain ⟨n, rfl⟩ := Int.eq_ofNat_of_zero_le h0
  have := sh6_tab n (by omega)
  omega
theorem bt_hi {s n i : Int} (hn0 : 0 ≤ n) (hn1 : n ≤ 6) (h0 : 0 ≤ s) (h1 : s < shlZ 1 n) (h2 : n ≤ i) (h3 : i < 6) : bt s i = false := by
  obtain ⟨n, rfl⟩ := Int.eq_ofNat_of_zero_le hn0
  obtain ⟨s, rfl⟩ := Int.eq_ofNat_of_zero_le h0
  obtain ⟨i, rfl⟩ := Int.eq_ofNat_of_zero_le (show 0 ≤ i by omega)
  have := sh6_tab n (by omega)
  exact hi_tab n (by omega) s (by omega) i (by omega) (by omega)
theorem zx_i {s b : Int} (h0 : 0 ≤ s) (h1 : s < 64) (h2 : 0 ≤ b) (h3 : b < 64) : zand s (zxor b (-1)) = 0 ↔ ∀ i, 0 ≤ i → i < 6 → bt s i = true → bt b i = true := by
  obtain ⟨s, rfl⟩ := Int.eq_ofNat_of_zero_le h0
  obtain ⟨b, rfl⟩ := Int.eq_ofNat_of_zero_le h2
  rw [zx_tab s (by omega) b (by omega)]
  constructor
  · intro q i hi0 hi1
    obtain ⟨i, rfl⟩ := Int.eq_ofNat_of_zero_le hi0
    exact q i (by omega)
  · intro q i hi
    exact q i (by omega) (by omega)
theorem stN_all {n : Int} {ok : Int → Bool} : ∀ (k : Nat) (a : Int), (n - a).toNat = k → (n ≤ stN n ok a ↔ ∀ i, a ≤ i → i < n → ok i = true) := by
  intro k; induction k with
  | zero => intro a hk; rw [stN_end (Or.inl (by omega))]; exact ⟨fun h i h0 h1 => by omega, fun h => by omega⟩
  | succ k ih =>
    intro a hk
    by_cases h : ok a = true
    · rw [stN_go (by omega) h, ih (a + 1) (by omega)]
      refine ⟨fun q i h0 h1 => ?_, fun q i h0 h1 => q i (by omega) h1⟩
      by_cases e : i = a
      · rw [e]; exact h
      · exact q i (by omega) h1
    · rw [stN_end (Or.inr (by simpa using h))]
      exact ⟨fun q => by omega, fun q => absurd (q a (by omega) (by omega)) h⟩
/-- the state behind j jumps on an arch -/
def JS (A : Int → Int) (a j : Int) (B : Int → Int) : Prop := (∀ i, ¬ i = 10 + 3 * a → ¬ i = 10 + 3 * a + 1 → ¬ i = 8 → B i = A i) ∧ hoA B a = min 60 (hoA A a + j) ∧ moA B a = max 0 (moA A a - j)
theorem mend_c {K : Int} {A B : Int → Int} {a j set : Int} (hA : AOk K A) (hB : AOk K B) (ha0 : 0 ≤ a) (ha1 : a < A 0) (hJ : JS A a j B) (hs0 : 0 ≤ set) (hs1 : set < shlZ 1 (A 1)) : (zand set (zxor (borA B a) (-1)) = 0 → bbj A set a j) ∧ (¬ zand set (zxor (borA B a) (-1)) = 0 → ¬ bbj A set a j) := by
  have b0 := hA.1
  have b1 := hA.2.1
  have h6 := sh6 b1.1 b1.2
  obtain ⟨q1, q2⟩ := bor_6 hB (a := a)
  have e1 : B 1 = A 1 := hJ.1 1 (by omega) (by omega) (by omega)
  have e4 : B 4 = A 4 := hJ.1 4 (by omega) (by omega) (by omega)
  have es : ∀ i, 0 ≤ i → sAl B i a = sBy A i (pA A i 1) (max 0 (moA A a - j) + A 4) := by
    intro i hi
    have ep : ∀ w, 0 ≤ w → pA B i w = pA A i w := fun w hw => hJ.1 _ (by omega) (by omega) (by omega)
    unfold sAl sBy
    rw [ep 0 (by omega), ep 1 (by omega), ep 2 (by omega), e4, hJ.2.2]
  have key : zand set (zxor (borA B a) (-1)) = 0 ↔ bbj A set a j := by
    rw [zx_i hs0 (by omega) q1.1 q1.2]
    unfold bbj
    rw [stN_all _ 0 rfl]
    constructor
    · intro q i h0 h1
      unfold okJ
      by_cases hb : bt set i = true
      · have := q i h0 (by omega) hb
        rw [q2 i h0 (by omega), Bool.and_eq_true, es i h0, hJ.2.1] at this
        rw [this.2]; simp
      · rw [show bt set i = false by simpa using hb]; rfl
    · intro q i h0 h1 hb
      by_cases hi : i < A 1
      · have := q i h0 hi
        unfold okJ at this
        rw [hb] at this
        rw [q2 i h0 h1, e1, decide_eq_true hi, es i h0, hJ.2.1]
        simpa using this
      · rw [bt_hi b1.1 b1.2 hs0 hs1 (by omega) h1] at hb
        exact absurd hb (by decide)
  exact ⟨fun h => key.mp h, fun h q => h (key.mpr q)⟩
theorem jmp_js {A B : Int → Int} {a j : Int} (h : JS A a j B) (ha : 0 ≤ a) (hj : 0 ≤ j) (hm : 0 ≤ hoA A a) : JS A a (j + 1) (jmpA B a) := by
  obtain ⟨q1, q2, q3⟩ := h
  refine ⟨fun i h0 h1 h8 => ?_, ?_, ?_⟩
  · unfold jmpA; rw [pu_n h8, pu_n h1, pu_n h0]; exact q1 i h0 h1 h8
  · have : hoA (jmpA B a) a = min 60 (hoA B a + 1) := by
      show jmpA B a (10 + 3 * a) = _
      unfold jmpA; rw [pu_n (by omega), pu_n (by omega), pu_e]
    rw [this, q2]; omega
  · have : moA (jmpA B a) a = max 0 (moA B a - 1) := by
      show jmpA B a (10 + 3 * a + 1) = _
      unfold jmpA; rw [pu_n (by omega), pu_e]
    rw [this, q3]; omega
theorem nb_sat {A : Int → Int} {set a j : Int} (h1 : 60 ≤ hoA A a + j) (h2 : moA A a - j ≤ 0) (hn : ¬ bbj A set a j) : ∀ (k : Nat) (i : Int), (61 - i).toNat = k → j ≤ i → i ≤ 61 → stN 61 (nbJ A set a) i = 61 := by
  intro k; induction k with
  | zero => intro i hk hi hi2; rw [stN_end (Or.inl (by omega))]; omega
  | succ k ih =>
    intro i hk hi hi2
    have : ¬ bbj A set a i := by
      have e : okJ A set a i = okJ A set a j := by
        funext x
        unfold okJ
        rw [show max 0 (moA A a - i) = max 0 (moA A a - j) by omega, show min 60 (hoA A a + i) = min 60 (hoA A a + j) by omega]
      unfold bbj at hn ⊢
      rw [e]; exact hn
    rw [stN_go (by omega) (nbJ_t this)]
    exact ih (i + 1) (by omega) (by omega) (by omega)
theorem js_0 {K : Int} {A : Int → Int} {a : Int} (hA : AOk K A) (ha0 : 0 ≤ a) (ha1 : a < A 0) : JS A a 0 A := by
  have hb := hA.2.2.2.2.2.2.2.2.2.1 a ha0 ha1
  exact ⟨fun _ _ _ _ => rfl, by omega, by omega⟩
set_option maxHeartbeats 4000000 in
theorem r_jumpsFor {X : Int → Int} {XL : Int} {d : Nat} {h : Mem} {Q : RetP} {K : Int} {A : Int → Int} {a set : Int} (hd : 8 ≤ d) (hR : Rr K h A) (ha0 : 0 ≤ a) (ha1 : a < A 0) (hs0 : 0 ≤ set) (hs1 : set < shlZ 1 (A 1)) (hq : ∀ h', Rr K h' A → FrH h h' → Q (some (vI (jfA A set a))) h') : WP X XL d 309 [vR 127, vI a, vI set] h Q := by
  have kq := hR.1.1
  have hA := hR.2.2
  have b0 := hA.1
  have hba := hA.2.2.2.2.2.2.2.2.2.1 a ha0 ha1
  have fin : ∀ (hj : Mem) (B : Int → Int) (n can : Int), Rr K hj B → FrH h hj → Kp hj 2290 A → can = 0 ∨ can = 1 → (if can = 0 then -1 else n) = jfA A set a → Ex (WP X XL (d - 1)) KX10_jumpsFor h.1 Q 42 [some (vR 127), some (vI a), some (vI set), some (vI n), some (vI can)] [] hj := by
    intro hj B n can hRj fj kj hc he
    have kqj := hRj.1.1
    rcases hc with rfl | rfl
    · rw [if_pos rfl] at he
      (repeat' (first | (refine r_restores (by omega) hRj (by omega) (by omega) kj hA (fun h4 hR4 fr4 => ?_); have g4 : h4.1 = h.1 := fr4.1.1.trans fj.1) | (refine Ex_step ?_; conv => whnf) | (refine ⟨?_, trivial⟩) | (refine (show den _ _ _ _ _ _ _ _ from ?_); conv => whnf) | (refine ⟨by (first | assumption | rfl | (exact Nat.le_of_ble_eq_true rfl) | (exact ⟨fun h01 => absurd h01 (by decide), by first | rfl | assumption⟩) | (exact ⟨fun _ => by decide, by first | rfl | assumption⟩) | (exact ⟨by assumption, by omega, by omega⟩) | (unfold inI; omega) | omega), ?_⟩; conv => whnf) | (refine ⟨fun c => False.elim (by omega), fun c => ?_⟩) | (refine ⟨fun c => ?_, fun c => False.elim (by omega)⟩) | (refine ⟨fun c => ?_, fun c => ?_⟩) | (intro c) | fail))
      rw [he]
      exact hq _ hR4 (fj.trans fr4.H)
    · rw [if_neg (by omega)] at he
      (repeat' (first | (refine r_restores (by omega) hRj (by omega) (by omega) kj hA (fun h4 hR4 fr4 => ?_); have g4 : h4.1 = h.1 := fr4.1.1.trans fj.1) | (refine Ex_step ?_; conv => whnf) | (refine ⟨?_, trivial⟩) | (refine (show den _ _ _ _ _ _ _ _ from ?_); conv => whnf) | (refine ⟨by (first | assumption | rfl | (exact Nat.le_of_ble_eq_true rfl) | (exact ⟨fun h01 => absurd h01 (by decide), by first | rfl | assumption⟩) | (exact ⟨fun _ => by decide, by first | rfl | assumption⟩) | (exact ⟨by assumption, by omega, by omega⟩) | (unfold inI; omega) | omega), ?_⟩; conv => whnf) | (refine ⟨fun c => False.elim (by omega), fun c => ?_⟩) | (refine ⟨fun c => ?_, fun c => False.elim (by omega)⟩) | (refine ⟨fun c => ?_, fun c => ?_⟩) | (intro c) | fail))
      rw [he]
      exact hq _ hR4 (fj.trans fr4.H)
  have loop : ∀ (k : Nat) (j : Int) (hj : Mem) (B : Int → Int), (61 - j).toNat = k → 0 ≤ j → j ≤ 60 → JS A a j B → Rr K hj B → FrH h hj → Kp hj 2290 A → stN 61 (nbJ A set a) 0 = stN 61 (nbJ A set a) j → Ex (WP X XL (d - 1)) KX10_jumpsFor h.1 Q 12 [some (vR 127), some (vI a), some (vI set), some (vI j), some (vI 1)] [] hj := by
    intro k; induction k with
    | zero => intro j hj B hk h0 h1; omega
    | succ k ih =>
      intro j hj B hk h0 h1 hJ hRj fj kj he
      have kqj := hRj.1.1
      have hB := hRj.2.2
      have e0 : B 0 = A 0 := hJ.1 0 (by omega) (by omega) (by omega)
      have hm := mend_c hA hB ha0 ha1 hJ hs0 hs1
      have hJ2 := hJ.2
      by_cases hb : bbj A set a j
      · have hjf : jfA A set a = j := by unfold jfA; rw [he, stN_end (Or.inr (nbJ_f hb)), if_pos (by omega)]
        refine Ex_step ?_; conv => whnf
        (repeat' (first | (refine fin hj B j 1 hRj fj kj (Or.inr rfl) (by rw [if_neg (by omega)]; exact hjf.symm)) | (refine r_borneBy (by omega) hRj ha0 (by omega) ?_) | (refine ⟨fun c => ?_, fun c => absurd hb (hm.2 c)⟩) | (refine Ex_step ?_; conv => whnf) | (refine ⟨?_, trivial⟩) | (refine (show den _ _ _ _ _ _ _ _ from ?_); conv => whnf) | (refine ⟨by (first | assumption | rfl | (exact Nat.le_of_ble_eq_true rfl) | (exact ⟨fun h01 => absurd h01 (by decide), by first | rfl | assumption⟩) | (exact ⟨fun _ => by decide, by first | rfl | assumption⟩) | (exact ⟨by assumption, by omega, by omega⟩) | (unfold inI; omega) | omega), ?_⟩; conv => whnf) | (refine ⟨fun c => False.elim (by omega), fun c => ?_⟩) | (refine ⟨fun c => ?_, fun c => False.elim (by omega)⟩) | (refine ⟨fun c => ?_, fun c => ?_⟩) | (intro c) | fail))
      · have hst := he.trans (stN_go (by omega) (nbJ_t hb))
        refine Ex_step ?_; conv => whnf
        (repeat' (first | (refine fin hj B (j + 1) 0 hRj fj kj (Or.inl rfl) (by rw [if_pos rfl]; unfold jfA; rw [he, nb_sat (by omega) (by omega) hb _ j rfl (by omega) (by omega), if_neg (by omega)])) | (refine ih (j + 1) h2 (jmpA B a) (by omega) (by omega) (by omega) (jmp_js hJ ha0 h0 (by omega)) hR2 (fj.trans f2.H) (kj.fr f2 (by omega)) hst) | (refine r_borneBy (by omega) hRj ha0 (by omega) ?_) | (refine ⟨fun c => absurd (hm.1 c) hb, fun c => ?_⟩) | (refine r_jumps (by omega) hRj ha0 (by omega) (fun cj => ?_) (fun cj h2 hR2 f2 => ?_)) | (refine Ex_step ?_; conv => whnf) | (refine ⟨?_, trivial⟩) | (refine (show den _ _ _ _ _ _ _ _ from ?_); conv => whnf) | (refine ⟨by (first | assumption | rfl | (exact Nat.le_of_ble_eq_true rfl) | (exact ⟨fun h01 => absurd h01 (by decide), by first | rfl | assumption⟩) | (exact ⟨fun _ => by decide, by first | rfl | assumption⟩) | (exact ⟨by assumption, by omega, by omega⟩) | (unfold inI; omega) | omega), ?_⟩; conv => whnf) | (refine ⟨fun c => False.elim (by omega), fun c => ?_⟩) | (refine ⟨fun c => ?_, fun c => False.elim (by omega)⟩) | (refine ⟨fun c => ?_, fun c => ?_⟩) | (intro c) | fail))
  refine eX10_jumpsFor (by omega) ?_
  refine Ex_step ?_; conv => whnf
  (repeat' (first | (refine loop _ 0 h1 A rfl (by omega) (by omega) (js_0 hA ha0 ha1) hR1 (FrH.kp fr1 (by omega) fx1) kp1 rfl) | (refine r_keeps (by omega) hR (by omega) (by omega) (fun h1 hR1 fr1 kp1 fx1 => ?_)) | (refine Ex_step ?_; conv => whnf) | (refine ⟨?_, trivial⟩) | (refine (show den _ _ _ _ _ _ _ _ from ?_); conv => whnf) | (refine ⟨by (first | assumption | rfl | (exact Nat.le_of_ble_eq_true rfl) | (exact ⟨fun h01 => absurd h01 (by decide), by first | rfl | assumption⟩) | (exact ⟨fun _ => by decide, by first | rfl | assumption⟩) | (exact ⟨by assumption, by omega, by omega⟩) | (unfold inI; omega) | omega), ?_⟩; conv => whnf) | (refine ⟨fun c => False.elim (by omega), fun c => ?_⟩) | (refine ⟨fun c => ?_, fun c => False.elim (by omega)⟩) | (refine ⟨fun c => ?_, fun c => ?_⟩) | (intro c) | fail))
set_option maxHeartbeats 4000000 in
theorem r_allJumps {X : Int → Int} {XL : Int} {d : Nat} {h : Mem} {Q : RetP} {K : Int} {A : Int → Int} {set : Int} (hd : 9 ≤ d) (hR : Rr K h A) (hs0 : 0 ≤ set) (hs1 : set < shlZ 1 (A 1)) (hq : ∀ h', Rr K h' A → FrH h h' → Q (some (vI (jaA A set))) h') : WP X XL d 310 [vR 127, vI set] h Q := by
  have b0 := hR.2.2.1
  have loop : ∀ (k : Nat) (a s : Int) (w : Option MV) (hj : Mem), (A 0 - a).toNat = k → 0 ≤ a → a ≤ A 0 → 0 ≤ s → s ≤ 60 * a → Rr K hj A → FrH h hj → jaA A set = foN (A 0) (jaF A set) a s → Ex (WP X XL (d - 1)) KX10_allJumps h.1 Q 4 [some (vR 127), some (vI set), some (vI s), some (vI a), w] [] hj := by
    intro k; induction k with
    | zero =>
      intro a s w hj hk h0 h1 h2 h3 hRj fj he
      rw [foN_end (by omega)] at he
      obtain ⟨⟨kq, r0, kt, lt⟩, eA, -⟩ := id hRj
      have gj := fj.1
      (repeat' (first | (refine Ex_step ?_; conv => whnf) | (refine ⟨?_, trivial⟩) | (refine (show den _ _ _ _ _ _ _ _ from ?_); conv => whnf) | (refine ⟨by (first | assumption | rfl | (exact Nat.le_of_ble_eq_true rfl) | (exact ⟨fun h01 => absurd h01 (by decide), by first | rfl | assumption | trivial⟩) | (exact ⟨fun _ => by decide, by first | rfl | assumption | trivial⟩) | (exact ⟨kt, by omega, Int.lt_of_lt_of_le (by omega : _ < (3198 : Int)) (Int.le_of_eq lt.symm)⟩) | (unfold inI; omega) | omega), ?_⟩; conv => whnf; try simp (disch := omega) only [r0, gR_sG, g_same, g_ne, eA]) | (refine ⟨fun c => False.elim (by omega), fun c => ?_⟩) | (refine ⟨fun c => ?_, fun c => False.elim (by omega)⟩) | (refine ⟨fun c => ?_, fun c => ?_⟩) | (intro c) | fail))
      rw [← he]
      exact hq _ hRj fj
    | succ k ih =>
      intro a s w hj hk h0 h1 h2 h3 hRj fj he
      rw [foN_go (by omega)] at he
      obtain ⟨⟨kq, r0, kt, lt⟩, eA, -⟩ := id hRj
      have gj := fj.1
      have hjb := jfA_b (A := A) (set := set) (a := a)
      by_cases hc : jfA A set a = -1
      · rw [show jaF A set a s = -1 from if_pos (Or.inr hc), ja_abs _ (a + 1) rfl] at he
        refine Ex_step ?_; conv => whnf
        (repeat' (first | (refine r_jumpsFor (by omega) hRj (by omega) (by omega) hs0 hs1 (fun h2 hR2 f2 => ?_); have g2 : h2.1 = h.1 := f2.1.trans gj) | (refine Ex_step ?_; conv => whnf) | (refine ⟨?_, trivial⟩) | (refine (show den _ _ _ _ _ _ _ _ from ?_); conv => whnf) | (refine ⟨by (first | assumption | rfl | (exact Nat.le_of_ble_eq_true rfl) | (exact ⟨fun h01 => absurd h01 (by decide), by first | rfl | assumption | trivial⟩) | (exact ⟨fun _ => by decide, by first | rfl | assumption | trivial⟩) | (exact ⟨kt, by omega, Int.lt_of_lt_of_le (by omega : _ < (3198 : Int)) (Int.le_of_eq lt.symm)⟩) | (unfold inI; omega) | omega), ?_⟩; conv => whnf; try simp (disch := omega) only [r0, gR_sG, g_same, g_ne, eA]) | (refine ⟨fun c => False.elim (by omega), fun c => ?_⟩) | (refine ⟨fun c => ?_, fun c => False.elim (by omega)⟩) | (refine ⟨fun c => ?_, fun c => ?_⟩) | (intro c) | fail))
        rw [← he]
        exact hq _ hR2 (fj.trans f2)
      · rw [show jaF A set a s = s + jfA A set a from if_neg (by omega)] at he
        refine Ex_step ?_; conv => whnf
        (repeat' (first | (refine ih (a + 1) (s + jfA A set a) _ h2 (by omega) (by omega) (by omega) (by omega) (by omega) hR2 (fj.trans f2) he) | (refine r_jumpsFor (by omega) hRj (by omega) (by omega) hs0 hs1 (fun h2 hR2 f2 => ?_); have g2 : h2.1 = h.1 := f2.1.trans gj) | (refine Ex_step ?_; conv => whnf) | (refine ⟨?_, trivial⟩) | (refine (show den _ _ _ _ _ _ _ _ from ?_); conv => whnf) | (refine ⟨by (first | assumption | rfl | (exact Nat.le_of_ble_eq_true rfl) | (exact ⟨fun h01 => absurd h01 (by decide), by first | rfl | assumption | trivial⟩) | (exact ⟨fun _ => by decide, by first | rfl | assumption | trivial⟩) | (exact ⟨kt, by omega, Int.lt_of_lt_of_le (by omega : _ < (3198 : Int)) (Int.le_of_eq lt.symm)⟩) | (unfold inI; omega) | omega), ?_⟩; conv => whnf; try simp (disch := omega) only [r0, gR_sG, g_same, g_ne, eA]) | (refine ⟨fun c => False.elim (by omega), fun c => ?_⟩) | (refine ⟨fun c => ?_, fun c => False.elim (by omega)⟩) | (refine ⟨fun c => ?_, fun c => ?_⟩) | (intro c) | fail))
  refine eX10_allJumps (by omega) ?_
  refine Ex_step ?_; conv => whnf
  refine ⟨?_, trivial⟩
  exact loop _ 0 0 none h rfl (by omega) (by omega) (by omega) (by omega) hR FrH.refl rfl
set_option maxHeartbeats 4000000 in
theorem w_isSetOfPeople {X : Int → Int} {XL : Int} {d : Nat} {h : Mem} {Q : RetP} {K : Int} {A : Int → Int} {v : Nat} {z : Int} (hd : 2 ≤ d) (hC : Cls K v h A) (hq1 : 0 ≤ z ∧ z < shlZ 1 (A 1) → Q (some (vI 1)) h) (hq0 : ¬ (0 ≤ z ∧ z < shlZ 1 (A 1)) → Q (some (vI 0)) h) : WP X XL d 184 [vR 0, vI z] h Q := by
  obtain ⟨⟨k00, r7, hT⟩, hV⟩ := id hC; have kn := hV.1.1; have hA := hV.2.2
  have g5 := hV.2.1.1.2.1
  have b1 := hA.2.1
  have h6 := sh6 b1.1 b1.2
  have hsh : inI (shlZ 1 (A 1)) := ⟨by omega, by omega⟩
  refine eX9_isSetOfPeople (by omega) ?_
  (repeat' (first | (rw [r7]) | (rw [g5]) | (refine ⟨⟨by omega, by omega, hsh⟩, ?_⟩; conv => whnf) | (refine w_within (by omega) (fun c => ?_) (fun c => ?_)) | (refine Ex_step ?_; conv => whnf) | (refine ⟨?_, trivial⟩) | (refine (show den _ _ _ _ _ _ _ _ from ?_); conv => whnf) | (refine ⟨by (first | assumption | rfl | (exact Nat.le_of_ble_eq_true rfl) | (exact ⟨fun h01 => absurd h01 (by decide), by first | rfl | assumption⟩) | (exact ⟨fun _ => by decide, by first | rfl | assumption⟩) | (exact ⟨by assumption, by omega, by omega⟩) | (unfold inI; omega) | omega), ?_⟩; conv => whnf) | (refine ⟨fun c => False.elim (by omega), fun c => ?_⟩) | (refine ⟨fun c => ?_, fun c => False.elim (by omega)⟩) | (refine ⟨fun c => ?_, fun c => ?_⟩) | (intro c) | fail))
  all_goals first | (exact hq1 (by omega)) | (exact hq0 (by omega))
theorem arp_tab : ∀ n, n ≤ 6 → lsbZ (lshZ 1 (n : Nat)) 1 = shlZ 1 (n : Nat) - 1 := by decide +kernel
theorem arp_e {n : Int} (h0 : 0 ≤ n) (h1 : n ≤ 6) : lsbZ (lshZ 1 n) 1 = shlZ 1 n - 1 := by
  obtain ⟨n, rfl⟩ := Int.eq_ofNat_of_zero_le h0
  exact arp_tab n (by omega)
set_option maxHeartbeats 4000000 in
theorem r_arePeople {X : Int → Int} {XL : Int} {d : Nat} {h : Mem} {Q : RetP} {K : Int} {A : Int → Int} {z : Int} (hd : 2 ≤ d) (hR : Rr K h A) (hq1 : 0 ≤ z ∧ z < shlZ 1 (A 1) → Q (some (vI 1)) h) (hq0 : ¬ (0 ≤ z ∧ z < shlZ 1 (A 1)) → Q (some (vI 0)) h) : WP X XL d 246 [vR 127, vL z] h Q := by
  obtain ⟨⟨kq, r0, kt, lt⟩, eA, ⟨b0, b1, b2, b3, b4, b5, b6, b8, bK, ba, bp, bq⟩⟩ := id hR
  have he : ∀ x y : Int, x = 1 → y = 1 → lsbZ (lshZ x (A 1)) y = shlZ 1 (A 1) - 1 := fun x y e1 e2 => by subst e1 e2; exact arp_e b1.1 b1.2
  refine eX10_arePeople (by omega) ?_
  (repeat' (first | (refine r_isFrom (by omega) (fun c => ?_) (fun c => ?_)) | (refine Ex_step ?_; conv => whnf) | (refine ⟨?_, trivial⟩) | (refine (show den _ _ _ _ _ _ _ _ from ?_); conv => whnf) | (refine ⟨by (first | assumption | rfl | (exact Nat.le_of_ble_eq_true rfl) | (exact ⟨fun h01 => absurd h01 (by decide), by first | rfl | assumption | trivial⟩) | (exact ⟨fun _ => by decide, by first | rfl | assumption | trivial⟩) | (exact ⟨kt, by omega, Int.lt_of_lt_of_le (by omega : _ < (3198 : Int)) (Int.le_of_eq lt.symm)⟩) | (unfold inI; omega) | omega), ?_⟩; conv => whnf; try simp (disch := omega) only [r0, gR_sG, g_same, g_ne, eA]) | (refine ⟨fun c => False.elim (by omega), fun c => ?_⟩) | (refine ⟨fun c => ?_, fun c => False.elim (by omega)⟩) | (refine ⟨fun c => ?_, fun c => ?_⟩) | (intro c) | fail))
  · have c2 : 0 ≤ z ∧ z ≤ lsbZ (lshZ 1 (A 1)) 1 := c
    rw [he _ _ rfl rfl] at c2; exact hq1 (by omega)
  · have c2 : ¬ (0 ≤ z ∧ z ≤ lsbZ (lshZ 1 (A 1)) 1) := c
    rw [he _ _ rfl rfl] at c2; exact hq0 (by omega)
def o_mends (A : Int → Int) (set : Int) : Int × Int := if 0 ≤ set ∧ set < shlZ 1 (A 1) then (if jaA A set = -1 then (-1, 6) else (jaA A set, 0)) else (-1, 1)
def o_mendsAt (A : Int → Int) (set a : Int) : Int × Int := if (0 ≤ set ∧ set < shlZ 1 (A 1)) ∧ 0 ≤ a ∧ a < A 0 then (if jaA A set = -1 then (-1, 6) else (jfA A set a, 0)) else (-1, 1)
set_option maxHeartbeats 4000000 in
theorem c_mends {X : Int → Int} {XL : Int} {d : Nat} {A : Int → Int} {s : Int} (hd : 9 ≤ d) : CV X XL d 157 [vI s] A A (o_mends A s) := by
  intro K n h Q hC hK hq
  obtain ⟨⟨k00, r7, hT⟩, hV⟩ := id hC; have kn := hV.1.1; have hA := hV.2.2
  have hq := hq h (Vr_K hV (by omega) (by omega)) Fr.refl
  unfold o_mends at hq
  refine eX9_mends (by omega) ?_
  (repeat' (first | (rw [r7]) | (refine w_isSetOfPeople (by omega) hC (fun c => ?_) (fun c => ?_)) | (refine w_jumpsInAll (by omega) hV ?_) | (refine w_givenUnless (by omega) k00 (fun c => ?_) (fun c => ?_)) | (refine w_given (by omega) k00 ?_) | (refine w_none (by omega) k00 ?_) | (refine Ex_step ?_; conv => whnf) | (refine ⟨?_, trivial⟩) | (refine (show den _ _ _ _ _ _ _ _ from ?_); conv => whnf) | (refine ⟨by (first | assumption | rfl | (exact Nat.le_of_ble_eq_true rfl) | (exact ⟨fun h01 => absurd h01 (by decide), by first | rfl | assumption⟩) | (exact ⟨fun _ => by decide, by first | rfl | assumption⟩) | (exact ⟨by assumption, by omega, by omega⟩) | (unfold inI; omega) | omega), ?_⟩; conv => whnf) | (refine ⟨fun c => False.elim (by omega), fun c => ?_⟩) | (refine ⟨fun c => ?_, fun c => False.elim (by omega)⟩) | (refine ⟨fun c => ?_, fun c => ?_⟩) | (intro c) | fail))
  (all_goals (first | exact hq | (rw [if_pos (by omega)] at hq; exact hq) | (rw [if_neg (by omega)] at hq; exact hq) | (rw [if_neg (by omega), if_pos (by omega)] at hq; exact hq) | (rw [if_neg (by omega), if_neg (by omega)] at hq; exact hq) | (rw [if_pos (by omega), if_pos (by omega)] at hq; exact hq) | (rw [if_pos (by omega), if_neg (by omega)] at hq; exact hq) | (exfalso; omega)))
set_option maxHeartbeats 4000000 in
theorem c_mendsAt {X : Int → Int} {XL : Int} {d : Nat} {A : Int → Int} {s a : Int} (hd : 9 ≤ d) : CV X XL d 158 [vI s, vI a] A A (o_mendsAt A s a) := by
  intro K n h Q hC hK hq
  obtain ⟨⟨k00, r7, hT⟩, hV⟩ := id hC; have kn := hV.1.1; have hA := hV.2.2
  have hq := hq h (Vr_K hV (by omega) (by omega)) Fr.refl
  unfold o_mendsAt at hq
  refine eX9_mendsAt (by omega) ?_
  (repeat' (first | (rw [r7]) | (refine w_isSetOfPeople (by omega) hC (fun c => ?_) (fun c => ?_)) | (refine w_hasArch (by omega) hV (fun c => ?_) (fun c => ?_)) | (refine w_jumpsInAll (by omega) hV ?_) | (refine w_jumpsFor (by omega) hV (by omega) (by omega) ?_) | (refine w_given (by omega) k00 ?_) | (refine w_none (by omega) k00 ?_) | (refine Ex_step ?_; conv => whnf) | (refine ⟨?_, trivial⟩) | (refine (show den _ _ _ _ _ _ _ _ from ?_); conv => whnf) | (refine ⟨by (first | assumption | rfl | (exact Nat.le_of_ble_eq_true rfl) | (exact ⟨fun h01 => absurd h01 (by decide), by first | rfl | assumption⟩) | (exact ⟨fun _ => by decide, by first | rfl | assumption⟩) | (exact ⟨by assumption, by omega, by omega⟩) | (unfold inI; omega) | omega), ?_⟩; conv => whnf) | (refine ⟨fun c => False.elim (by omega), fun c => ?_⟩) | (refine ⟨fun c => ?_, fun c => False.elim (by omega)⟩) | (refine ⟨fun c => ?_, fun c => ?_⟩) | (intro c) | fail))
  (all_goals (first | exact hq | (rw [if_pos (by omega)] at hq; exact hq) | (rw [if_neg (by omega)] at hq; exact hq) | (rw [if_neg (by omega), if_pos (by omega)] at hq; exact hq) | (rw [if_neg (by omega), if_neg (by omega)] at hq; exact hq) | (rw [if_pos (by omega), if_pos (by omega)] at hq; exact hq) | (rw [if_pos (by omega), if_neg (by omega)] at hq; exact hq) | (exfalso; omega)))
set_option maxHeartbeats 4000000 in
theorem m_mends {X : Int → Int} {XL : Int} {d : Nat} {A : Int → Int} {s : Int} (hd : 11 ≤ d) : CR X XL d 311 [vI s] A A (o_mends A s) := by
  intro K h Q hR hK hq0
  have hq := hq0 h (Rr_K hR (by omega) (by omega)) FrH.refl
  have kq := hR.1.1
  unfold o_mends at hq hq0
  refine eX10_mends (by omega) ?_
  (repeat' (first | (refine r_arePeople (by omega) hR (fun c => ?_) (fun c => ?_)) | (refine r_allJumps (by omega) hR (by omega) (by omega) (fun h1 hR1 fr1 => ?_); have kq1 := hR1.1.1; have g1 := fr1.1) | (refine r_orNone (by omega) kq1 (fun c => ?_) (fun c => ?_)) | (refine r_gives (by omega) kq ?_) | (refine r_refuse (by omega) kq ?_) | (refine Ex_step ?_; conv => whnf) | (refine ⟨?_, trivial⟩) | (refine (show den _ _ _ _ _ _ _ _ from ?_); conv => whnf) | (refine ⟨by (first | assumption | rfl | (exact Nat.le_of_ble_eq_true rfl) | (exact ⟨fun h01 => absurd h01 (by decide), by first | rfl | assumption⟩) | (exact ⟨fun _ => by decide, by first | rfl | assumption⟩) | (exact ⟨by assumption, by omega, by omega⟩) | (unfold inI; omega) | omega), ?_⟩; conv => whnf) | (refine ⟨fun c => False.elim (by omega), fun c => ?_⟩) | (refine ⟨fun c => ?_, fun c => False.elim (by omega)⟩) | (refine ⟨fun c => ?_, fun c => ?_⟩) | (intro c) | fail))
  all_goals first | (rw [if_neg (by omega)] at hq; exact hq) | (rw [if_pos (by omega), if_pos (by omega)] at hq0; exact hq0 _ (Rr_K hR1 (by omega) (by omega)) fr1) | (rw [if_pos (by omega), if_neg (by omega)] at hq0; exact hq0 _ (Rr_K hR1 (by omega) (by omega)) fr1)
set_option maxHeartbeats 4000000 in
theorem m_mendsAt {X : Int → Int} {XL : Int} {d : Nat} {A : Int → Int} {s a : Int} (hd : 11 ≤ d) : CR X XL d 312 [vI s, vI a] A A (o_mendsAt A s a) := by
  intro K h Q hR hK hq0
  have hq := hq0 h (Rr_K hR (by omega) (by omega)) FrH.refl
  have kq := hR.1.1
  unfold o_mendsAt at hq hq0
  refine eX10_mendsAt (by omega) ?_
  (repeat' (first | (refine r_arePeople (by omega) hR (fun c => ?_) (fun c => ?_)) | (refine r_isArch (by omega) hR (fun c => ?_) (fun c => ?_)) | (refine r_allJumps (by omega) hR (by omega) (by omega) (fun h1 hR1 fr1 => ?_); have kq1 := hR1.1.1; have g1 := fr1.1) | (refine r_refuse (by omega) kq1 ?_) | (refine r_jumpsFor (by omega) hR1 (by omega) (by omega) (by omega) (by omega) (fun h2 hR2 fr2 => ?_); have kq2 := hR2.1.1; have g2 : h2.1 = h.1 := fr2.1.trans g1) | (refine r_gives (by omega) kq2 ?_) | (refine r_gives (by omega) kq ?_) | (refine r_refuse (by omega) kq ?_) | (refine Ex_step ?_; conv => whnf) | (refine ⟨?_, trivial⟩) | (refine (show den _ _ _ _ _ _ _ _ from ?_); conv => whnf) | (refine ⟨by (first | assumption | rfl | (exact Nat.le_of_ble_eq_true rfl) | (exact ⟨fun h01 => absurd h01 (by decide), by first | rfl | assumption⟩) | (exact ⟨fun _ => by decide, by first | rfl | assumption⟩) | (exact ⟨by assumption, by omega, by omega⟩) | (unfold inI; omega) | omega), ?_⟩; conv => whnf) | (refine ⟨fun c => False.elim (by omega), fun c => ?_⟩) | (refine ⟨fun c => ?_, fun c => False.elim (by omega)⟩) | (refine ⟨fun c => ?_, fun c => ?_⟩) | (intro c) | fail))
  all_goals first | (rw [if_neg (by omega)] at hq; exact hq) | (rw [if_pos (by omega), if_pos (by omega)] at hq0; exact hq0 _ (Rr_K hR1 (by omega) (by omega)) fr1) | (rw [if_pos (by omega), if_neg (by omega)] at hq0; exact hq0 _ (Rr_K hR2 (by omega) (by omega)) (fr1.trans fr2))
