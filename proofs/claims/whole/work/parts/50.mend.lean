/-! LEVEL 2: calls that only look: mends -/
theorem zx_tab : ∀ s, s < 64 → ∀ b, b < 64 → (zand (s : Nat) (zxor (b : Nat) (-1)) = 0 ↔ ∀ i, i < 6 → bt (s : Nat) (i : Nat) = true → bt (b : Nat) (i : Nat) = true) := by decide +kernel
theorem hi_tab : ∀ n, n ≤ 6 → ∀ s, s < 2 ^ n → ∀ i, i < 6 → n ≤ i → bt (s : Nat) (i : Nat) = false := by decide +kernel
theorem sh6_tab : ∀ n, n ≤ 6 → shlZ 1 (n : Nat) = ((2 ^ n : Nat) : Int) ∧ 2 ^ n ≤ 64 ∧ 1 ≤ 2 ^ n := by decide +kernel
theorem sh6 {n : Int} (h0 : 0 ≤ n) (h1 : n ≤ 6) : 1 ≤ shlZ 1 n ∧ shlZ 1 n ≤ 64 := by
  obtain ⟨n, rfl⟩ := Int.eq_ofNat_of_zero_le h0
  have := sh6_tab n (by omega)
  omega
theorem bt_hi {s n i : Int} (hn0 : 0 ≤ n) (hn1 : n ≤ 6) (h0 : 0 ≤ s) (h1 : s < shlZ 1 n) (h2 : n ≤ i) (h3 : i < 6) : bt s i = false := by
  obtain ⟨n, rfl⟩ := Int.eq_ofNat_of_zero_le hn0
  obtain ⟨s, rfl⟩ := Int.eq_ofNat_of_zero_le h0
  obtain ⟨i, rfl⟩ := Int.eq_ofNat_of_zero_le (show 0 ≤ i by omega)
  have := sh6_tab n (by omega)
  exact hi_tab n (by omega) s (by omega) i (by omega) (by omega)
theorem zx_i {s b : Int} (h0 : 0 ≤ s) (h1 : s < 64) (h2 : 0 ≤ b) (h3 : b < 64) : zand s (zxor b (-1)) = 0 ↔ ∀ i, 0 ≤ i → i < 6 → bt s i = true → bt b i = true := by
  obtain ⟨s, rfl⟩ := Int.eq_ofNat_of_zero_le h0
  obtain ⟨b, rfl⟩ := Int.eq_ofNat_of_zero_le h2
  rw [zx_tab s (by omega) b (by omega)]
  constructor
  · intro q i hi0 hi1
    obtain ⟨i, rfl⟩ := Int.eq_ofNat_of_zero_le hi0
    exact q i (by omega)
  · intro q i hi
    exact q i (by omega) (by omega)
theorem stN_all {n : Int} {ok : Int → Bool} : ∀ (k : Nat) (a : Int), (n - a).toNat = k → (n ≤ stN n ok a ↔ ∀ i, a ≤ i → i < n → ok i = true) := by
  intro k; induction k with
  | zero => intro a hk; rw [stN_end (Or.inl (by omega))]; exact ⟨fun h i h0 h1 => by omega, fun h => by omega⟩
  | succ k ih =>
    intro a hk
    by_cases h : ok a = true
    · rw [stN_go (by omega) h, ih (a + 1) (by omega)]
      refine ⟨fun q i h0 h1 => ?_, fun q i h0 h1 => q i (by omega) h1⟩
      by_cases e : i = a
      · rw [e]; exact h
      · exact q i (by omega) h1
    · rw [stN_end (Or.inr (by simpa using h))]
      exact ⟨fun q => by omega, fun q => absurd (q a (by omega) (by omega)) h⟩
/-- the state behind j jumps on an arch -/
def JS (A : Int → Int) (a j : Int) (B : Int → Int) : Prop := (∀ i, ¬ i = 10 + 3 * a → ¬ i = 10 + 3 * a + 1 → ¬ i = 8 → B i = A i) ∧ hoA B a = min 60 (hoA A a + j) ∧ moA B a = max 0 (moA A a - j)
theorem mend_c {K : Int} {A B : Int → Int} {a j set : Int} (hA : AOk K A) (hB : AOk K B) (ha0 : 0 ≤ a) (ha1 : a < A 0) (hJ : JS A a j B) (hs0 : 0 ≤ set) (hs1 : set < shlZ 1 (A 1)) : (zand set (zxor (borA B a) (-1)) = 0 → bbj A set a j) ∧ (¬ zand set (zxor (borA B a) (-1)) = 0 → ¬ bbj A set a j) := by
  have b0 := hA.1
  have b1 := hA.2.1
  have h6 := sh6 b1.1 b1.2
  obtain ⟨q1, q2⟩ := bor_6 hB (a := a)
  have e1 : B 1 = A 1 := hJ.1 1 (by omega) (by omega) (by omega)
  have e4 : B 4 = A 4 := hJ.1 4 (by omega) (by omega) (by omega)
  have es : ∀ i, 0 ≤ i → sAl B i a = sBy A i (pA A i 1) (max 0 (moA A a - j) + A 4) := by
    intro i hi
    have ep : ∀ w, 0 ≤ w → pA B i w = pA A i w := fun w hw => hJ.1 _ (by omega) (by omega) (by omega)
    unfold sAl sBy
    rw [ep 0 (by omega), ep 1 (by omega), ep 2 (by omega), e4, hJ.2.2]
  have key : zand set (zxor (borA B a) (-1)) = 0 ↔ bbj A set a j := by
    rw [zx_i hs0 (by omega) q1.1 q1.2]
    unfold bbj
    rw [stN_all _ 0 rfl]
    constructor
    · intro q i h0 h1
      unfold okJ
      by_cases hb : bt set i = true
      · have := q i h0 (by omega) hb
        rw [q2 i h0 (by omega), Bool.and_eq_true, es i h0, hJ.2.1] at this
        rw [this.2]; simp
      · rw [show bt set i = false by simpa using hb]; rfl
    · intro q i h0 h1 hb
      by_cases hi : i < A 1
      · have := q i h0 hi
        unfold okJ at this
        rw [hb] at this
        rw [q2 i h0 h1, e1, decide_eq_true hi, es i h0, hJ.2.1]
        simpa using this
      · rw [bt_hi b1.1 b1.2 hs0 hs1 (by omega) h1] at hb
        exact absurd hb (by decide)
  exact ⟨fun h => key.mp h, fun h q => h (key.mpr q)⟩
theorem jmp_js {A B : Int → Int} {a j : Int} (h : JS A a j B) (ha : 0 ≤ a) (hj : 0 ≤ j) (hm : 0 ≤ hoA A a) : JS A a (j + 1) (jmpA B a) := by
  obtain ⟨q1, q2, q3⟩ := h
  refine ⟨fun i h0 h1 h8 => ?_, ?_, ?_⟩
  · unfold jmpA; rw [pu_n h8, pu_n h1, pu_n h0]; exact q1 i h0 h1 h8
  · have : hoA (jmpA B a) a = min 60 (hoA B a + 1) := by
      show jmpA B a (10 + 3 * a) = _
      unfold jmpA; rw [pu_n (by omega), pu_n (by omega), pu_e]
    rw [this, q2]; omega
  · have : moA (jmpA B a) a = max 0 (moA B a - 1) := by
      show jmpA B a (10 + 3 * a + 1) = _
      unfold jmpA; rw [pu_n (by omega), pu_e]
    rw [this, q3]; omega
theorem nb_sat {A : Int → Int} {set a j : Int} (h1 : 60 ≤ hoA A a + j) (h2 : moA A a - j ≤ 0) (hn : ¬ bbj A set a j) : ∀ (k : Nat) (i : Int), (61 - i).toNat = k → j ≤ i → i ≤ 61 → stN 61 (nbJ A set a) i = 61 := by
  intro k; induction k with
  | zero => intro i hk hi hi2; rw [stN_end (Or.inl (by omega))]; omega
  | succ k ih =>
    intro i hk hi hi2
    have : ¬ bbj A set a i := by
      have e : okJ A set a i = okJ A set a j := by
        funext x
        unfold okJ
        rw [show max 0 (moA A a - i) = max 0 (moA A a - j) by omega, show min 60 (hoA A a + i) = min 60 (hoA A a + j) by omega]
      unfold bbj at hn ⊢
      rw [e]; exact hn
    rw [stN_go (by omega) (nbJ_t this)]
    exact ih (i + 1) (by omega) (by omega) (by omega)
