/-! numbers of the model against the machine's -/
theorem i32_in (x : Int32) : inI x.toInt := ⟨by have := Int32.le_toInt x; omega, by have := Int32.toInt_lt x; omega⟩
theorem i64_in (x : Int64) : inL x.toInt := ⟨by have := Int64.le_toInt x; omega, by have := Int64.toInt_lt x; omega⟩
theorem i32_oi (x : Int32) : Int32.ofInt x.toInt = x := Int32.ofInt_toInt x
theorem i64_oi (x : Int64) : Int64.ofInt x.toInt = x := Int64.ofInt_toInt x
theorem i32_to {z : Int} (h : inI z) : (Int32.ofInt z).toInt = z := Int32.toInt_ofInt_of_le (by have := h.1; omega) (by have := h.2; omega)
theorem i64_to {z : Int} (h : inL z) : (Int64.ofInt z).toInt = z := Int64.toInt_ofInt_of_le (by have := h.1; omega) (by have := h.2; omega)
theorem i32_eq {a b : Int} (ha : inI a) (hb : inI b) : Int32.ofInt a = Int32.ofInt b ↔ a = b := by
  rw [← Int32.toInt_inj, i32_to ha, i32_to hb]
theorem i32_lt {a b : Int} (ha : inI a) (hb : inI b) : Int32.ofInt a < Int32.ofInt b ↔ a < b := by
  rw [Int32.lt_iff_toInt_lt, i32_to ha, i32_to hb]
theorem i32_le {a b : Int} (ha : inI a) (hb : inI b) : Int32.ofInt a ≤ Int32.ofInt b ↔ a ≤ b := by
  rw [Int32.le_iff_toInt_le, i32_to ha, i32_to hb]
theorem i64_eq {a b : Int} (ha : inL a) (hb : inL b) : Int64.ofInt a = Int64.ofInt b ↔ a = b := by
  rw [← Int64.toInt_inj, i64_to ha, i64_to hb]
theorem i64_lt {a b : Int} (ha : inL a) (hb : inL b) : Int64.ofInt a < Int64.ofInt b ↔ a < b := by
  rw [Int64.lt_iff_toInt_lt, i64_to ha, i64_to hb]
theorem i32_0 : Int32.ofInt 0 = 0 := rfl
theorem inI_0 : inI 0 := ⟨by omega, by omega⟩
theorem i32_wide {a : Int} (ha : inI a) : (Int32.ofInt a).toInt64 = Int64.ofInt a := by
  apply Int64.toInt_inj.mp
  rw [Int32.toInt_toInt64, i32_to ha, i64_to ⟨by have := ha.1; omega, by have := ha.2; omega⟩]
theorem i32_clamp {a : Int} (ha : inI a) (h0 : 0 ≤ a) : (Int32.ofInt a).toNatClampNeg = a.toNat := by
  have h : (Int32.ofInt a).toInt = a := i32_to ha
  show (Int32.ofInt a).toInt.toNat = a.toNat
  rw [h]
theorem i32_vin {a : Int} {n : Nat} (ha : inI a) (h0 : 0 ≤ a) (h1 : a < n) : vp_in (Int32.ofInt a) n := by
  rw [vp_in_iff, i32_to ha]
  exact ⟨h0, h1⟩
theorem i32_cmp {a b : Int} (ha : inL a) (hb : inL b) : lg_cmp (Int64.ofInt a) (Int64.ofInt b) = Int32.ofInt (cmpZ a b) := by
  unfold lg_cmp cmpZ
  by_cases h1 : a > b
  · rw [if_pos h1, if_pos (show Int64.ofInt a > Int64.ofInt b from (i64_lt hb ha).mpr h1)]; rfl
  · rw [if_neg h1, if_neg (show ¬ Int64.ofInt a > Int64.ofInt b from fun q => h1 ((i64_lt hb ha).mp q))]
    by_cases h2 : a = b
    · rw [if_pos h2, if_pos ((i64_eq ha hb).mpr h2)]; rfl
    · rw [if_neg h2, if_neg (fun q => h2 ((i64_eq ha hb).mp q))]; rfl
theorem inI_cmp (a b : Int) : inI (cmpZ a b) := by
  unfold cmpZ
  split
  · exact ⟨by omega, by omega⟩
  · split <;> exact ⟨by omega, by omega⟩
theorem i32_max {a b : Int} (ha : inI a) (hb : inI b) : (if Int32.ofInt a < Int32.ofInt b then Int32.ofInt b else Int32.ofInt a) = Int32.ofInt (max a b) := by
  by_cases h : a < b
  · rw [if_pos ((i32_lt ha hb).mpr h), show max a b = b by omega]
  · rw [if_neg (fun q => h ((i32_lt ha hb).mp q)), show max a b = a by omega]
theorem i32_sh32 : ∀ n, n < 32 → ((Int32.ofInt (n : Nat) &&& 31).toBitVec.smod 32).toNat = n := by decide +kernel
theorem i32_tp : ∀ n, n < 32 → BitVec.twoPow 32 n = (Int32.ofInt (2 ^ n)).toBitVec := by decide +kernel
theorem i32_shl {a b : Int} (hb0 : 0 ≤ b) (hb : b < 32) : Int32.ofInt a <<< (Int32.ofInt b &&& 31) = Int32.ofInt (shlZ a b) := by
  obtain ⟨n, rfl⟩ := Int.eq_ofNat_of_zero_le hb0
  have hn : n < 32 := by omega
  have h1 := i32_sh32 n hn
  apply Int32.toBitVec_inj.mp
  rw [Int32.toBitVec_shiftLeft, BitVec.shiftLeft_eq', h1]
  unfold shlZ
  rw [Int32.ofInt_mul, Int32.toBitVec_mul, BitVec.shiftLeft_eq_mul_twoPow, i32_tp n hn]
  rfl
theorem i32_shr {a b : Int} (ha : inI a) (hb0 : 0 ≤ b) (hb : b < 32) : Int32.ofInt a >>> (Int32.ofInt b &&& 31) = Int32.ofInt (shrZ a b) := by
  obtain ⟨n, rfl⟩ := Int.eq_ofNat_of_zero_le hb0
  have hn : n < 32 := by omega
  have h1 := i32_sh32 n hn
  have h2 := pk_shr (Int32.ofInt a) (Int32.ofInt (n : Nat) &&& 31) n h1
  rw [← i32_oi (Int32.ofInt a >>> (Int32.ofInt ↑n &&& 31)), h2, i32_to ha]
  rfl
theorem inI_shr {a b : Int} (ha : inI a) (hb0 : 0 ≤ b) (hb : b < 32) : inI (shrZ a b) := by
  obtain ⟨n, rfl⟩ := Int.eq_ofNat_of_zero_le hb0
  have hn : n < 32 := by omega
  have h2 := pk_shr (Int32.ofInt a) (Int32.ofInt (n : Nat) &&& 31) n (i32_sh32 n hn)
  rw [i32_to ha] at h2
  show inI (a >>> n)
  rw [← h2]
  exact i32_in _
theorem i32_byte {z : Int} (h : -128 ≤ z ∧ z ≤ 127) : vp_nar .byte (Int32.ofInt z) = Int32.ofInt z := by
  rw [vp_nar_byte]
  apply Int32.toInt_inj.mp
  have hz : inI z := ⟨by omega, by omega⟩
  rw [Int8.toInt_toInt32, Int32.toInt_toInt8, i32_to hz]
  rw [Int.bmod_def]
  have := h.1; have := h.2
  omega
theorem i32_bool {z : Int} (h : z = 0 ∨ z = 1) : vp_nar .boolean (Int32.ofInt z) = Int32.ofInt z := by
  rcases h with rfl | rfl <;> decide
theorem i32_bipush {z : Int} (h : -128 ≤ z ∧ z ≤ 127) : (Int8.ofInt z).toInt32 = Int32.ofInt z := by
  apply Int32.toInt_inj.mp
  rw [Int8.toInt_toInt32, Int8.toInt_ofInt_of_le (by omega) (by omega), i32_to ⟨by omega, by omega⟩]
theorem i32_sipush {z : Int} (h : -32768 ≤ z ∧ z ≤ 32767) : (Int16.ofInt z).toInt32 = Int32.ofInt z := by
  apply Int32.toInt_inj.mp
  rw [Int16.toInt_toInt32, Int16.toInt_ofInt_of_le (by omega) (by omega), i32_to ⟨by omega, by omega⟩]
theorem i64_lconst (n : Nat) : Int64.ofNat n = Int64.ofInt (n : Int) := rfl
