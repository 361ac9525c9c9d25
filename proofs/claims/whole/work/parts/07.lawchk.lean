/-! the law's own instructions, eight blocks at a time -/
def lawC (q : Nat × List OpI) : Bool := chkO 11 false 1 4 code q.1 q.2
set_option maxRecDepth 100000 in
theorem lk_0 : ((KL_law.drop 0).take 8).all lawC = true := by decide +kernel
set_option maxRecDepth 100000 in
theorem lk_1 : ((KL_law.drop 8).take 8).all lawC = true := by decide +kernel
set_option maxRecDepth 100000 in
theorem lk_2 : ((KL_law.drop 16).take 8).all lawC = true := by decide +kernel
set_option maxRecDepth 100000 in
theorem lk_3 : ((KL_law.drop 24).take 8).all lawC = true := by decide +kernel
set_option maxRecDepth 100000 in
theorem lk_4 : ((KL_law.drop 32).take 8).all lawC = true := by decide +kernel
set_option maxRecDepth 100000 in
theorem lk_5 : ((KL_law.drop 40).take 8).all lawC = true := by decide +kernel
set_option maxRecDepth 100000 in
theorem lk_6 : ((KL_law.drop 48).take 8).all lawC = true := by decide +kernel
set_option maxRecDepth 100000 in
theorem lk_7 : ((KL_law.drop 56).take 8).all lawC = true := by decide +kernel
theorem law_len : KL_law.length ≤ 64 := by decide +kernel
theorem law_at {i k : Nat} {q : Nat × List OpI} (h : ((KL_law.drop k).take 8).all lawC = true) (hi : KL_law[i]? = some q) (h1 : k ≤ i) (h2 : i < k + 8) : lawC q = true := by
  refine List.all_eq_true.mp h q (List.mem_of_getElem? (i := i - k) ?_)
  rw [List.getElem?_take, if_pos (by omega), List.getElem?_drop, show k + (i - k) = i by omega]
  exact hi
theorem law_chk : ∀ q ∈ KL_law, chkO 11 false 1 4 code q.1 q.2 = true := by
  intro q hq
  obtain ⟨i, hi⟩ := List.getElem?_of_mem hq
  have hlt : i < 64 := Nat.lt_of_lt_of_le (List.getElem?_eq_some_iff.mp hi).1 law_len
  by_cases h0 : i < 8
  · exact law_at lk_0 hi (by omega) (by omega)
  by_cases h1 : i < 16
  · exact law_at lk_1 hi (by omega) (by omega)
  by_cases h2 : i < 24
  · exact law_at lk_2 hi (by omega) (by omega)
  by_cases h3 : i < 32
  · exact law_at lk_3 hi (by omega) (by omega)
  by_cases h4 : i < 40
  · exact law_at lk_4 hi (by omega) (by omega)
  by_cases h5 : i < 48
  · exact law_at lk_5 hi (by omega) (by omega)
  by_cases h6 : i < 56
  · exact law_at lk_6 hi (by omega) (by omega)
  by_cases h7 : i < 64
  · exact law_at lk_7 hi (by omega) (by omega)
  omega
