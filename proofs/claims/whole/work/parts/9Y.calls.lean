/-! LEVEL 3: calls that change the Viaduct at most -/
theorem t_strain {X : Int → Int} {XL : Int} {d : Nat} {K : Int} {h : Mem} {p a : Int} (hd : 30 ≤ d) (hI : Inv K h) (hK : 0 ≤ K ∧ K + 25000 ≤ 30000000) : TwoI X XL d K h 143 286 [vI p, vI a] := by
  obtain ⟨n, s, st, sp, A, q⟩ := hI
  exact two_cv q hK (c_strain (by omega)) (m_strain (by omega)) q.h6 rfl (Int.le_refl _) rfl
theorem t_strainOf {X : Int → Int} {XL : Int} {d : Nat} {K : Int} {h : Mem} {p o a : Int} (hd : 30 ≤ d) (hI : Inv K h) (hK : 0 ≤ K ∧ K + 25000 ≤ 30000000) : TwoI X XL d K h 144 287 [vI p, vI o, vI a] := by
  obtain ⟨n, s, st, sp, A, q⟩ := hI
  exact two_cv q hK (c_strainOf (by omega)) (m_strainOf (by omega)) q.h6 rfl (Int.le_refl _) rfl
theorem t_stops {X : Int → Int} {XL : Int} {d : Nat} {K : Int} {h : Mem} {p : Int} (hd : 30 ≤ d) (hI : Inv K h) (hK : 0 ≤ K ∧ K + 25000 ≤ 30000000) : TwoI X XL d K h 147 292 [vI p] := by
  obtain ⟨n, s, st, sp, A, q⟩ := hI
  exact two_cv q hK (c_stops (by omega)) (m_stops (by omega)) q.h6 rfl (Int.le_refl _) rfl
theorem t_told {X : Int → Int} {XL : Int} {d : Nat} {K : Int} {h : Mem} {w : Int} (hd : 30 ≤ d) (hI : Inv K h) (hK : 0 ≤ K ∧ K + 25000 ≤ 30000000) : TwoI X XL d K h 129 260 [vI w] := by
  obtain ⟨n, s, st, sp, A, q⟩ := hI
  exact two_cv q hK (c_told (by omega)) (m_told (by omega)) q.h6 rfl (Int.le_refl _) rfl
theorem t_arch {X : Int → Int} {XL : Int} {d : Nat} {K : Int} {h : Mem} {a w : Int} (hd : 30 ≤ d) (hI : Inv K h) (hK : 0 ≤ K ∧ K + 25000 ≤ 30000000) : TwoI X XL d K h 130 261 [vI a, vI w] := by
  obtain ⟨n, s, st, sp, A, q⟩ := hI
  exact two_cv q hK (c_arch (by omega)) (m_arch (by omega)) q.h6 rfl (Int.le_refl _) rfl
theorem t_person {X : Int → Int} {XL : Int} {d : Nat} {K : Int} {h : Mem} {p w : Int} (hd : 30 ≤ d) (hI : Inv K h) (hK : 0 ≤ K ∧ K + 25000 ≤ 30000000) : TwoI X XL d K h 131 262 [vI p, vI w] := by
  obtain ⟨n, s, st, sp, A, q⟩ := hI
  exact two_cv q hK (c_person (by omega)) (m_person (by omega)) q.h6 rfl (Int.le_refl _) rfl
theorem t_plant {X : Int → Int} {XL : Int} {d : Nat} {K : Int} {h : Mem} {k w : Int} (hd : 30 ≤ d) (hI : Inv K h) (hK : 0 ≤ K ∧ K + 25000 ≤ 30000000) : TwoI X XL d K h 132 263 [vI k, vI w] := by
  obtain ⟨n, s, st, sp, A, q⟩ := hI
  exact two_cv q hK (c_plant (by omega)) (m_plant (by omega)) q.h6 rfl (Int.le_refl _) rfl
theorem t_stopsBoth {X : Int → Int} {XL : Int} {d : Nat} {K : Int} {h : Mem} {p o : Int} (hd : 30 ≤ d) (hI : Inv K h) (hK : 0 ≤ K ∧ K + 25000 ≤ 30000000) : TwoI X XL d K h 148 293 [vI p, vI o] := by
  obtain ⟨n, s, st, sp, A, q⟩ := hI
  exact two_cv q hK (c_stopsBoth (by omega)) (m_stopsBoth (by omega)) q.h6 rfl (Int.le_refl _) rfl
theorem t_pays {X : Int → Int} {XL : Int} {d : Nat} {K : Int} {h : Mem} {p : Int} (hd : 30 ≤ d) (hI : Inv K h) (hK : 0 ≤ K ∧ K + 25000 ≤ 30000000) : TwoI X XL d K h 149 294 [vI p] := by
  obtain ⟨n, s, st, sp, A, q⟩ := hI
  exact two_cv q hK (c_pays (by omega)) (m_pays (by omega)) q.h6 rfl (Int.le_refl _) rfl
theorem t_reach {X : Int → Int} {XL : Int} {d : Nat} {K : Int} {h : Mem} {p : Int} (hd : 30 ≤ d) (hI : Inv K h) (hK : 0 ≤ K ∧ K + 25000 ≤ 30000000) : TwoI X XL d K h 145 289 [vI p] := by
  obtain ⟨n, s, st, sp, A, q⟩ := hI
  exact two_cv q hK (c_reach (by omega)) (m_reach (by omega) (by have := q.h6; omega)) q.h6 rfl (Int.le_refl _) rfl
theorem t_reachIn {X : Int → Int} {XL : Int} {d : Nat} {K : Int} {h : Mem} {p m : Int} (hd : 30 ≤ d) (hI : Inv K h) (hK : 0 ≤ K ∧ K + 25000 ≤ 30000000) : TwoI X XL d K h 146 290 [vI p, vI m] := by
  obtain ⟨n, s, st, sp, A, q⟩ := hI
  exact two_cv q hK (c_reachIn (by omega)) (m_reachIn (by omega) (by have := q.h6; omega)) q.h6 rfl (Int.le_refl _) rfl
theorem t_mossIn {X : Int → Int} {XL : Int} {d : Nat} {K : Int} {h : Mem} {a m : Int} (hd : 30 ≤ d) (hI : Inv K h) (hK : 0 ≤ K ∧ K + 25000 ≤ 30000000) : TwoI X XL d K h 153 299 [vI a, vI m] := by
  obtain ⟨n, s, st, sp, A, q⟩ := hI
  exact two_cv q hK (c_mossIn (by omega)) (m_mossIn (by omega) (by have := q.h6; omega)) q.h6 rfl (Int.le_refl _) rfl
theorem t_span {X : Int → Int} {XL : Int} {d : Nat} {K : Int} {h : Mem} {p : Int} (hd : 30 ≤ d) (hI : Inv K h) (hK : 0 ≤ K ∧ K + 25000 ≤ 30000000) : TwoI X XL d K h 150 296 [vI p] := by
  obtain ⟨n, s, st, sp, A, q⟩ := hI
  exact two_cv q hK (c_span (by omega)) (m_span (by omega)) q.h6 rfl (Int.le_refl _) rfl
theorem t_spanFrom {X : Int → Int} {XL : Int} {d : Nat} {K : Int} {h : Mem} {p : Int} (hd : 30 ≤ d) (hI : Inv K h) (hK : 0 ≤ K ∧ K + 25000 ≤ 30000000) : TwoI X XL d K h 151 297 [vI p] := by
  obtain ⟨n, s, st, sp, A, q⟩ := hI
  exact two_cv q hK (c_spanFrom (by omega)) (m_spanFrom (by omega)) q.h6 rfl (Int.le_refl _) rfl
theorem t_weakest {X : Int → Int} {XL : Int} {d : Nat} {K : Int} {h : Mem} (hd : 30 ≤ d) (hI : Inv K h) (hK : 0 ≤ K ∧ K + 25000 ≤ 30000000) : TwoI X XL d K h 152 298 [] := by
  obtain ⟨n, s, st, sp, A, q⟩ := hI
  exact two_cv q hK (c_weakest (by omega)) (m_weakest (by omega)) q.h6 rfl (Int.le_refl _) rfl
theorem t_garden {X : Int → Int} {XL : Int} {d : Nat} {K : Int} {h : Mem} {m : Int} (hd : 30 ≤ d) (hI : Inv K h) (hK : 0 ≤ K ∧ K + 25000 ≤ 30000000) : TwoI X XL d K h 164 328 [vI m] := by
  obtain ⟨n, s, st, sp, A, q⟩ := hI
  exact two_cv q hK (c_garden (by omega)) (m_garden (by omega)) q.h6 rfl (Int.le_refl _) rfl
theorem t_gardenSet {X : Int → Int} {XL : Int} {d : Nat} {K : Int} {h : Mem} {m : Int} (hd : 30 ≤ d) (hI : Inv K h) (hK : 0 ≤ K ∧ K + 25000 ≤ 30000000) : TwoI X XL d K h 165 329 [vI m] := by
  obtain ⟨n, s, st, sp, A, q⟩ := hI
  exact two_cv q hK (c_gardenSet (by omega)) (m_gardenSet (by omega)) q.h6 rfl (Int.le_refl _) rfl
theorem t_mends {X : Int → Int} {XL : Int} {d : Nat} {K : Int} {h : Mem} {s0 : Int} (hd : 30 ≤ d) (hI : Inv K h) (hK : 0 ≤ K ∧ K + 25000 ≤ 30000000) : TwoI X XL d K h 157 311 [vI s0] := by
  obtain ⟨n, s, st, sp, A, q⟩ := hI
  exact two_cv q hK (c_mends (by omega)) (m_mends (by omega)) q.h6 rfl (Int.le_refl _) rfl
theorem t_mendsAt {X : Int → Int} {XL : Int} {d : Nat} {K : Int} {h : Mem} {s0 a : Int} (hd : 30 ≤ d) (hI : Inv K h) (hK : 0 ≤ K ∧ K + 25000 ≤ 30000000) : TwoI X XL d K h 158 312 [vI s0, vI a] := by
  obtain ⟨n, s, st, sp, A, q⟩ := hI
  exact two_cv q hK (c_mendsAt (by omega)) (m_mendsAt (by omega)) q.h6 rfl (Int.le_refl _) rfl
theorem lo_run {A : Int → Int} {p j : Int} (hj : j < 37) (h8 : ¬ j = 8) : a_run A p j = A j := by
  unfold a_run
  split
  · rename_i c; exact rr_lo c.1.1 c.1.1 hj h8
  · rfl
theorem t_run {X : Int → Int} {XL : Int} {d : Nat} {K : Int} {h : Mem} {p : Int} (hd : 30 ≤ d) (hI : Inv K h) (hK : 0 ≤ K ∧ K + 25000 ≤ 30000000) : TwoI X XL d K h 133 268 [vI p] := by
  obtain ⟨n, s, st, sp, A, q⟩ := hI
  exact two_cv q hK (c_run (by omega)) (m_run (by omega)) (by rw [lo_run (by omega) (by omega)]; exact q.h6) (lo_run (by omega) (by omega)) (by rw [lo_run (by omega) (by omega)]; exact Int.le_refl _) (lo_run (by omega) (by omega))
theorem t_rope {X : Int → Int} {XL : Int} {d : Nat} {K : Int} {h : Mem} {p o : Int} (hd : 30 ≤ d) (hI : Inv K h) (hK : 0 ≤ K ∧ K + 25000 ≤ 30000000) : TwoI X XL d K h 134 270 [vI p, vI o] := by
  obtain ⟨n, s, st, sp, A, q⟩ := hI
  by_cases ht : (0 ≤ p ∧ p < A 1) ∧ (0 ≤ o ∧ o < A 1) ∧ ¬ p = o
  · by_cases hc : pA A p 3 = pA A o 3 ∧ pA A p 3 < A 0
    · have l : ∀ j, j < 37 → ¬ j = 8 → rrA A p o j = A j := fun j a b => rr_lo ht.1.1 ht.2.1.1 a b
      exact two_cv q hK (c_ropeY (by omega) ht hc) (m_ropeY (by omega) ht hc) (by rw [l 6 (by omega) (by omega)]; exact q.h6) (l 7 (by omega) (by omega)) (by rw [l 0 (by omega) (by omega)]; exact Int.le_refl _) (l 1 (by omega) (by omega))
    · exact two_cv q hK (c_ropeN (by omega) ht hc) (m_ropeN (by omega) ht hc) q.h6 rfl (Int.le_refl _) rfl
  · exact two_cv q hK (c_ropeX (by omega) ht) (m_ropeX (by omega) ht) q.h6 rfl (Int.le_refl _) rfl
theorem t_jump {X : Int → Int} {XL : Int} {d : Nat} {K : Int} {h : Mem} {a : Int} (hd : 30 ≤ d) (hI : Inv K h) (hK : 0 ≤ K ∧ K + 25000 ≤ 30000000) : TwoI X XL d K h 135 272 [vI a] := by
  obtain ⟨n, s, st, sp, A, q⟩ := hI
  have l : ∀ j, j < 10 → ¬ j = 8 → a_jump A a j = A j := fun j x y => by
    unfold a_jump
    split
    · rename_i c
      unfold jmpA
      rw [pu_n y, pu_n (by omega), pu_n (by omega)]
    · rfl
  exact two_cv q hK (c_jump (by omega)) (m_jump (by omega)) (by rw [l 6 (by omega) (by omega)]; exact q.h6) (l 7 (by omega) (by omega)) (by rw [l 0 (by omega) (by omega)]; exact Int.le_refl _) (l 1 (by omega) (by omega))
theorem t_home {X : Int → Int} {XL : Int} {d : Nat} {K : Int} {h : Mem} {p : Int} (hd : 30 ≤ d) (hI : Inv K h) (hK : 0 ≤ K ∧ K + 25000 ≤ 30000000) : TwoI X XL d K h 136 274 [vI p] := by
  obtain ⟨n, s, st, sp, A, q⟩ := hI
  have l : ∀ j, j < 10 → a_home A p j = A j := fun j x => by
    unfold a_home
    split
    · rename_i c
      unfold homA
      rw [pu_n (by omega)]
    · rfl
  exact two_cv q hK (c_home (by omega)) (m_home (by omega)) (by rw [l 6 (by omega)]; exact q.h6) (l 7 (by omega)) (by rw [l 0 (by omega)]; exact Int.le_refl _) (l 1 (by omega))
theorem t_day {X : Int → Int} {XL : Int} {d : Nat} {K : Int} {h : Mem} {m : Int} (hd : 30 ≤ d) (hI : Inv K h) (hK : 0 ≤ K ∧ K + 25000 ≤ 30000000) : TwoI X XL d K h 137 277 [vI m] := by
  obtain ⟨n, s, st, sp, A, q⟩ := hI
  have h6 := q.h6
  have l : ∀ j, j < 10 → ¬ j = 6 → ¬ j = 8 → a_day A m j = A j := fun j x y z => by
    unfold a_day
    split
    · unfold dayA
      rw [if_neg z, if_neg y, if_neg (by omega)]
    · rfl
  have l6 : a_day A m 6 ≤ 9999 := by
    unfold a_day
    split
    · rename_i c
      unfold dayA
      rw [if_neg (by omega), if_pos rfl]
      exact c.2
    · exact h6
  exact two_cv q hK (c_day (by omega)) (m_day (by omega)) l6 (l 7 (by omega) (by omega) (by omega)) (by rw [l 0 (by omega) (by omega) (by omega)]; exact Int.le_refl _) (l 1 (by omega) (by omega) (by omega))
theorem t_teach {X : Int → Int} {XL : Int} {d : Nat} {K : Int} {h : Mem} {p w m : Int} (hd : 30 ≤ d) (hI : Inv K h) (hK : 0 ≤ K ∧ K + 25000 ≤ 30000000) : TwoI X XL d K h 138 278 [vI p, vI w, vI m] := by
  obtain ⟨n, s, st, sp, A, q⟩ := hI
  by_cases ht : okT A p w m
  · have ht2 := id ht
    unfold okT at ht2
    have l : ∀ j, j < 10 → tchA A p w m j = A j := fun j x => by unfold tchA; rw [pu_n (by omega)]
    exact two_cv q hK (c_teachY (by omega) ht) (m_teachY (by omega) ht) (by rw [l 6 (by omega)]; exact q.h6) (l 7 (by omega)) (by rw [l 0 (by omega)]; exact Int.le_refl _) (l 1 (by omega))
  · exact two_cv q hK (c_teachN (by omega) ht) (m_teachN (by omega) ht) q.h6 rfl (Int.le_refl _) rfl
theorem t_rule {X : Int → Int} {XL : Int} {d : Nat} {K : Int} {h : Mem} {w m : Int} (hd : 30 ≤ d) (hI : Inv K h) (hK : 0 ≤ K ∧ K + 25000 ≤ 30000000) : TwoI X XL d K h 142 282 [vI w, vI m] := by
  obtain ⟨n, s, st, sp, A, q⟩ := hI
  by_cases ht : okR w m
  · have ht2 := id ht
    unfold okR at ht2
    have l : ∀ j, j < 3 ∨ 5 < j → rulA A w m j = A j := fun j x => by unfold rulA; rw [pu_n (by omega)]
    exact two_cv q hK (c_ruleY (by omega) ht) (m_ruleY (by omega) ht) (by rw [l 6 (by omega)]; exact q.h6) (l 7 (by omega)) (by rw [l 0 (by omega)]; exact Int.le_refl _) (l 1 (by omega))
  · exact two_cv q hK (c_ruleN (by omega) ht) (m_ruleN (by omega) ht) q.h6 rfl (Int.le_refl _) rfl
theorem t_build {X : Int → Int} {XL : Int} {d : Nat} {K : Int} {h : Mem} {w m : Int} (hd : 30 ≤ d) (hI : Inv K h) (hK : 0 ≤ K ∧ K + 25000 ≤ 30000000) : TwoI X XL d K h 140 280 [vI w, vI m] := by
  obtain ⟨n, s, st, sp, A, q⟩ := hI
  have b0 := q.rr.2.2.1
  have l : ∀ j, j < 10 → ¬ j = 0 → a_build A w m j = A j := fun j x y => by
    unfold a_build
    split
    · unfold arcA
      rw [pu_n y, pu_n (by omega), pu_n (by omega), pu_n (by omega)]
    · rfl
  have l0 : A 0 ≤ a_build A w m 0 := by
    unfold a_build
    split
    · unfold arcA
      rw [pu_e]; omega
    · exact Int.le_refl _
  exact two_cv q hK (c_build (by omega)) (m_build (by omega)) (by rw [l 6 (by omega) (by omega)]; exact q.h6) (l 7 (by omega) (by omega)) l0 (l 1 (by omega) (by omega))
theorem t_sow {X : Int → Int} {XL : Int} {d : Nat} {K : Int} {h : Mem} {w m : Int} (hd : 30 ≤ d) (hI : Inv K h) (hK : 0 ≤ K ∧ K + 25000 ≤ 30000000) : TwoI X XL d K h 141 281 [vI w, vI m] := by
  obtain ⟨n, s, st, sp, A, q⟩ := hI
  have b0 := q.rr.2.2.2.2.1
  have l : ∀ j, j < 10 → ¬ j = 2 → a_sow A w m j = A j := fun j x y => by
    unfold a_sow
    split
    · unfold plnA
      rw [pu_n y, pu_n (by omega), pu_n (by omega)]
    · rfl
  exact two_cv q hK (c_sow (by omega)) (m_sow (by omega)) (by rw [l 6 (by omega) (by omega)]; exact q.h6) (l 7 (by omega) (by omega)) (by rw [l 0 (by omega) (by omega)]; exact Int.le_refl _) (l 1 (by omega) (by omega))
