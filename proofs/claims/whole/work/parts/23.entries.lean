/-! how each method's run begins -/
theorem WP_in {X : Int → Int} {XL : Int} {d y : Nat} {as : List MV} {h : Mem} {Q : RetP} {M : MI} (hy : y < 1000) (hM : mi y = M) (hl : (as.flatMap lay1).length ≤ M.2.2.1) (q : Ex (WP X XL d) M.2.2.2.2.2.2.2 (h.1 ++ M.2.2.2.2.2.2.1) Q 0 (entL as M.2.2.1) [] h) : WP X XL (d + 1) y as h Q := by
  subst hM
  unfold WP
  rw [if_pos hy]
  exact ⟨hl, q⟩
theorem WP_in0 {X : Int → Int} {XL : Int} {d y : Nat} {as : List MV} {h : Mem} {Q : RetP} {M : MI} (hy : y < 1000) (hM : mi y = M) (hl : (as.flatMap lay1).length ≤ M.2.2.1) (hg : M.2.2.2.2.2.2.1 = []) (q : Ex (WP X XL d) M.2.2.2.2.2.2.2 h.1 Q 0 (entL as M.2.2.1) [] h) : WP X XL (d + 1) y as h Q := by
  subst hM
  unfold WP
  rw [if_pos hy]
  refine ⟨hl, ?_⟩
  rw [hg, List.append_nil]
  exact q
theorem eX6_init {X : Int → Int} {XL : Int} {d : Nat} {h : Mem} {Q : RetP} {a0 : Nat} (hd : 1 ≤ d) (q : Ex (WP X XL (d - 1)) KX6_init (h.1 ++ growM 0) Q 0 [some (vR a0)] [] h) : WP X XL d 0 [vR a0] h Q := by
  obtain ⟨d, rfl⟩ : ∃ d', d = d' + 1 := ⟨d - 1, by omega⟩
  exact WP_in (y := 0) (by decide) rfl (Nat.le_of_ble_eq_true rfl) q
theorem eX6_isMissing {X : Int → Int} {XL : Int} {d : Nat} {h : Mem} {Q : RetP} {a0 : Nat} (hd : 1 ≤ d) (q : Ex (WP X XL (d - 1)) KX6_isMissing h.1 Q 0 [some (vR a0)] [] h) : WP X XL d 1 [vR a0] h Q := by
  obtain ⟨d, rfl⟩ : ∃ d', d = d' + 1 := ⟨d - 1, by omega⟩
  exact WP_in0 (y := 1) (by decide) rfl (Nat.le_of_ble_eq_true rfl) rfl q
theorem eX6_hasPlace {X : Int → Int} {XL : Int} {d : Nat} {h : Mem} {Q : RetP} {a0 : Nat} {a1 : Int} (hd : 1 ≤ d) (q : Ex (WP X XL (d - 1)) KX6_hasPlace h.1 Q 0 [some (vR a0), some (vI a1)] [] h) : WP X XL d 2 [vR a0, vI a1] h Q := by
  obtain ⟨d, rfl⟩ : ∃ d', d = d' + 1 := ⟨d - 1, by omega⟩
  exact WP_in0 (y := 2) (by decide) rfl (Nat.le_of_ble_eq_true rfl) rfl q
theorem eX6_hasRow {X : Int → Int} {XL : Int} {d : Nat} {h : Mem} {Q : RetP} {a0 : Nat} {a1 : Int} {a2 : Int} (hd : 1 ≤ d) (q : Ex (WP X XL (d - 1)) KX6_hasRow h.1 Q 0 [some (vR a0), some (vI a1), some (vI a2)] [] h) : WP X XL d 3 [vR a0, vI a1, vI a2] h Q := by
  obtain ⟨d, rfl⟩ : ∃ d', d = d' + 1 := ⟨d - 1, by omega⟩
  exact WP_in0 (y := 3) (by decide) rfl (Nat.le_of_ble_eq_true rfl) rfl q
theorem eX6_lay {X : Int → Int} {XL : Int} {d : Nat} {h : Mem} {Q : RetP} {a0 : Nat} {a1 : Int} {a2 : Int} (hd : 1 ≤ d) (q : Ex (WP X XL (d - 1)) KX6_lay h.1 Q 0 [some (vR a0), some (vI a1), some (vI a2)] [] h) : WP X XL d 4 [vR a0, vI a1, vI a2] h Q := by
  obtain ⟨d, rfl⟩ : ∃ d', d = d' + 1 := ⟨d - 1, by omega⟩
  exact WP_in0 (y := 4) (by decide) rfl (Nat.le_of_ble_eq_true rfl) rfl q
theorem eX6_put {X : Int → Int} {XL : Int} {d : Nat} {h : Mem} {Q : RetP} {a0 : Nat} {a1 : Int} {a2 : Int} (hd : 1 ≤ d) (q : Ex (WP X XL (d - 1)) KX6_put h.1 Q 0 [some (vR a0), some (vI a1), some (vL a2), none] [] h) : WP X XL d 5 [vR a0, vI a1, vL a2] h Q := by
  obtain ⟨d, rfl⟩ : ∃ d', d = d' + 1 := ⟨d - 1, by omega⟩
  exact WP_in0 (y := 5) (by decide) rfl (Nat.le_of_ble_eq_true rfl) rfl q
theorem eX6_cut {X : Int → Int} {XL : Int} {d : Nat} {h : Mem} {Q : RetP} {a0 : Nat} {a1 : Int} (hd : 1 ≤ d) (q : Ex (WP X XL (d - 1)) KX6_cut h.1 Q 0 [some (vR a0), some (vL a1), none] [] h) : WP X XL d 6 [vR a0, vL a1] h Q := by
  obtain ⟨d, rfl⟩ : ∃ d', d = d' + 1 := ⟨d - 1, by omega⟩
  exact WP_in0 (y := 6) (by decide) rfl (Nat.le_of_ble_eq_true rfl) rfl q
theorem eX7_init {X : Int → Int} {XL : Int} {d : Nat} {h : Mem} {Q : RetP} {a0 : Nat} (hd : 1 ≤ d) (q : Ex (WP X XL (d - 1)) KX7_init (h.1 ++ growM 7) Q 0 [some (vR a0)] [] h) : WP X XL d 7 [vR a0] h Q := by
  obtain ⟨d, rfl⟩ : ∃ d', d = d' + 1 := ⟨d - 1, by omega⟩
  exact WP_in (y := 7) (by decide) rfl (Nat.le_of_ble_eq_true rfl) q
theorem eX7_clear {X : Int → Int} {XL : Int} {d : Nat} {h : Mem} {Q : RetP} {a0 : Nat} (hd : 1 ≤ d) (q : Ex (WP X XL (d - 1)) KX7_clear h.1 Q 0 [some (vR a0)] [] h) : WP X XL d 8 [vR a0] h Q := by
  obtain ⟨d, rfl⟩ : ∃ d', d = d' + 1 := ⟨d - 1, by omega⟩
  exact WP_in0 (y := 8) (by decide) rfl (Nat.le_of_ble_eq_true rfl) rfl q
theorem eX7_takeOver {X : Int → Int} {XL : Int} {d : Nat} {h : Mem} {Q : RetP} {a0 : Nat} {a1 : Nat} (hd : 1 ≤ d) (q : Ex (WP X XL (d - 1)) KX7_takeOver h.1 Q 0 [some (vR a0), some (vR a1)] [] h) : WP X XL d 9 [vR a0, vR a1] h Q := by
  obtain ⟨d, rfl⟩ : ∃ d', d = d' + 1 := ⟨d - 1, by omega⟩
  exact WP_in0 (y := 9) (by decide) rfl (Nat.le_of_ble_eq_true rfl) rfl q
theorem eX7_addArch {X : Int → Int} {XL : Int} {d : Nat} {h : Mem} {Q : RetP} {a0 : Nat} {a1 : Int} {a2 : Int} (hd : 1 ≤ d) (q : Ex (WP X XL (d - 1)) KX7_addArch h.1 Q 0 [some (vR a0), some (vI a1), some (vI a2)] [] h) : WP X XL d 10 [vR a0, vI a1, vI a2] h Q := by
  obtain ⟨d, rfl⟩ : ∃ d', d = d' + 1 := ⟨d - 1, by omega⟩
  exact WP_in0 (y := 10) (by decide) rfl (Nat.le_of_ble_eq_true rfl) rfl q
theorem eX7_addPerson {X : Int → Int} {XL : Int} {d : Nat} {h : Mem} {Q : RetP} {a0 : Nat} {a1 : Int} {a2 : Int} (hd : 1 ≤ d) (q : Ex (WP X XL (d - 1)) KX7_addPerson h.1 Q 0 [some (vR a0), some (vL a1), none, some (vI a2)] [] h) : WP X XL d 11 [vR a0, vL a1, vI a2] h Q := by
  obtain ⟨d, rfl⟩ : ∃ d', d = d' + 1 := ⟨d - 1, by omega⟩
  exact WP_in0 (y := 11) (by decide) rfl (Nat.le_of_ble_eq_true rfl) rfl q
theorem eX7_addPlant {X : Int → Int} {XL : Int} {d : Nat} {h : Mem} {Q : RetP} {a0 : Nat} {a1 : Int} {a2 : Int} (hd : 1 ≤ d) (q : Ex (WP X XL (d - 1)) KX7_addPlant h.1 Q 0 [some (vR a0), some (vI a1), some (vI a2)] [] h) : WP X XL d 12 [vR a0, vI a1, vI a2] h Q := by
  obtain ⟨d, rfl⟩ : ∃ d', d = d' + 1 := ⟨d - 1, by omega⟩
  exact WP_in0 (y := 12) (by decide) rfl (Nat.le_of_ble_eq_true rfl) rfl q
theorem eX7_hasArch {X : Int → Int} {XL : Int} {d : Nat} {h : Mem} {Q : RetP} {a0 : Nat} {a1 : Int} (hd : 1 ≤ d) (q : Ex (WP X XL (d - 1)) KX7_hasArch h.1 Q 0 [some (vR a0), some (vI a1)] [] h) : WP X XL d 13 [vR a0, vI a1] h Q := by
  obtain ⟨d, rfl⟩ : ∃ d', d = d' + 1 := ⟨d - 1, by omega⟩
  exact WP_in0 (y := 13) (by decide) rfl (Nat.le_of_ble_eq_true rfl) rfl q
theorem eX7_hasPerson {X : Int → Int} {XL : Int} {d : Nat} {h : Mem} {Q : RetP} {a0 : Nat} {a1 : Int} (hd : 1 ≤ d) (q : Ex (WP X XL (d - 1)) KX7_hasPerson h.1 Q 0 [some (vR a0), some (vI a1)] [] h) : WP X XL d 14 [vR a0, vI a1] h Q := by
  obtain ⟨d, rfl⟩ : ∃ d', d = d' + 1 := ⟨d - 1, by omega⟩
  exact WP_in0 (y := 14) (by decide) rfl (Nat.le_of_ble_eq_true rfl) rfl q
theorem eX7_hasTwo {X : Int → Int} {XL : Int} {d : Nat} {h : Mem} {Q : RetP} {a0 : Nat} {a1 : Int} {a2 : Int} (hd : 1 ≤ d) (q : Ex (WP X XL (d - 1)) KX7_hasTwo h.1 Q 0 [some (vR a0), some (vI a1), some (vI a2)] [] h) : WP X XL d 15 [vR a0, vI a1, vI a2] h Q := by
  obtain ⟨d, rfl⟩ : ∃ d', d = d' + 1 := ⟨d - 1, by omega⟩
  exact WP_in0 (y := 15) (by decide) rfl (Nat.le_of_ble_eq_true rfl) rfl q
theorem eX7_personNamed {X : Int → Int} {XL : Int} {d : Nat} {h : Mem} {Q : RetP} {a0 : Nat} {a1 : Int} (hd : 1 ≤ d) (q : Ex (WP X XL (d - 1)) KX7_personNamed h.1 Q 0 [some (vR a0), some (vL a1), none, none] [] h) : WP X XL d 16 [vR a0, vL a1] h Q := by
  obtain ⟨d, rfl⟩ : ∃ d', d = d' + 1 := ⟨d - 1, by omega⟩
  exact WP_in0 (y := 16) (by decide) rfl (Nat.le_of_ble_eq_true rfl) rfl q
theorem eX7_isOver {X : Int → Int} {XL : Int} {d : Nat} {h : Mem} {Q : RetP} {a0 : Nat} {a1 : Int} (hd : 1 ≤ d) (q : Ex (WP X XL (d - 1)) KX7_isOver h.1 Q 0 [some (vR a0), some (vI a1)] [] h) : WP X XL d 17 [vR a0, vI a1] h Q := by
  obtain ⟨d, rfl⟩ : ∃ d', d = d' + 1 := ⟨d - 1, by omega⟩
  exact WP_in0 (y := 17) (by decide) rfl (Nat.le_of_ble_eq_true rfl) rfl q
theorem eX7_peopleOver {X : Int → Int} {XL : Int} {d : Nat} {h : Mem} {Q : RetP} {a0 : Nat} (hd : 1 ≤ d) (q : Ex (WP X XL (d - 1)) KX7_peopleOver h.1 Q 0 [some (vR a0), none, none] [] h) : WP X XL d 18 [vR a0] h Q := by
  obtain ⟨d, rfl⟩ : ∃ d', d = d' + 1 := ⟨d - 1, by omega⟩
  exact WP_in0 (y := 18) (by decide) rfl (Nat.le_of_ble_eq_true rfl) rfl q
theorem eX7_paidByAll {X : Int → Int} {XL : Int} {d : Nat} {h : Mem} {Q : RetP} {a0 : Nat} (hd : 1 ≤ d) (q : Ex (WP X XL (d - 1)) KX7_paidByAll h.1 Q 0 [some (vR a0)] [] h) : WP X XL d 19 [vR a0] h Q := by
  obtain ⟨d, rfl⟩ : ∃ d', d = d' + 1 := ⟨d - 1, by omega⟩
  exact WP_in0 (y := 19) (by decide) rfl (Nat.le_of_ble_eq_true rfl) rfl q
theorem eX7_fellByAll {X : Int → Int} {XL : Int} {d : Nat} {h : Mem} {Q : RetP} {a0 : Nat} (hd : 1 ≤ d) (q : Ex (WP X XL (d - 1)) KX7_fellByAll h.1 Q 0 [some (vR a0)] [] h) : WP X XL d 20 [vR a0] h Q := by
  obtain ⟨d, rfl⟩ : ∃ d', d = d' + 1 := ⟨d - 1, by omega⟩
  exact WP_in0 (y := 20) (by decide) rfl (Nat.le_of_ble_eq_true rfl) rfl q
theorem eX7_behindAll {X : Int → Int} {XL : Int} {d : Nat} {h : Mem} {Q : RetP} {a0 : Nat} (hd : 1 ≤ d) (q : Ex (WP X XL (d - 1)) KX7_behindAll h.1 Q 0 [some (vR a0)] [] h) : WP X XL d 21 [vR a0] h Q := by
  obtain ⟨d, rfl⟩ : ∃ d', d = d' + 1 := ⟨d - 1, by omega⟩
  exact WP_in0 (y := 21) (by decide) rfl (Nat.le_of_ble_eq_true rfl) rfl q
theorem eX7_sumOfPeople {X : Int → Int} {XL : Int} {d : Nat} {h : Mem} {Q : RetP} {a0 : Nat} {a1 : Nat} (hd : 1 ≤ d) (q : Ex (WP X XL (d - 1)) KX7_sumOfPeople h.1 Q 0 [some (vR a0), some (vR a1), none, none] [] h) : WP X XL d 22 [vR a0, vR a1] h Q := by
  obtain ⟨d, rfl⟩ : ∃ d', d = d' + 1 := ⟨d - 1, by omega⟩
  exact WP_in0 (y := 22) (by decide) rfl (Nat.le_of_ble_eq_true rfl) rfl q
theorem eX7_strainBy {X : Int → Int} {XL : Int} {d : Nat} {h : Mem} {Q : RetP} {a0 : Nat} {a1 : Int} {a2 : Int} {a3 : Int} (hd : 1 ≤ d) (q : Ex (WP X XL (d - 1)) KX7_strainBy h.1 Q 0 [some (vR a0), some (vI a1), some (vI a2), some (vI a3)] [] h) : WP X XL d 23 [vR a0, vI a1, vI a2, vI a3] h Q := by
  obtain ⟨d, rfl⟩ : ∃ d', d = d' + 1 := ⟨d - 1, by omega⟩
  exact WP_in0 (y := 23) (by decide) rfl (Nat.le_of_ble_eq_true rfl) rfl q
theorem eX7_strainAlone {X : Int → Int} {XL : Int} {d : Nat} {h : Mem} {Q : RetP} {a0 : Nat} {a1 : Int} {a2 : Int} (hd : 1 ≤ d) (q : Ex (WP X XL (d - 1)) KX7_strainAlone h.1 Q 0 [some (vR a0), some (vI a1), some (vI a2)] [] h) : WP X XL d 24 [vR a0, vI a1, vI a2] h Q := by
  obtain ⟨d, rfl⟩ : ∃ d', d = d' + 1 := ⟨d - 1, by omega⟩
  exact WP_in0 (y := 24) (by decide) rfl (Nat.le_of_ble_eq_true rfl) rfl q
theorem eX7_strainRoped {X : Int → Int} {XL : Int} {d : Nat} {h : Mem} {Q : RetP} {a0 : Nat} {a1 : Int} {a2 : Int} {a3 : Int} (hd : 1 ≤ d) (q : Ex (WP X XL (d - 1)) KX7_strainRoped h.1 Q 0 [some (vR a0), some (vI a1), some (vI a2), some (vI a3), none, none, none] [] h) : WP X XL d 25 [vR a0, vI a1, vI a2, vI a3] h Q := by
  obtain ⟨d, rfl⟩ : ∃ d', d = d' + 1 := ⟨d - 1, by omega⟩
  exact WP_in0 (y := 25) (by decide) rfl (Nat.le_of_ble_eq_true rfl) rfl q
theorem eX7_bearsAlone {X : Int → Int} {XL : Int} {d : Nat} {h : Mem} {Q : RetP} {a0 : Nat} {a1 : Int} {a2 : Int} (hd : 1 ≤ d) (q : Ex (WP X XL (d - 1)) KX7_bearsAlone h.1 Q 0 [some (vR a0), some (vI a1), some (vI a2)] [] h) : WP X XL d 26 [vR a0, vI a1, vI a2] h Q := by
  obtain ⟨d, rfl⟩ : ∃ d', d = d' + 1 := ⟨d - 1, by omega⟩
  exact WP_in0 (y := 26) (by decide) rfl (Nat.le_of_ble_eq_true rfl) rfl q
theorem eX7_borneBy {X : Int → Int} {XL : Int} {d : Nat} {h : Mem} {Q : RetP} {a0 : Nat} {a1 : Int} (hd : 1 ≤ d) (q : Ex (WP X XL (d - 1)) KX7_borneBy h.1 Q 0 [some (vR a0), some (vI a1), none, none] [] h) : WP X XL d 27 [vR a0, vI a1] h Q := by
  obtain ⟨d, rfl⟩ : ∃ d', d = d' + 1 := ⟨d - 1, by omega⟩
  exact WP_in0 (y := 27) (by decide) rfl (Nat.le_of_ble_eq_true rfl) rfl q
theorem eX7_stopAlone {X : Int → Int} {XL : Int} {d : Nat} {h : Mem} {Q : RetP} {a0 : Nat} {a1 : Int} (hd : 1 ≤ d) (q : Ex (WP X XL (d - 1)) KX7_stopAlone h.1 Q 0 [some (vR a0), some (vI a1)] [] h) : WP X XL d 28 [vR a0, vI a1] h Q := by
  obtain ⟨d, rfl⟩ : ∃ d', d = d' + 1 := ⟨d - 1, by omega⟩
  exact WP_in0 (y := 28) (by decide) rfl (Nat.le_of_ble_eq_true rfl) rfl q
theorem eX7_stopBy {X : Int → Int} {XL : Int} {d : Nat} {h : Mem} {Q : RetP} {a0 : Nat} {a1 : Int} {a2 : Int} {a3 : Int} {a4 : Int} (hd : 1 ≤ d) (q : Ex (WP X XL (d - 1)) KX7_stopBy h.1 Q 0 [some (vR a0), some (vI a1), some (vI a2), some (vI a3), some (vI a4), none] [] h) : WP X XL d 29 [vR a0, vI a1, vI a2, vI a3, vI a4] h Q := by
  obtain ⟨d, rfl⟩ : ∃ d', d = d' + 1 := ⟨d - 1, by omega⟩
  exact WP_in0 (y := 29) (by decide) rfl (Nat.le_of_ble_eq_true rfl) rfl q
theorem eX7_stopIn {X : Int → Int} {XL : Int} {d : Nat} {h : Mem} {Q : RetP} {a0 : Nat} {a1 : Int} {a2 : Int} (hd : 1 ≤ d) (q : Ex (WP X XL (d - 1)) KX7_stopIn h.1 Q 0 [some (vR a0), some (vI a1), some (vI a2), none] [] h) : WP X XL d 30 [vR a0, vI a1, vI a2] h Q := by
  obtain ⟨d, rfl⟩ : ∃ d', d = d' + 1 := ⟨d - 1, by omega⟩
  exact WP_in0 (y := 30) (by decide) rfl (Nat.le_of_ble_eq_true rfl) rfl q
theorem eX7_stopRoped {X : Int → Int} {XL : Int} {d : Nat} {h : Mem} {Q : RetP} {a0 : Nat} {a1 : Int} {a2 : Int} {a3 : Int} (hd : 1 ≤ d) (q : Ex (WP X XL (d - 1)) KX7_stopRoped h.1 Q 0 [some (vR a0), some (vI a1), some (vI a2), some (vI a3), none] [] h) : WP X XL d 31 [vR a0, vI a1, vI a2, vI a3] h Q := by
  obtain ⟨d, rfl⟩ : ∃ d', d = d' + 1 := ⟨d - 1, by omega⟩
  exact WP_in0 (y := 31) (by decide) rfl (Nat.le_of_ble_eq_true rfl) rfl q
theorem eX7_reachInFog {X : Int → Int} {XL : Int} {d : Nat} {h : Mem} {Q : RetP} {a0 : Nat} {a1 : Int} {a2 : Int} {a3 : Int} (hd : 1 ≤ d) (q : Ex (WP X XL (d - 1)) KX7_reachInFog h.1 Q 0 [some (vR a0), some (vI a1), some (vI a2), some (vI a3)] [] h) : WP X XL d 32 [vR a0, vI a1, vI a2, vI a3] h Q := by
  obtain ⟨d, rfl⟩ : ∃ d', d = d' + 1 := ⟨d - 1, by omega⟩
  exact WP_in0 (y := 32) (by decide) rfl (Nat.le_of_ble_eq_true rfl) rfl q
theorem eX7_afterFall {X : Int → Int} {XL : Int} {d : Nat} {h : Mem} {Q : RetP} {a0 : Nat} {a1 : Int} {a2 : Int} (hd : 1 ≤ d) (q : Ex (WP X XL (d - 1)) KX7_afterFall h.1 Q 0 [some (vR a0), some (vI a1), some (vI a2), none] [] h) : WP X XL d 33 [vR a0, vI a1, vI a2] h Q := by
  obtain ⟨d, rfl⟩ : ∃ d', d = d' + 1 := ⟨d - 1, by omega⟩
  exact WP_in0 (y := 33) (by decide) rfl (Nat.le_of_ble_eq_true rfl) rfl q
theorem eX7_tollsBetween {X : Int → Int} {XL : Int} {d : Nat} {h : Mem} {Q : RetP} {a0 : Nat} {a1 : Int} {a2 : Int} (hd : 1 ≤ d) (q : Ex (WP X XL (d - 1)) KX7_tollsBetween h.1 Q 0 [some (vR a0), some (vI a1), some (vI a2), none, none] [] h) : WP X XL d 34 [vR a0, vI a1, vI a2] h Q := by
  obtain ⟨d, rfl⟩ : ∃ d', d = d' + 1 := ⟨d - 1, by omega⟩
  exact WP_in0 (y := 34) (by decide) rfl (Nat.le_of_ble_eq_true rfl) rfl q
theorem eX7_spanLength {X : Int → Int} {XL : Int} {d : Nat} {h : Mem} {Q : RetP} {a0 : Nat} {a1 : Int} {a2 : Int} (hd : 1 ≤ d) (q : Ex (WP X XL (d - 1)) KX7_spanLength h.1 Q 0 [some (vR a0), some (vI a1), some (vI a2), none] [] h) : WP X XL d 35 [vR a0, vI a1, vI a2] h Q := by
  obtain ⟨d, rfl⟩ : ∃ d', d = d' + 1 := ⟨d - 1, by omega⟩
  exact WP_in0 (y := 35) (by decide) rfl (Nat.le_of_ble_eq_true rfl) rfl q
theorem eX7_spanBegin {X : Int → Int} {XL : Int} {d : Nat} {h : Mem} {Q : RetP} {a0 : Nat} {a1 : Int} (hd : 1 ≤ d) (q : Ex (WP X XL (d - 1)) KX7_spanBegin h.1 Q 0 [some (vR a0), some (vI a1), none, none] [] h) : WP X XL d 36 [vR a0, vI a1] h Q := by
  obtain ⟨d, rfl⟩ : ∃ d', d = d' + 1 := ⟨d - 1, by omega⟩
  exact WP_in0 (y := 36) (by decide) rfl (Nat.le_of_ble_eq_true rfl) rfl q
theorem eX7_weakestArch {X : Int → Int} {XL : Int} {d : Nat} {h : Mem} {Q : RetP} {a0 : Nat} (hd : 1 ≤ d) (q : Ex (WP X XL (d - 1)) KX7_weakestArch h.1 Q 0 [some (vR a0), none, none, none, none] [] h) : WP X XL d 37 [vR a0] h Q := by
  obtain ⟨d, rfl⟩ : ∃ d', d = d' + 1 := ⟨d - 1, by omega⟩
  exact WP_in0 (y := 37) (by decide) rfl (Nat.le_of_ble_eq_true rfl) rfl q
theorem eX7_mossAfter {X : Int → Int} {XL : Int} {d : Nat} {h : Mem} {Q : RetP} {a0 : Nat} {a1 : Int} {a2 : Int} (hd : 1 ≤ d) (q : Ex (WP X XL (d - 1)) KX7_mossAfter h.1 Q 0 [some (vR a0), some (vI a1), some (vI a2), none] [] h) : WP X XL d 38 [vR a0, vI a1, vI a2] h Q := by
  obtain ⟨d, rfl⟩ : ∃ d', d = d' + 1 := ⟨d - 1, by omega⟩
  exact WP_in0 (y := 38) (by decide) rfl (Nat.le_of_ble_eq_true rfl) rfl q
theorem eX7_mostAlike {X : Int → Int} {XL : Int} {d : Nat} {h : Mem} {Q : RetP} {a0 : Nat} {a1 : Int} {a2 : Int} {a3 : Int} (hd : 1 ≤ d) (q : Ex (WP X XL (d - 1)) KX7_mostAlike h.1 Q 0 [some (vR a0), some (vI a1), some (vI a2), some (vI a3), none, none, none, none] [] h) : WP X XL d 39 [vR a0, vI a1, vI a2, vI a3] h Q := by
  obtain ⟨d, rfl⟩ : ∃ d', d = d' + 1 := ⟨d - 1, by omega⟩
  exact WP_in0 (y := 39) (by decide) rfl (Nat.le_of_ble_eq_true rfl) rfl q
theorem eX7_letRun {X : Int → Int} {XL : Int} {d : Nat} {h : Mem} {Q : RetP} {a0 : Nat} {a1 : Int} (hd : 1 ≤ d) (q : Ex (WP X XL (d - 1)) KX7_letRun h.1 Q 0 [some (vR a0), some (vI a1), none] [] h) : WP X XL d 40 [vR a0, vI a1] h Q := by
  obtain ⟨d, rfl⟩ : ∃ d', d = d' + 1 := ⟨d - 1, by omega⟩
  exact WP_in0 (y := 40) (by decide) rfl (Nat.le_of_ble_eq_true rfl) rfl q
theorem eX7_letRope {X : Int → Int} {XL : Int} {d : Nat} {h : Mem} {Q : RetP} {a0 : Nat} {a1 : Int} {a2 : Int} (hd : 1 ≤ d) (q : Ex (WP X XL (d - 1)) KX7_letRope h.1 Q 0 [some (vR a0), some (vI a1), some (vI a2), none, none] [] h) : WP X XL d 41 [vR a0, vI a1, vI a2] h Q := by
  obtain ⟨d, rfl⟩ : ∃ d', d = d' + 1 := ⟨d - 1, by omega⟩
  exact WP_in0 (y := 41) (by decide) rfl (Nat.le_of_ble_eq_true rfl) rfl q
theorem eX7_tread {X : Int → Int} {XL : Int} {d : Nat} {h : Mem} {Q : RetP} {a0 : Nat} {a1 : Int} {a2 : Int} (hd : 1 ≤ d) (q : Ex (WP X XL (d - 1)) KX7_tread h.1 Q 0 [some (vR a0), some (vI a1), some (vI a2), none] [] h) : WP X XL d 42 [vR a0, vI a1, vI a2] h Q := by
  obtain ⟨d, rfl⟩ : ∃ d', d = d' + 1 := ⟨d - 1, by omega⟩
  exact WP_in0 (y := 42) (by decide) rfl (Nat.le_of_ble_eq_true rfl) rfl q
theorem eX7_land {X : Int → Int} {XL : Int} {d : Nat} {h : Mem} {Q : RetP} {a0 : Nat} {a1 : Int} {a2 : Int} (hd : 1 ≤ d) (q : Ex (WP X XL (d - 1)) KX7_land h.1 Q 0 [some (vR a0), some (vI a1), some (vI a2)] [] h) : WP X XL d 43 [vR a0, vI a1, vI a2] h Q := by
  obtain ⟨d, rfl⟩ : ∃ d', d = d' + 1 := ⟨d - 1, by omega⟩
  exact WP_in0 (y := 43) (by decide) rfl (Nat.le_of_ble_eq_true rfl) rfl q
theorem eX7_canJumpOn {X : Int → Int} {XL : Int} {d : Nat} {h : Mem} {Q : RetP} {a0 : Nat} {a1 : Int} (hd : 1 ≤ d) (q : Ex (WP X XL (d - 1)) KX7_canJumpOn h.1 Q 0 [some (vR a0), some (vI a1)] [] h) : WP X XL d 44 [vR a0, vI a1] h Q := by
  obtain ⟨d, rfl⟩ : ∃ d', d = d' + 1 := ⟨d - 1, by omega⟩
  exact WP_in0 (y := 44) (by decide) rfl (Nat.le_of_ble_eq_true rfl) rfl q
theorem eX7_jumpOn {X : Int → Int} {XL : Int} {d : Nat} {h : Mem} {Q : RetP} {a0 : Nat} {a1 : Int} (hd : 1 ≤ d) (q : Ex (WP X XL (d - 1)) KX7_jumpOn h.1 Q 0 [some (vR a0), some (vI a1)] [] h) : WP X XL d 45 [vR a0, vI a1] h Q := by
  obtain ⟨d, rfl⟩ : ∃ d', d = d' + 1 := ⟨d - 1, by omega⟩
  exact WP_in0 (y := 45) (by decide) rfl (Nat.le_of_ble_eq_true rfl) rfl q
theorem eX7_sendHome {X : Int → Int} {XL : Int} {d : Nat} {h : Mem} {Q : RetP} {a0 : Nat} {a1 : Int} (hd : 1 ≤ d) (q : Ex (WP X XL (d - 1)) KX7_sendHome h.1 Q 0 [some (vR a0), some (vI a1), none] [] h) : WP X XL d 46 [vR a0, vI a1] h Q := by
  obtain ⟨d, rfl⟩ : ∃ d', d = d' + 1 := ⟨d - 1, by omega⟩
  exact WP_in0 (y := 46) (by decide) rfl (Nat.le_of_ble_eq_true rfl) rfl q
theorem eX7_changeFog {X : Int → Int} {XL : Int} {d : Nat} {h : Mem} {Q : RetP} {a0 : Nat} {a1 : Int} (hd : 1 ≤ d) (q : Ex (WP X XL (d - 1)) KX7_changeFog h.1 Q 0 [some (vR a0), some (vI a1)] [] h) : WP X XL d 47 [vR a0, vI a1] h Q := by
  obtain ⟨d, rfl⟩ : ∃ d', d = d' + 1 := ⟨d - 1, by omega⟩
  exact WP_in0 (y := 47) (by decide) rfl (Nat.le_of_ble_eq_true rfl) rfl q
theorem eX7_passDays {X : Int → Int} {XL : Int} {d : Nat} {h : Mem} {Q : RetP} {a0 : Nat} {a1 : Int} (hd : 1 ≤ d) (q : Ex (WP X XL (d - 1)) KX7_passDays h.1 Q 0 [some (vR a0), some (vI a1), none, none] [] h) : WP X XL d 48 [vR a0, vI a1] h Q := by
  obtain ⟨d, rfl⟩ : ∃ d', d = d' + 1 := ⟨d - 1, by omega⟩
  exact WP_in0 (y := 48) (by decide) rfl (Nat.le_of_ble_eq_true rfl) rfl q
theorem eX7_jumpsFor {X : Int → Int} {XL : Int} {d : Nat} {h : Mem} {Q : RetP} {a0 : Nat} {a1 : Int} {a2 : Int} (hd : 1 ≤ d) (q : Ex (WP X XL (d - 1)) KX7_jumpsFor h.1 Q 0 [some (vR a0), some (vI a1), some (vI a2), none] [] h) : WP X XL d 49 [vR a0, vI a1, vI a2] h Q := by
  obtain ⟨d, rfl⟩ : ∃ d', d = d' + 1 := ⟨d - 1, by omega⟩
  exact WP_in0 (y := 49) (by decide) rfl (Nat.le_of_ble_eq_true rfl) rfl q
theorem eX7_bearsBehindJumps {X : Int → Int} {XL : Int} {d : Nat} {h : Mem} {Q : RetP} {a0 : Nat} {a1 : Int} {a2 : Int} {a3 : Int} (hd : 1 ≤ d) (q : Ex (WP X XL (d - 1)) KX7_bearsBehindJumps h.1 Q 0 [some (vR a0), some (vI a1), some (vI a2), some (vI a3), none, none, none] [] h) : WP X XL d 50 [vR a0, vI a1, vI a2, vI a3] h Q := by
  obtain ⟨d, rfl⟩ : ∃ d', d = d' + 1 := ⟨d - 1, by omega⟩
  exact WP_in0 (y := 50) (by decide) rfl (Nat.le_of_ble_eq_true rfl) rfl q
theorem eX7_jumpsInAll {X : Int → Int} {XL : Int} {d : Nat} {h : Mem} {Q : RetP} {a0 : Nat} {a1 : Int} (hd : 1 ≤ d) (q : Ex (WP X XL (d - 1)) KX7_jumpsInAll h.1 Q 0 [some (vR a0), some (vI a1), none, none, none] [] h) : WP X XL d 51 [vR a0, vI a1] h Q := by
  obtain ⟨d, rfl⟩ : ∃ d', d = d' + 1 := ⟨d - 1, by omega⟩
  exact WP_in0 (y := 51) (by decide) rfl (Nat.le_of_ble_eq_true rfl) rfl q
theorem eX7_bestGarden {X : Int → Int} {XL : Int} {d : Nat} {h : Mem} {Q : RetP} {a0 : Nat} {a1 : Int} (hd : 1 ≤ d) (q : Ex (WP X XL (d - 1)) KX7_bestGarden h.1 Q 0 [some (vR a0), some (vI a1), none, none, none, none] [] h) : WP X XL d 52 [vR a0, vI a1] h Q := by
  obtain ⟨d, rfl⟩ : ∃ d', d = d' + 1 := ⟨d - 1, by omega⟩
  exact WP_in0 (y := 52) (by decide) rfl (Nat.le_of_ble_eq_true rfl) rfl q
theorem eX7_joyOf {X : Int → Int} {XL : Int} {d : Nat} {h : Mem} {Q : RetP} {a0 : Nat} {a1 : Int} (hd : 1 ≤ d) (q : Ex (WP X XL (d - 1)) KX7_joyOf h.1 Q 0 [some (vR a0), some (vI a1)] [] h) : WP X XL d 53 [vR a0, vI a1] h Q := by
  obtain ⟨d, rfl⟩ : ∃ d', d = d' + 1 := ⟨d - 1, by omega⟩
  exact WP_in0 (y := 53) (by decide) rfl (Nat.le_of_ble_eq_true rfl) rfl q
theorem eX7_sizeOf {X : Int → Int} {XL : Int} {d : Nat} {h : Mem} {Q : RetP} {a0 : Nat} {a1 : Int} (hd : 1 ≤ d) (q : Ex (WP X XL (d - 1)) KX7_sizeOf h.1 Q 0 [some (vR a0), some (vI a1)] [] h) : WP X XL d 54 [vR a0, vI a1] h Q := by
  obtain ⟨d, rfl⟩ : ∃ d', d = d' + 1 := ⟨d - 1, by omega⟩
  exact WP_in0 (y := 54) (by decide) rfl (Nat.le_of_ble_eq_true rfl) rfl q
theorem eX7_sumOfPlants {X : Int → Int} {XL : Int} {d : Nat} {h : Mem} {Q : RetP} {a0 : Nat} {a1 : Nat} {a2 : Int} (hd : 1 ≤ d) (q : Ex (WP X XL (d - 1)) KX7_sumOfPlants h.1 Q 0 [some (vR a0), some (vR a1), some (vI a2), none, none] [] h) : WP X XL d 55 [vR a0, vR a1, vI a2] h Q := by
  obtain ⟨d, rfl⟩ : ∃ d', d = d' + 1 := ⟨d - 1, by omega⟩
  exact WP_in0 (y := 55) (by decide) rfl (Nat.le_of_ble_eq_true rfl) rfl q
theorem eX5_init {X : Int → Int} {XL : Int} {d : Nat} {h : Mem} {Q : RetP} {a0 : Nat} (hd : 1 ≤ d) (q : Ex (WP X XL (d - 1)) KX5_init (h.1 ++ growM 56) Q 0 [some (vR a0)] [] h) : WP X XL d 56 [vR a0] h Q := by
  obtain ⟨d, rfl⟩ : ∃ d', d = d' + 1 := ⟨d - 1, by omega⟩
  exact WP_in (y := 56) (by decide) rfl (Nat.le_of_ble_eq_true rfl) q
theorem eX5_hasRoomForTwenty {X : Int → Int} {XL : Int} {d : Nat} {h : Mem} {Q : RetP} {a0 : Nat} (hd : 1 ≤ d) (q : Ex (WP X XL (d - 1)) KX5_hasRoomForTwenty h.1 Q 0 [some (vR a0)] [] h) : WP X XL d 57 [vR a0] h Q := by
  obtain ⟨d, rfl⟩ : ∃ d', d = d' + 1 := ⟨d - 1, by omega⟩
  exact WP_in0 (y := 57) (by decide) rfl (Nat.le_of_ble_eq_true rfl) rfl q
theorem eX5_addFour {X : Int → Int} {XL : Int} {d : Nat} {h : Mem} {Q : RetP} {a0 : Nat} {a1 : Int} (hd : 1 ≤ d) (q : Ex (WP X XL (d - 1)) KX5_addFour h.1 Q 0 [some (vR a0), some (vI a1), none] [] h) : WP X XL d 58 [vR a0, vI a1] h Q := by
  obtain ⟨d, rfl⟩ : ∃ d', d = d' + 1 := ⟨d - 1, by omega⟩
  exact WP_in0 (y := 58) (by decide) rfl (Nat.le_of_ble_eq_true rfl) rfl q
theorem eX5_open {X : Int → Int} {XL : Int} {d : Nat} {h : Mem} {Q : RetP} {a0 : Nat} {a1 : Int} (hd : 1 ≤ d) (q : Ex (WP X XL (d - 1)) KX5_open h.1 Q 0 [some (vR a0), some (vI a1)] [] h) : WP X XL d 59 [vR a0, vI a1] h Q := by
  obtain ⟨d, rfl⟩ : ∃ d', d = d' + 1 := ⟨d - 1, by omega⟩
  exact WP_in0 (y := 59) (by decide) rfl (Nat.le_of_ble_eq_true rfl) rfl q
theorem eX5_gather {X : Int → Int} {XL : Int} {d : Nat} {h : Mem} {Q : RetP} {a0 : Nat} (hd : 1 ≤ d) (q : Ex (WP X XL (d - 1)) KX5_gather h.1 Q 0 [some (vR a0), none, none, none] [] h) : WP X XL d 60 [vR a0] h Q := by
  obtain ⟨d, rfl⟩ : ∃ d', d = d' + 1 := ⟨d - 1, by omega⟩
  exact WP_in0 (y := 60) (by decide) rfl (Nat.le_of_ble_eq_true rfl) rfl q
theorem eX5_findToken {X : Int → Int} {XL : Int} {d : Nat} {h : Mem} {Q : RetP} {a0 : Nat} {a1 : Int} (hd : 1 ≤ d) (q : Ex (WP X XL (d - 1)) KX5_findToken h.1 Q 0 [some (vR a0), some (vI a1)] [] h) : WP X XL d 61 [vR a0, vI a1] h Q := by
  obtain ⟨d, rfl⟩ : ∃ d', d = d' + 1 := ⟨d - 1, by omega⟩
  exact WP_in0 (y := 61) (by decide) rfl (Nat.le_of_ble_eq_true rfl) rfl q
theorem eX5_findWord {X : Int → Int} {XL : Int} {d : Nat} {h : Mem} {Q : RetP} {a0 : Nat} {a1 : Int} (hd : 1 ≤ d) (q : Ex (WP X XL (d - 1)) KX5_findWord h.1 Q 0 [some (vR a0), some (vI a1), none, none, none, none] [] h) : WP X XL d 62 [vR a0, vI a1] h Q := by
  obtain ⟨d, rfl⟩ : ∃ d', d = d' + 1 := ⟨d - 1, by omega⟩
  exact WP_in0 (y := 62) (by decide) rfl (Nat.le_of_ble_eq_true rfl) rfl q
theorem eX5_findNumber {X : Int → Int} {XL : Int} {d : Nat} {h : Mem} {Q : RetP} {a0 : Nat} {a1 : Int} (hd : 1 ≤ d) (q : Ex (WP X XL (d - 1)) KX5_findNumber h.1 Q 0 [some (vR a0), some (vI a1), none, none] [] h) : WP X XL d 63 [vR a0, vI a1] h Q := by
  obtain ⟨d, rfl⟩ : ∃ d', d = d' + 1 := ⟨d - 1, by omega⟩
  exact WP_in0 (y := 63) (by decide) rfl (Nat.le_of_ble_eq_true rfl) rfl q
theorem eX5_findKeyword {X : Int → Int} {XL : Int} {d : Nat} {h : Mem} {Q : RetP} {a0 : Nat} {a1 : Int} {a2 : Int} (hd : 1 ≤ d) (q : Ex (WP X XL (d - 1)) KX5_findKeyword h.1 Q 0 [some (vR a0), some (vI a1), some (vI a2), none, none, none, none] [] h) : WP X XL d 64 [vR a0, vI a1, vI a2] h Q := by
  obtain ⟨d, rfl⟩ : ∃ d', d = d' + 1 := ⟨d - 1, by omega⟩
  exact WP_in0 (y := 64) (by decide) rfl (Nat.le_of_ble_eq_true rfl) rfl q
theorem eX5_isLetter {X : Int → Int} {XL : Int} {d : Nat} {h : Mem} {Q : RetP} {a0 : Int} (hd : 1 ≤ d) (q : Ex (WP X XL (d - 1)) KX5_isLetter h.1 Q 0 [some (vI a0)] [] h) : WP X XL d 65 [vI a0] h Q := by
  obtain ⟨d, rfl⟩ : ∃ d', d = d' + 1 := ⟨d - 1, by omega⟩
  exact WP_in0 (y := 65) (by decide) rfl (Nat.le_of_ble_eq_true rfl) rfl q
theorem eX5_isDigit {X : Int → Int} {XL : Int} {d : Nat} {h : Mem} {Q : RetP} {a0 : Int} (hd : 1 ≤ d) (q : Ex (WP X XL (d - 1)) KX5_isDigit h.1 Q 0 [some (vI a0)] [] h) : WP X XL d 66 [vI a0] h Q := by
  obtain ⟨d, rfl⟩ : ∃ d', d = d' + 1 := ⟨d - 1, by omega⟩
  exact WP_in0 (y := 66) (by decide) rfl (Nat.le_of_ble_eq_true rfl) rfl q
theorem eX5_signCode {X : Int → Int} {XL : Int} {d : Nat} {h : Mem} {Q : RetP} {a0 : Int} (hd : 1 ≤ d) (q : Ex (WP X XL (d - 1)) KX5_signCode h.1 Q 0 [some (vI a0)] [] h) : WP X XL d 67 [vI a0] h Q := by
  obtain ⟨d, rfl⟩ : ∃ d', d = d' + 1 := ⟨d - 1, by omega⟩
  exact WP_in0 (y := 67) (by decide) rfl (Nat.le_of_ble_eq_true rfl) rfl q
theorem eX5_advance {X : Int → Int} {XL : Int} {d : Nat} {h : Mem} {Q : RetP} {a0 : Nat} (hd : 1 ≤ d) (q : Ex (WP X XL (d - 1)) KX5_advance h.1 Q 0 [some (vR a0), none] [] h) : WP X XL d 68 [vR a0] h Q := by
  obtain ⟨d, rfl⟩ : ∃ d', d = d' + 1 := ⟨d - 1, by omega⟩
  exact WP_in0 (y := 68) (by decide) rfl (Nat.le_of_ble_eq_true rfl) rfl q
theorem eX5_refuse {X : Int → Int} {XL : Int} {d : Nat} {h : Mem} {Q : RetP} {a0 : Nat} {a1 : Int} (hd : 1 ≤ d) (q : Ex (WP X XL (d - 1)) KX5_refuse h.1 Q 0 [some (vR a0), some (vI a1)] [] h) : WP X XL d 69 [vR a0, vI a1] h Q := by
  obtain ⟨d, rfl⟩ : ∃ d', d = d' + 1 := ⟨d - 1, by omega⟩
  exact WP_in0 (y := 69) (by decide) rfl (Nat.le_of_ble_eq_true rfl) rfl q
theorem eX5_take {X : Int → Int} {XL : Int} {d : Nat} {h : Mem} {Q : RetP} {a0 : Nat} {a1 : Int} (hd : 1 ≤ d) (q : Ex (WP X XL (d - 1)) KX5_take h.1 Q 0 [some (vR a0), some (vI a1)] [] h) : WP X XL d 70 [vR a0, vI a1] h Q := by
  obtain ⟨d, rfl⟩ : ∃ d', d = d' + 1 := ⟨d - 1, by omega⟩
  exact WP_in0 (y := 70) (by decide) rfl (Nat.le_of_ble_eq_true rfl) rfl q
theorem eX5_takeNumber {X : Int → Int} {XL : Int} {d : Nat} {h : Mem} {Q : RetP} {a0 : Nat} {a1 : Int} {a2 : Int} (hd : 1 ≤ d) (q : Ex (WP X XL (d - 1)) KX5_takeNumber h.1 Q 0 [some (vR a0), some (vI a1), some (vI a2), none] [] h) : WP X XL d 71 [vR a0, vI a1, vI a2] h Q := by
  obtain ⟨d, rfl⟩ : ∃ d', d = d' + 1 := ⟨d - 1, by omega⟩
  exact WP_in0 (y := 71) (by decide) rfl (Nat.le_of_ble_eq_true rfl) rfl q
theorem eX3_init {X : Int → Int} {XL : Int} {d : Nat} {h : Mem} {Q : RetP} {a0 : Nat} (hd : 1 ≤ d) (q : Ex (WP X XL (d - 1)) KX3_init (h.1 ++ growM 72) Q 0 [some (vR a0)] [] h) : WP X XL d 72 [vR a0] h Q := by
  obtain ⟨d, rfl⟩ : ∃ d', d = d' + 1 := ⟨d - 1, by omega⟩
  exact WP_in (y := 72) (by decide) rfl (Nat.le_of_ble_eq_true rfl) q
theorem eX3_clear {X : Int → Int} {XL : Int} {d : Nat} {h : Mem} {Q : RetP} {a0 : Nat} (hd : 1 ≤ d) (q : Ex (WP X XL (d - 1)) KX3_clear h.1 Q 0 [some (vR a0)] [] h) : WP X XL d 73 [vR a0] h Q := by
  obtain ⟨d, rfl⟩ : ∃ d', d = d' + 1 := ⟨d - 1, by omega⟩
  exact WP_in0 (y := 73) (by decide) rfl (Nat.le_of_ble_eq_true rfl) rfl q
theorem eX3_takeOver {X : Int → Int} {XL : Int} {d : Nat} {h : Mem} {Q : RetP} {a0 : Nat} {a1 : Nat} (hd : 1 ≤ d) (q : Ex (WP X XL (d - 1)) KX3_takeOver h.1 Q 0 [some (vR a0), some (vR a1)] [] h) : WP X XL d 74 [vR a0, vR a1] h Q := by
  obtain ⟨d, rfl⟩ : ∃ d', d = d' + 1 := ⟨d - 1, by omega⟩
  exact WP_in0 (y := 74) (by decide) rfl (Nat.le_of_ble_eq_true rfl) rfl q
theorem eX8_init {X : Int → Int} {XL : Int} {d : Nat} {h : Mem} {Q : RetP} {a0 : Nat} {a1 : Nat} (hd : 1 ≤ d) (q : Ex (WP X XL (d - 1)) KX8_init h.1 Q 0 [some (vR a0), some (vR a1)] [] h) : WP X XL d 75 [vR a0, vR a1] h Q := by
  obtain ⟨d, rfl⟩ : ∃ d', d = d' + 1 := ⟨d - 1, by omega⟩
  exact WP_in0 (y := 75) (by decide) rfl (Nat.le_of_ble_eq_true rfl) rfl q
theorem eX8_readInto {X : Int → Int} {XL : Int} {d : Nat} {h : Mem} {Q : RetP} {a0 : Nat} {a1 : Nat} (hd : 1 ≤ d) (q : Ex (WP X XL (d - 1)) KX8_readInto h.1 Q 0 [some (vR a0), some (vR a1), none] [] h) : WP X XL d 76 [vR a0, vR a1] h Q := by
  obtain ⟨d, rfl⟩ : ∃ d', d = d' + 1 := ⟨d - 1, by omega⟩
  exact WP_in0 (y := 76) (by decide) rfl (Nat.le_of_ble_eq_true rfl) rfl q
theorem eX8_takePart {X : Int → Int} {XL : Int} {d : Nat} {h : Mem} {Q : RetP} {a0 : Nat} {a1 : Nat} (hd : 1 ≤ d) (q : Ex (WP X XL (d - 1)) KX8_takePart h.1 Q 0 [some (vR a0), some (vR a1)] [] h) : WP X XL d 77 [vR a0, vR a1] h Q := by
  obtain ⟨d, rfl⟩ : ∃ d', d = d' + 1 := ⟨d - 1, by omega⟩
  exact WP_in0 (y := 77) (by decide) rfl (Nat.le_of_ble_eq_true rfl) rfl q
theorem eX8_takeRule {X : Int → Int} {XL : Int} {d : Nat} {h : Mem} {Q : RetP} {a0 : Nat} {a1 : Nat} {a2 : Int} (hd : 1 ≤ d) (q : Ex (WP X XL (d - 1)) KX8_takeRule h.1 Q 0 [some (vR a0), some (vR a1), some (vI a2), none, none] [] h) : WP X XL d 78 [vR a0, vR a1, vI a2] h Q := by
  obtain ⟨d, rfl⟩ : ∃ d', d = d' + 1 := ⟨d - 1, by omega⟩
  exact WP_in0 (y := 78) (by decide) rfl (Nat.le_of_ble_eq_true rfl) rfl q
theorem eX8_takeArch {X : Int → Int} {XL : Int} {d : Nat} {h : Mem} {Q : RetP} {a0 : Nat} {a1 : Nat} (hd : 1 ≤ d) (q : Ex (WP X XL (d - 1)) KX8_takeArch h.1 Q 0 [some (vR a0), some (vR a1), none, none] [] h) : WP X XL d 79 [vR a0, vR a1] h Q := by
  obtain ⟨d, rfl⟩ : ∃ d', d = d' + 1 := ⟨d - 1, by omega⟩
  exact WP_in0 (y := 79) (by decide) rfl (Nat.le_of_ble_eq_true rfl) rfl q
theorem eX8_takePerson {X : Int → Int} {XL : Int} {d : Nat} {h : Mem} {Q : RetP} {a0 : Nat} {a1 : Nat} (hd : 1 ≤ d) (q : Ex (WP X XL (d - 1)) KX8_takePerson h.1 Q 0 [some (vR a0), some (vR a1), none, none, none, none] [] h) : WP X XL d 80 [vR a0, vR a1] h Q := by
  obtain ⟨d, rfl⟩ : ∃ d', d = d' + 1 := ⟨d - 1, by omega⟩
  exact WP_in0 (y := 80) (by decide) rfl (Nat.le_of_ble_eq_true rfl) rfl q
theorem eX8_takePlant {X : Int → Int} {XL : Int} {d : Nat} {h : Mem} {Q : RetP} {a0 : Nat} {a1 : Nat} (hd : 1 ≤ d) (q : Ex (WP X XL (d - 1)) KX8_takePlant h.1 Q 0 [some (vR a0), some (vR a1), none, none] [] h) : WP X XL d 81 [vR a0, vR a1] h Q := by
  obtain ⟨d, rfl⟩ : ∃ d', d = d' + 1 := ⟨d - 1, by omega⟩
  exact WP_in0 (y := 81) (by decide) rfl (Nat.le_of_ble_eq_true rfl) rfl q
theorem eX8_takeOption {X : Int → Int} {XL : Int} {d : Nat} {h : Mem} {Q : RetP} {a0 : Nat} {a1 : Int} {a2 : Int} {a3 : Nat} {a4 : Int} (hd : 1 ≤ d) (q : Ex (WP X XL (d - 1)) KX8_takeOption h.1 Q 0 [some (vR a0), some (vI a1), some (vI a2), some (vR a3), some (vI a4), none] [] h) : WP X XL d 82 [vR a0, vI a1, vI a2, vR a3, vI a4] h Q := by
  obtain ⟨d, rfl⟩ : ∃ d', d = d' + 1 := ⟨d - 1, by omega⟩
  exact WP_in0 (y := 82) (by decide) rfl (Nat.le_of_ble_eq_true rfl) rfl q
theorem eX4_init {X : Int → Int} {XL : Int} {d : Nat} {h : Mem} {Q : RetP} {a0 : Nat} {a1 : Nat} {a2 : Nat} {a3 : Nat} (hd : 1 ≤ d) (q : Ex (WP X XL (d - 1)) KX4_init (h.1 ++ growM 83) Q 0 [some (vR a0), some (vR a1), some (vR a2), some (vR a3)] [] h) : WP X XL d 83 [vR a0, vR a1, vR a2, vR a3] h Q := by
  obtain ⟨d, rfl⟩ : ∃ d', d = d' + 1 := ⟨d - 1, by omega⟩
  exact WP_in (y := 83) (by decide) rfl (Nat.le_of_ble_eq_true rfl) q
theorem eX4_readInto {X : Int → Int} {XL : Int} {d : Nat} {h : Mem} {Q : RetP} {a0 : Nat} {a1 : Nat} {a2 : Nat} (hd : 1 ≤ d) (q : Ex (WP X XL (d - 1)) KX4_readInto h.1 Q 0 [some (vR a0), some (vR a1), some (vR a2), none] [] h) : WP X XL d 84 [vR a0, vR a1, vR a2] h Q := by
  obtain ⟨d, rfl⟩ : ∃ d', d = d' + 1 := ⟨d - 1, by omega⟩
  exact WP_in0 (y := 84) (by decide) rfl (Nat.le_of_ble_eq_true rfl) rfl q
theorem eX4_takeRow {X : Int → Int} {XL : Int} {d : Nat} {h : Mem} {Q : RetP} {a0 : Nat} (hd : 1 ≤ d) (q : Ex (WP X XL (d - 1)) KX4_takeRow h.1 Q 0 [some (vR a0), none, none, none] [] h) : WP X XL d 85 [vR a0] h Q := by
  obtain ⟨d, rfl⟩ : ∃ d', d = d' + 1 := ⟨d - 1, by omega⟩
  exact WP_in0 (y := 85) (by decide) rfl (Nat.le_of_ble_eq_true rfl) rfl q
theorem eX4_beginsStep {X : Int → Int} {XL : Int} {d : Nat} {h : Mem} {Q : RetP} {a0 : Int} (hd : 1 ≤ d) (q : Ex (WP X XL (d - 1)) KX4_beginsStep h.1 Q 0 [some (vI a0)] [] h) : WP X XL d 86 [vI a0] h Q := by
  obtain ⟨d, rfl⟩ : ∃ d', d = d' + 1 := ⟨d - 1, by omega⟩
  exact WP_in0 (y := 86) (by decide) rfl (Nat.le_of_ble_eq_true rfl) rfl q
theorem eX4_takeEnd {X : Int → Int} {XL : Int} {d : Nat} {h : Mem} {Q : RetP} {a0 : Nat} (hd : 1 ≤ d) (q : Ex (WP X XL (d - 1)) KX4_takeEnd h.1 Q 0 [some (vR a0), none] [] h) : WP X XL d 87 [vR a0] h Q := by
  obtain ⟨d, rfl⟩ : ∃ d', d = d' + 1 := ⟨d - 1, by omega⟩
  exact WP_in0 (y := 87) (by decide) rfl (Nat.le_of_ble_eq_true rfl) rfl q
theorem eX4_takeRest {X : Int → Int} {XL : Int} {d : Nat} {h : Mem} {Q : RetP} {a0 : Nat} {a1 : Int} {a2 : Int} (hd : 1 ≤ d) (q : Ex (WP X XL (d - 1)) KX4_takeRest h.1 Q 0 [some (vR a0), some (vI a1), some (vI a2)] [] h) : WP X XL d 88 [vR a0, vI a1, vI a2] h Q := by
  obtain ⟨d, rfl⟩ : ∃ d', d = d' + 1 := ⟨d - 1, by omega⟩
  exact WP_in0 (y := 88) (by decide) rfl (Nat.le_of_ble_eq_true rfl) rfl q
theorem eX4_takeTest {X : Int → Int} {XL : Int} {d : Nat} {h : Mem} {Q : RetP} {a0 : Nat} {a1 : Int} (hd : 1 ≤ d) (q : Ex (WP X XL (d - 1)) KX4_takeTest h.1 Q 0 [some (vR a0), some (vI a1), none, none, none] [] h) : WP X XL d 89 [vR a0, vI a1] h Q := by
  obtain ⟨d, rfl⟩ : ∃ d', d = d' + 1 := ⟨d - 1, by omega⟩
  exact WP_in0 (y := 89) (by decide) rfl (Nat.le_of_ble_eq_true rfl) rfl q
theorem eX4_takeName {X : Int → Int} {XL : Int} {d : Nat} {h : Mem} {Q : RetP} {a0 : Nat} (hd : 1 ≤ d) (q : Ex (WP X XL (d - 1)) KX4_takeName h.1 Q 0 [some (vR a0), none] [] h) : WP X XL d 90 [vR a0] h Q := by
  obtain ⟨d, rfl⟩ : ∃ d', d = d' + 1 := ⟨d - 1, by omega⟩
  exact WP_in0 (y := 90) (by decide) rfl (Nat.le_of_ble_eq_true rfl) rfl q
theorem eX4_keep {X : Int → Int} {XL : Int} {d : Nat} {h : Mem} {Q : RetP} {a0 : Nat} {a1 : Int} {a2 : Int} (hd : 1 ≤ d) (q : Ex (WP X XL (d - 1)) KX4_keep h.1 Q 0 [some (vR a0), some (vI a1), some (vI a2)] [] h) : WP X XL d 91 [vR a0, vI a1, vI a2] h Q := by
  obtain ⟨d, rfl⟩ : ∃ d', d = d' + 1 := ⟨d - 1, by omega⟩
  exact WP_in0 (y := 91) (by decide) rfl (Nat.le_of_ble_eq_true rfl) rfl q
theorem eX1_init {X : Int → Int} {XL : Int} {d : Nat} {h : Mem} {Q : RetP} {a0 : Nat} (hd : 1 ≤ d) (q : Ex (WP X XL (d - 1)) KX1_init (h.1 ++ growM 92) Q 0 [some (vR a0)] [] h) : WP X XL d 92 [vR a0] h Q := by
  obtain ⟨d, rfl⟩ : ∃ d', d = d' + 1 := ⟨d - 1, by omega⟩
  exact WP_in (y := 92) (by decide) rfl (Nat.le_of_ble_eq_true rfl) q
theorem eX1_weigh {X : Int → Int} {XL : Int} {d : Nat} {h : Mem} {Q : RetP} {a0 : Nat} {a1 : Nat} (hd : 1 ≤ d) (q : Ex (WP X XL (d - 1)) KX1_weigh h.1 Q 0 [some (vR a0), some (vR a1), none] [] h) : WP X XL d 93 [vR a0, vR a1] h Q := by
  obtain ⟨d, rfl⟩ : ∃ d', d = d' + 1 := ⟨d - 1, by omega⟩
  exact WP_in0 (y := 93) (by decide) rfl (Nat.le_of_ble_eq_true rfl) rfl q
theorem eX1_wellWith {X : Int → Int} {XL : Int} {d : Nat} {h : Mem} {Q : RetP} {a0 : Nat} {a1 : Int} (hd : 1 ≤ d) (q : Ex (WP X XL (d - 1)) KX1_wellWith h.1 Q 0 [some (vR a0), some (vI a1), none, none, none] [] h) : WP X XL d 94 [vR a0, vI a1] h Q := by
  obtain ⟨d, rfl⟩ : ∃ d', d = d' + 1 := ⟨d - 1, by omega⟩
  exact WP_in0 (y := 94) (by decide) rfl (Nat.le_of_ble_eq_true rfl) rfl q
theorem eX1_cheapestOf {X : Int → Int} {XL : Int} {d : Nat} {h : Mem} {Q : RetP} {a0 : Nat} {a1 : Int} (hd : 1 ≤ d) (q : Ex (WP X XL (d - 1)) KX1_cheapestOf h.1 Q 0 [some (vR a0), some (vI a1), none, none, none, none] [] h) : WP X XL d 95 [vR a0, vI a1] h Q := by
  obtain ⟨d, rfl⟩ : ∃ d', d = d' + 1 := ⟨d - 1, by omega⟩
  exact WP_in0 (y := 95) (by decide) rfl (Nat.le_of_ble_eq_true rfl) rfl q
theorem eX1_priceOfGroup {X : Int → Int} {XL : Int} {d : Nat} {h : Mem} {Q : RetP} {a0 : Nat} {a1 : Int} {a2 : Int} {a3 : Int} (hd : 1 ≤ d) (q : Ex (WP X XL (d - 1)) KX1_priceOfGroup h.1 Q 0 [some (vR a0), some (vI a1), some (vI a2), some (vI a3), none] [] h) : WP X XL d 96 [vR a0, vI a1, vI a2, vI a3] h Q := by
  obtain ⟨d, rfl⟩ : ∃ d', d = d' + 1 := ⟨d - 1, by omega⟩
  exact WP_in0 (y := 96) (by decide) rfl (Nat.le_of_ble_eq_true rfl) rfl q
theorem eX1_without {X : Int → Int} {XL : Int} {d : Nat} {h : Mem} {Q : RetP} {a0 : Int} {a1 : Int} {a2 : Int} (hd : 1 ≤ d) (q : Ex (WP X XL (d - 1)) KX1_without h.1 Q 0 [some (vI a0), some (vI a1), some (vI a2)] [] h) : WP X XL d 97 [vI a0, vI a1, vI a2] h Q := by
  obtain ⟨d, rfl⟩ : ∃ d', d = d' + 1 := ⟨d - 1, by omega⟩
  exact WP_in0 (y := 97) (by decide) rfl (Nat.le_of_ble_eq_true rfl) rfl q
theorem eX1_mostOver {X : Int → Int} {XL : Int} {d : Nat} {h : Mem} {Q : RetP} {a0 : Nat} (hd : 1 ≤ d) (q : Ex (WP X XL (d - 1)) KX1_mostOver h.1 Q 0 [some (vR a0), none, none] [] h) : WP X XL d 98 [vR a0] h Q := by
  obtain ⟨d, rfl⟩ : ∃ d', d = d' + 1 := ⟨d - 1, by omega⟩
  exact WP_in0 (y := 98) (by decide) rfl (Nat.le_of_ble_eq_true rfl) rfl q
theorem eX1_mateOf {X : Int → Int} {XL : Int} {d : Nat} {h : Mem} {Q : RetP} {a0 : Nat} {a1 : Int} {a2 : Int} (hd : 1 ≤ d) (q : Ex (WP X XL (d - 1)) KX1_mateOf h.1 Q 0 [some (vR a0), some (vI a1), some (vI a2), none, none, none] [] h) : WP X XL d 99 [vR a0, vI a1, vI a2] h Q := by
  obtain ⟨d, rfl⟩ : ∃ d', d = d' + 1 := ⟨d - 1, by omega⟩
  exact WP_in0 (y := 99) (by decide) rfl (Nat.le_of_ble_eq_true rfl) rfl q
theorem eX1_leastMate {X : Int → Int} {XL : Int} {d : Nat} {h : Mem} {Q : RetP} {a0 : Nat} {a1 : Int} {a2 : Int} (hd : 1 ≤ d) (q : Ex (WP X XL (d - 1)) KX1_leastMate h.1 Q 0 [some (vR a0), some (vI a1), some (vI a2), none, none] [] h) : WP X XL d 100 [vR a0, vI a1, vI a2] h Q := by
  obtain ⟨d, rfl⟩ : ∃ d', d = d' + 1 := ⟨d - 1, by omega⟩
  exact WP_in0 (y := 100) (by decide) rfl (Nat.le_of_ble_eq_true rfl) rfl q
theorem eX0_init {X : Int → Int} {XL : Int} {d : Nat} {h : Mem} {Q : RetP} {a0 : Nat} {a1 : Nat} (hd : 1 ≤ d) (q : Ex (WP X XL (d - 1)) KX0_init h.1 Q 0 [some (vR a0), some (vR a1)] [] h) : WP X XL d 101 [vR a0, vR a1] h Q := by
  obtain ⟨d, rfl⟩ : ∃ d', d = d' + 1 := ⟨d - 1, by omega⟩
  exact WP_in0 (y := 101) (by decide) rfl (Nat.le_of_ble_eq_true rfl) rfl q
theorem eX0_begin {X : Int → Int} {XL : Int} {d : Nat} {h : Mem} {Q : RetP} {a0 : Nat} {a1 : Nat} {a2 : Int} {a3 : Int} {a4 : Int} (hd : 1 ≤ d) (q : Ex (WP X XL (d - 1)) KX0_begin h.1 Q 0 [some (vR a0), some (vR a1), some (vI a2), some (vI a3), some (vI a4)] [] h) : WP X XL d 102 [vR a0, vR a1, vI a2, vI a3, vI a4] h Q := by
  obtain ⟨d, rfl⟩ : ∃ d', d = d' + 1 := ⟨d - 1, by omega⟩
  exact WP_in0 (y := 102) (by decide) rfl (Nat.le_of_ble_eq_true rfl) rfl q
theorem eX0_outcome {X : Int → Int} {XL : Int} {d : Nat} {h : Mem} {Q : RetP} {a0 : Nat} (hd : 1 ≤ d) (q : Ex (WP X XL (d - 1)) KX0_outcome h.1 Q 0 [some (vR a0)] [] h) : WP X XL d 103 [vR a0] h Q := by
  obtain ⟨d, rfl⟩ : ∃ d', d = d' + 1 := ⟨d - 1, by omega⟩
  exact WP_in0 (y := 103) (by decide) rfl (Nat.le_of_ble_eq_true rfl) rfl q
theorem eX0_firstMove {X : Int → Int} {XL : Int} {d : Nat} {h : Mem} {Q : RetP} {a0 : Nat} (hd : 1 ≤ d) (q : Ex (WP X XL (d - 1)) KX0_firstMove h.1 Q 0 [some (vR a0), none, none] [] h) : WP X XL d 104 [vR a0] h Q := by
  obtain ⟨d, rfl⟩ : ∃ d', d = d' + 1 := ⟨d - 1, by omega⟩
  exact WP_in0 (y := 104) (by decide) rfl (Nat.le_of_ble_eq_true rfl) rfl q
theorem eX0_worth {X : Int → Int} {XL : Int} {d : Nat} {h : Mem} {Q : RetP} {a0 : Nat} {a1 : Int} (hd : 1 ≤ d) (q : Ex (WP X XL (d - 1)) KX0_worth h.1 Q 0 [some (vR a0), some (vI a1), none, none, none, none, none] [] h) : WP X XL d 105 [vR a0, vI a1] h Q := by
  obtain ⟨d, rfl⟩ : ∃ d', d = d' + 1 := ⟨d - 1, by omega⟩
  exact WP_in0 (y := 105) (by decide) rfl (Nat.le_of_ble_eq_true rfl) rfl q
theorem eX0_canMove {X : Int → Int} {XL : Int} {d : Nat} {h : Mem} {Q : RetP} {a0 : Nat} {a1 : Int} {a2 : Int} (hd : 1 ≤ d) (q : Ex (WP X XL (d - 1)) KX0_canMove h.1 Q 0 [some (vR a0), some (vI a1), some (vI a2), none] [] h) : WP X XL d 106 [vR a0, vI a1, vI a2] h Q := by
  obtain ⟨d, rfl⟩ : ∃ d', d = d' + 1 := ⟨d - 1, by omega⟩
  exact WP_in0 (y := 106) (by decide) rfl (Nat.le_of_ble_eq_true rfl) rfl q
theorem eX0_worthBehind {X : Int → Int} {XL : Int} {d : Nat} {h : Mem} {Q : RetP} {a0 : Nat} {a1 : Int} {a2 : Int} {a3 : Int} (hd : 1 ≤ d) (q : Ex (WP X XL (d - 1)) KX0_worthBehind h.1 Q 0 [some (vR a0), some (vI a1), some (vI a2), some (vI a3), none, none, none, none] [] h) : WP X XL d 107 [vR a0, vI a1, vI a2, vI a3] h Q := by
  obtain ⟨d, rfl⟩ : ∃ d', d = d' + 1 := ⟨d - 1, by omega⟩
  exact WP_in0 (y := 107) (by decide) rfl (Nat.le_of_ble_eq_true rfl) rfl q
theorem eX2_init {X : Int → Int} {XL : Int} {d : Nat} {h : Mem} {Q : RetP} {a0 : Nat} {a1 : Nat} {a2 : Nat} (hd : 1 ≤ d) (q : Ex (WP X XL (d - 1)) KX2_init (h.1 ++ growM 108) Q 0 [some (vR a0), some (vR a1), some (vR a2)] [] h) : WP X XL d 108 [vR a0, vR a1, vR a2] h Q := by
  obtain ⟨d, rfl⟩ : ∃ d', d = d' + 1 := ⟨d - 1, by omega⟩
  exact WP_in (y := 108) (by decide) rfl (Nat.le_of_ble_eq_true rfl) q
theorem eX2_goThrough {X : Int → Int} {XL : Int} {d : Nat} {h : Mem} {Q : RetP} {a0 : Nat} {a1 : Nat} {a2 : Nat} {a3 : Int} (hd : 1 ≤ d) (q : Ex (WP X XL (d - 1)) KX2_goThrough h.1 Q 0 [some (vR a0), some (vR a1), some (vR a2), some (vI a3), none, none] [] h) : WP X XL d 109 [vR a0, vR a1, vR a2, vI a3] h Q := by
  obtain ⟨d, rfl⟩ : ∃ d', d = d' + 1 := ⟨d - 1, by omega⟩
  exact WP_in0 (y := 109) (by decide) rfl (Nat.le_of_ble_eq_true rfl) rfl q
theorem eX2_rowBehindEnd {X : Int → Int} {XL : Int} {d : Nat} {h : Mem} {Q : RetP} {a0 : Nat} {a1 : Int} (hd : 1 ≤ d) (q : Ex (WP X XL (d - 1)) KX2_rowBehindEnd h.1 Q 0 [some (vR a0), some (vI a1), none] [] h) : WP X XL d 110 [vR a0, vI a1] h Q := by
  obtain ⟨d, rfl⟩ : ∃ d', d = d' + 1 := ⟨d - 1, by omega⟩
  exact WP_in0 (y := 110) (by decide) rfl (Nat.le_of_ble_eq_true rfl) rfl q
theorem eX2_rowBehindStep {X : Int → Int} {XL : Int} {d : Nat} {h : Mem} {Q : RetP} {a0 : Nat} {a1 : Int} (hd : 1 ≤ d) (q : Ex (WP X XL (d - 1)) KX2_rowBehindStep h.1 Q 0 [some (vR a0), some (vI a1)] [] h) : WP X XL d 111 [vR a0, vI a1] h Q := by
  obtain ⟨d, rfl⟩ : ∃ d', d = d' + 1 := ⟨d - 1, by omega⟩
  exact WP_in0 (y := 111) (by decide) rfl (Nat.le_of_ble_eq_true rfl) rfl q
theorem eX2_holdsTest {X : Int → Int} {XL : Int} {d : Nat} {h : Mem} {Q : RetP} {a0 : Nat} {a1 : Int} (hd : 1 ≤ d) (q : Ex (WP X XL (d - 1)) KX2_holdsTest h.1 Q 0 [some (vR a0), some (vI a1), none] [] h) : WP X XL d 112 [vR a0, vI a1] h Q := by
  obtain ⟨d, rfl⟩ : ∃ d', d = d' + 1 := ⟨d - 1, by omega⟩
  exact WP_in0 (y := 112) (by decide) rfl (Nat.le_of_ble_eq_true rfl) rfl q
theorem eX2_compare {X : Int → Int} {XL : Int} {d : Nat} {h : Mem} {Q : RetP} {a0 : Nat} {a1 : Int} {a2 : Int} (hd : 1 ≤ d) (q : Ex (WP X XL (d - 1)) KX2_compare h.1 Q 0 [some (vR a0), some (vI a1), some (vI a2)] [] h) : WP X XL d 113 [vR a0, vI a1, vI a2] h Q := by
  obtain ⟨d, rfl⟩ : ∃ d', d = d' + 1 := ⟨d - 1, by omega⟩
  exact WP_in0 (y := 113) (by decide) rfl (Nat.le_of_ble_eq_true rfl) rfl q
theorem eX2_doStep {X : Int → Int} {XL : Int} {d : Nat} {h : Mem} {Q : RetP} {a0 : Nat} {a1 : Int} (hd : 1 ≤ d) (q : Ex (WP X XL (d - 1)) KX2_doStep h.1 Q 0 [some (vR a0), some (vI a1), none] [] h) : WP X XL d 114 [vR a0, vI a1] h Q := by
  obtain ⟨d, rfl⟩ : ∃ d', d = d' + 1 := ⟨d - 1, by omega⟩
  exact WP_in0 (y := 114) (by decide) rfl (Nat.le_of_ble_eq_true rfl) rfl q
theorem eX2_doAny {X : Int → Int} {XL : Int} {d : Nat} {h : Mem} {Q : RetP} {a0 : Nat} (hd : 1 ≤ d) (q : Ex (WP X XL (d - 1)) KX2_doAny h.1 Q 0 [some (vR a0), none, none] [] h) : WP X XL d 115 [vR a0] h Q := by
  obtain ⟨d, rfl⟩ : ∃ d', d = d' + 1 := ⟨d - 1, by omega⟩
  exact WP_in0 (y := 115) (by decide) rfl (Nat.le_of_ble_eq_true rfl) rfl q
theorem eX2_draw {X : Int → Int} {XL : Int} {d : Nat} {h : Mem} {Q : RetP} {a0 : Nat} {a1 : Int} (hd : 1 ≤ d) (q : Ex (WP X XL (d - 1)) KX2_draw h.1 Q 0 [some (vR a0), some (vI a1)] [] h) : WP X XL d 116 [vR a0, vI a1] h Q := by
  obtain ⟨d, rfl⟩ : ∃ d', d = d' + 1 := ⟨d - 1, by omega⟩
  exact WP_in0 (y := 116) (by decide) rfl (Nat.le_of_ble_eq_true rfl) rfl q
theorem eX9_init {X : Int → Int} {XL : Int} {d : Nat} {h : Mem} {Q : RetP} {a0 : Nat} (hd : 1 ≤ d) (q : Ex (WP X XL (d - 1)) KX9_init (h.1 ++ growM 117) Q 0 [some (vR a0), none] [] h) : WP X XL d 117 [vR a0] h Q := by
  obtain ⟨d, rfl⟩ : ∃ d', d = d' + 1 := ⟨d - 1, by omega⟩
  exact WP_in (y := 117) (by decide) rfl (Nat.le_of_ble_eq_true rfl) q
theorem eX9_status {X : Int → Int} {XL : Int} {d : Nat} {h : Mem} {Q : RetP} {a0 : Nat} (hd : 1 ≤ d) (q : Ex (WP X XL (d - 1)) KX9_status h.1 Q 0 [some (vR a0)] [] h) : WP X XL d 118 [vR a0] h Q := by
  obtain ⟨d, rfl⟩ : ∃ d', d = d' + 1 := ⟨d - 1, by omega⟩
  exact WP_in0 (y := 118) (by decide) rfl (Nat.le_of_ble_eq_true rfl) rfl q
theorem eX9_top {X : Int → Int} {XL : Int} {d : Nat} {h : Mem} {Q : RetP} {a0 : Nat} (hd : 1 ≤ d) (q : Ex (WP X XL (d - 1)) KX9_top h.1 Q 0 [some (vR a0)] [] h) : WP X XL d 119 [vR a0] h Q := by
  obtain ⟨d, rfl⟩ : ∃ d', d = d' + 1 := ⟨d - 1, by omega⟩
  exact WP_in0 (y := 119) (by decide) rfl (Nat.le_of_ble_eq_true rfl) rfl q
theorem eX9_bottom {X : Int → Int} {XL : Int} {d : Nat} {h : Mem} {Q : RetP} {a0 : Nat} (hd : 1 ≤ d) (q : Ex (WP X XL (d - 1)) KX9_bottom h.1 Q 0 [some (vR a0)] [] h) : WP X XL d 120 [vR a0] h Q := by
  obtain ⟨d, rfl⟩ : ∃ d', d = d' + 1 := ⟨d - 1, by omega⟩
  exact WP_in0 (y := 120) (by decide) rfl (Nat.le_of_ble_eq_true rfl) rfl q
theorem eX9_tray {X : Int → Int} {XL : Int} {d : Nat} {h : Mem} {Q : RetP} {a0 : Nat} {a1 : Int} {a2 : Int} {a3 : Int} (hd : 1 ≤ d) (q : Ex (WP X XL (d - 1)) KX9_tray h.1 Q 0 [some (vR a0), some (vI a1), some (vI a2), some (vI a3)] [] h) : WP X XL d 121 [vR a0, vI a1, vI a2, vI a3] h Q := by
  obtain ⟨d, rfl⟩ : ∃ d', d = d' + 1 := ⟨d - 1, by omega⟩
  exact WP_in0 (y := 121) (by decide) rfl (Nat.le_of_ble_eq_true rfl) rfl q
theorem eX9_write {X : Int → Int} {XL : Int} {d : Nat} {h : Mem} {Q : RetP} {a0 : Nat} {a1 : Int} {a2 : Int} {a3 : Int} (hd : 1 ≤ d) (q : Ex (WP X XL (d - 1)) KX9_write h.1 Q 0 [some (vR a0), some (vI a1), some (vI a2), some (vL a3), none, none] [] h) : WP X XL d 122 [vR a0, vI a1, vI a2, vL a3] h Q := by
  obtain ⟨d, rfl⟩ : ∃ d', d = d' + 1 := ⟨d - 1, by omega⟩
  exact WP_in0 (y := 122) (by decide) rfl (Nat.le_of_ble_eq_true rfl) rfl q
theorem eX9_read {X : Int → Int} {XL : Int} {d : Nat} {h : Mem} {Q : RetP} {a0 : Nat} {a1 : Int} {a2 : Int} (hd : 1 ≤ d) (q : Ex (WP X XL (d - 1)) KX9_read h.1 Q 0 [some (vR a0), some (vI a1), some (vI a2), none] [] h) : WP X XL d 123 [vR a0, vI a1, vI a2] h Q := by
  obtain ⟨d, rfl⟩ : ∃ d', d = d' + 1 := ⟨d - 1, by omega⟩
  exact WP_in0 (y := 123) (by decide) rfl (Nat.le_of_ble_eq_true rfl) rfl q
theorem eX9_pour {X : Int → Int} {XL : Int} {d : Nat} {h : Mem} {Q : RetP} {a0 : Nat} {a1 : Int} {a2 : Int} {a3 : Int} {a4 : Int} {a5 : Int} (hd : 1 ≤ d) (q : Ex (WP X XL (d - 1)) KX9_pour h.1 Q 0 [some (vR a0), some (vI a1), some (vI a2), some (vI a3), some (vI a4), some (vI a5), none, none] [] h) : WP X XL d 124 [vR a0, vI a1, vI a2, vI a3, vI a4, vI a5] h Q := by
  obtain ⟨d, rfl⟩ : ∃ d', d = d' + 1 := ⟨d - 1, by omega⟩
  exact WP_in0 (y := 124) (by decide) rfl (Nat.le_of_ble_eq_true rfl) rfl q
theorem eX9_feed {X : Int → Int} {XL : Int} {d : Nat} {h : Mem} {Q : RetP} {a0 : Nat} {a1 : Int} {a2 : Int} {a3 : Int} {a4 : Int} {a5 : Int} (hd : 1 ≤ d) (q : Ex (WP X XL (d - 1)) KX9_feed h.1 Q 0 [some (vR a0), some (vI a1), some (vI a2), some (vI a3), some (vI a4), some (vI a5)] [] h) : WP X XL d 125 [vR a0, vI a1, vI a2, vI a3, vI a4, vI a5] h Q := by
  obtain ⟨d, rfl⟩ : ∃ d', d = d' + 1 := ⟨d - 1, by omega⟩
  exact WP_in0 (y := 125) (by decide) rfl (Nat.le_of_ble_eq_true rfl) rfl q
theorem eX9_viaduct {X : Int → Int} {XL : Int} {d : Nat} {h : Mem} {Q : RetP} {a0 : Nat} {a1 : Int} (hd : 1 ≤ d) (q : Ex (WP X XL (d - 1)) KX9_viaduct h.1 Q 0 [some (vR a0), some (vI a1), none, none] [] h) : WP X XL d 126 [vR a0, vI a1] h Q := by
  obtain ⟨d, rfl⟩ : ∃ d', d = d' + 1 := ⟨d - 1, by omega⟩
  exact WP_in0 (y := 126) (by decide) rfl (Nat.le_of_ble_eq_true rfl) rfl q
theorem eX9_decades {X : Int → Int} {XL : Int} {d : Nat} {h : Mem} {Q : RetP} {a0 : Nat} {a1 : Int} (hd : 1 ≤ d) (q : Ex (WP X XL (d - 1)) KX9_decades h.1 Q 0 [some (vR a0), some (vI a1), none, none] [] h) : WP X XL d 127 [vR a0, vI a1] h Q := by
  obtain ⟨d, rfl⟩ : ∃ d', d = d' + 1 := ⟨d - 1, by omega⟩
  exact WP_in0 (y := 127) (by decide) rfl (Nat.le_of_ble_eq_true rfl) rfl q
theorem eX9_fault {X : Int → Int} {XL : Int} {d : Nat} {h : Mem} {Q : RetP} {a0 : Nat} {a1 : Int} (hd : 1 ≤ d) (q : Ex (WP X XL (d - 1)) KX9_fault h.1 Q 0 [some (vR a0), some (vI a1)] [] h) : WP X XL d 128 [vR a0, vI a1] h Q := by
  obtain ⟨d, rfl⟩ : ∃ d', d = d' + 1 := ⟨d - 1, by omega⟩
  exact WP_in0 (y := 128) (by decide) rfl (Nat.le_of_ble_eq_true rfl) rfl q
theorem eX9_told {X : Int → Int} {XL : Int} {d : Nat} {h : Mem} {Q : RetP} {a0 : Nat} {a1 : Int} (hd : 1 ≤ d) (q : Ex (WP X XL (d - 1)) KX9_told h.1 Q 0 [some (vR a0), some (vI a1)] [] h) : WP X XL d 129 [vR a0, vI a1] h Q := by
  obtain ⟨d, rfl⟩ : ∃ d', d = d' + 1 := ⟨d - 1, by omega⟩
  exact WP_in0 (y := 129) (by decide) rfl (Nat.le_of_ble_eq_true rfl) rfl q
theorem eX9_arch {X : Int → Int} {XL : Int} {d : Nat} {h : Mem} {Q : RetP} {a0 : Nat} {a1 : Int} {a2 : Int} (hd : 1 ≤ d) (q : Ex (WP X XL (d - 1)) KX9_arch h.1 Q 0 [some (vR a0), some (vI a1), some (vI a2)] [] h) : WP X XL d 130 [vR a0, vI a1, vI a2] h Q := by
  obtain ⟨d, rfl⟩ : ∃ d', d = d' + 1 := ⟨d - 1, by omega⟩
  exact WP_in0 (y := 130) (by decide) rfl (Nat.le_of_ble_eq_true rfl) rfl q
theorem eX9_person {X : Int → Int} {XL : Int} {d : Nat} {h : Mem} {Q : RetP} {a0 : Nat} {a1 : Int} {a2 : Int} (hd : 1 ≤ d) (q : Ex (WP X XL (d - 1)) KX9_person h.1 Q 0 [some (vR a0), some (vI a1), some (vI a2)] [] h) : WP X XL d 131 [vR a0, vI a1, vI a2] h Q := by
  obtain ⟨d, rfl⟩ : ∃ d', d = d' + 1 := ⟨d - 1, by omega⟩
  exact WP_in0 (y := 131) (by decide) rfl (Nat.le_of_ble_eq_true rfl) rfl q
theorem eX9_plant {X : Int → Int} {XL : Int} {d : Nat} {h : Mem} {Q : RetP} {a0 : Nat} {a1 : Int} {a2 : Int} (hd : 1 ≤ d) (q : Ex (WP X XL (d - 1)) KX9_plant h.1 Q 0 [some (vR a0), some (vI a1), some (vI a2)] [] h) : WP X XL d 132 [vR a0, vI a1, vI a2] h Q := by
  obtain ⟨d, rfl⟩ : ∃ d', d = d' + 1 := ⟨d - 1, by omega⟩
  exact WP_in0 (y := 132) (by decide) rfl (Nat.le_of_ble_eq_true rfl) rfl q
theorem eX9_run {X : Int → Int} {XL : Int} {d : Nat} {h : Mem} {Q : RetP} {a0 : Nat} {a1 : Int} (hd : 1 ≤ d) (q : Ex (WP X XL (d - 1)) KX9_run h.1 Q 0 [some (vR a0), some (vI a1)] [] h) : WP X XL d 133 [vR a0, vI a1] h Q := by
  obtain ⟨d, rfl⟩ : ∃ d', d = d' + 1 := ⟨d - 1, by omega⟩
  exact WP_in0 (y := 133) (by decide) rfl (Nat.le_of_ble_eq_true rfl) rfl q
theorem eX9_rope {X : Int → Int} {XL : Int} {d : Nat} {h : Mem} {Q : RetP} {a0 : Nat} {a1 : Int} {a2 : Int} (hd : 1 ≤ d) (q : Ex (WP X XL (d - 1)) KX9_rope h.1 Q 0 [some (vR a0), some (vI a1), some (vI a2)] [] h) : WP X XL d 134 [vR a0, vI a1, vI a2] h Q := by
  obtain ⟨d, rfl⟩ : ∃ d', d = d' + 1 := ⟨d - 1, by omega⟩
  exact WP_in0 (y := 134) (by decide) rfl (Nat.le_of_ble_eq_true rfl) rfl q
theorem eX9_jump {X : Int → Int} {XL : Int} {d : Nat} {h : Mem} {Q : RetP} {a0 : Nat} {a1 : Int} (hd : 1 ≤ d) (q : Ex (WP X XL (d - 1)) KX9_jump h.1 Q 0 [some (vR a0), some (vI a1)] [] h) : WP X XL d 135 [vR a0, vI a1] h Q := by
  obtain ⟨d, rfl⟩ : ∃ d', d = d' + 1 := ⟨d - 1, by omega⟩
  exact WP_in0 (y := 135) (by decide) rfl (Nat.le_of_ble_eq_true rfl) rfl q
theorem eX9_home {X : Int → Int} {XL : Int} {d : Nat} {h : Mem} {Q : RetP} {a0 : Nat} {a1 : Int} (hd : 1 ≤ d) (q : Ex (WP X XL (d - 1)) KX9_home h.1 Q 0 [some (vR a0), some (vI a1)] [] h) : WP X XL d 136 [vR a0, vI a1] h Q := by
  obtain ⟨d, rfl⟩ : ∃ d', d = d' + 1 := ⟨d - 1, by omega⟩
  exact WP_in0 (y := 136) (by decide) rfl (Nat.le_of_ble_eq_true rfl) rfl q
theorem eX9_day {X : Int → Int} {XL : Int} {d : Nat} {h : Mem} {Q : RetP} {a0 : Nat} {a1 : Int} (hd : 1 ≤ d) (q : Ex (WP X XL (d - 1)) KX9_day h.1 Q 0 [some (vR a0), some (vI a1)] [] h) : WP X XL d 137 [vR a0, vI a1] h Q := by
  obtain ⟨d, rfl⟩ : ∃ d', d = d' + 1 := ⟨d - 1, by omega⟩
  exact WP_in0 (y := 137) (by decide) rfl (Nat.le_of_ble_eq_true rfl) rfl q
theorem eX9_teach {X : Int → Int} {XL : Int} {d : Nat} {h : Mem} {Q : RetP} {a0 : Nat} {a1 : Int} {a2 : Int} {a3 : Int} (hd : 1 ≤ d) (q : Ex (WP X XL (d - 1)) KX9_teach h.1 Q 0 [some (vR a0), some (vI a1), some (vI a2), some (vI a3)] [] h) : WP X XL d 138 [vR a0, vI a1, vI a2, vI a3] h Q := by
  obtain ⟨d, rfl⟩ : ∃ d', d = d' + 1 := ⟨d - 1, by omega⟩
  exact WP_in0 (y := 138) (by decide) rfl (Nat.le_of_ble_eq_true rfl) rfl q
theorem eX9_come {X : Int → Int} {XL : Int} {d : Nat} {h : Mem} {Q : RetP} {a0 : Nat} {a1 : Int} (hd : 1 ≤ d) (q : Ex (WP X XL (d - 1)) KX9_come h.1 Q 0 [some (vR a0), some (vI a1)] [] h) : WP X XL d 139 [vR a0, vI a1] h Q := by
  obtain ⟨d, rfl⟩ : ∃ d', d = d' + 1 := ⟨d - 1, by omega⟩
  exact WP_in0 (y := 139) (by decide) rfl (Nat.le_of_ble_eq_true rfl) rfl q
theorem eX9_build {X : Int → Int} {XL : Int} {d : Nat} {h : Mem} {Q : RetP} {a0 : Nat} {a1 : Int} {a2 : Int} (hd : 1 ≤ d) (q : Ex (WP X XL (d - 1)) KX9_build h.1 Q 0 [some (vR a0), some (vI a1), some (vI a2)] [] h) : WP X XL d 140 [vR a0, vI a1, vI a2] h Q := by
  obtain ⟨d, rfl⟩ : ∃ d', d = d' + 1 := ⟨d - 1, by omega⟩
  exact WP_in0 (y := 140) (by decide) rfl (Nat.le_of_ble_eq_true rfl) rfl q
theorem eX9_sow {X : Int → Int} {XL : Int} {d : Nat} {h : Mem} {Q : RetP} {a0 : Nat} {a1 : Int} {a2 : Int} (hd : 1 ≤ d) (q : Ex (WP X XL (d - 1)) KX9_sow h.1 Q 0 [some (vR a0), some (vI a1), some (vI a2)] [] h) : WP X XL d 141 [vR a0, vI a1, vI a2] h Q := by
  obtain ⟨d, rfl⟩ : ∃ d', d = d' + 1 := ⟨d - 1, by omega⟩
  exact WP_in0 (y := 141) (by decide) rfl (Nat.le_of_ble_eq_true rfl) rfl q
theorem eX9_rule {X : Int → Int} {XL : Int} {d : Nat} {h : Mem} {Q : RetP} {a0 : Nat} {a1 : Int} {a2 : Int} (hd : 1 ≤ d) (q : Ex (WP X XL (d - 1)) KX9_rule h.1 Q 0 [some (vR a0), some (vI a1), some (vI a2)] [] h) : WP X XL d 142 [vR a0, vI a1, vI a2] h Q := by
  obtain ⟨d, rfl⟩ : ∃ d', d = d' + 1 := ⟨d - 1, by omega⟩
  exact WP_in0 (y := 142) (by decide) rfl (Nat.le_of_ble_eq_true rfl) rfl q
theorem eX9_strain {X : Int → Int} {XL : Int} {d : Nat} {h : Mem} {Q : RetP} {a0 : Nat} {a1 : Int} {a2 : Int} (hd : 1 ≤ d) (q : Ex (WP X XL (d - 1)) KX9_strain h.1 Q 0 [some (vR a0), some (vI a1), some (vI a2)] [] h) : WP X XL d 143 [vR a0, vI a1, vI a2] h Q := by
  obtain ⟨d, rfl⟩ : ∃ d', d = d' + 1 := ⟨d - 1, by omega⟩
  exact WP_in0 (y := 143) (by decide) rfl (Nat.le_of_ble_eq_true rfl) rfl q
theorem eX9_strainOf {X : Int → Int} {XL : Int} {d : Nat} {h : Mem} {Q : RetP} {a0 : Nat} {a1 : Int} {a2 : Int} {a3 : Int} (hd : 1 ≤ d) (q : Ex (WP X XL (d - 1)) KX9_strainOf h.1 Q 0 [some (vR a0), some (vI a1), some (vI a2), some (vI a3)] [] h) : WP X XL d 144 [vR a0, vI a1, vI a2, vI a3] h Q := by
  obtain ⟨d, rfl⟩ : ∃ d', d = d' + 1 := ⟨d - 1, by omega⟩
  exact WP_in0 (y := 144) (by decide) rfl (Nat.le_of_ble_eq_true rfl) rfl q
theorem eX9_reach {X : Int → Int} {XL : Int} {d : Nat} {h : Mem} {Q : RetP} {a0 : Nat} {a1 : Int} (hd : 1 ≤ d) (q : Ex (WP X XL (d - 1)) KX9_reach h.1 Q 0 [some (vR a0), some (vI a1)] [] h) : WP X XL d 145 [vR a0, vI a1] h Q := by
  obtain ⟨d, rfl⟩ : ∃ d', d = d' + 1 := ⟨d - 1, by omega⟩
  exact WP_in0 (y := 145) (by decide) rfl (Nat.le_of_ble_eq_true rfl) rfl q
theorem eX9_reachIn {X : Int → Int} {XL : Int} {d : Nat} {h : Mem} {Q : RetP} {a0 : Nat} {a1 : Int} {a2 : Int} (hd : 1 ≤ d) (q : Ex (WP X XL (d - 1)) KX9_reachIn h.1 Q 0 [some (vR a0), some (vI a1), some (vI a2)] [] h) : WP X XL d 146 [vR a0, vI a1, vI a2] h Q := by
  obtain ⟨d, rfl⟩ : ∃ d', d = d' + 1 := ⟨d - 1, by omega⟩
  exact WP_in0 (y := 146) (by decide) rfl (Nat.le_of_ble_eq_true rfl) rfl q
theorem eX9_stops {X : Int → Int} {XL : Int} {d : Nat} {h : Mem} {Q : RetP} {a0 : Nat} {a1 : Int} (hd : 1 ≤ d) (q : Ex (WP X XL (d - 1)) KX9_stops h.1 Q 0 [some (vR a0), some (vI a1)] [] h) : WP X XL d 147 [vR a0, vI a1] h Q := by
  obtain ⟨d, rfl⟩ : ∃ d', d = d' + 1 := ⟨d - 1, by omega⟩
  exact WP_in0 (y := 147) (by decide) rfl (Nat.le_of_ble_eq_true rfl) rfl q
theorem eX9_stopsBoth {X : Int → Int} {XL : Int} {d : Nat} {h : Mem} {Q : RetP} {a0 : Nat} {a1 : Int} {a2 : Int} (hd : 1 ≤ d) (q : Ex (WP X XL (d - 1)) KX9_stopsBoth h.1 Q 0 [some (vR a0), some (vI a1), some (vI a2)] [] h) : WP X XL d 148 [vR a0, vI a1, vI a2] h Q := by
  obtain ⟨d, rfl⟩ : ∃ d', d = d' + 1 := ⟨d - 1, by omega⟩
  exact WP_in0 (y := 148) (by decide) rfl (Nat.le_of_ble_eq_true rfl) rfl q
theorem eX9_pays {X : Int → Int} {XL : Int} {d : Nat} {h : Mem} {Q : RetP} {a0 : Nat} {a1 : Int} (hd : 1 ≤ d) (q : Ex (WP X XL (d - 1)) KX9_pays h.1 Q 0 [some (vR a0), some (vI a1)] [] h) : WP X XL d 149 [vR a0, vI a1] h Q := by
  obtain ⟨d, rfl⟩ : ∃ d', d = d' + 1 := ⟨d - 1, by omega⟩
  exact WP_in0 (y := 149) (by decide) rfl (Nat.le_of_ble_eq_true rfl) rfl q
theorem eX9_span {X : Int → Int} {XL : Int} {d : Nat} {h : Mem} {Q : RetP} {a0 : Nat} {a1 : Int} (hd : 1 ≤ d) (q : Ex (WP X XL (d - 1)) KX9_span h.1 Q 0 [some (vR a0), some (vI a1)] [] h) : WP X XL d 150 [vR a0, vI a1] h Q := by
  obtain ⟨d, rfl⟩ : ∃ d', d = d' + 1 := ⟨d - 1, by omega⟩
  exact WP_in0 (y := 150) (by decide) rfl (Nat.le_of_ble_eq_true rfl) rfl q
theorem eX9_spanFrom {X : Int → Int} {XL : Int} {d : Nat} {h : Mem} {Q : RetP} {a0 : Nat} {a1 : Int} (hd : 1 ≤ d) (q : Ex (WP X XL (d - 1)) KX9_spanFrom h.1 Q 0 [some (vR a0), some (vI a1), none] [] h) : WP X XL d 151 [vR a0, vI a1] h Q := by
  obtain ⟨d, rfl⟩ : ∃ d', d = d' + 1 := ⟨d - 1, by omega⟩
  exact WP_in0 (y := 151) (by decide) rfl (Nat.le_of_ble_eq_true rfl) rfl q
theorem eX9_weakest {X : Int → Int} {XL : Int} {d : Nat} {h : Mem} {Q : RetP} {a0 : Nat} (hd : 1 ≤ d) (q : Ex (WP X XL (d - 1)) KX9_weakest h.1 Q 0 [some (vR a0)] [] h) : WP X XL d 152 [vR a0] h Q := by
  obtain ⟨d, rfl⟩ : ∃ d', d = d' + 1 := ⟨d - 1, by omega⟩
  exact WP_in0 (y := 152) (by decide) rfl (Nat.le_of_ble_eq_true rfl) rfl q
theorem eX9_mossIn {X : Int → Int} {XL : Int} {d : Nat} {h : Mem} {Q : RetP} {a0 : Nat} {a1 : Int} {a2 : Int} (hd : 1 ≤ d) (q : Ex (WP X XL (d - 1)) KX9_mossIn h.1 Q 0 [some (vR a0), some (vI a1), some (vI a2)] [] h) : WP X XL d 153 [vR a0, vI a1, vI a2] h Q := by
  obtain ⟨d, rfl⟩ : ∃ d', d = d' + 1 := ⟨d - 1, by omega⟩
  exact WP_in0 (y := 153) (by decide) rfl (Nat.le_of_ble_eq_true rfl) rfl q
theorem eX9_most {X : Int → Int} {XL : Int} {d : Nat} {h : Mem} {Q : RetP} {a0 : Nat} (hd : 1 ≤ d) (q : Ex (WP X XL (d - 1)) KX9_most h.1 Q 0 [some (vR a0)] [] h) : WP X XL d 154 [vR a0] h Q := by
  obtain ⟨d, rfl⟩ : ∃ d', d = d' + 1 := ⟨d - 1, by omega⟩
  exact WP_in0 (y := 154) (by decide) rfl (Nat.le_of_ble_eq_true rfl) rfl q
theorem eX9_cheapest {X : Int → Int} {XL : Int} {d : Nat} {h : Mem} {Q : RetP} {a0 : Nat} {a1 : Int} (hd : 1 ≤ d) (q : Ex (WP X XL (d - 1)) KX9_cheapest h.1 Q 0 [some (vR a0), some (vI a1)] [] h) : WP X XL d 155 [vR a0, vI a1] h Q := by
  obtain ⟨d, rfl⟩ : ∃ d', d = d' + 1 := ⟨d - 1, by omega⟩
  exact WP_in0 (y := 155) (by decide) rfl (Nat.le_of_ble_eq_true rfl) rfl q
theorem eX9_mate {X : Int → Int} {XL : Int} {d : Nat} {h : Mem} {Q : RetP} {a0 : Nat} {a1 : Int} {a2 : Int} (hd : 1 ≤ d) (q : Ex (WP X XL (d - 1)) KX9_mate h.1 Q 0 [some (vR a0), some (vI a1), some (vI a2)] [] h) : WP X XL d 156 [vR a0, vI a1, vI a2] h Q := by
  obtain ⟨d, rfl⟩ : ∃ d', d = d' + 1 := ⟨d - 1, by omega⟩
  exact WP_in0 (y := 156) (by decide) rfl (Nat.le_of_ble_eq_true rfl) rfl q
theorem eX9_mends {X : Int → Int} {XL : Int} {d : Nat} {h : Mem} {Q : RetP} {a0 : Nat} {a1 : Int} (hd : 1 ≤ d) (q : Ex (WP X XL (d - 1)) KX9_mends h.1 Q 0 [some (vR a0), some (vI a1)] [] h) : WP X XL d 157 [vR a0, vI a1] h Q := by
  obtain ⟨d, rfl⟩ : ∃ d', d = d' + 1 := ⟨d - 1, by omega⟩
  exact WP_in0 (y := 157) (by decide) rfl (Nat.le_of_ble_eq_true rfl) rfl q
theorem eX9_mendsAt {X : Int → Int} {XL : Int} {d : Nat} {h : Mem} {Q : RetP} {a0 : Nat} {a1 : Int} {a2 : Int} (hd : 1 ≤ d) (q : Ex (WP X XL (d - 1)) KX9_mendsAt h.1 Q 0 [some (vR a0), some (vI a1), some (vI a2)] [] h) : WP X XL d 158 [vR a0, vI a1, vI a2] h Q := by
  obtain ⟨d, rfl⟩ : ∃ d', d = d' + 1 := ⟨d - 1, by omega⟩
  exact WP_in0 (y := 158) (by decide) rfl (Nat.le_of_ble_eq_true rfl) rfl q
theorem eX9_fits {X : Int → Int} {XL : Int} {d : Nat} {h : Mem} {Q : RetP} {a0 : Nat} {a1 : Int} {a2 : Int} {a3 : Int} (hd : 1 ≤ d) (q : Ex (WP X XL (d - 1)) KX9_fits h.1 Q 0 [some (vR a0), some (vI a1), some (vI a2), some (vI a3), none] [] h) : WP X XL d 159 [vR a0, vI a1, vI a2, vI a3] h Q := by
  obtain ⟨d, rfl⟩ : ∃ d', d = d' + 1 := ⟨d - 1, by omega⟩
  exact WP_in0 (y := 159) (by decide) rfl (Nat.le_of_ble_eq_true rfl) rfl q
theorem eX9_fitsAt {X : Int → Int} {XL : Int} {d : Nat} {h : Mem} {Q : RetP} {a0 : Nat} {a1 : Int} {a2 : Int} {a3 : Int} {a4 : Int} (hd : 1 ≤ d) (q : Ex (WP X XL (d - 1)) KX9_fitsAt h.1 Q 0 [some (vR a0), some (vI a1), some (vI a2), some (vI a3), some (vI a4), none, none, none, none] [] h) : WP X XL d 160 [vR a0, vI a1, vI a2, vI a3, vI a4] h Q := by
  obtain ⟨d, rfl⟩ : ∃ d', d = d' + 1 := ⟨d - 1, by omega⟩
  exact WP_in0 (y := 160) (by decide) rfl (Nat.le_of_ble_eq_true rfl) rfl q
theorem eX9_ask {X : Int → Int} {XL : Int} {d : Nat} {h : Mem} {Q : RetP} {a0 : Nat} {a1 : Int} {a2 : Int} {a3 : Int} (hd : 1 ≤ d) (q : Ex (WP X XL (d - 1)) KX9_ask h.1 Q 0 [some (vR a0), some (vI a1), some (vI a2), some (vI a3), none, none, none, none, none, none] [] h) : WP X XL d 161 [vR a0, vI a1, vI a2, vI a3] h Q := by
  obtain ⟨d, rfl⟩ : ∃ d', d = d' + 1 := ⟨d - 1, by omega⟩
  exact WP_in0 (y := 161) (by decide) rfl (Nat.le_of_ble_eq_true rfl) rfl q
theorem eX9_game {X : Int → Int} {XL : Int} {d : Nat} {h : Mem} {Q : RetP} {a0 : Nat} {a1 : Int} {a2 : Int} {a3 : Int} (hd : 1 ≤ d) (q : Ex (WP X XL (d - 1)) KX9_game h.1 Q 0 [some (vR a0), some (vI a1), some (vI a2), some (vI a3)] [] h) : WP X XL d 162 [vR a0, vI a1, vI a2, vI a3] h Q := by
  obtain ⟨d, rfl⟩ : ∃ d', d = d' + 1 := ⟨d - 1, by omega⟩
  exact WP_in0 (y := 162) (by decide) rfl (Nat.le_of_ble_eq_true rfl) rfl q
theorem eX9_moveOf {X : Int → Int} {XL : Int} {d : Nat} {h : Mem} {Q : RetP} {a0 : Nat} {a1 : Int} {a2 : Int} {a3 : Int} (hd : 1 ≤ d) (q : Ex (WP X XL (d - 1)) KX9_moveOf h.1 Q 0 [some (vR a0), some (vI a1), some (vI a2), some (vI a3)] [] h) : WP X XL d 163 [vR a0, vI a1, vI a2, vI a3] h Q := by
  obtain ⟨d, rfl⟩ : ∃ d', d = d' + 1 := ⟨d - 1, by omega⟩
  exact WP_in0 (y := 163) (by decide) rfl (Nat.le_of_ble_eq_true rfl) rfl q
theorem eX9_garden {X : Int → Int} {XL : Int} {d : Nat} {h : Mem} {Q : RetP} {a0 : Nat} {a1 : Int} (hd : 1 ≤ d) (q : Ex (WP X XL (d - 1)) KX9_garden h.1 Q 0 [some (vR a0), some (vI a1)] [] h) : WP X XL d 164 [vR a0, vI a1] h Q := by
  obtain ⟨d, rfl⟩ : ∃ d', d = d' + 1 := ⟨d - 1, by omega⟩
  exact WP_in0 (y := 164) (by decide) rfl (Nat.le_of_ble_eq_true rfl) rfl q
theorem eX9_gardenSet {X : Int → Int} {XL : Int} {d : Nat} {h : Mem} {Q : RetP} {a0 : Nat} {a1 : Int} (hd : 1 ≤ d) (q : Ex (WP X XL (d - 1)) KX9_gardenSet h.1 Q 0 [some (vR a0), some (vI a1)] [] h) : WP X XL d 165 [vR a0, vI a1] h Q := by
  obtain ⟨d, rfl⟩ : ∃ d', d = d' + 1 := ⟨d - 1, by omega⟩
  exact WP_in0 (y := 165) (by decide) rfl (Nat.le_of_ble_eq_true rfl) rfl q
theorem eX9_chance {X : Int → Int} {XL : Int} {d : Nat} {h : Mem} {Q : RetP} {a0 : Nat} {a1 : Int} (hd : 1 ≤ d) (q : Ex (WP X XL (d - 1)) KX9_chance h.1 Q 0 [some (vR a0), some (vI a1)] [] h) : WP X XL d 166 [vR a0, vI a1] h Q := by
  obtain ⟨d, rfl⟩ : ∃ d', d = d' + 1 := ⟨d - 1, by omega⟩
  exact WP_in0 (y := 166) (by decide) rfl (Nat.le_of_ble_eq_true rfl) rfl q
theorem eX9_hope {X : Int → Int} {XL : Int} {d : Nat} {h : Mem} {Q : RetP} {a0 : Nat} {a1 : Int} {a2 : Int} (hd : 1 ≤ d) (q : Ex (WP X XL (d - 1)) KX9_hope h.1 Q 0 [some (vR a0), some (vI a1), some (vI a2)] [] h) : WP X XL d 167 [vR a0, vI a1, vI a2] h Q := by
  obtain ⟨d, rfl⟩ : ∃ d', d = d' + 1 := ⟨d - 1, by omega⟩
  exact WP_in0 (y := 167) (by decide) rfl (Nat.le_of_ble_eq_true rfl) rfl q
theorem eX9_copyAt {X : Int → Int} {XL : Int} {d : Nat} {h : Mem} {Q : RetP} {a0 : Nat} {a1 : Int} (hd : 1 ≤ d) (q : Ex (WP X XL (d - 1)) KX9_copyAt h.1 Q 0 [some (vR a0), some (vI a1), none, none] [] h) : WP X XL d 168 [vR a0, vI a1] h Q := by
  obtain ⟨d, rfl⟩ : ∃ d', d = d' + 1 := ⟨d - 1, by omega⟩
  exact WP_in0 (y := 168) (by decide) rfl (Nat.le_of_ble_eq_true rfl) rfl q
theorem eX9_live {X : Int → Int} {XL : Int} {d : Nat} {h : Mem} {Q : RetP} {a0 : Nat} {a1 : Int} (hd : 1 ≤ d) (q : Ex (WP X XL (d - 1)) KX9_live h.1 Q 0 [some (vR a0), some (vI a1), none, none, none] [] h) : WP X XL d 169 [vR a0, vI a1] h Q := by
  obtain ⟨d, rfl⟩ : ∃ d', d = d' + 1 := ⟨d - 1, by omega⟩
  exact WP_in0 (y := 169) (by decide) rfl (Nat.le_of_ble_eq_true rfl) rfl q
theorem eX9_lived {X : Int → Int} {XL : Int} {d : Nat} {h : Mem} {Q : RetP} {a0 : Nat} {a1 : Int} (hd : 1 ≤ d) (q : Ex (WP X XL (d - 1)) KX9_lived h.1 Q 0 [some (vR a0), some (vI a1)] [] h) : WP X XL d 170 [vR a0, vI a1] h Q := by
  obtain ⟨d, rfl⟩ : ∃ d', d = d' + 1 := ⟨d - 1, by omega⟩
  exact WP_in0 (y := 170) (by decide) rfl (Nat.le_of_ble_eq_true rfl) rfl q
theorem eX9_mean {X : Int → Int} {XL : Int} {d : Nat} {h : Mem} {Q : RetP} {a0 : Nat} {a1 : Int} {a2 : Int} (hd : 1 ≤ d) (q : Ex (WP X XL (d - 1)) KX9_mean h.1 Q 0 [some (vR a0), some (vI a1), some (vI a2), none, none, none] [] h) : WP X XL d 171 [vR a0, vI a1, vI a2] h Q := by
  obtain ⟨d, rfl⟩ : ∃ d', d = d' + 1 := ⟨d - 1, by omega⟩
  exact WP_in0 (y := 171) (by decide) rfl (Nat.le_of_ble_eq_true rfl) rfl q
theorem eX9_mark {X : Int → Int} {XL : Int} {d : Nat} {h : Mem} {Q : RetP} {a0 : Nat} (hd : 1 ≤ d) (q : Ex (WP X XL (d - 1)) KX9_mark h.1 Q 0 [some (vR a0)] [] h) : WP X XL d 172 [vR a0] h Q := by
  obtain ⟨d, rfl⟩ : ∃ d', d = d' + 1 := ⟨d - 1, by omega⟩
  exact WP_in0 (y := 172) (by decide) rfl (Nat.le_of_ble_eq_true rfl) rfl q
theorem eX9_undo {X : Int → Int} {XL : Int} {d : Nat} {h : Mem} {Q : RetP} {a0 : Nat} (hd : 1 ≤ d) (q : Ex (WP X XL (d - 1)) KX9_undo h.1 Q 0 [some (vR a0)] [] h) : WP X XL d 173 [vR a0] h Q := by
  obtain ⟨d, rfl⟩ : ∃ d', d = d' + 1 := ⟨d - 1, by omega⟩
  exact WP_in0 (y := 173) (by decide) rfl (Nat.le_of_ble_eq_true rfl) rfl q
theorem eX9_given {X : Int → Int} {XL : Int} {d : Nat} {h : Mem} {Q : RetP} {a0 : Nat} {a1 : Int} (hd : 1 ≤ d) (q : Ex (WP X XL (d - 1)) KX9_given h.1 Q 0 [some (vR a0), some (vI a1)] [] h) : WP X XL d 174 [vR a0, vI a1] h Q := by
  obtain ⟨d, rfl⟩ : ∃ d', d = d' + 1 := ⟨d - 1, by omega⟩
  exact WP_in0 (y := 174) (by decide) rfl (Nat.le_of_ble_eq_true rfl) rfl q
theorem eX9_none {X : Int → Int} {XL : Int} {d : Nat} {h : Mem} {Q : RetP} {a0 : Nat} {a1 : Int} (hd : 1 ≤ d) (q : Ex (WP X XL (d - 1)) KX9_none h.1 Q 0 [some (vR a0), some (vI a1)] [] h) : WP X XL d 175 [vR a0, vI a1] h Q := by
  obtain ⟨d, rfl⟩ : ∃ d', d = d' + 1 := ⟨d - 1, by omega⟩
  exact WP_in0 (y := 175) (by decide) rfl (Nat.le_of_ble_eq_true rfl) rfl q
theorem eX9_givenUnless {X : Int → Int} {XL : Int} {d : Nat} {h : Mem} {Q : RetP} {a0 : Nat} {a1 : Int} {a2 : Int} (hd : 1 ≤ d) (q : Ex (WP X XL (d - 1)) KX9_givenUnless h.1 Q 0 [some (vR a0), some (vI a1), some (vI a2)] [] h) : WP X XL d 176 [vR a0, vI a1, vI a2] h Q := by
  obtain ⟨d, rfl⟩ : ∃ d', d = d' + 1 := ⟨d - 1, by omega⟩
  exact WP_in0 (y := 176) (by decide) rfl (Nat.le_of_ble_eq_true rfl) rfl q
theorem eX9_givenIfArch {X : Int → Int} {XL : Int} {d : Nat} {h : Mem} {Q : RetP} {a0 : Nat} {a1 : Int} (hd : 1 ≤ d) (q : Ex (WP X XL (d - 1)) KX9_givenIfArch h.1 Q 0 [some (vR a0), some (vI a1)] [] h) : WP X XL d 177 [vR a0, vI a1] h Q := by
  obtain ⟨d, rfl⟩ : ∃ d', d = d' + 1 := ⟨d - 1, by omega⟩
  exact WP_in0 (y := 177) (by decide) rfl (Nat.le_of_ble_eq_true rfl) rfl q
theorem eX9_yes {X : Int → Int} {XL : Int} {d : Nat} {h : Mem} {Q : RetP} {a0 : Nat} (hd : 1 ≤ d) (q : Ex (WP X XL (d - 1)) KX9_yes h.1 Q 0 [some (vR a0)] [] h) : WP X XL d 178 [vR a0] h Q := by
  obtain ⟨d, rfl⟩ : ∃ d', d = d' + 1 := ⟨d - 1, by omega⟩
  exact WP_in0 (y := 178) (by decide) rfl (Nat.le_of_ble_eq_true rfl) rfl q
theorem eX9_not {X : Int → Int} {XL : Int} {d : Nat} {h : Mem} {Q : RetP} {a0 : Nat} {a1 : Int} (hd : 1 ≤ d) (q : Ex (WP X XL (d - 1)) KX9_not h.1 Q 0 [some (vR a0), some (vI a1)] [] h) : WP X XL d 179 [vR a0, vI a1] h Q := by
  obtain ⟨d, rfl⟩ : ∃ d', d = d' + 1 := ⟨d - 1, by omega⟩
  exact WP_in0 (y := 179) (by decide) rfl (Nat.le_of_ble_eq_true rfl) rfl q
theorem eX9_put {X : Int → Int} {XL : Int} {d : Nat} {h : Mem} {Q : RetP} {a0 : Nat} {a1 : Nat} {a2 : Int} {a3 : Int} {a4 : Int} {a5 : Int} (hd : 1 ≤ d) (q : Ex (WP X XL (d - 1)) KX9_put h.1 Q 0 [some (vR a0), some (vR a1), some (vI a2), some (vI a3), some (vI a4), some (vI a5)] [] h) : WP X XL d 180 [vR a0, vR a1, vI a2, vI a3, vI a4, vI a5] h Q := by
  obtain ⟨d, rfl⟩ : ∃ d', d = d' + 1 := ⟨d - 1, by omega⟩
  exact WP_in0 (y := 180) (by decide) rfl (Nat.le_of_ble_eq_true rfl) rfl q
theorem eX9_within {X : Int → Int} {XL : Int} {d : Nat} {h : Mem} {Q : RetP} {a0 : Int} {a1 : Int} {a2 : Int} (hd : 1 ≤ d) (q : Ex (WP X XL (d - 1)) KX9_within h.1 Q 0 [some (vL a0), none, some (vL a1), none, some (vL a2), none] [] h) : WP X XL d 181 [vL a0, vL a1, vL a2] h Q := by
  obtain ⟨d, rfl⟩ : ∃ d', d = d' + 1 := ⟨d - 1, by omega⟩
  exact WP_in0 (y := 181) (by decide) rfl (Nat.le_of_ble_eq_true rfl) rfl q
theorem eX9_contains {X : Int → Int} {XL : Int} {d : Nat} {h : Mem} {Q : RetP} {a0 : Int} {a1 : Int} (hd : 1 ≤ d) (q : Ex (WP X XL (d - 1)) KX9_contains h.1 Q 0 [some (vI a0), some (vI a1)] [] h) : WP X XL d 182 [vI a0, vI a1] h Q := by
  obtain ⟨d, rfl⟩ : ∃ d', d = d' + 1 := ⟨d - 1, by omega⟩
  exact WP_in0 (y := 182) (by decide) rfl (Nat.le_of_ble_eq_true rfl) rfl q
theorem eX9_isTray {X : Int → Int} {XL : Int} {d : Nat} {h : Mem} {Q : RetP} {a0 : Int} (hd : 1 ≤ d) (q : Ex (WP X XL (d - 1)) KX9_isTray h.1 Q 0 [some (vI a0)] [] h) : WP X XL d 183 [vI a0] h Q := by
  obtain ⟨d, rfl⟩ : ∃ d', d = d' + 1 := ⟨d - 1, by omega⟩
  exact WP_in0 (y := 183) (by decide) rfl (Nat.le_of_ble_eq_true rfl) rfl q
theorem eX9_isSetOfPeople {X : Int → Int} {XL : Int} {d : Nat} {h : Mem} {Q : RetP} {a0 : Nat} {a1 : Int} (hd : 1 ≤ d) (q : Ex (WP X XL (d - 1)) KX9_isSetOfPeople h.1 Q 0 [some (vR a0), some (vI a1)] [] h) : WP X XL d 184 [vR a0, vI a1] h Q := by
  obtain ⟨d, rfl⟩ : ∃ d', d = d' + 1 := ⟨d - 1, by omega⟩
  exact WP_in0 (y := 184) (by decide) rfl (Nat.le_of_ble_eq_true rfl) rfl q
theorem eX9_placeStatus {X : Int → Int} {XL : Int} {d : Nat} {h : Mem} {Q : RetP} {a0 : Nat} {a1 : Int} {a2 : Int} (hd : 1 ≤ d) (q : Ex (WP X XL (d - 1)) KX9_placeStatus h.1 Q 0 [some (vR a0), some (vI a1), some (vI a2)] [] h) : WP X XL d 185 [vR a0, vI a1, vI a2] h Q := by
  obtain ⟨d, rfl⟩ : ∃ d', d = d' + 1 := ⟨d - 1, by omega⟩
  exact WP_in0 (y := 185) (by decide) rfl (Nat.le_of_ble_eq_true rfl) rfl q
theorem eX9_twosStatus {X : Int → Int} {XL : Int} {d : Nat} {h : Mem} {Q : RetP} {a0 : Nat} {a1 : Int} {a2 : Int} {a3 : Int} (hd : 1 ≤ d) (q : Ex (WP X XL (d - 1)) KX9_twosStatus h.1 Q 0 [some (vR a0), some (vI a1), some (vI a2), some (vI a3), none, none] [] h) : WP X XL d 186 [vR a0, vI a1, vI a2, vI a3] h Q := by
  obtain ⟨d, rfl⟩ : ∃ d', d = d' + 1 := ⟨d - 1, by omega⟩
  exact WP_in0 (y := 186) (by decide) rfl (Nat.le_of_ble_eq_true rfl) rfl q
theorem eX9_doubtsThatFit {X : Int → Int} {XL : Int} {d : Nat} {h : Mem} {Q : RetP} {a0 : Nat} {a1 : Int} {a2 : Int} {a3 : Int} (hd : 1 ≤ d) (q : Ex (WP X XL (d - 1)) KX9_doubtsThatFit h.1 Q 0 [some (vR a0), some (vI a1), some (vI a2), some (vI a3), none, none, none, none, none] [] h) : WP X XL d 187 [vR a0, vI a1, vI a2, vI a3] h Q := by
  obtain ⟨d, rfl⟩ : ∃ d', d = d' + 1 := ⟨d - 1, by omega⟩
  exact WP_in0 (y := 187) (by decide) rfl (Nat.le_of_ble_eq_true rfl) rfl q
theorem eX9_tellOdds {X : Int → Int} {XL : Int} {d : Nat} {h : Mem} {Q : RetP} {a0 : Nat} {a1 : Int} {a2 : Int} (hd : 1 ≤ d) (q : Ex (WP X XL (d - 1)) KX9_tellOdds h.1 Q 0 [some (vR a0), some (vI a1), some (vI a2), none, none, none, none, none, none] [] h) : WP X XL d 188 [vR a0, vI a1, vI a2] h Q := by
  obtain ⟨d, rfl⟩ : ∃ d', d = d' + 1 := ⟨d - 1, by omega⟩
  exact WP_in0 (y := 188) (by decide) rfl (Nat.le_of_ble_eq_true rfl) rfl q
theorem eX9_tell {X : Int → Int} {XL : Int} {d : Nat} {h : Mem} {Q : RetP} {a0 : Nat} {a1 : Int} {a2 : Int} (hd : 1 ≤ d) (q : Ex (WP X XL (d - 1)) KX9_tell h.1 Q 0 [some (vR a0), some (vL a1), none, some (vL a2), none, none, none] [] h) : WP X XL d 189 [vR a0, vL a1, vL a2] h Q := by
  obtain ⟨d, rfl⟩ : ∃ d', d = d' + 1 := ⟨d - 1, by omega⟩
  exact WP_in0 (y := 189) (by decide) rfl (Nat.le_of_ble_eq_true rfl) rfl q
theorem eX9_commonDivisor {X : Int → Int} {XL : Int} {d : Nat} {h : Mem} {Q : RetP} {a0 : Int} {a1 : Int} (hd : 1 ≤ d) (q : Ex (WP X XL (d - 1)) KX9_commonDivisor h.1 Q 0 [some (vL a0), none, some (vL a1), none, none, none, none, none, none, none, none] [] h) : WP X XL d 190 [vL a0, vL a1] h Q := by
  obtain ⟨d, rfl⟩ : ∃ d', d = d' + 1 := ⟨d - 1, by omega⟩
  exact WP_in0 (y := 190) (by decide) rfl (Nat.le_of_ble_eq_true rfl) rfl q
theorem eX10_init {X : Int → Int} {XL : Int} {d : Nat} {h : Mem} {Q : RetP} {a0 : Nat} (hd : 1 ≤ d) (q : Ex (WP X XL (d - 1)) KX10_init (h.1 ++ growM 191) Q 0 [some (vR a0)] [] h) : WP X XL d 191 [vR a0] h Q := by
  obtain ⟨d, rfl⟩ : ∃ d', d = d' + 1 := ⟨d - 1, by omega⟩
  exact WP_in (y := 191) (by decide) rfl (Nat.le_of_ble_eq_true rfl) q
theorem eX10_plain {X : Int → Int} {XL : Int} {d : Nat} {h : Mem} {Q : RetP} {a0 : Nat} {a1 : Int} (hd : 1 ≤ d) (q : Ex (WP X XL (d - 1)) KX10_plain h.1 Q 0 [some (vR a0), some (vI a1), none] [] h) : WP X XL d 192 [vR a0, vI a1] h Q := by
  obtain ⟨d, rfl⟩ : ∃ d', d = d' + 1 := ⟨d - 1, by omega⟩
  exact WP_in0 (y := 192) (by decide) rfl (Nat.le_of_ble_eq_true rfl) rfl q
theorem eX10_status {X : Int → Int} {XL : Int} {d : Nat} {h : Mem} {Q : RetP} {a0 : Nat} (hd : 1 ≤ d) (q : Ex (WP X XL (d - 1)) KX10_status h.1 Q 0 [some (vR a0)] [] h) : WP X XL d 193 [vR a0] h Q := by
  obtain ⟨d, rfl⟩ : ∃ d', d = d' + 1 := ⟨d - 1, by omega⟩
  exact WP_in0 (y := 193) (by decide) rfl (Nat.le_of_ble_eq_true rfl) rfl q
theorem eX10_top {X : Int → Int} {XL : Int} {d : Nat} {h : Mem} {Q : RetP} {a0 : Nat} (hd : 1 ≤ d) (q : Ex (WP X XL (d - 1)) KX10_top h.1 Q 0 [some (vR a0)] [] h) : WP X XL d 194 [vR a0] h Q := by
  obtain ⟨d, rfl⟩ : ∃ d', d = d' + 1 := ⟨d - 1, by omega⟩
  exact WP_in0 (y := 194) (by decide) rfl (Nat.le_of_ble_eq_true rfl) rfl q
theorem eX10_bottom {X : Int → Int} {XL : Int} {d : Nat} {h : Mem} {Q : RetP} {a0 : Nat} (hd : 1 ≤ d) (q : Ex (WP X XL (d - 1)) KX10_bottom h.1 Q 0 [some (vR a0)] [] h) : WP X XL d 195 [vR a0] h Q := by
  obtain ⟨d, rfl⟩ : ∃ d', d = d' + 1 := ⟨d - 1, by omega⟩
  exact WP_in0 (y := 195) (by decide) rfl (Nat.le_of_ble_eq_true rfl) rfl q
theorem eX10_is {X : Int → Int} {XL : Int} {d : Nat} {h : Mem} {Q : RetP} {a0 : Nat} {a1 : Int} (hd : 1 ≤ d) (q : Ex (WP X XL (d - 1)) KX10_is h.1 Q 0 [some (vR a0), some (vI a1)] [] h) : WP X XL d 196 [vR a0, vI a1] h Q := by
  obtain ⟨d, rfl⟩ : ∃ d', d = d' + 1 := ⟨d - 1, by omega⟩
  exact WP_in0 (y := 196) (by decide) rfl (Nat.le_of_ble_eq_true rfl) rfl q
theorem eX10_refuse {X : Int → Int} {XL : Int} {d : Nat} {h : Mem} {Q : RetP} {a0 : Nat} {a1 : Int} (hd : 1 ≤ d) (q : Ex (WP X XL (d - 1)) KX10_refuse h.1 Q 0 [some (vR a0), some (vI a1)] [] h) : WP X XL d 197 [vR a0, vI a1] h Q := by
  obtain ⟨d, rfl⟩ : ∃ d', d = d' + 1 := ⟨d - 1, by omega⟩
  exact WP_in0 (y := 197) (by decide) rfl (Nat.le_of_ble_eq_true rfl) rfl q
theorem eX10_gives {X : Int → Int} {XL : Int} {d : Nat} {h : Mem} {Q : RetP} {a0 : Nat} {a1 : Int} (hd : 1 ≤ d) (q : Ex (WP X XL (d - 1)) KX10_gives h.1 Q 0 [some (vR a0), some (vI a1)] [] h) : WP X XL d 198 [vR a0, vI a1] h Q := by
  obtain ⟨d, rfl⟩ : ∃ d', d = d' + 1 := ⟨d - 1, by omega⟩
  exact WP_in0 (y := 198) (by decide) rfl (Nat.le_of_ble_eq_true rfl) rfl q
theorem eX10_orNone {X : Int → Int} {XL : Int} {d : Nat} {h : Mem} {Q : RetP} {a0 : Nat} {a1 : Int} (hd : 1 ≤ d) (q : Ex (WP X XL (d - 1)) KX10_orNone h.1 Q 0 [some (vR a0), some (vI a1)] [] h) : WP X XL d 199 [vR a0, vI a1] h Q := by
  obtain ⟨d, rfl⟩ : ∃ d', d = d' + 1 := ⟨d - 1, by omega⟩
  exact WP_in0 (y := 199) (by decide) rfl (Nat.le_of_ble_eq_true rfl) rfl q
theorem eX10_tellsBy {X : Int → Int} {XL : Int} {d : Nat} {h : Mem} {Q : RetP} {a0 : Nat} {a1 : Int} {a2 : Int} (hd : 1 ≤ d) (q : Ex (WP X XL (d - 1)) KX10_tellsBy h.1 Q 0 [some (vR a0), some (vL a1), none, some (vL a2), none, none, none, none, none, none, none] [] h) : WP X XL d 200 [vR a0, vL a1, vL a2] h Q := by
  obtain ⟨d, rfl⟩ : ∃ d', d = d' + 1 := ⟨d - 1, by omega⟩
  exact WP_in0 (y := 200) (by decide) rfl (Nat.le_of_ble_eq_true rfl) rfl q
theorem eX10_isTray {X : Int → Int} {XL : Int} {d : Nat} {h : Mem} {Q : RetP} {a0 : Int} (hd : 1 ≤ d) (q : Ex (WP X XL (d - 1)) KX10_isTray h.1 Q 0 [some (vI a0)] [] h) : WP X XL d 201 [vI a0] h Q := by
  obtain ⟨d, rfl⟩ : ∃ d', d = d' + 1 := ⟨d - 1, by omega⟩
  exact WP_in0 (y := 201) (by decide) rfl (Nat.le_of_ble_eq_true rfl) rfl q
theorem eX10_cut {X : Int → Int} {XL : Int} {d : Nat} {h : Mem} {Q : RetP} {a0 : Int} {a1 : Int} (hd : 1 ≤ d) (q : Ex (WP X XL (d - 1)) KX10_cut h.1 Q 0 [some (vL a0), none, some (vI a1)] [] h) : WP X XL d 202 [vL a0, vI a1] h Q := by
  obtain ⟨d, rfl⟩ : ∃ d', d = d' + 1 := ⟨d - 1, by omega⟩
  exact WP_in0 (y := 202) (by decide) rfl (Nat.le_of_ble_eq_true rfl) rfl q
theorem eX10_tray {X : Int → Int} {XL : Int} {d : Nat} {h : Mem} {Q : RetP} {a0 : Nat} {a1 : Int} {a2 : Int} {a3 : Int} (hd : 1 ≤ d) (q : Ex (WP X XL (d - 1)) KX10_tray h.1 Q 0 [some (vR a0), some (vI a1), some (vI a2), some (vI a3), none] [] h) : WP X XL d 203 [vR a0, vI a1, vI a2, vI a3] h Q := by
  obtain ⟨d, rfl⟩ : ∃ d', d = d' + 1 := ⟨d - 1, by omega⟩
  exact WP_in0 (y := 203) (by decide) rfl (Nat.le_of_ble_eq_true rfl) rfl q
theorem eX10_wrongPlace {X : Int → Int} {XL : Int} {d : Nat} {h : Mem} {Q : RetP} {a0 : Nat} {a1 : Int} {a2 : Int} (hd : 1 ≤ d) (q : Ex (WP X XL (d - 1)) KX10_wrongPlace h.1 Q 0 [some (vR a0), some (vI a1), some (vI a2)] [] h) : WP X XL d 204 [vR a0, vI a1, vI a2] h Q := by
  obtain ⟨d, rfl⟩ : ∃ d', d = d' + 1 := ⟨d - 1, by omega⟩
  exact WP_in0 (y := 204) (by decide) rfl (Nat.le_of_ble_eq_true rfl) rfl q
theorem eX10_write {X : Int → Int} {XL : Int} {d : Nat} {h : Mem} {Q : RetP} {a0 : Nat} {a1 : Int} {a2 : Int} {a3 : Int} (hd : 1 ≤ d) (q : Ex (WP X XL (d - 1)) KX10_write h.1 Q 0 [some (vR a0), some (vI a1), some (vI a2), some (vL a3), none, none] [] h) : WP X XL d 205 [vR a0, vI a1, vI a2, vL a3] h Q := by
  obtain ⟨d, rfl⟩ : ∃ d', d = d' + 1 := ⟨d - 1, by omega⟩
  exact WP_in0 (y := 205) (by decide) rfl (Nat.le_of_ble_eq_true rfl) rfl q
theorem eX10_read {X : Int → Int} {XL : Int} {d : Nat} {h : Mem} {Q : RetP} {a0 : Nat} {a1 : Int} {a2 : Int} (hd : 1 ≤ d) (q : Ex (WP X XL (d - 1)) KX10_read h.1 Q 0 [some (vR a0), some (vI a1), some (vI a2)] [] h) : WP X XL d 206 [vR a0, vI a1, vI a2] h Q := by
  obtain ⟨d, rfl⟩ : ∃ d', d = d' + 1 := ⟨d - 1, by omega⟩
  exact WP_in0 (y := 206) (by decide) rfl (Nat.le_of_ble_eq_true rfl) rfl q
theorem eX10_pour {X : Int → Int} {XL : Int} {d : Nat} {h : Mem} {Q : RetP} {a0 : Nat} {a1 : Int} {a2 : Int} {a3 : Int} {a4 : Int} {a5 : Int} (hd : 1 ≤ d) (q : Ex (WP X XL (d - 1)) KX10_pour h.1 Q 0 [some (vR a0), some (vI a1), some (vI a2), some (vI a3), some (vI a4), some (vI a5), none, none] [] h) : WP X XL d 207 [vR a0, vI a1, vI a2, vI a3, vI a4, vI a5] h Q := by
  obtain ⟨d, rfl⟩ : ∃ d', d = d' + 1 := ⟨d - 1, by omega⟩
  exact WP_in0 (y := 207) (by decide) rfl (Nat.le_of_ble_eq_true rfl) rfl q
theorem eX10_isFrom {X : Int → Int} {XL : Int} {d : Nat} {h : Mem} {Q : RetP} {a0 : Int} {a1 : Int} {a2 : Int} (hd : 1 ≤ d) (q : Ex (WP X XL (d - 1)) KX10_isFrom h.1 Q 0 [some (vL a0), none, some (vL a1), none, some (vL a2), none] [] h) : WP X XL d 208 [vL a0, vL a1, vL a2] h Q := by
  obtain ⟨d, rfl⟩ : ∃ d', d = d' + 1 := ⟨d - 1, by omega⟩
  exact WP_in0 (y := 208) (by decide) rfl (Nat.le_of_ble_eq_true rfl) rfl q
theorem eX10_feed {X : Int → Int} {XL : Int} {d : Nat} {h : Mem} {Q : RetP} {a0 : Nat} {a1 : Int} {a2 : Int} {a3 : Int} {a4 : Int} {a5 : Int} (hd : 1 ≤ d) (q : Ex (WP X XL (d - 1)) KX10_feed h.1 Q 0 [some (vR a0), some (vI a1), some (vI a2), some (vI a3), some (vI a4), some (vI a5)] [] h) : WP X XL d 209 [vR a0, vI a1, vI a2, vI a3, vI a4, vI a5] h Q := by
  obtain ⟨d, rfl⟩ : ∃ d', d = d' + 1 := ⟨d - 1, by omega⟩
  exact WP_in0 (y := 209) (by decide) rfl (Nat.le_of_ble_eq_true rfl) rfl q
theorem eX10_four {X : Int → Int} {XL : Int} {d : Nat} {h : Mem} {Q : RetP} {a0 : Nat} {a1 : Int} (hd : 1 ≤ d) (q : Ex (WP X XL (d - 1)) KX10_four h.1 Q 0 [some (vR a0), some (vI a1), none] [] h) : WP X XL d 210 [vR a0, vI a1] h Q := by
  obtain ⟨d, rfl⟩ : ∃ d', d = d' + 1 := ⟨d - 1, by omega⟩
  exact WP_in0 (y := 210) (by decide) rfl (Nat.le_of_ble_eq_true rfl) rfl q
theorem eX10_byteAt {X : Int → Int} {XL : Int} {d : Nat} {h : Mem} {Q : RetP} {a0 : Nat} {a1 : Int} (hd : 1 ≤ d) (q : Ex (WP X XL (d - 1)) KX10_byteAt h.1 Q 0 [some (vR a0), some (vI a1)] [] h) : WP X XL d 211 [vR a0, vI a1] h Q := by
  obtain ⟨d, rfl⟩ : ∃ d', d = d' + 1 := ⟨d - 1, by omega⟩
  exact WP_in0 (y := 211) (by decide) rfl (Nat.le_of_ble_eq_true rfl) rfl q
theorem eX10_isSmall {X : Int → Int} {XL : Int} {d : Nat} {h : Mem} {Q : RetP} {a0 : Int} (hd : 1 ≤ d) (q : Ex (WP X XL (d - 1)) KX10_isSmall h.1 Q 0 [some (vI a0)] [] h) : WP X XL d 212 [vI a0] h Q := by
  obtain ⟨d, rfl⟩ : ∃ d', d = d' + 1 := ⟨d - 1, by omega⟩
  exact WP_in0 (y := 212) (by decide) rfl (Nat.le_of_ble_eq_true rfl) rfl q
theorem eX10_isDigit {X : Int → Int} {XL : Int} {d : Nat} {h : Mem} {Q : RetP} {a0 : Int} (hd : 1 ≤ d) (q : Ex (WP X XL (d - 1)) KX10_isDigit h.1 Q 0 [some (vI a0)] [] h) : WP X XL d 213 [vI a0] h Q := by
  obtain ⟨d, rfl⟩ : ∃ d', d = d' + 1 := ⟨d - 1, by omega⟩
  exact WP_in0 (y := 213) (by decide) rfl (Nat.le_of_ble_eq_true rfl) rfl q
theorem eX10_ahead {X : Int → Int} {XL : Int} {d : Nat} {h : Mem} {Q : RetP} {a0 : Nat} (hd : 1 ≤ d) (q : Ex (WP X XL (d - 1)) KX10_ahead h.1 Q 0 [some (vR a0), none] [] h) : WP X XL d 214 [vR a0] h Q := by
  obtain ⟨d, rfl⟩ : ∃ d', d = d' + 1 := ⟨d - 1, by omega⟩
  exact WP_in0 (y := 214) (by decide) rfl (Nat.le_of_ble_eq_true rfl) rfl q
theorem eX10_isSign {X : Int → Int} {XL : Int} {d : Nat} {h : Mem} {Q : RetP} {a0 : Nat} {a1 : Int} (hd : 1 ≤ d) (q : Ex (WP X XL (d - 1)) KX10_isSign h.1 Q 0 [some (vR a0), some (vI a1)] [] h) : WP X XL d 215 [vR a0, vI a1] h Q := by
  obtain ⟨d, rfl⟩ : ∃ d', d = d' + 1 := ⟨d - 1, by omega⟩
  exact WP_in0 (y := 215) (by decide) rfl (Nat.le_of_ble_eq_true rfl) rfl q
theorem eX10_inWords {X : Int → Int} {XL : Int} {d : Nat} {h : Mem} {Q : RetP} {a0 : Nat} {a1 : Nat} (hd : 1 ≤ d) (q : Ex (WP X XL (d - 1)) KX10_inWords h.1 Q 0 [some (vR a0), some (vR a1), none, none, none, none, none] [] h) : WP X XL d 216 [vR a0, vR a1] h Q := by
  obtain ⟨d, rfl⟩ : ∃ d', d = d' + 1 := ⟨d - 1, by omega⟩
  exact WP_in0 (y := 216) (by decide) rfl (Nat.le_of_ble_eq_true rfl) rfl q
theorem eX10_fails {X : Int → Int} {XL : Int} {d : Nat} {h : Mem} {Q : RetP} {a0 : Nat} {a1 : Int} (hd : 1 ≤ d) (q : Ex (WP X XL (d - 1)) KX10_fails h.1 Q 0 [some (vR a0), some (vI a1)] [] h) : WP X XL d 217 [vR a0, vI a1] h Q := by
  obtain ⟨d, rfl⟩ : ∃ d', d = d' + 1 := ⟨d - 1, by omega⟩
  exact WP_in0 (y := 217) (by decide) rfl (Nat.le_of_ble_eq_true rfl) rfl q
theorem eX10_begins {X : Int → Int} {XL : Int} {d : Nat} {h : Mem} {Q : RetP} {a0 : Nat} {a1 : Int} {a2 : Int} (hd : 1 ≤ d) (q : Ex (WP X XL (d - 1)) KX10_begins h.1 Q 0 [some (vR a0), some (vI a1), some (vI a2), none] [] h) : WP X XL d 218 [vR a0, vI a1, vI a2] h Q := by
  obtain ⟨d, rfl⟩ : ∃ d', d = d' + 1 := ⟨d - 1, by omega⟩
  exact WP_in0 (y := 218) (by decide) rfl (Nat.le_of_ble_eq_true rfl) rfl q
theorem eX10_wantSign {X : Int → Int} {XL : Int} {d : Nat} {h : Mem} {Q : RetP} {a0 : Nat} {a1 : Int} (hd : 1 ≤ d) (q : Ex (WP X XL (d - 1)) KX10_wantSign h.1 Q 0 [some (vR a0), some (vI a1)] [] h) : WP X XL d 219 [vR a0, vI a1] h Q := by
  obtain ⟨d, rfl⟩ : ∃ d', d = d' + 1 := ⟨d - 1, by omega⟩
  exact WP_in0 (y := 219) (by decide) rfl (Nat.le_of_ble_eq_true rfl) rfl q
theorem eX10_wantWord {X : Int → Int} {XL : Int} {d : Nat} {h : Mem} {Q : RetP} {a0 : Nat} {a1 : Nat} {a2 : Int} (hd : 1 ≤ d) (q : Ex (WP X XL (d - 1)) KX10_wantWord h.1 Q 0 [some (vR a0), some (vR a1), some (vI a2)] [] h) : WP X XL d 220 [vR a0, vR a1, vI a2] h Q := by
  obtain ⟨d, rfl⟩ : ∃ d', d = d' + 1 := ⟨d - 1, by omega⟩
  exact WP_in0 (y := 220) (by decide) rfl (Nat.le_of_ble_eq_true rfl) rfl q
theorem eX10_number {X : Int → Int} {XL : Int} {d : Nat} {h : Mem} {Q : RetP} {a0 : Nat} {a1 : Int} {a2 : Int} {a3 : Int} (hd : 1 ≤ d) (q : Ex (WP X XL (d - 1)) KX10_number h.1 Q 0 [some (vR a0), some (vI a1), some (vI a2), some (vI a3)] [] h) : WP X XL d 221 [vR a0, vI a1, vI a2, vI a3] h Q := by
  obtain ⟨d, rfl⟩ : ∃ d', d = d' + 1 := ⟨d - 1, by omega⟩
  exact WP_in0 (y := 221) (by decide) rfl (Nat.le_of_ble_eq_true rfl) rfl q
theorem eX10_isName {X : Int → Int} {XL : Int} {d : Nat} {h : Mem} {Q : RetP} {a0 : Nat} {a1 : Nat} (hd : 1 ≤ d) (q : Ex (WP X XL (d - 1)) KX10_isName h.1 Q 0 [some (vR a0), some (vR a1)] [] h) : WP X XL d 222 [vR a0, vR a1] h Q := by
  obtain ⟨d, rfl⟩ : ∃ d', d = d' + 1 := ⟨d - 1, by omega⟩
  exact WP_in0 (y := 222) (by decide) rfl (Nat.le_of_ble_eq_true rfl) rfl q
theorem eX10_nameHere {X : Int → Int} {XL : Int} {d : Nat} {h : Mem} {Q : RetP} {a0 : Nat} (hd : 1 ≤ d) (q : Ex (WP X XL (d - 1)) KX10_nameHere h.1 Q 0 [some (vR a0), none, none, none] [] h) : WP X XL d 223 [vR a0] h Q := by
  obtain ⟨d, rfl⟩ : ∃ d', d = d' + 1 := ⟨d - 1, by omega⟩
  exact WP_in0 (y := 223) (by decide) rfl (Nat.le_of_ble_eq_true rfl) rfl q
theorem eX10_findHere {X : Int → Int} {XL : Int} {d : Nat} {h : Mem} {Q : RetP} {a0 : Nat} {a1 : Int} {a2 : Int} (hd : 1 ≤ d) (q : Ex (WP X XL (d - 1)) KX10_findHere h.1 Q 0 [some (vR a0), some (vI a1), some (vI a2), none] [] h) : WP X XL d 224 [vR a0, vI a1, vI a2] h Q := by
  obtain ⟨d, rfl⟩ : ∃ d', d = d' + 1 := ⟨d - 1, by omega⟩
  exact WP_in0 (y := 224) (by decide) rfl (Nat.le_of_ble_eq_true rfl) rfl q
theorem eX10_fault {X : Int → Int} {XL : Int} {d : Nat} {h : Mem} {Q : RetP} {a0 : Nat} {a1 : Int} (hd : 1 ≤ d) (q : Ex (WP X XL (d - 1)) KX10_fault h.1 Q 0 [some (vR a0), some (vI a1)] [] h) : WP X XL d 225 [vR a0, vI a1] h Q := by
  obtain ⟨d, rfl⟩ : ∃ d', d = d' + 1 := ⟨d - 1, by omega⟩
  exact WP_in0 (y := 225) (by decide) rfl (Nat.le_of_ble_eq_true rfl) rfl q
theorem eX10_taken {X : Int → Int} {XL : Int} {d : Nat} {h : Mem} {Q : RetP} {a0 : Nat} {a1 : Int} (hd : 1 ≤ d) (q : Ex (WP X XL (d - 1)) KX10_taken h.1 Q 0 [some (vR a0), some (vI a1)] [] h) : WP X XL d 226 [vR a0, vI a1] h Q := by
  obtain ⟨d, rfl⟩ : ∃ d', d = d' + 1 := ⟨d - 1, by omega⟩
  exact WP_in0 (y := 226) (by decide) rfl (Nat.le_of_ble_eq_true rfl) rfl q
theorem eX10_archRow {X : Int → Int} {XL : Int} {d : Nat} {h : Mem} {Q : RetP} {a0 : Int} (hd : 1 ≤ d) (q : Ex (WP X XL (d - 1)) KX10_archRow h.1 Q 0 [some (vI a0)] [] h) : WP X XL d 227 [vI a0] h Q := by
  obtain ⟨d, rfl⟩ : ∃ d', d = d' + 1 := ⟨d - 1, by omega⟩
  exact WP_in0 (y := 227) (by decide) rfl (Nat.le_of_ble_eq_true rfl) rfl q
theorem eX10_personRow {X : Int → Int} {XL : Int} {d : Nat} {h : Mem} {Q : RetP} {a0 : Int} (hd : 1 ≤ d) (q : Ex (WP X XL (d - 1)) KX10_personRow h.1 Q 0 [some (vI a0)] [] h) : WP X XL d 228 [vI a0] h Q := by
  obtain ⟨d, rfl⟩ : ∃ d', d = d' + 1 := ⟨d - 1, by omega⟩
  exact WP_in0 (y := 228) (by decide) rfl (Nat.le_of_ble_eq_true rfl) rfl q
theorem eX10_plantRow {X : Int → Int} {XL : Int} {d : Nat} {h : Mem} {Q : RetP} {a0 : Int} (hd : 1 ≤ d) (q : Ex (WP X XL (d - 1)) KX10_plantRow h.1 Q 0 [some (vI a0)] [] h) : WP X XL d 229 [vI a0] h Q := by
  obtain ⟨d, rfl⟩ : ∃ d', d = d' + 1 := ⟨d - 1, by omega⟩
  exact WP_in0 (y := 229) (by decide) rfl (Nat.le_of_ble_eq_true rfl) rfl q
theorem eX10_isThere {X : Int → Int} {XL : Int} {d : Nat} {h : Mem} {Q : RetP} {a0 : Nat} {a1 : Int} (hd : 1 ≤ d) (q : Ex (WP X XL (d - 1)) KX10_isThere h.1 Q 0 [some (vR a0), some (vI a1)] [] h) : WP X XL d 230 [vR a0, vI a1] h Q := by
  obtain ⟨d, rfl⟩ : ∃ d', d = d' + 1 := ⟨d - 1, by omega⟩
  exact WP_in0 (y := 230) (by decide) rfl (Nat.le_of_ble_eq_true rfl) rfl q
theorem eX10_perhaps {X : Int → Int} {XL : Int} {d : Nat} {h : Mem} {Q : RetP} {a0 : Nat} {a1 : Int} {a2 : Int} {a3 : Int} {a4 : Int} {a5 : Int} (hd : 1 ≤ d) (q : Ex (WP X XL (d - 1)) KX10_perhaps h.1 Q 0 [some (vR a0), some (vI a1), some (vI a2), some (vI a3), some (vI a4), some (vI a5)] [] h) : WP X XL d 231 [vR a0, vI a1, vI a2, vI a3, vI a4, vI a5] h Q := by
  obtain ⟨d, rfl⟩ : ∃ d', d = d' + 1 := ⟨d - 1, by omega⟩
  exact WP_in0 (y := 231) (by decide) rfl (Nat.le_of_ble_eq_true rfl) rfl q
theorem eX10_isFull {X : Int → Int} {XL : Int} {d : Nat} {h : Mem} {Q : RetP} {a0 : Nat} {a1 : Int} {a2 : Int} (hd : 1 ≤ d) (q : Ex (WP X XL (d - 1)) KX10_isFull h.1 Q 0 [some (vR a0), some (vI a1), some (vI a2)] [] h) : WP X XL d 232 [vR a0, vI a1, vI a2] h Q := by
  obtain ⟨d, rfl⟩ : ∃ d', d = d' + 1 := ⟨d - 1, by omega⟩
  exact WP_in0 (y := 232) (by decide) rfl (Nat.le_of_ble_eq_true rfl) rfl q
theorem eX10_anArch {X : Int → Int} {XL : Int} {d : Nat} {h : Mem} {Q : RetP} {a0 : Nat} (hd : 1 ≤ d) (q : Ex (WP X XL (d - 1)) KX10_anArch h.1 Q 0 [some (vR a0), none] [] h) : WP X XL d 233 [vR a0] h Q := by
  obtain ⟨d, rfl⟩ : ∃ d', d = d' + 1 := ⟨d - 1, by omega⟩
  exact WP_in0 (y := 233) (by decide) rfl (Nat.le_of_ble_eq_true rfl) rfl q
theorem eX10_aPerson {X : Int → Int} {XL : Int} {d : Nat} {h : Mem} {Q : RetP} {a0 : Nat} (hd : 1 ≤ d) (q : Ex (WP X XL (d - 1)) KX10_aPerson h.1 Q 0 [some (vR a0), none, none] [] h) : WP X XL d 234 [vR a0] h Q := by
  obtain ⟨d, rfl⟩ : ∃ d', d = d' + 1 := ⟨d - 1, by omega⟩
  exact WP_in0 (y := 234) (by decide) rfl (Nat.le_of_ble_eq_true rfl) rfl q
theorem eX10_aPlant {X : Int → Int} {XL : Int} {d : Nat} {h : Mem} {Q : RetP} {a0 : Nat} (hd : 1 ≤ d) (q : Ex (WP X XL (d - 1)) KX10_aPlant h.1 Q 0 [some (vR a0), none] [] h) : WP X XL d 235 [vR a0] h Q := by
  obtain ⟨d, rfl⟩ : ∃ d', d = d' + 1 := ⟨d - 1, by omega⟩
  exact WP_in0 (y := 235) (by decide) rfl (Nat.le_of_ble_eq_true rfl) rfl q
theorem eX10_viaductPart {X : Int → Int} {XL : Int} {d : Nat} {h : Mem} {Q : RetP} {a0 : Nat} (hd : 1 ≤ d) (q : Ex (WP X XL (d - 1)) KX10_viaductPart h.1 Q 0 [some (vR a0), none, none] [] h) : WP X XL d 236 [vR a0] h Q := by
  obtain ⟨d, rfl⟩ : ∃ d', d = d' + 1 := ⟨d - 1, by omega⟩
  exact WP_in0 (y := 236) (by decide) rfl (Nat.le_of_ble_eq_true rfl) rfl q
theorem eX10_viaduct {X : Int → Int} {XL : Int} {d : Nat} {h : Mem} {Q : RetP} {a0 : Nat} {a1 : Int} (hd : 1 ≤ d) (q : Ex (WP X XL (d - 1)) KX10_viaduct h.1 Q 0 [some (vR a0), some (vI a1), none, none] [] h) : WP X XL d 237 [vR a0, vI a1] h Q := by
  obtain ⟨d, rfl⟩ : ∃ d', d = d' + 1 := ⟨d - 1, by omega⟩
  exact WP_in0 (y := 237) (by decide) rfl (Nat.le_of_ble_eq_true rfl) rfl q
theorem eX10_personTo {X : Int → Int} {XL : Int} {d : Nat} {h : Mem} {Q : RetP} {a0 : Nat} {a1 : Int} (hd : 1 ≤ d) (q : Ex (WP X XL (d - 1)) KX10_personTo h.1 Q 0 [some (vR a0), some (vI a1)] [] h) : WP X XL d 238 [vR a0, vI a1] h Q := by
  obtain ⟨d, rfl⟩ : ∃ d', d = d' + 1 := ⟨d - 1, by omega⟩
  exact WP_in0 (y := 238) (by decide) rfl (Nat.le_of_ble_eq_true rfl) rfl q
theorem eX10_archTo {X : Int → Int} {XL : Int} {d : Nat} {h : Mem} {Q : RetP} {a0 : Nat} {a1 : Int} (hd : 1 ≤ d) (q : Ex (WP X XL (d - 1)) KX10_archTo h.1 Q 0 [some (vR a0), some (vI a1)] [] h) : WP X XL d 239 [vR a0, vI a1] h Q := by
  obtain ⟨d, rfl⟩ : ∃ d', d = d' + 1 := ⟨d - 1, by omega⟩
  exact WP_in0 (y := 239) (by decide) rfl (Nat.le_of_ble_eq_true rfl) rfl q
theorem eX10_test {X : Int → Int} {XL : Int} {d : Nat} {h : Mem} {Q : RetP} {a0 : Nat} {a1 : Int} (hd : 1 ≤ d) (q : Ex (WP X XL (d - 1)) KX10_test h.1 Q 0 [some (vR a0), some (vI a1), none, none] [] h) : WP X XL d 240 [vR a0, vI a1] h Q := by
  obtain ⟨d, rfl⟩ : ∃ d', d = d' + 1 := ⟨d - 1, by omega⟩
  exact WP_in0 (y := 240) (by decide) rfl (Nat.le_of_ble_eq_true rfl) rfl q
theorem eX10_decadeOrder {X : Int → Int} {XL : Int} {d : Nat} {h : Mem} {Q : RetP} {a0 : Nat} {a1 : Int} {a2 : Int} (hd : 1 ≤ d) (q : Ex (WP X XL (d - 1)) KX10_decadeOrder h.1 Q 0 [some (vR a0), some (vI a1), some (vI a2)] [] h) : WP X XL d 241 [vR a0, vI a1, vI a2] h Q := by
  obtain ⟨d, rfl⟩ : ∃ d', d = d' + 1 := ⟨d - 1, by omega⟩
  exact WP_in0 (y := 241) (by decide) rfl (Nat.le_of_ble_eq_true rfl) rfl q
theorem eX10_decadeStep {X : Int → Int} {XL : Int} {d : Nat} {h : Mem} {Q : RetP} {a0 : Nat} (hd : 1 ≤ d) (q : Ex (WP X XL (d - 1)) KX10_decadeStep h.1 Q 0 [some (vR a0), none, none, none, none, none] [] h) : WP X XL d 242 [vR a0] h Q := by
  obtain ⟨d, rfl⟩ : ∃ d', d = d' + 1 := ⟨d - 1, by omega⟩
  exact WP_in0 (y := 242) (by decide) rfl (Nat.le_of_ble_eq_true rfl) rfl q
theorem eX10_decades {X : Int → Int} {XL : Int} {d : Nat} {h : Mem} {Q : RetP} {a0 : Nat} {a1 : Int} (hd : 1 ≤ d) (q : Ex (WP X XL (d - 1)) KX10_decades h.1 Q 0 [some (vR a0), some (vI a1), none, none] [] h) : WP X XL d 243 [vR a0, vI a1] h Q := by
  obtain ⟨d, rfl⟩ : ∃ d', d = d' + 1 := ⟨d - 1, by omega⟩
  exact WP_in0 (y := 243) (by decide) rfl (Nat.le_of_ble_eq_true rfl) rfl q
theorem eX10_isArch {X : Int → Int} {XL : Int} {d : Nat} {h : Mem} {Q : RetP} {a0 : Nat} {a1 : Int} (hd : 1 ≤ d) (q : Ex (WP X XL (d - 1)) KX10_isArch h.1 Q 0 [some (vR a0), some (vI a1)] [] h) : WP X XL d 244 [vR a0, vI a1] h Q := by
  obtain ⟨d, rfl⟩ : ∃ d', d = d' + 1 := ⟨d - 1, by omega⟩
  exact WP_in0 (y := 244) (by decide) rfl (Nat.le_of_ble_eq_true rfl) rfl q
theorem eX10_isPerson {X : Int → Int} {XL : Int} {d : Nat} {h : Mem} {Q : RetP} {a0 : Nat} {a1 : Int} (hd : 1 ≤ d) (q : Ex (WP X XL (d - 1)) KX10_isPerson h.1 Q 0 [some (vR a0), some (vI a1)] [] h) : WP X XL d 245 [vR a0, vI a1] h Q := by
  obtain ⟨d, rfl⟩ : ∃ d', d = d' + 1 := ⟨d - 1, by omega⟩
  exact WP_in0 (y := 245) (by decide) rfl (Nat.le_of_ble_eq_true rfl) rfl q
theorem eX10_arePeople {X : Int → Int} {XL : Int} {d : Nat} {h : Mem} {Q : RetP} {a0 : Nat} {a1 : Int} (hd : 1 ≤ d) (q : Ex (WP X XL (d - 1)) KX10_arePeople h.1 Q 0 [some (vR a0), some (vL a1), none] [] h) : WP X XL d 246 [vR a0, vL a1] h Q := by
  obtain ⟨d, rfl⟩ : ∃ d', d = d' + 1 := ⟨d - 1, by omega⟩
  exact WP_in0 (y := 246) (by decide) rfl (Nat.le_of_ble_eq_true rfl) rfl q
theorem eX10_isIn {X : Int → Int} {XL : Int} {d : Nat} {h : Mem} {Q : RetP} {a0 : Nat} {a1 : Int} {a2 : Int} (hd : 1 ≤ d) (q : Ex (WP X XL (d - 1)) KX10_isIn h.1 Q 0 [some (vR a0), some (vI a1), some (vI a2)] [] h) : WP X XL d 247 [vR a0, vI a1, vI a2] h Q := by
  obtain ⟨d, rfl⟩ : ∃ d', d = d' + 1 := ⟨d - 1, by omega⟩
  exact WP_in0 (y := 247) (by decide) rfl (Nat.le_of_ble_eq_true rfl) rfl q
theorem eX10_bits {X : Int → Int} {XL : Int} {d : Nat} {h : Mem} {Q : RetP} {a0 : Int} (hd : 1 ≤ d) (q : Ex (WP X XL (d - 1)) KX10_bits h.1 Q 0 [some (vI a0), none, none] [] h) : WP X XL d 248 [vI a0] h Q := by
  obtain ⟨d, rfl⟩ : ∃ d', d = d' + 1 := ⟨d - 1, by omega⟩
  exact WP_in0 (y := 248) (by decide) rfl (Nat.le_of_ble_eq_true rfl) rfl q
theorem eX10_firstOf {X : Int → Int} {XL : Int} {d : Nat} {h : Mem} {Q : RetP} {a0 : Int} (hd : 1 ≤ d) (q : Ex (WP X XL (d - 1)) KX10_firstOf h.1 Q 0 [some (vI a0), none] [] h) : WP X XL d 249 [vI a0] h Q := by
  obtain ⟨d, rfl⟩ : ∃ d', d = d' + 1 := ⟨d - 1, by omega⟩
  exact WP_in0 (y := 249) (by decide) rfl (Nat.le_of_ble_eq_true rfl) rfl q
theorem eX10_archOf {X : Int → Int} {XL : Int} {d : Nat} {h : Mem} {Q : RetP} {a0 : Nat} {a1 : Int} {a2 : Int} (hd : 1 ≤ d) (q : Ex (WP X XL (d - 1)) KX10_archOf h.1 Q 0 [some (vR a0), some (vI a1), some (vI a2)] [] h) : WP X XL d 250 [vR a0, vI a1, vI a2] h Q := by
  obtain ⟨d, rfl⟩ : ∃ d', d = d' + 1 := ⟨d - 1, by omega⟩
  exact WP_in0 (y := 250) (by decide) rfl (Nat.le_of_ble_eq_true rfl) rfl q
theorem eX10_personOf {X : Int → Int} {XL : Int} {d : Nat} {h : Mem} {Q : RetP} {a0 : Nat} {a1 : Int} {a2 : Int} (hd : 1 ≤ d) (q : Ex (WP X XL (d - 1)) KX10_personOf h.1 Q 0 [some (vR a0), some (vI a1), some (vI a2)] [] h) : WP X XL d 251 [vR a0, vI a1, vI a2] h Q := by
  obtain ⟨d, rfl⟩ : ∃ d', d = d' + 1 := ⟨d - 1, by omega⟩
  exact WP_in0 (y := 251) (by decide) rfl (Nat.le_of_ble_eq_true rfl) rfl q
theorem eX10_dimOf {X : Int → Int} {XL : Int} {d : Nat} {h : Mem} {Q : RetP} {a0 : Nat} {a1 : Int} (hd : 1 ≤ d) (q : Ex (WP X XL (d - 1)) KX10_dimOf h.1 Q 0 [some (vR a0), some (vI a1)] [] h) : WP X XL d 252 [vR a0, vI a1] h Q := by
  obtain ⟨d, rfl⟩ : ∃ d', d = d' + 1 := ⟨d - 1, by omega⟩
  exact WP_in0 (y := 252) (by decide) rfl (Nat.le_of_ble_eq_true rfl) rfl q
theorem eX10_strainBy {X : Int → Int} {XL : Int} {d : Nat} {h : Mem} {Q : RetP} {a0 : Nat} {a1 : Int} {a2 : Int} (hd : 1 ≤ d) (q : Ex (WP X XL (d - 1)) KX10_strainBy h.1 Q 0 [some (vR a0), some (vI a1), some (vI a2)] [] h) : WP X XL d 253 [vR a0, vI a1, vI a2] h Q := by
  obtain ⟨d, rfl⟩ : ∃ d', d = d' + 1 := ⟨d - 1, by omega⟩
  exact WP_in0 (y := 253) (by decide) rfl (Nat.le_of_ble_eq_true rfl) rfl q
theorem eX10_strainBoth {X : Int → Int} {XL : Int} {d : Nat} {h : Mem} {Q : RetP} {a0 : Nat} {a1 : Int} {a2 : Int} {a3 : Int} (hd : 1 ≤ d) (q : Ex (WP X XL (d - 1)) KX10_strainBoth h.1 Q 0 [some (vR a0), some (vI a1), some (vI a2), some (vI a3), none, none, none] [] h) : WP X XL d 254 [vR a0, vI a1, vI a2, vI a3] h Q := by
  obtain ⟨d, rfl⟩ : ∃ d', d = d' + 1 := ⟨d - 1, by omega⟩
  exact WP_in0 (y := 254) (by decide) rfl (Nat.le_of_ble_eq_true rfl) rfl q
theorem eX10_bears {X : Int → Int} {XL : Int} {d : Nat} {h : Mem} {Q : RetP} {a0 : Nat} {a1 : Int} {a2 : Int} {a3 : Int} (hd : 1 ≤ d) (q : Ex (WP X XL (d - 1)) KX10_bears h.1 Q 0 [some (vR a0), some (vI a1), some (vI a2), some (vI a3)] [] h) : WP X XL d 255 [vR a0, vI a1, vI a2, vI a3] h Q := by
  obtain ⟨d, rfl⟩ : ∃ d', d = d' + 1 := ⟨d - 1, by omega⟩
  exact WP_in0 (y := 255) (by decide) rfl (Nat.le_of_ble_eq_true rfl) rfl q
theorem eX10_isOver {X : Int → Int} {XL : Int} {d : Nat} {h : Mem} {Q : RetP} {a0 : Nat} {a1 : Int} (hd : 1 ≤ d) (q : Ex (WP X XL (d - 1)) KX10_isOver h.1 Q 0 [some (vR a0), some (vI a1)] [] h) : WP X XL d 256 [vR a0, vI a1] h Q := by
  obtain ⟨d, rfl⟩ : ∃ d', d = d' + 1 := ⟨d - 1, by omega⟩
  exact WP_in0 (y := 256) (by decide) rfl (Nat.le_of_ble_eq_true rfl) rfl q
theorem eX10_areOver {X : Int → Int} {XL : Int} {d : Nat} {h : Mem} {Q : RetP} {a0 : Nat} (hd : 1 ≤ d) (q : Ex (WP X XL (d - 1)) KX10_areOver h.1 Q 0 [some (vR a0), none, none] [] h) : WP X XL d 257 [vR a0] h Q := by
  obtain ⟨d, rfl⟩ : ∃ d', d = d' + 1 := ⟨d - 1, by omega⟩
  exact WP_in0 (y := 257) (by decide) rfl (Nat.le_of_ble_eq_true rfl) rfl q
theorem eX10_borneBy {X : Int → Int} {XL : Int} {d : Nat} {h : Mem} {Q : RetP} {a0 : Nat} {a1 : Int} (hd : 1 ≤ d) (q : Ex (WP X XL (d - 1)) KX10_borneBy h.1 Q 0 [some (vR a0), some (vI a1), none, none] [] h) : WP X XL d 258 [vR a0, vI a1] h Q := by
  obtain ⟨d, rfl⟩ : ∃ d', d = d' + 1 := ⟨d - 1, by omega⟩
  exact WP_in0 (y := 258) (by decide) rfl (Nat.le_of_ble_eq_true rfl) rfl q
theorem eX10_together {X : Int → Int} {XL : Int} {d : Nat} {h : Mem} {Q : RetP} {a0 : Nat} {a1 : Int} (hd : 1 ≤ d) (q : Ex (WP X XL (d - 1)) KX10_together h.1 Q 0 [some (vR a0), some (vI a1), none, none] [] h) : WP X XL d 259 [vR a0, vI a1] h Q := by
  obtain ⟨d, rfl⟩ : ∃ d', d = d' + 1 := ⟨d - 1, by omega⟩
  exact WP_in0 (y := 259) (by decide) rfl (Nat.le_of_ble_eq_true rfl) rfl q
theorem eX10_told {X : Int → Int} {XL : Int} {d : Nat} {h : Mem} {Q : RetP} {a0 : Nat} {a1 : Int} (hd : 1 ≤ d) (q : Ex (WP X XL (d - 1)) KX10_told h.1 Q 0 [some (vR a0), some (vI a1)] [] h) : WP X XL d 260 [vR a0, vI a1] h Q := by
  obtain ⟨d, rfl⟩ : ∃ d', d = d' + 1 := ⟨d - 1, by omega⟩
  exact WP_in0 (y := 260) (by decide) rfl (Nat.le_of_ble_eq_true rfl) rfl q
theorem eX10_arch {X : Int → Int} {XL : Int} {d : Nat} {h : Mem} {Q : RetP} {a0 : Nat} {a1 : Int} {a2 : Int} (hd : 1 ≤ d) (q : Ex (WP X XL (d - 1)) KX10_arch h.1 Q 0 [some (vR a0), some (vI a1), some (vI a2)] [] h) : WP X XL d 261 [vR a0, vI a1, vI a2] h Q := by
  obtain ⟨d, rfl⟩ : ∃ d', d = d' + 1 := ⟨d - 1, by omega⟩
  exact WP_in0 (y := 261) (by decide) rfl (Nat.le_of_ble_eq_true rfl) rfl q
theorem eX10_person {X : Int → Int} {XL : Int} {d : Nat} {h : Mem} {Q : RetP} {a0 : Nat} {a1 : Int} {a2 : Int} (hd : 1 ≤ d) (q : Ex (WP X XL (d - 1)) KX10_person h.1 Q 0 [some (vR a0), some (vI a1), some (vI a2)] [] h) : WP X XL d 262 [vR a0, vI a1, vI a2] h Q := by
  obtain ⟨d, rfl⟩ : ∃ d', d = d' + 1 := ⟨d - 1, by omega⟩
  exact WP_in0 (y := 262) (by decide) rfl (Nat.le_of_ble_eq_true rfl) rfl q
theorem eX10_plant {X : Int → Int} {XL : Int} {d : Nat} {h : Mem} {Q : RetP} {a0 : Nat} {a1 : Int} {a2 : Int} (hd : 1 ≤ d) (q : Ex (WP X XL (d - 1)) KX10_plant h.1 Q 0 [some (vR a0), some (vI a1), some (vI a2)] [] h) : WP X XL d 263 [vR a0, vI a1, vI a2] h Q := by
  obtain ⟨d, rfl⟩ : ∃ d', d = d' + 1 := ⟨d - 1, by omega⟩
  exact WP_in0 (y := 263) (by decide) rfl (Nat.le_of_ble_eq_true rfl) rfl q
theorem eX10_goes {X : Int → Int} {XL : Int} {d : Nat} {h : Mem} {Q : RetP} {a0 : Nat} {a1 : Int} {a2 : Int} (hd : 1 ≤ d) (q : Ex (WP X XL (d - 1)) KX10_goes h.1 Q 0 [some (vR a0), some (vI a1), some (vI a2)] [] h) : WP X XL d 264 [vR a0, vI a1, vI a2] h Q := by
  obtain ⟨d, rfl⟩ : ∃ d', d = d' + 1 := ⟨d - 1, by omega⟩
  exact WP_in0 (y := 264) (by decide) rfl (Nat.le_of_ble_eq_true rfl) rfl q
theorem eX10_paysAt {X : Int → Int} {XL : Int} {d : Nat} {h : Mem} {Q : RetP} {a0 : Nat} {a1 : Int} {a2 : Int} (hd : 1 ≤ d) (q : Ex (WP X XL (d - 1)) KX10_paysAt h.1 Q 0 [some (vR a0), some (vI a1), some (vI a2)] [] h) : WP X XL d 265 [vR a0, vI a1, vI a2] h Q := by
  obtain ⟨d, rfl⟩ : ∃ d', d = d' + 1 := ⟨d - 1, by omega⟩
  exact WP_in0 (y := 265) (by decide) rfl (Nat.le_of_ble_eq_true rfl) rfl q
theorem eX10_mayFall {X : Int → Int} {XL : Int} {d : Nat} {h : Mem} {Q : RetP} {a0 : Nat} {a1 : Int} (hd : 1 ≤ d) (q : Ex (WP X XL (d - 1)) KX10_mayFall h.1 Q 0 [some (vR a0), some (vI a1)] [] h) : WP X XL d 266 [vR a0, vI a1] h Q := by
  obtain ⟨d, rfl⟩ : ∃ d', d = d' + 1 := ⟨d - 1, by omega⟩
  exact WP_in0 (y := 266) (by decide) rfl (Nat.le_of_ble_eq_true rfl) rfl q
theorem eX10_runs {X : Int → Int} {XL : Int} {d : Nat} {h : Mem} {Q : RetP} {a0 : Nat} {a1 : Int} {a2 : Int} (hd : 1 ≤ d) (q : Ex (WP X XL (d - 1)) KX10_runs h.1 Q 0 [some (vR a0), some (vI a1), some (vI a2), none, none] [] h) : WP X XL d 267 [vR a0, vI a1, vI a2] h Q := by
  obtain ⟨d, rfl⟩ : ∃ d', d = d' + 1 := ⟨d - 1, by omega⟩
  exact WP_in0 (y := 267) (by decide) rfl (Nat.le_of_ble_eq_true rfl) rfl q
theorem eX10_run {X : Int → Int} {XL : Int} {d : Nat} {h : Mem} {Q : RetP} {a0 : Nat} {a1 : Int} (hd : 1 ≤ d) (q : Ex (WP X XL (d - 1)) KX10_run h.1 Q 0 [some (vR a0), some (vI a1)] [] h) : WP X XL d 268 [vR a0, vI a1] h Q := by
  obtain ⟨d, rfl⟩ : ∃ d', d = d' + 1 := ⟨d - 1, by omega⟩
  exact WP_in0 (y := 268) (by decide) rfl (Nat.le_of_ble_eq_true rfl) rfl q
theorem eX10_canRope {X : Int → Int} {XL : Int} {d : Nat} {h : Mem} {Q : RetP} {a0 : Nat} {a1 : Int} {a2 : Int} (hd : 1 ≤ d) (q : Ex (WP X XL (d - 1)) KX10_canRope h.1 Q 0 [some (vR a0), some (vI a1), some (vI a2)] [] h) : WP X XL d 269 [vR a0, vI a1, vI a2] h Q := by
  obtain ⟨d, rfl⟩ : ∃ d', d = d' + 1 := ⟨d - 1, by omega⟩
  exact WP_in0 (y := 269) (by decide) rfl (Nat.le_of_ble_eq_true rfl) rfl q
theorem eX10_rope {X : Int → Int} {XL : Int} {d : Nat} {h : Mem} {Q : RetP} {a0 : Nat} {a1 : Int} {a2 : Int} (hd : 1 ≤ d) (q : Ex (WP X XL (d - 1)) KX10_rope h.1 Q 0 [some (vR a0), some (vI a1), some (vI a2)] [] h) : WP X XL d 270 [vR a0, vI a1, vI a2] h Q := by
  obtain ⟨d, rfl⟩ : ∃ d', d = d' + 1 := ⟨d - 1, by omega⟩
  exact WP_in0 (y := 270) (by decide) rfl (Nat.le_of_ble_eq_true rfl) rfl q
theorem eX10_jumps {X : Int → Int} {XL : Int} {d : Nat} {h : Mem} {Q : RetP} {a0 : Nat} {a1 : Int} (hd : 1 ≤ d) (q : Ex (WP X XL (d - 1)) KX10_jumps h.1 Q 0 [some (vR a0), some (vI a1), none] [] h) : WP X XL d 271 [vR a0, vI a1] h Q := by
  obtain ⟨d, rfl⟩ : ∃ d', d = d' + 1 := ⟨d - 1, by omega⟩
  exact WP_in0 (y := 271) (by decide) rfl (Nat.le_of_ble_eq_true rfl) rfl q
theorem eX10_jump {X : Int → Int} {XL : Int} {d : Nat} {h : Mem} {Q : RetP} {a0 : Nat} {a1 : Int} (hd : 1 ≤ d) (q : Ex (WP X XL (d - 1)) KX10_jump h.1 Q 0 [some (vR a0), some (vI a1)] [] h) : WP X XL d 272 [vR a0, vI a1] h Q := by
  obtain ⟨d, rfl⟩ : ∃ d', d = d' + 1 := ⟨d - 1, by omega⟩
  exact WP_in0 (y := 272) (by decide) rfl (Nat.le_of_ble_eq_true rfl) rfl q
theorem eX10_homes {X : Int → Int} {XL : Int} {d : Nat} {h : Mem} {Q : RetP} {a0 : Nat} {a1 : Int} (hd : 1 ≤ d) (q : Ex (WP X XL (d - 1)) KX10_homes h.1 Q 0 [some (vR a0), some (vI a1), none] [] h) : WP X XL d 273 [vR a0, vI a1] h Q := by
  obtain ⟨d, rfl⟩ : ∃ d', d = d' + 1 := ⟨d - 1, by omega⟩
  exact WP_in0 (y := 273) (by decide) rfl (Nat.le_of_ble_eq_true rfl) rfl q
theorem eX10_home {X : Int → Int} {XL : Int} {d : Nat} {h : Mem} {Q : RetP} {a0 : Nat} {a1 : Int} (hd : 1 ≤ d) (q : Ex (WP X XL (d - 1)) KX10_home h.1 Q 0 [some (vR a0), some (vI a1), none] [] h) : WP X XL d 274 [vR a0, vI a1] h Q := by
  obtain ⟨d, rfl⟩ : ∃ d', d = d' + 1 := ⟨d - 1, by omega⟩
  exact WP_in0 (y := 274) (by decide) rfl (Nat.le_of_ble_eq_true rfl) rfl q
theorem eX10_dayGoes {X : Int → Int} {XL : Int} {d : Nat} {h : Mem} {Q : RetP} {a0 : Nat} (hd : 1 ≤ d) (q : Ex (WP X XL (d - 1)) KX10_dayGoes h.1 Q 0 [some (vR a0), none, none] [] h) : WP X XL d 275 [vR a0] h Q := by
  obtain ⟨d, rfl⟩ : ∃ d', d = d' + 1 := ⟨d - 1, by omega⟩
  exact WP_in0 (y := 275) (by decide) rfl (Nat.le_of_ble_eq_true rfl) rfl q
theorem eX10_daysGo {X : Int → Int} {XL : Int} {d : Nat} {h : Mem} {Q : RetP} {a0 : Nat} {a1 : Int} (hd : 1 ≤ d) (q : Ex (WP X XL (d - 1)) KX10_daysGo h.1 Q 0 [some (vR a0), some (vI a1), none] [] h) : WP X XL d 276 [vR a0, vI a1] h Q := by
  obtain ⟨d, rfl⟩ : ∃ d', d = d' + 1 := ⟨d - 1, by omega⟩
  exact WP_in0 (y := 276) (by decide) rfl (Nat.le_of_ble_eq_true rfl) rfl q
theorem eX10_day {X : Int → Int} {XL : Int} {d : Nat} {h : Mem} {Q : RetP} {a0 : Nat} {a1 : Int} (hd : 1 ≤ d) (q : Ex (WP X XL (d - 1)) KX10_day h.1 Q 0 [some (vR a0), some (vI a1), none, none] [] h) : WP X XL d 277 [vR a0, vI a1] h Q := by
  obtain ⟨d, rfl⟩ : ∃ d', d = d' + 1 := ⟨d - 1, by omega⟩
  exact WP_in0 (y := 277) (by decide) rfl (Nat.le_of_ble_eq_true rfl) rfl q
theorem eX10_teach {X : Int → Int} {XL : Int} {d : Nat} {h : Mem} {Q : RetP} {a0 : Nat} {a1 : Int} {a2 : Int} {a3 : Int} (hd : 1 ≤ d) (q : Ex (WP X XL (d - 1)) KX10_teach h.1 Q 0 [some (vR a0), some (vI a1), some (vI a2), some (vI a3)] [] h) : WP X XL d 278 [vR a0, vI a1, vI a2, vI a3] h Q := by
  obtain ⟨d, rfl⟩ : ∃ d', d = d' + 1 := ⟨d - 1, by omega⟩
  exact WP_in0 (y := 278) (by decide) rfl (Nat.le_of_ble_eq_true rfl) rfl q
theorem eX10_come {X : Int → Int} {XL : Int} {d : Nat} {h : Mem} {Q : RetP} {a0 : Nat} {a1 : Int} (hd : 1 ≤ d) (q : Ex (WP X XL (d - 1)) KX10_come h.1 Q 0 [some (vR a0), some (vI a1), none, none] [] h) : WP X XL d 279 [vR a0, vI a1] h Q := by
  obtain ⟨d, rfl⟩ : ∃ d', d = d' + 1 := ⟨d - 1, by omega⟩
  exact WP_in0 (y := 279) (by decide) rfl (Nat.le_of_ble_eq_true rfl) rfl q
theorem eX10_build {X : Int → Int} {XL : Int} {d : Nat} {h : Mem} {Q : RetP} {a0 : Nat} {a1 : Int} {a2 : Int} (hd : 1 ≤ d) (q : Ex (WP X XL (d - 1)) KX10_build h.1 Q 0 [some (vR a0), some (vI a1), some (vI a2), none] [] h) : WP X XL d 280 [vR a0, vI a1, vI a2] h Q := by
  obtain ⟨d, rfl⟩ : ∃ d', d = d' + 1 := ⟨d - 1, by omega⟩
  exact WP_in0 (y := 280) (by decide) rfl (Nat.le_of_ble_eq_true rfl) rfl q
theorem eX10_sow {X : Int → Int} {XL : Int} {d : Nat} {h : Mem} {Q : RetP} {a0 : Nat} {a1 : Int} {a2 : Int} (hd : 1 ≤ d) (q : Ex (WP X XL (d - 1)) KX10_sow h.1 Q 0 [some (vR a0), some (vI a1), some (vI a2), none] [] h) : WP X XL d 281 [vR a0, vI a1, vI a2] h Q := by
  obtain ⟨d, rfl⟩ : ∃ d', d = d' + 1 := ⟨d - 1, by omega⟩
  exact WP_in0 (y := 281) (by decide) rfl (Nat.le_of_ble_eq_true rfl) rfl q
theorem eX10_rule {X : Int → Int} {XL : Int} {d : Nat} {h : Mem} {Q : RetP} {a0 : Nat} {a1 : Int} {a2 : Int} (hd : 1 ≤ d) (q : Ex (WP X XL (d - 1)) KX10_rule h.1 Q 0 [some (vR a0), some (vI a1), some (vI a2)] [] h) : WP X XL d 282 [vR a0, vI a1, vI a2] h Q := by
  obtain ⟨d, rfl⟩ : ∃ d', d = d' + 1 := ⟨d - 1, by omega⟩
  exact WP_in0 (y := 282) (by decide) rfl (Nat.le_of_ble_eq_true rfl) rfl q
theorem eX10_levelAt {X : Int → Int} {XL : Int} {d : Nat} {h : Mem} {Q : RetP} {a0 : Int} (hd : 1 ≤ d) (q : Ex (WP X XL (d - 1)) KX10_levelAt h.1 Q 0 [some (vI a0)] [] h) : WP X XL d 283 [vI a0] h Q := by
  obtain ⟨d, rfl⟩ : ∃ d', d = d' + 1 := ⟨d - 1, by omega⟩
  exact WP_in0 (y := 283) (by decide) rfl (Nat.le_of_ble_eq_true rfl) rfl q
theorem eX10_keeps {X : Int → Int} {XL : Int} {d : Nat} {h : Mem} {Q : RetP} {a0 : Nat} {a1 : Int} (hd : 1 ≤ d) (q : Ex (WP X XL (d - 1)) KX10_keeps h.1 Q 0 [some (vR a0), some (vI a1), none] [] h) : WP X XL d 284 [vR a0, vI a1] h Q := by
  obtain ⟨d, rfl⟩ : ∃ d', d = d' + 1 := ⟨d - 1, by omega⟩
  exact WP_in0 (y := 284) (by decide) rfl (Nat.le_of_ble_eq_true rfl) rfl q
theorem eX10_restores {X : Int → Int} {XL : Int} {d : Nat} {h : Mem} {Q : RetP} {a0 : Nat} {a1 : Int} (hd : 1 ≤ d) (q : Ex (WP X XL (d - 1)) KX10_restores h.1 Q 0 [some (vR a0), some (vI a1), none] [] h) : WP X XL d 285 [vR a0, vI a1] h Q := by
  obtain ⟨d, rfl⟩ : ∃ d', d = d' + 1 := ⟨d - 1, by omega⟩
  exact WP_in0 (y := 285) (by decide) rfl (Nat.le_of_ble_eq_true rfl) rfl q
theorem eX10_strain {X : Int → Int} {XL : Int} {d : Nat} {h : Mem} {Q : RetP} {a0 : Nat} {a1 : Int} {a2 : Int} (hd : 1 ≤ d) (q : Ex (WP X XL (d - 1)) KX10_strain h.1 Q 0 [some (vR a0), some (vI a1), some (vI a2)] [] h) : WP X XL d 286 [vR a0, vI a1, vI a2] h Q := by
  obtain ⟨d, rfl⟩ : ∃ d', d = d' + 1 := ⟨d - 1, by omega⟩
  exact WP_in0 (y := 286) (by decide) rfl (Nat.le_of_ble_eq_true rfl) rfl q
theorem eX10_strainOf {X : Int → Int} {XL : Int} {d : Nat} {h : Mem} {Q : RetP} {a0 : Nat} {a1 : Int} {a2 : Int} {a3 : Int} (hd : 1 ≤ d) (q : Ex (WP X XL (d - 1)) KX10_strainOf h.1 Q 0 [some (vR a0), some (vI a1), some (vI a2), some (vI a3)] [] h) : WP X XL d 287 [vR a0, vI a1, vI a2, vI a3] h Q := by
  obtain ⟨d, rfl⟩ : ∃ d', d = d' + 1 := ⟨d - 1, by omega⟩
  exact WP_in0 (y := 287) (by decide) rfl (Nat.le_of_ble_eq_true rfl) rfl q
theorem eX10_reachOf {X : Int → Int} {XL : Int} {d : Nat} {h : Mem} {Q : RetP} {a0 : Nat} {a1 : Int} {a2 : Int} (hd : 1 ≤ d) (q : Ex (WP X XL (d - 1)) KX10_reachOf h.1 Q 0 [some (vR a0), some (vI a1), some (vI a2), none] [] h) : WP X XL d 288 [vR a0, vI a1, vI a2] h Q := by
  obtain ⟨d, rfl⟩ : ∃ d', d = d' + 1 := ⟨d - 1, by omega⟩
  exact WP_in0 (y := 288) (by decide) rfl (Nat.le_of_ble_eq_true rfl) rfl q
theorem eX10_reach {X : Int → Int} {XL : Int} {d : Nat} {h : Mem} {Q : RetP} {a0 : Nat} {a1 : Int} (hd : 1 ≤ d) (q : Ex (WP X XL (d - 1)) KX10_reach h.1 Q 0 [some (vR a0), some (vI a1)] [] h) : WP X XL d 289 [vR a0, vI a1] h Q := by
  obtain ⟨d, rfl⟩ : ∃ d', d = d' + 1 := ⟨d - 1, by omega⟩
  exact WP_in0 (y := 289) (by decide) rfl (Nat.le_of_ble_eq_true rfl) rfl q
theorem eX10_reachIn {X : Int → Int} {XL : Int} {d : Nat} {h : Mem} {Q : RetP} {a0 : Nat} {a1 : Int} {a2 : Int} (hd : 1 ≤ d) (q : Ex (WP X XL (d - 1)) KX10_reachIn h.1 Q 0 [some (vR a0), some (vI a1), some (vI a2)] [] h) : WP X XL d 290 [vR a0, vI a1, vI a2] h Q := by
  obtain ⟨d, rfl⟩ : ∃ d', d = d' + 1 := ⟨d - 1, by omega⟩
  exact WP_in0 (y := 290) (by decide) rfl (Nat.le_of_ble_eq_true rfl) rfl q
theorem eX10_stopOf {X : Int → Int} {XL : Int} {d : Nat} {h : Mem} {Q : RetP} {a0 : Nat} {a1 : Int} {a2 : Int} {a3 : Int} (hd : 1 ≤ d) (q : Ex (WP X XL (d - 1)) KX10_stopOf h.1 Q 0 [some (vR a0), some (vI a1), some (vI a2), some (vI a3), none] [] h) : WP X XL d 291 [vR a0, vI a1, vI a2, vI a3] h Q := by
  obtain ⟨d, rfl⟩ : ∃ d', d = d' + 1 := ⟨d - 1, by omega⟩
  exact WP_in0 (y := 291) (by decide) rfl (Nat.le_of_ble_eq_true rfl) rfl q
theorem eX10_stops {X : Int → Int} {XL : Int} {d : Nat} {h : Mem} {Q : RetP} {a0 : Nat} {a1 : Int} (hd : 1 ≤ d) (q : Ex (WP X XL (d - 1)) KX10_stops h.1 Q 0 [some (vR a0), some (vI a1)] [] h) : WP X XL d 292 [vR a0, vI a1] h Q := by
  obtain ⟨d, rfl⟩ : ∃ d', d = d' + 1 := ⟨d - 1, by omega⟩
  exact WP_in0 (y := 292) (by decide) rfl (Nat.le_of_ble_eq_true rfl) rfl q
theorem eX10_stopsBoth {X : Int → Int} {XL : Int} {d : Nat} {h : Mem} {Q : RetP} {a0 : Nat} {a1 : Int} {a2 : Int} (hd : 1 ≤ d) (q : Ex (WP X XL (d - 1)) KX10_stopsBoth h.1 Q 0 [some (vR a0), some (vI a1), some (vI a2)] [] h) : WP X XL d 293 [vR a0, vI a1, vI a2] h Q := by
  obtain ⟨d, rfl⟩ : ∃ d', d = d' + 1 := ⟨d - 1, by omega⟩
  exact WP_in0 (y := 293) (by decide) rfl (Nat.le_of_ble_eq_true rfl) rfl q
theorem eX10_pays {X : Int → Int} {XL : Int} {d : Nat} {h : Mem} {Q : RetP} {a0 : Nat} {a1 : Int} (hd : 1 ≤ d) (q : Ex (WP X XL (d - 1)) KX10_pays h.1 Q 0 [some (vR a0), some (vI a1), none, none] [] h) : WP X XL d 294 [vR a0, vI a1] h Q := by
  obtain ⟨d, rfl⟩ : ∃ d', d = d' + 1 := ⟨d - 1, by omega⟩
  exact WP_in0 (y := 294) (by decide) rfl (Nat.le_of_ble_eq_true rfl) rfl q
theorem eX10_spanOf {X : Int → Int} {XL : Int} {d : Nat} {h : Mem} {Q : RetP} {a0 : Nat} {a1 : Int} (hd : 1 ≤ d) (q : Ex (WP X XL (d - 1)) KX10_spanOf h.1 Q 0 [some (vR a0), some (vI a1), none, none, none, none] [] h) : WP X XL d 295 [vR a0, vI a1] h Q := by
  obtain ⟨d, rfl⟩ : ∃ d', d = d' + 1 := ⟨d - 1, by omega⟩
  exact WP_in0 (y := 295) (by decide) rfl (Nat.le_of_ble_eq_true rfl) rfl q
theorem eX10_span {X : Int → Int} {XL : Int} {d : Nat} {h : Mem} {Q : RetP} {a0 : Nat} {a1 : Int} (hd : 1 ≤ d) (q : Ex (WP X XL (d - 1)) KX10_span h.1 Q 0 [some (vR a0), some (vI a1)] [] h) : WP X XL d 296 [vR a0, vI a1] h Q := by
  obtain ⟨d, rfl⟩ : ∃ d', d = d' + 1 := ⟨d - 1, by omega⟩
  exact WP_in0 (y := 296) (by decide) rfl (Nat.le_of_ble_eq_true rfl) rfl q
theorem eX10_spanFrom {X : Int → Int} {XL : Int} {d : Nat} {h : Mem} {Q : RetP} {a0 : Nat} {a1 : Int} (hd : 1 ≤ d) (q : Ex (WP X XL (d - 1)) KX10_spanFrom h.1 Q 0 [some (vR a0), some (vI a1)] [] h) : WP X XL d 297 [vR a0, vI a1] h Q := by
  obtain ⟨d, rfl⟩ : ∃ d', d = d' + 1 := ⟨d - 1, by omega⟩
  exact WP_in0 (y := 297) (by decide) rfl (Nat.le_of_ble_eq_true rfl) rfl q
theorem eX10_weakest {X : Int → Int} {XL : Int} {d : Nat} {h : Mem} {Q : RetP} {a0 : Nat} (hd : 1 ≤ d) (q : Ex (WP X XL (d - 1)) KX10_weakest h.1 Q 0 [some (vR a0), none, none] [] h) : WP X XL d 298 [vR a0] h Q := by
  obtain ⟨d, rfl⟩ : ∃ d', d = d' + 1 := ⟨d - 1, by omega⟩
  exact WP_in0 (y := 298) (by decide) rfl (Nat.le_of_ble_eq_true rfl) rfl q
theorem eX10_mossIn {X : Int → Int} {XL : Int} {d : Nat} {h : Mem} {Q : RetP} {a0 : Nat} {a1 : Int} {a2 : Int} (hd : 1 ≤ d) (q : Ex (WP X XL (d - 1)) KX10_mossIn h.1 Q 0 [some (vR a0), some (vI a1), some (vI a2), none] [] h) : WP X XL d 299 [vR a0, vI a1, vI a2] h Q := by
  obtain ⟨d, rfl⟩ : ∃ d', d = d' + 1 := ⟨d - 1, by omega⟩
  exact WP_in0 (y := 299) (by decide) rfl (Nat.le_of_ble_eq_true rfl) rfl q
theorem eX10_isWell {X : Int → Int} {XL : Int} {d : Nat} {h : Mem} {Q : RetP} {a0 : Nat} {a1 : Int} {a2 : Int} (hd : 1 ≤ d) (q : Ex (WP X XL (d - 1)) KX10_isWell h.1 Q 0 [some (vR a0), some (vI a1), some (vI a2)] [] h) : WP X XL d 300 [vR a0, vI a1, vI a2] h Q := by
  obtain ⟨d, rfl⟩ : ∃ d', d = d' + 1 := ⟨d - 1, by omega⟩
  exact WP_in0 (y := 300) (by decide) rfl (Nat.le_of_ble_eq_true rfl) rfl q
theorem eX10_laysSet {X : Int → Int} {XL : Int} {d : Nat} {h : Mem} {Q : RetP} {a0 : Nat} {a1 : Int} (hd : 1 ≤ d) (q : Ex (WP X XL (d - 1)) KX10_laysSet h.1 Q 0 [some (vR a0), some (vI a1), none, none, none, none] [] h) : WP X XL d 301 [vR a0, vI a1] h Q := by
  obtain ⟨d, rfl⟩ : ∃ d', d = d' + 1 := ⟨d - 1, by omega⟩
  exact WP_in0 (y := 301) (by decide) rfl (Nat.le_of_ble_eq_true rfl) rfl q
theorem eX10_everybody {X : Int → Int} {XL : Int} {d : Nat} {h : Mem} {Q : RetP} {a0 : Nat} (hd : 1 ≤ d) (q : Ex (WP X XL (d - 1)) KX10_everybody h.1 Q 0 [some (vR a0)] [] h) : WP X XL d 302 [vR a0] h Q := by
  obtain ⟨d, rfl⟩ : ∃ d', d = d' + 1 := ⟨d - 1, by omega⟩
  exact WP_in0 (y := 302) (by decide) rfl (Nat.le_of_ble_eq_true rfl) rfl q
theorem eX10_laysGroups {X : Int → Int} {XL : Int} {d : Nat} {h : Mem} {Q : RetP} {a0 : Nat} (hd : 1 ≤ d) (q : Ex (WP X XL (d - 1)) KX10_laysGroups h.1 Q 0 [some (vR a0), none] [] h) : WP X XL d 303 [vR a0] h Q := by
  obtain ⟨d, rfl⟩ : ∃ d', d = d' + 1 := ⟨d - 1, by omega⟩
  exact WP_in0 (y := 303) (by decide) rfl (Nat.le_of_ble_eq_true rfl) rfl q
theorem eX10_most {X : Int → Int} {XL : Int} {d : Nat} {h : Mem} {Q : RetP} {a0 : Nat} (hd : 1 ≤ d) (q : Ex (WP X XL (d - 1)) KX10_most h.1 Q 0 [some (vR a0)] [] h) : WP X XL d 304 [vR a0] h Q := by
  obtain ⟨d, rfl⟩ : ∃ d', d = d' + 1 := ⟨d - 1, by omega⟩
  exact WP_in0 (y := 304) (by decide) rfl (Nat.le_of_ble_eq_true rfl) rfl q
theorem eX10_allTolls {X : Int → Int} {XL : Int} {d : Nat} {h : Mem} {Q : RetP} {a0 : Nat} (hd : 1 ≤ d) (q : Ex (WP X XL (d - 1)) KX10_allTolls h.1 Q 0 [some (vR a0), none, none] [] h) : WP X XL d 305 [vR a0] h Q := by
  obtain ⟨d, rfl⟩ : ∃ d', d = d' + 1 := ⟨d - 1, by omega⟩
  exact WP_in0 (y := 305) (by decide) rfl (Nat.le_of_ble_eq_true rfl) rfl q
theorem eX10_cheapest {X : Int → Int} {XL : Int} {d : Nat} {h : Mem} {Q : RetP} {a0 : Nat} {a1 : Int} (hd : 1 ≤ d) (q : Ex (WP X XL (d - 1)) KX10_cheapest h.1 Q 0 [some (vR a0), some (vI a1)] [] h) : WP X XL d 306 [vR a0, vI a1] h Q := by
  obtain ⟨d, rfl⟩ : ∃ d', d = d' + 1 := ⟨d - 1, by omega⟩
  exact WP_in0 (y := 306) (by decide) rfl (Nat.le_of_ble_eq_true rfl) rfl q
theorem eX10_mateOf {X : Int → Int} {XL : Int} {d : Nat} {h : Mem} {Q : RetP} {a0 : Nat} {a1 : Int} (hd : 1 ≤ d) (q : Ex (WP X XL (d - 1)) KX10_mateOf h.1 Q 0 [some (vR a0), some (vI a1), none, none, none, none] [] h) : WP X XL d 307 [vR a0, vI a1] h Q := by
  obtain ⟨d, rfl⟩ : ∃ d', d = d' + 1 := ⟨d - 1, by omega⟩
  exact WP_in0 (y := 307) (by decide) rfl (Nat.le_of_ble_eq_true rfl) rfl q
theorem eX10_mate {X : Int → Int} {XL : Int} {d : Nat} {h : Mem} {Q : RetP} {a0 : Nat} {a1 : Int} {a2 : Int} (hd : 1 ≤ d) (q : Ex (WP X XL (d - 1)) KX10_mate h.1 Q 0 [some (vR a0), some (vI a1), some (vI a2), none, none, none] [] h) : WP X XL d 308 [vR a0, vI a1, vI a2] h Q := by
  obtain ⟨d, rfl⟩ : ∃ d', d = d' + 1 := ⟨d - 1, by omega⟩
  exact WP_in0 (y := 308) (by decide) rfl (Nat.le_of_ble_eq_true rfl) rfl q
theorem eX10_jumpsFor {X : Int → Int} {XL : Int} {d : Nat} {h : Mem} {Q : RetP} {a0 : Nat} {a1 : Int} {a2 : Int} (hd : 1 ≤ d) (q : Ex (WP X XL (d - 1)) KX10_jumpsFor h.1 Q 0 [some (vR a0), some (vI a1), some (vI a2), none, none] [] h) : WP X XL d 309 [vR a0, vI a1, vI a2] h Q := by
  obtain ⟨d, rfl⟩ : ∃ d', d = d' + 1 := ⟨d - 1, by omega⟩
  exact WP_in0 (y := 309) (by decide) rfl (Nat.le_of_ble_eq_true rfl) rfl q
theorem eX10_allJumps {X : Int → Int} {XL : Int} {d : Nat} {h : Mem} {Q : RetP} {a0 : Nat} {a1 : Int} (hd : 1 ≤ d) (q : Ex (WP X XL (d - 1)) KX10_allJumps h.1 Q 0 [some (vR a0), some (vI a1), none, none, none] [] h) : WP X XL d 310 [vR a0, vI a1] h Q := by
  obtain ⟨d, rfl⟩ : ∃ d', d = d' + 1 := ⟨d - 1, by omega⟩
  exact WP_in0 (y := 310) (by decide) rfl (Nat.le_of_ble_eq_true rfl) rfl q
theorem eX10_mends {X : Int → Int} {XL : Int} {d : Nat} {h : Mem} {Q : RetP} {a0 : Nat} {a1 : Int} (hd : 1 ≤ d) (q : Ex (WP X XL (d - 1)) KX10_mends h.1 Q 0 [some (vR a0), some (vI a1)] [] h) : WP X XL d 311 [vR a0, vI a1] h Q := by
  obtain ⟨d, rfl⟩ : ∃ d', d = d' + 1 := ⟨d - 1, by omega⟩
  exact WP_in0 (y := 311) (by decide) rfl (Nat.le_of_ble_eq_true rfl) rfl q
theorem eX10_mendsAt {X : Int → Int} {XL : Int} {d : Nat} {h : Mem} {Q : RetP} {a0 : Nat} {a1 : Int} {a2 : Int} (hd : 1 ≤ d) (q : Ex (WP X XL (d - 1)) KX10_mendsAt h.1 Q 0 [some (vR a0), some (vI a1), some (vI a2)] [] h) : WP X XL d 312 [vR a0, vI a1, vI a2] h Q := by
  obtain ⟨d, rfl⟩ : ∃ d', d = d' + 1 := ⟨d - 1, by omega⟩
  exact WP_in0 (y := 312) (by decide) rfl (Nat.le_of_ble_eq_true rfl) rfl q
theorem eX10_wrongSeen {X : Int → Int} {XL : Int} {d : Nat} {h : Mem} {Q : RetP} {a0 : Nat} {a1 : Int} {a2 : Int} {a3 : Int} (hd : 1 ≤ d) (q : Ex (WP X XL (d - 1)) KX10_wrongSeen h.1 Q 0 [some (vR a0), some (vI a1), some (vI a2), some (vI a3), none, none] [] h) : WP X XL d 313 [vR a0, vI a1, vI a2, vI a3] h Q := by
  obtain ⟨d, rfl⟩ : ∃ d', d = d' + 1 := ⟨d - 1, by omega⟩
  exact WP_in0 (y := 313) (by decide) rfl (Nat.le_of_ble_eq_true rfl) rfl q
theorem eX10_laysFits {X : Int → Int} {XL : Int} {d : Nat} {h : Mem} {Q : RetP} {a0 : Nat} {a1 : Int} {a2 : Int} {a3 : Int} (hd : 1 ≤ d) (q : Ex (WP X XL (d - 1)) KX10_laysFits h.1 Q 0 [some (vR a0), some (vI a1), some (vI a2), some (vI a3), none, none, none, none] [] h) : WP X XL d 314 [vR a0, vI a1, vI a2, vI a3] h Q := by
  obtain ⟨d, rfl⟩ : ∃ d', d = d' + 1 := ⟨d - 1, by omega⟩
  exact WP_in0 (y := 314) (by decide) rfl (Nat.le_of_ble_eq_true rfl) rfl q
theorem eX10_fits {X : Int → Int} {XL : Int} {d : Nat} {h : Mem} {Q : RetP} {a0 : Nat} {a1 : Int} {a2 : Int} {a3 : Int} (hd : 1 ≤ d) (q : Ex (WP X XL (d - 1)) KX10_fits h.1 Q 0 [some (vR a0), some (vI a1), some (vI a2), some (vI a3), none] [] h) : WP X XL d 315 [vR a0, vI a1, vI a2, vI a3] h Q := by
  obtain ⟨d, rfl⟩ : ∃ d', d = d' + 1 := ⟨d - 1, by omega⟩
  exact WP_in0 (y := 315) (by decide) rfl (Nat.le_of_ble_eq_true rfl) rfl q
theorem eX10_fitsAt {X : Int → Int} {XL : Int} {d : Nat} {h : Mem} {Q : RetP} {a0 : Nat} {a1 : Int} {a2 : Int} {a3 : Int} {a4 : Int} (hd : 1 ≤ d) (q : Ex (WP X XL (d - 1)) KX10_fitsAt h.1 Q 0 [some (vR a0), some (vI a1), some (vI a2), some (vI a3), some (vI a4), none, none, none] [] h) : WP X XL d 316 [vR a0, vI a1, vI a2, vI a3, vI a4] h Q := by
  obtain ⟨d, rfl⟩ : ∃ d', d = d' + 1 := ⟨d - 1, by omega⟩
  exact WP_in0 (y := 316) (by decide) rfl (Nat.le_of_ble_eq_true rfl) rfl q
theorem eX10_mostAlike {X : Int → Int} {XL : Int} {d : Nat} {h : Mem} {Q : RetP} {a0 : Nat} {a1 : Int} (hd : 1 ≤ d) (q : Ex (WP X XL (d - 1)) KX10_mostAlike h.1 Q 0 [some (vR a0), some (vI a1), none, none, none, none] [] h) : WP X XL d 317 [vR a0, vI a1] h Q := by
  obtain ⟨d, rfl⟩ : ∃ d', d = d' + 1 := ⟨d - 1, by omega⟩
  exact WP_in0 (y := 317) (by decide) rfl (Nat.le_of_ble_eq_true rfl) rfl q
theorem eX10_ask {X : Int → Int} {XL : Int} {d : Nat} {h : Mem} {Q : RetP} {a0 : Nat} {a1 : Int} {a2 : Int} {a3 : Int} (hd : 1 ≤ d) (q : Ex (WP X XL (d - 1)) KX10_ask h.1 Q 0 [some (vR a0), some (vI a1), some (vI a2), some (vI a3), none, none, none] [] h) : WP X XL d 318 [vR a0, vI a1, vI a2, vI a3] h Q := by
  obtain ⟨d, rfl⟩ : ∃ d', d = d' + 1 := ⟨d - 1, by omega⟩
  exact WP_in0 (y := 318) (by decide) rfl (Nat.le_of_ble_eq_true rfl) rfl q
theorem eX10_settles {X : Int → Int} {XL : Int} {d : Nat} {h : Mem} {Q : RetP} {a0 : Nat} {a1 : Int} {a2 : Int} (hd : 1 ≤ d) (q : Ex (WP X XL (d - 1)) KX10_settles h.1 Q 0 [some (vR a0), some (vI a1), some (vI a2), none] [] h) : WP X XL d 319 [vR a0, vI a1, vI a2] h Q := by
  obtain ⟨d, rfl⟩ : ∃ d', d = d' + 1 := ⟨d - 1, by omega⟩
  exact WP_in0 (y := 319) (by decide) rfl (Nat.le_of_ble_eq_true rfl) rfl q
theorem eX10_doesDeed {X : Int → Int} {XL : Int} {d : Nat} {h : Mem} {Q : RetP} {a0 : Nat} {a1 : Int} {a2 : Int} (hd : 1 ≤ d) (q : Ex (WP X XL (d - 1)) KX10_doesDeed h.1 Q 0 [some (vR a0), some (vI a1), some (vI a2), none] [] h) : WP X XL d 320 [vR a0, vI a1, vI a2] h Q := by
  obtain ⟨d, rfl⟩ : ∃ d', d = d' + 1 := ⟨d - 1, by omega⟩
  exact WP_in0 (y := 320) (by decide) rfl (Nat.le_of_ble_eq_true rfl) rfl q
theorem eX10_standing {X : Int → Int} {XL : Int} {d : Nat} {h : Mem} {Q : RetP} {a0 : Nat} {a1 : Int} {a2 : Int} (hd : 1 ≤ d) (q : Ex (WP X XL (d - 1)) KX10_standing h.1 Q 0 [some (vR a0), some (vI a1), some (vI a2)] [] h) : WP X XL d 321 [vR a0, vI a1, vI a2] h Q := by
  obtain ⟨d, rfl⟩ : ∃ d', d = d' + 1 := ⟨d - 1, by omega⟩
  exact WP_in0 (y := 321) (by decide) rfl (Nat.le_of_ble_eq_true rfl) rfl q
theorem eX10_playing {X : Int → Int} {XL : Int} {d : Nat} {h : Mem} {Q : RetP} {a0 : Nat} {a1 : Int} {a2 : Int} {a3 : Int} (hd : 1 ≤ d) (q : Ex (WP X XL (d - 1)) KX10_playing h.1 Q 0 [some (vR a0), some (vI a1), some (vI a2), some (vI a3), none] [] h) : WP X XL d 322 [vR a0, vI a1, vI a2, vI a3] h Q := by
  obtain ⟨d, rfl⟩ : ∃ d', d = d' + 1 := ⟨d - 1, by omega⟩
  exact WP_in0 (y := 322) (by decide) rfl (Nat.le_of_ble_eq_true rfl) rfl q
theorem eX10_areTwo {X : Int → Int} {XL : Int} {d : Nat} {h : Mem} {Q : RetP} {a0 : Nat} {a1 : Int} {a2 : Int} (hd : 1 ≤ d) (q : Ex (WP X XL (d - 1)) KX10_areTwo h.1 Q 0 [some (vR a0), some (vI a1), some (vI a2)] [] h) : WP X XL d 323 [vR a0, vI a1, vI a2] h Q := by
  obtain ⟨d, rfl⟩ : ∃ d', d = d' + 1 := ⟨d - 1, by omega⟩
  exact WP_in0 (y := 323) (by decide) rfl (Nat.le_of_ble_eq_true rfl) rfl q
theorem eX10_game {X : Int → Int} {XL : Int} {d : Nat} {h : Mem} {Q : RetP} {a0 : Nat} {a1 : Int} {a2 : Int} {a3 : Int} (hd : 1 ≤ d) (q : Ex (WP X XL (d - 1)) KX10_game h.1 Q 0 [some (vR a0), some (vI a1), some (vI a2), some (vI a3)] [] h) : WP X XL d 324 [vR a0, vI a1, vI a2, vI a3] h Q := by
  obtain ⟨d, rfl⟩ : ∃ d', d = d' + 1 := ⟨d - 1, by omega⟩
  exact WP_in0 (y := 324) (by decide) rfl (Nat.le_of_ble_eq_true rfl) rfl q
theorem eX10_moveOf {X : Int → Int} {XL : Int} {d : Nat} {h : Mem} {Q : RetP} {a0 : Nat} {a1 : Int} {a2 : Int} {a3 : Int} (hd : 1 ≤ d) (q : Ex (WP X XL (d - 1)) KX10_moveOf h.1 Q 0 [some (vR a0), some (vI a1), some (vI a2), some (vI a3)] [] h) : WP X XL d 325 [vR a0, vI a1, vI a2, vI a3] h Q := by
  obtain ⟨d, rfl⟩ : ∃ d', d = d' + 1 := ⟨d - 1, by omega⟩
  exact WP_in0 (y := 325) (by decide) rfl (Nat.le_of_ble_eq_true rfl) rfl q
theorem eX10_plantsOf {X : Int → Int} {XL : Int} {d : Nat} {h : Mem} {Q : RetP} {a0 : Nat} {a1 : Int} {a2 : Int} (hd : 1 ≤ d) (q : Ex (WP X XL (d - 1)) KX10_plantsOf h.1 Q 0 [some (vR a0), some (vI a1), some (vI a2), none, none] [] h) : WP X XL d 326 [vR a0, vI a1, vI a2] h Q := by
  obtain ⟨d, rfl⟩ : ∃ d', d = d' + 1 := ⟨d - 1, by omega⟩
  exact WP_in0 (y := 326) (by decide) rfl (Nat.le_of_ble_eq_true rfl) rfl q
theorem eX10_gardenOf {X : Int → Int} {XL : Int} {d : Nat} {h : Mem} {Q : RetP} {a0 : Nat} {a1 : Int} (hd : 1 ≤ d) (q : Ex (WP X XL (d - 1)) KX10_gardenOf h.1 Q 0 [some (vR a0), some (vI a1), none, none] [] h) : WP X XL d 327 [vR a0, vI a1] h Q := by
  obtain ⟨d, rfl⟩ : ∃ d', d = d' + 1 := ⟨d - 1, by omega⟩
  exact WP_in0 (y := 327) (by decide) rfl (Nat.le_of_ble_eq_true rfl) rfl q
theorem eX10_garden {X : Int → Int} {XL : Int} {d : Nat} {h : Mem} {Q : RetP} {a0 : Nat} {a1 : Int} (hd : 1 ≤ d) (q : Ex (WP X XL (d - 1)) KX10_garden h.1 Q 0 [some (vR a0), some (vI a1)] [] h) : WP X XL d 328 [vR a0, vI a1] h Q := by
  obtain ⟨d, rfl⟩ : ∃ d', d = d' + 1 := ⟨d - 1, by omega⟩
  exact WP_in0 (y := 328) (by decide) rfl (Nat.le_of_ble_eq_true rfl) rfl q
theorem eX10_gardenSet {X : Int → Int} {XL : Int} {d : Nat} {h : Mem} {Q : RetP} {a0 : Nat} {a1 : Int} (hd : 1 ≤ d) (q : Ex (WP X XL (d - 1)) KX10_gardenSet h.1 Q 0 [some (vR a0), some (vI a1)] [] h) : WP X XL d 329 [vR a0, vI a1] h Q := by
  obtain ⟨d, rfl⟩ : ∃ d', d = d' + 1 := ⟨d - 1, by omega⟩
  exact WP_in0 (y := 329) (by decide) rfl (Nat.le_of_ble_eq_true rfl) rfl q
theorem eX10_tellsDry {X : Int → Int} {XL : Int} {d : Nat} {h : Mem} {Q : RetP} {a0 : Nat} {a1 : Int} (hd : 1 ≤ d) (q : Ex (WP X XL (d - 1)) KX10_tellsDry h.1 Q 0 [some (vR a0), some (vI a1), none, none, none, none, none] [] h) : WP X XL d 330 [vR a0, vI a1] h Q := by
  obtain ⟨d, rfl⟩ : ∃ d', d = d' + 1 := ⟨d - 1, by omega⟩
  exact WP_in0 (y := 330) (by decide) rfl (Nat.le_of_ble_eq_true rfl) rfl q
theorem eX10_ahead0 {X : Int → Int} {XL : Int} {d : Nat} {h : Mem} {Q : RetP} {a0 : Nat} {a1 : Int} (hd : 1 ≤ d) (q : Ex (WP X XL (d - 1)) KX10_ahead0 h.1 Q 0 [some (vR a0), some (vI a1), none] [] h) : WP X XL d 331 [vR a0, vI a1] h Q := by
  obtain ⟨d, rfl⟩ : ∃ d', d = d' + 1 := ⟨d - 1, by omega⟩
  exact WP_in0 (y := 331) (by decide) rfl (Nat.le_of_ble_eq_true rfl) rfl q
theorem eX10_chance {X : Int → Int} {XL : Int} {d : Nat} {h : Mem} {Q : RetP} {a0 : Nat} {a1 : Int} (hd : 1 ≤ d) (q : Ex (WP X XL (d - 1)) KX10_chance h.1 Q 0 [some (vR a0), some (vI a1), none] [] h) : WP X XL d 332 [vR a0, vI a1] h Q := by
  obtain ⟨d, rfl⟩ : ∃ d', d = d' + 1 := ⟨d - 1, by omega⟩
  exact WP_in0 (y := 332) (by decide) rfl (Nat.le_of_ble_eq_true rfl) rfl q
theorem eX10_hope {X : Int → Int} {XL : Int} {d : Nat} {h : Mem} {Q : RetP} {a0 : Nat} {a1 : Int} {a2 : Int} (hd : 1 ≤ d) (q : Ex (WP X XL (d - 1)) KX10_hope h.1 Q 0 [some (vR a0), some (vI a1), some (vI a2)] [] h) : WP X XL d 333 [vR a0, vI a1, vI a2] h Q := by
  obtain ⟨d, rfl⟩ : ∃ d', d = d' + 1 := ⟨d - 1, by omega⟩
  exact WP_in0 (y := 333) (by decide) rfl (Nat.le_of_ble_eq_true rfl) rfl q
theorem eX10_copyAt {X : Int → Int} {XL : Int} {d : Nat} {h : Mem} {Q : RetP} {a0 : Nat} {a1 : Int} (hd : 1 ≤ d) (q : Ex (WP X XL (d - 1)) KX10_copyAt h.1 Q 0 [some (vR a0), some (vI a1), none] [] h) : WP X XL d 334 [vR a0, vI a1] h Q := by
  obtain ⟨d, rfl⟩ : ∃ d', d = d' + 1 := ⟨d - 1, by omega⟩
  exact WP_in0 (y := 334) (by decide) rfl (Nat.le_of_ble_eq_true rfl) rfl q
theorem eX10_draw {X : Int → Int} {XL : Int} {d : Nat} {h : Mem} {Q : RetP} {a0 : Nat} {a1 : Int} (hd : 1 ≤ d) (q : Ex (WP X XL (d - 1)) KX10_draw h.1 Q 0 [some (vR a0), some (vI a1)] [] h) : WP X XL d 335 [vR a0, vI a1] h Q := by
  obtain ⟨d, rfl⟩ : ∃ d', d = d' + 1 := ⟨d - 1, by omega⟩
  exact WP_in0 (y := 335) (by decide) rfl (Nat.le_of_ble_eq_true rfl) rfl q
theorem eX10_runsBy {X : Int → Int} {XL : Int} {d : Nat} {h : Mem} {Q : RetP} {a0 : Nat} {a1 : Int} (hd : 1 ≤ d) (q : Ex (WP X XL (d - 1)) KX10_runsBy h.1 Q 0 [some (vR a0), some (vI a1)] [] h) : WP X XL d 336 [vR a0, vI a1] h Q := by
  obtain ⟨d, rfl⟩ : ∃ d', d = d' + 1 := ⟨d - 1, by omega⟩
  exact WP_in0 (y := 336) (by decide) rfl (Nat.le_of_ble_eq_true rfl) rfl q
theorem eX10_ropesBy {X : Int → Int} {XL : Int} {d : Nat} {h : Mem} {Q : RetP} {a0 : Nat} {a1 : Int} {a2 : Int} (hd : 1 ≤ d) (q : Ex (WP X XL (d - 1)) KX10_ropesBy h.1 Q 0 [some (vR a0), some (vI a1), some (vI a2)] [] h) : WP X XL d 337 [vR a0, vI a1, vI a2] h Q := by
  obtain ⟨d, rfl⟩ : ∃ d', d = d' + 1 := ⟨d - 1, by omega⟩
  exact WP_in0 (y := 337) (by decide) rfl (Nat.le_of_ble_eq_true rfl) rfl q
theorem eX10_daysBy {X : Int → Int} {XL : Int} {d : Nat} {h : Mem} {Q : RetP} {a0 : Nat} {a1 : Int} (hd : 1 ≤ d) (q : Ex (WP X XL (d - 1)) KX10_daysBy h.1 Q 0 [some (vR a0), some (vI a1)] [] h) : WP X XL d 338 [vR a0, vI a1] h Q := by
  obtain ⟨d, rfl⟩ : ∃ d', d = d' + 1 := ⟨d - 1, by omega⟩
  exact WP_in0 (y := 338) (by decide) rfl (Nat.le_of_ble_eq_true rfl) rfl q
theorem eX10_fogsTo {X : Int → Int} {XL : Int} {d : Nat} {h : Mem} {Q : RetP} {a0 : Nat} {a1 : Int} (hd : 1 ≤ d) (q : Ex (WP X XL (d - 1)) KX10_fogsTo h.1 Q 0 [some (vR a0), some (vI a1), none] [] h) : WP X XL d 339 [vR a0, vI a1] h Q := by
  obtain ⟨d, rfl⟩ : ∃ d', d = d' + 1 := ⟨d - 1, by omega⟩
  exact WP_in0 (y := 339) (by decide) rfl (Nat.le_of_ble_eq_true rfl) rfl q
theorem eX10_doesAny {X : Int → Int} {XL : Int} {d : Nat} {h : Mem} {Q : RetP} {a0 : Nat} (hd : 1 ≤ d) (q : Ex (WP X XL (d - 1)) KX10_doesAny h.1 Q 0 [some (vR a0), none] [] h) : WP X XL d 340 [vR a0] h Q := by
  obtain ⟨d, rfl⟩ : ∃ d', d = d' + 1 := ⟨d - 1, by omega⟩
  exact WP_in0 (y := 340) (by decide) rfl (Nat.le_of_ble_eq_true rfl) rfl q
theorem eX10_does {X : Int → Int} {XL : Int} {d : Nat} {h : Mem} {Q : RetP} {a0 : Nat} {a1 : Int} (hd : 1 ≤ d) (q : Ex (WP X XL (d - 1)) KX10_does h.1 Q 0 [some (vR a0), some (vI a1), none] [] h) : WP X XL d 341 [vR a0, vI a1] h Q := by
  obtain ⟨d, rfl⟩ : ∃ d', d = d' + 1 := ⟨d - 1, by omega⟩
  exact WP_in0 (y := 341) (by decide) rfl (Nat.le_of_ble_eq_true rfl) rfl q
theorem eX10_holds {X : Int → Int} {XL : Int} {d : Nat} {h : Mem} {Q : RetP} {a0 : Nat} {a1 : Int} (hd : 1 ≤ d) (q : Ex (WP X XL (d - 1)) KX10_holds h.1 Q 0 [some (vR a0), some (vI a1), none, none, none] [] h) : WP X XL d 342 [vR a0, vI a1] h Q := by
  obtain ⟨d, rfl⟩ : ∃ d', d = d' + 1 := ⟨d - 1, by omega⟩
  exact WP_in0 (y := 342) (by decide) rfl (Nat.le_of_ble_eq_true rfl) rfl q
theorem eX10_behindEnds {X : Int → Int} {XL : Int} {d : Nat} {h : Mem} {Q : RetP} {a0 : Nat} {a1 : Int} (hd : 1 ≤ d) (q : Ex (WP X XL (d - 1)) KX10_behindEnds h.1 Q 0 [some (vR a0), some (vI a1), none, none, none] [] h) : WP X XL d 343 [vR a0, vI a1] h Q := by
  obtain ⟨d, rfl⟩ : ∃ d', d = d' + 1 := ⟨d - 1, by omega⟩
  exact WP_in0 (y := 343) (by decide) rfl (Nat.le_of_ble_eq_true rfl) rfl q
theorem eX10_lives {X : Int → Int} {XL : Int} {d : Nat} {h : Mem} {Q : RetP} {a0 : Nat} {a1 : Int} (hd : 1 ≤ d) (q : Ex (WP X XL (d - 1)) KX10_lives h.1 Q 0 [some (vR a0), some (vI a1), none, none, none, none] [] h) : WP X XL d 344 [vR a0, vI a1] h Q := by
  obtain ⟨d, rfl⟩ : ∃ d', d = d' + 1 := ⟨d - 1, by omega⟩
  exact WP_in0 (y := 344) (by decide) rfl (Nat.le_of_ble_eq_true rfl) rfl q
theorem eX10_live {X : Int → Int} {XL : Int} {d : Nat} {h : Mem} {Q : RetP} {a0 : Nat} {a1 : Int} (hd : 1 ≤ d) (q : Ex (WP X XL (d - 1)) KX10_live h.1 Q 0 [some (vR a0), some (vI a1), none] [] h) : WP X XL d 345 [vR a0, vI a1] h Q := by
  obtain ⟨d, rfl⟩ : ∃ d', d = d' + 1 := ⟨d - 1, by omega⟩
  exact WP_in0 (y := 345) (by decide) rfl (Nat.le_of_ble_eq_true rfl) rfl q
theorem eX10_lived {X : Int → Int} {XL : Int} {d : Nat} {h : Mem} {Q : RetP} {a0 : Nat} {a1 : Int} (hd : 1 ≤ d) (q : Ex (WP X XL (d - 1)) KX10_lived h.1 Q 0 [some (vR a0), some (vI a1)] [] h) : WP X XL d 346 [vR a0, vI a1] h Q := by
  obtain ⟨d, rfl⟩ : ∃ d', d = d' + 1 := ⟨d - 1, by omega⟩
  exact WP_in0 (y := 346) (by decide) rfl (Nat.le_of_ble_eq_true rfl) rfl q
theorem eX10_mean {X : Int → Int} {XL : Int} {d : Nat} {h : Mem} {Q : RetP} {a0 : Nat} {a1 : Int} {a2 : Int} (hd : 1 ≤ d) (q : Ex (WP X XL (d - 1)) KX10_mean h.1 Q 0 [some (vR a0), some (vI a1), some (vI a2), none, none, none] [] h) : WP X XL d 347 [vR a0, vI a1, vI a2] h Q := by
  obtain ⟨d, rfl⟩ : ∃ d', d = d' + 1 := ⟨d - 1, by omega⟩
  exact WP_in0 (y := 347) (by decide) rfl (Nat.le_of_ble_eq_true rfl) rfl q
theorem eX10_copies {X : Int → Int} {XL : Int} {d : Nat} {h : Mem} {Q : RetP} {a0 : Nat} {a1 : Int} {a2 : Int} (hd : 1 ≤ d) (q : Ex (WP X XL (d - 1)) KX10_copies h.1 Q 0 [some (vR a0), some (vI a1), some (vI a2), none] [] h) : WP X XL d 348 [vR a0, vI a1, vI a2] h Q := by
  obtain ⟨d, rfl⟩ : ∃ d', d = d' + 1 := ⟨d - 1, by omega⟩
  exact WP_in0 (y := 348) (by decide) rfl (Nat.le_of_ble_eq_true rfl) rfl q
theorem eX10_mark {X : Int → Int} {XL : Int} {d : Nat} {h : Mem} {Q : RetP} {a0 : Nat} (hd : 1 ≤ d) (q : Ex (WP X XL (d - 1)) KX10_mark h.1 Q 0 [some (vR a0)] [] h) : WP X XL d 349 [vR a0] h Q := by
  obtain ⟨d, rfl⟩ : ∃ d', d = d' + 1 := ⟨d - 1, by omega⟩
  exact WP_in0 (y := 349) (by decide) rfl (Nat.le_of_ble_eq_true rfl) rfl q
theorem eX10_undo {X : Int → Int} {XL : Int} {d : Nat} {h : Mem} {Q : RetP} {a0 : Nat} (hd : 1 ≤ d) (q : Ex (WP X XL (d - 1)) KX10_undo h.1 Q 0 [some (vR a0)] [] h) : WP X XL d 350 [vR a0] h Q := by
  obtain ⟨d, rfl⟩ : ∃ d', d = d' + 1 := ⟨d - 1, by omega⟩
  exact WP_in0 (y := 350) (by decide) rfl (Nat.le_of_ble_eq_true rfl) rfl q
theorem eJ6_bitCount_0f7a4 {X : Int → Int} {XL : Int} {d : Nat} {h : Mem} {Q : RetP} {a0 : Int} (hd : 1 ≤ d) (q : Ex (WP X XL (d - 1)) KJ6_bitCount_0f7a4 h.1 Q 0 [some (vI a0)] [] h) : WP X XL d 351 [vI a0] h Q := by
  obtain ⟨d, rfl⟩ : ∃ d', d = d' + 1 := ⟨d - 1, by omega⟩
  exact WP_in0 (y := 351) (by decide) rfl (Nat.le_of_ble_eq_true rfl) rfl q
theorem eJ7_fill_d0a16 {X : Int → Int} {XL : Int} {d : Nat} {h : Mem} {Q : RetP} {a0 : Nat} {a1 : Int} (hd : 1 ≤ d) (q : Ex (WP X XL (d - 1)) KJ7_fill_d0a16 h.1 Q 0 [some (vR a0), some (vL a1), none, none, none] [] h) : WP X XL d 352 [vR a0, vL a1] h Q := by
  obtain ⟨d, rfl⟩ : ∃ d', d = d' + 1 := ⟨d - 1, by omega⟩
  exact WP_in0 (y := 352) (by decide) rfl (Nat.le_of_ble_eq_true rfl) rfl q
theorem eL_law {X : Int → Int} {XL : Int} {d : Nat} {h : Mem} {Q : RetP} {a0 : Nat} (hd : 1 ≤ d) (q : Ex (WP X XL (d - 1)) KL_law (h.1 ++ growM 353) Q 0 [some (vR a0), none, none, none] [] h) : WP X XL d 353 [vR a0] h Q := by
  obtain ⟨d, rfl⟩ : ∃ d', d = d' + 1 := ⟨d - 1, by omega⟩
  exact WP_in (y := 353) (by decide) rfl (Nat.le_of_ble_eq_true rfl) q
