/-! LEVEL 2: texts: decades, pure: rows are nested -/
def isO (w : Int) : Prop := w = 21 ∨ 2000 ≤ w
def DI (A : Int → Int) (R : Int → Int → Int) (N c D : Int) (O : Int → Int) : Prop := ((0 ≤ N ∧ 0 ≤ c ∧ c ≤ 30) ∧ (0 ≤ D ∧ D ≤ 3) ∧ N + D ≤ 2 * c) ∧ (∀ j, 0 ≤ j → j < D → 0 ≤ O j ∧ O j < N ∧ isO (R (O j) 0)) ∧ (∀ i j, 0 ≤ i → i < j → j < D → O i < O j) ∧ (∀ k, 0 ≤ k → k < N → RwV A (R k)) ∧ (∀ k, 0 ≤ k → k < N → isO (R k 0) → (∃ j, 0 ≤ j ∧ j < D ∧ O j = k) ∨ (k < R k 4 ∧ R k 4 < N ∧ R (R k 4) 0 = 22 ∧ R (R k 4) 4 = k)) ∧ (∀ k, 0 ≤ k → k < N → R k 0 = 22 → 0 ≤ R k 4 ∧ R k 4 < k ∧ isO (R (R k 4) 0) ∧ R (R k 4) 4 = k ∧ ∀ j, 0 ≤ j → j < D → ¬ O j = R k 4) ∧ (1 ≤ N → isO (R (N - 1) 0) → 1 ≤ D ∧ O (D - 1) = N - 1) ∧ (∀ k, 0 ≤ k → k + 1 < N → R k 0 = 21 → R (k + 1) 0 = 22 → R (k + 1) 4 = k) ∧ ∃ Dp : Int → Int, Dp N = D ∧ (∀ k, 0 ≤ k → k ≤ N → 0 ≤ Dp k ∧ Dp k ≤ 3) ∧ (∀ k, 0 ≤ k → k < N → R k 0 = 22 → Dp (k + 1) = Dp k - 1)
theorem isO_22 {w : Int} (h : isO w) : ¬ w = 22 := by unfold isO at h; omega
theorem DI_0 {A : Int → Int} {R : Int → Int → Int} {O : Int → Int} : DI A R 0 0 0 O := by
  refine ⟨by omega, fun j a b => by omega, fun i j a b c => by omega, fun k a b => by omega, fun k a b _ => by omega, fun k a b _ => by omega, fun a _ => by omega, fun k a b _ _ => by omega, fun _ => 0, rfl, fun k _ _ => ⟨Int.le_refl _, (by decide : (0 : Int) ≤ 3)⟩, fun k a b _ => by omega⟩
theorem opR_n {R : Int → Int → Int} {N k : Int} {rw : Int → Int} (h : ¬ k = N) : opR R N rw k = R k := by funext j; unfold opR; rw [if_neg h]
theorem opR_e {R : Int → Int → Int} {N : Int} {rw : Int → Int} : opR R N rw N = rw := by funext j; unfold opR; rw [if_pos rfl]
theorem clR_n {R : Int → Int → Int} {N o k : Int} (h : ¬ k = N) (h2 : ¬ k = o) : clR R N o k = R k := by funext j; unfold clR; rw [if_neg h, if_neg (fun q => h2 q.1)]
theorem clR_j {R : Int → Int → Int} {N o k j : Int} (h : ¬ k = N) (h2 : ¬ j = 4) : clR R N o k j = R k j := by unfold clR; rw [if_neg h, if_neg (fun q => h2 q.2)]
theorem clR_o {R : Int → Int → Int} {N o : Int} (h : ¬ o = N) : clR R N o o 4 = N := by unfold clR; rw [if_neg h, if_pos ⟨rfl, rfl⟩]
theorem clR_e {R : Int → Int → Int} {N o : Int} : clR R N o N 0 = 22 ∧ clR R N o N 4 = o := by unfold clR; exact ⟨by rw [if_pos rfl, if_pos rfl], by rw [if_pos rfl, if_neg (by omega), if_pos rfl]⟩
theorem RwV_4 {A : Int → Int} {r r' : Int → Int} (h : RwV A r) (e : ∀ j, ¬ j = 4 → r' j = r j) : RwV A r' := by
  unfold RwV at *
  rw [e 0 (by omega), e 1 (by omega), e 2 (by omega), e 5 (by omega)]
  exact h
theorem DI_end {A : Int → Int} {R : Int → Int → Int} {N c D : Int} {O : Int → Int} (h : DI A R N c D O) (hD : ¬ D ≤ 0) : DI A (clR R N (O (D - 1))) (N + 1) c (D - 1) O := by
  obtain ⟨h1, h2, h3, h4, h5, h6, h7, h8, Dp, d1, d2, d3⟩ := h
  obtain ⟨o0, o1, o2⟩ := h2 (D - 1) (by omega) (by omega)
  have e22 := isO_22 o2
  have eN : ∀ j, clR R N (O (D - 1)) N j = (if j = 0 then 22 else if j = 4 then O (D - 1) else 0) := fun j => by unfold clR; rw [if_pos rfl]
  have l0 : ∀ k, ¬ k = N → clR R N (O (D - 1)) k 0 = R k 0 := fun k q => clR_j q (by omega)
  refine ⟨by omega, fun j a b => ?_, fun i j a b x => h3 i j a b (by omega), fun k a b => ?_, fun k a b x => ?_, fun k a b x => ?_, fun _ x => ?_, fun k a b x y => ?_, pu Dp (N + 1) (D - 1), pu_e, fun k a b => ?_, fun k a b x => ?_⟩
  · have q := h2 j a (by omega)
    rw [l0 _ (by omega)]
    exact ⟨q.1, by omega, q.2.2⟩
  · by_cases e : k = N
    · rw [e]
      have z0 : clR R N (O (D - 1)) N 0 = 22 := clR_e.1
      have z1 : clR R N (O (D - 1)) N 1 = 0 := by rw [eN]; rfl
      have z2 : clR R N (O (D - 1)) N 2 = 0 := by rw [eN]; rfl
      refine ⟨?_, ?_, fun q => ?_, fun q => ?_⟩
      · rw [z0]; omega
      · rw [z0]; exact ⟨fun x => by omega, fun x => by omega, fun x => by omega, fun x => by omega, fun x => by omega, fun x => by omega⟩
      · rw [z0] at q; omega
      · rw [z0] at q; omega
    · exact RwV_4 (h4 k a (by omega)) (fun j q => clR_j e q)
  · have e : ¬ k = N := fun q => by rw [q, clR_e.1] at x; exact isO_22 x rfl
    rw [l0 k e] at x
    by_cases eo : k = O (D - 1)
    · refine Or.inr ?_
      rw [eo, clR_o (by omega)]
      exact ⟨by omega, by omega, clR_e.1, clR_e.2⟩
    · rcases h5 k a (by omega) x with ⟨j, j0, j1, j2⟩ | ⟨q1, q2, q3, q4⟩
      · refine Or.inl ⟨j, j0, ?_, j2⟩
        by_cases ej : j = D - 1
        · rw [ej] at j2; exact absurd j2.symm eo
        · omega
      · refine Or.inr ?_
        have e4 : clR R N (O (D - 1)) k 4 = R k 4 := by rw [clR_n e eo]
        rw [e4]
        have ne : ¬ R k 4 = O (D - 1) := fun q => by rw [q] at q3; exact e22 q3
        rw [clR_n (by omega) ne]
        exact ⟨q1, by omega, q3, q4⟩
  · by_cases e : k = N
    · rw [e, clR_e.2]
      rw [l0 _ (by omega), clR_o (by omega)]
      refine ⟨o0, o1, o2, rfl, fun j j0 j1 => ?_⟩
      have := h3 j (D - 1) j0 (by omega) (by omega)
      omega
    · rw [l0 k e] at x
      obtain ⟨q1, q2, q3, q4, q5⟩ := h6 k a (by omega) x
      have eo : ¬ k = O (D - 1) := fun q => by rw [q] at x; exact e22 x
      have e4 : clR R N (O (D - 1)) k 4 = R k 4 := by rw [clR_n e eo]
      rw [e4]
      have ne : ¬ R k 4 = O (D - 1) := fun q => q5 (D - 1) (by omega) (by omega) q.symm
      rw [clR_n (by omega) ne]
      exact ⟨q1, q2, q3, q4, fun j j0 j1 => q5 j j0 (by omega)⟩
  · rw [show N + 1 - 1 = N by omega, clR_e.1] at x
    exact absurd rfl (isO_22 x)
  · by_cases e : k + 1 = N
    · rw [l0 k (by omega)] at x
      have q := h7 (by omega) (by rw [show N - 1 = k by omega]; exact Or.inl x)
      rw [e, clR_e.2]
      omega
    · rw [l0 k (by omega)] at x
      rw [l0 (k + 1) e] at y
      have := h8 k a (by omega) x y
      have eo : ¬ k + 1 = O (D - 1) := fun q => by rw [q] at y; exact e22 y
      rw [clR_n e eo]
      exact this
  · by_cases e : k = N + 1
    · rw [e, pu_e]; omega
    · rw [pu_n e]; exact d2 k a (by omega)
  · by_cases e : k = N
    · rw [e, pu_e, pu_n (by omega), d1]
    · rw [l0 k e] at x
      rw [pu_n (by omega), pu_n (by omega)]
      exact d3 k a (by omega) x
theorem DI_push {A : Int → Int} {R : Int → Int → Int} {N c D : Int} {O : Int → Int} {t : Int} {rw : Int → Int} (h : DI A R N c D O) (hc : ¬ 30 ≤ c) (ht : ¬ ((t = 20 ∨ t = 22) ∧ 3 ≤ D)) (hv : RwV A rw) (h22 : ¬ rw 0 = 22) (ho : (t = 20 ∨ t = 22) ↔ (rw 0 = 21 ∨ 2000 ≤ rw 0)) : DI A (opR R N rw) (N + 1) (c + 1) (if t = 20 ∨ t = 22 then D + 1 else D) (if t = 20 ∨ t = 22 then pu O D N else O) := by
  obtain ⟨h1, h2, h3, h4, h5, h6, h7, h8, Dp, d1, d2, d3⟩ := h
  have lo : ∀ k, ¬ k = N → opR R N rw k = R k := fun k q => opR_n q
  have le : opR R N rw N = rw := opR_e
  by_cases c0 : t = 20 ∨ t = 22
  · rw [if_pos c0, if_pos c0]
    have oo : isO (rw 0) := ho.mp c0
    have pn : ∀ j, ¬ j = D → pu O D N j = O j := fun j q => pu_n q
    have pe : pu O D N D = N := pu_e
    refine ⟨by omega, fun j a b => ?_, fun i j a b x => ?_, fun k a b => ?_, fun k a b x => ?_, fun k a b x => ?_, fun _ x => ?_, fun k a b x y => ?_, pu Dp (N + 1) (D + 1), pu_e, fun k a b => ?_, fun k a b x => ?_⟩
    · by_cases e : j = D
      · rw [e, pe, le]; exact ⟨by omega, by omega, oo⟩
      · have q := h2 j a (by omega)
        rw [pn j e, lo _ (by omega)]
        exact ⟨q.1, by omega, q.2.2⟩
    · by_cases e : j = D
      · rw [e, pe, pn i (by omega)]
        have q := h2 i a (by omega)
        omega
      · rw [pn j e, pn i (by omega)]; exact h3 i j a b (by omega)
    · by_cases e : k = N
      · rw [e, le]; exact hv
      · rw [lo k e]; exact h4 k a (by omega)
    · by_cases e : k = N
      · exact Or.inl ⟨D, by omega, by omega, by rw [pe, e]⟩
      · rw [lo k e] at x ⊢
        rcases h5 k a (by omega) x with ⟨j, j0, j1, j2⟩ | ⟨q1, q2, q3, q4⟩
        · exact Or.inl ⟨j, j0, by omega, by rw [pn j (by omega)]; exact j2⟩
        · refine Or.inr ?_
          rw [lo _ (by omega)]
          exact ⟨q1, by omega, q3, q4⟩
    · have e : ¬ k = N := fun q => by rw [q, le] at x; exact h22 x
      rw [lo k e] at x ⊢
      obtain ⟨q1, q2, q3, q4, q5⟩ := h6 k a (by omega) x
      rw [lo _ (by omega)]
      refine ⟨q1, q2, q3, q4, fun j j0 j1 => ?_⟩
      by_cases ej : j = D
      · rw [ej, pe]; omega
      · rw [pn j ej]; exact q5 j j0 (by omega)
    · exact ⟨by omega, by rw [show D + 1 - 1 = D by omega, pe]; omega⟩
    · by_cases e : k + 1 = N
      · rw [e, le] at y; exact absurd y h22
      · rw [lo k (by omega)] at x
        rw [lo (k + 1) e] at y ⊢
        exact h8 k a (by omega) x y
    · by_cases e : k = N + 1
      · rw [e, pu_e]; omega
      · rw [pu_n e]; exact d2 k a (by omega)
    · have e : ¬ k = N := fun q => by rw [q, le] at x; exact h22 x
      rw [lo k e] at x
      rw [pu_n (by omega), pu_n (by omega)]
      exact d3 k a (by omega) x
  · rw [if_neg c0, if_neg c0]
    have oo : ¬ isO (rw 0) := fun q => c0 (ho.mpr q)
    refine ⟨by omega, fun j a b => ?_, fun i j a b x => h3 i j a b x, fun k a b => ?_, fun k a b x => ?_, fun k a b x => ?_, fun _ x => ?_, fun k a b x y => ?_, pu Dp (N + 1) (D), pu_e, fun k a b => ?_, fun k a b x => ?_⟩
    · have q := h2 j a b
      rw [lo _ (by omega)]
      exact ⟨q.1, by omega, q.2.2⟩
    · by_cases e : k = N
      · rw [e, le]; exact hv
      · rw [lo k e]; exact h4 k a (by omega)
    · by_cases e : k = N
      · rw [e, le] at x; exact absurd x oo
      · rw [lo k e] at x ⊢
        rcases h5 k a (by omega) x with q | ⟨q1, q2, q3, q4⟩
        · exact Or.inl q
        · refine Or.inr ?_
          rw [lo _ (by omega)]
          exact ⟨q1, by omega, q3, q4⟩
    · have e : ¬ k = N := fun q => by rw [q, le] at x; exact h22 x
      rw [lo k e] at x ⊢
      obtain ⟨q1, q2, q3, q4, q5⟩ := h6 k a (by omega) x
      rw [lo _ (by omega)]
      exact ⟨q1, q2, q3, q4, q5⟩
    · rw [show N + 1 - 1 = N by omega, le] at x
      exact absurd x oo
    · by_cases e : k + 1 = N
      · rw [e, le] at y; exact absurd y h22
      · rw [lo k (by omega)] at x
        rw [lo (k + 1) e] at y ⊢
        exact h8 k a (by omega) x y
    · by_cases e : k = N + 1
      · rw [e, pu_e]; omega
      · rw [pu_n e]; exact d2 k a (by omega)
    · have e : ¬ k = N := fun q => by rw [q, le] at x; exact h22 x
      rw [lo k e] at x
      rw [pu_n (by omega), pu_n (by omega)]
      exact d3 k a (by omega) x
/-- decades that were read -/
theorem DI_nst {A : Int → Int} {R : Int → Int → Int} {N c : Int} {O : Int → Int} (h : DI A R N c 0 O) : (∃ D, Nst R N D) ∧ (∀ k, 0 ≤ k → k < N → VRow A R N k) ∧ (0 ≤ N ∧ N ≤ 60) := by
  obtain ⟨h1, h2, h3, h4, h5, h6, h7, h8, Dp, d1, d2, d3⟩ := h
  have h5' : ∀ k, 0 ≤ k → k < N → isO (R k 0) → (k < R k 4 ∧ R k 4 < N ∧ R (R k 4) 0 = 22 ∧ R (R k 4) 4 = k) := fun k a b x => by
    rcases h5 k a b x with ⟨j, j0, j1, _⟩ | q
    · omega
    · exact q
  refine ⟨⟨Dp, d2, fun k a b x => ?_, h8, fun k a b x => (h5' k a b x).2.2⟩, fun k a b => ?_, by omega⟩
  · obtain ⟨q1, q2, q3, q4, -⟩ := h6 k a b x
    exact ⟨d3 k a b x, q1, q2, q4⟩
  · obtain ⟨v1, v2, v3, v4⟩ := h4 k a b
    refine ⟨v1, v2, v3, v4, fun x => ?_, fun x => ?_⟩
    · have := h5' k a b x
      exact ⟨this.1, this.2.1⟩
    · obtain ⟨q1, q2, q3, -⟩ := h6 k a b x
      exact ⟨q1, q2, q3⟩
theorem dStep_i {P : Int → Int} {n e : Int} {A Nm : Int → Int} {R : Int → Int → Int} {N c D : Int} {O : Int → Int} {q : DS × Int} (h1 : 0 ≤ A 1) (hI : DI A R N c D O) (h : dStep P n e A Nm R N c D O = .inr q) : DI A q.1.1 q.1.2.1 q.1.2.2.1 q.1.2.2.2.1 q.1.2.2.2.2 := by
  unfold dStep at h
  split at h
  · split at h
    · cases h
    · rename_i cD
      obtain ⟨a1, x1, h⟩ := bd_i h
      rw [← Sum.inr.inj h]
      exact DI_end hI cD
  · split at h
    · cases h
    · rename_i ct
      split at h
      · cases h
      · rename_i cc
        split at h
        · cases h
        · rename_i co
          obtain ⟨a1, x1, h⟩ := bd_i h
          obtain ⟨a2, x2, h⟩ := bd_i h
          obtain ⟨v1, v2, v3⟩ := dRest_v h1 (by omega) x1
          rw [← Sum.inr.inj h]
          exact DI_push hI cc co v1 v2 v3
