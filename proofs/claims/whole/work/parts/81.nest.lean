/-! LEVEL 2: decades as they are lived: how rows are nested, pure -/
/-- rows are nested, at most three deep; D: how deep -/
def Nst (R : Int → Int → Int) (N : Int) (D : Int → Int) : Prop := (∀ k, 0 ≤ k → k ≤ N → 0 ≤ D k ∧ D k ≤ 3) ∧ (∀ k, 0 ≤ k → k < N → R k 0 = 22 → D (k + 1) = D k - 1 ∧ 0 ≤ R k 4 ∧ R k 4 < k ∧ R (R k 4) 4 = k) ∧ (∀ k, 0 ≤ k → k + 1 < N → R k 0 = 21 → R (k + 1) 0 = 22 → R (k + 1) 4 = k) ∧ (∀ k, 0 ≤ k → k < N → (R k 0 = 21 ∨ 2000 ≤ R k 0) → R (R k 4) 0 = 22 ∧ R (R k 4) 4 = k)
/-- at the end of a loop without a step: no rounds are left -/
def NE1 (R : Int → Int → Int) (N : Int) (L : Int → Int) (k : Int) : Prop := k < N → R k 0 = 22 → R k 4 = k - 1 → R (k - 1) 0 = 21 → L (k - 1) = 0
theorem sk_end {R : Int → Int → Int} {N : Int} {D : Int → Int} (hN : Nst R N D) : ∀ (d : Nat) (k : Int) (L : Int → Int), D k ≤ d → 0 ≤ k → k ≤ N → NE1 R N L k → (¬ ((skN R N (d + 1) k L).1 < N ∧ R (skN R N (d + 1) k L).1 0 = 22)) ∧ 0 ≤ (skN R N (d + 1) k L).1 ∧ (skN R N (d + 1) k L).1 ≤ N := by
  intro d; induction d with
  | zero =>
    intro k L hd h0 h1 hL
    rw [sk_s]
    by_cases hc : k < N ∧ R k 0 = 22
    · have a := (hN.2.1 k h0 hc.1 hc.2).1
      have b := hN.1 (k + 1) (by omega) (by omega)
      omega
    · rw [if_neg hc]
      exact ⟨hc, h0, h1⟩
  | succ d ih =>
    intro k L hd h0 h1 hL
    rw [sk_s]
    by_cases hc : k < N ∧ R k 0 = 22
    · rw [if_pos hc]
      obtain ⟨a1, a2, a3, a4⟩ := hN.2.1 k h0 hc.1 hc.2
      by_cases hg : R (R k 4) 0 = 21 ∧ 0 < L (R k 4)
      · rw [show eK R L k = R k 4 + 1 from if_pos hg]
        have hne : ¬ (R k 4 + 1 < N ∧ R (R k 4 + 1) 0 = 22) := by
          intro q
          have b1 := hN.2.2.1 (R k 4) a2 q.1 hg.1 q.2
          have b2 := (hN.2.1 (R k 4 + 1) (by omega) q.1 q.2).2.2.2
          rw [b1, a4] at b2
          have b3 : R k 4 = k - 1 := by omega
          have hg1 := hg.1
          have hg2 := hg.2
          rw [b3] at hg1 hg2
          have := hL hc.1 hc.2 b3 hg1
          omega
        rw [sk_s, if_neg hne]
        exact ⟨hne, by show 0 ≤ R k 4 + 1; omega, by show R k 4 + 1 ≤ N; omega⟩
      · rw [show eK R L k = k + 1 from if_neg hg, show eL R L k = L from if_neg hg]
        refine ih (k + 1) _ (by omega) (by omega) (by omega) (fun q1 q2 q3 q4 => ?_)
        rw [show k + 1 - 1 = k by omega] at q4
        have := hc.2
        omega
    · rw [if_neg hc]
      exact ⟨hc, h0, h1⟩
