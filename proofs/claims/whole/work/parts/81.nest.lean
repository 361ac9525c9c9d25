/-! LEVEL 2: decades as they are lived: how rows are nested, pure -/
/-- rows are nested, at most three deep; D: how deep -/
def Nst (R : Int → Int → Int) (N : Int) (D : Int → Int) : Prop := (∀ k, 0 ≤ k → k ≤ N → 0 ≤ D k ∧ D k ≤ 3) ∧ (∀ k, 0 ≤ k → k < N → R k 0 = 22 → D (k + 1) = D k - 1 ∧ 0 ≤ R k 4 ∧ R k 4 < k ∧ R (R k 4) 4 = k) ∧ (∀ k, 0 ≤ k → k + 1 < N → R k 0 = 21 → R (k + 1) 0 = 22 → R (k + 1) 4 = k)
/-- loops without a step have no rounds left -/
def NEm (R : Int → Int → Int) (N : Int) (L : Int → Int) : Prop := ∀ o, 0 ≤ o → o < N → R o 0 = 21 → R o 4 = o + 1 → L o = 0
theorem NEm.e {R : Int → Int → Int} {N : Int} {D L : Int → Int} {k : Int} (hN : Nst R N D) (q : NEm R N L) (hk : 0 ≤ k ∧ k < N) (hw : R k 0 = 22) : NEm R N (eL R L k) := by
  intro o h0 h1 h2 h3
  unfold eL
  split
  · rename_i c
    unfold pu
    by_cases e : o = R k 4
    · rw [← e, q o h0 h1 h2 h3] at c
      omega
    · rw [if_neg e]; exact q o h0 h1 h2 h3
  · exact q o h0 h1 h2 h3
theorem sk_end {R : Int → Int → Int} {N : Int} {D : Int → Int} (hN : Nst R N D) : ∀ (d : Nat) (k : Int) (L : Int → Int), D k ≤ d → 0 ≤ k → k ≤ N → NEm R N L → (¬ ((skN R N (d + 1) k L).1 < N ∧ R (skN R N (d + 1) k L).1 0 = 22)) ∧ NEm R N (skN R N (d + 1) k L).2 ∧ 0 ≤ (skN R N (d + 1) k L).1 ∧ (skN R N (d + 1) k L).1 ≤ N := by
  intro d; induction d with
  | zero =>
    intro k L hd h0 h1 hL
    rw [sk_s]
    by_cases hc : k < N ∧ R k 0 = 22
    · have a := (hN.2.1 k h0 hc.1 hc.2).1
      have b := hN.1 (k + 1) (by omega) (by omega)
      omega
    · rw [if_neg hc]
      exact ⟨hc, hL, h0, h1⟩
  | succ d ih =>
    intro k L hd h0 h1 hL
    rw [sk_s]
    by_cases hc : k < N ∧ R k 0 = 22
    · rw [if_pos hc]
      obtain ⟨a1, a2, a3, a4⟩ := hN.2.1 k h0 hc.1 hc.2
      have hL2 := hL.e hN ⟨h0, hc.1⟩ hc.2
      by_cases hg : R (R k 4) 0 = 21 ∧ 0 < L (R k 4)
      · rw [show eK R L k = R k 4 + 1 from if_pos hg]
        have hne : ¬ (R k 4 + 1 < N ∧ R (R k 4 + 1) 0 = 22) := by
          intro q
          have b1 := hN.2.2 (R k 4) a2 q.1 hg.1 q.2
          have b2 := (hN.2.1 (R k 4 + 1) (by omega) q.1 q.2).2.2.2
          rw [b1] at b2
          have := hL (R k 4) a2 (by omega) hg.1 b2
          omega
        rw [sk_s, if_neg hne]
        exact ⟨hne, hL2, by show 0 ≤ R k 4 + 1; omega, by show R k 4 + 1 ≤ N; omega⟩
      · rw [show eK R L k = k + 1 from if_neg hg]
        exact ih (k + 1) _ (by omega) (by omega) (by omega) hL2
    · rw [if_neg hc]
      exact ⟨hc, hL, h0, h1⟩
