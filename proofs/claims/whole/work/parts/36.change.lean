/-! LEVEL 2: what is changed, and what is not -/
def pu (A : Int → Int) (i z : Int) : Int → Int := fun j => if j = i then z else A j
def Fr (P : Nat → Prop) (h h' : Mem) : Prop := h'.1 = h.1 ∧ h'.2.2 = h.2.2 ∧ ∀ r, ¬ P r → ∀ i, gG h' r i = gG h r i
theorem Fr.refl {P : Nat → Prop} {h : Mem} : Fr P h h := ⟨rfl, rfl, fun _ _ _ => rfl⟩
theorem Fr.trans {P : Nat → Prop} {h h' h'' : Mem} (a : Fr P h h') (b : Fr P h' h'') : Fr P h h'' := ⟨b.1.trans a.1, b.2.1.trans a.2.1, fun r hr i => (b.2.2 r hr i).trans (a.2.2 r hr i)⟩
theorem Fr.mono {P P' : Nat → Prop} {h h' : Mem} (a : Fr P h h') (b : ∀ r, P r → P' r) : Fr P' h h' := ⟨a.1, a.2.1, fun r hr i => a.2.2 r (fun q => hr (b r q)) i⟩
theorem Fr.sG {P : Nat → Prop} {h h' : Mem} {r : Nat} {i z : Int} (a : Fr P h h') (hr : P r) : Fr P h (sG h' r i z) := ⟨a.1, a.2.1, fun r' hr' i' => by
  have : ¬ (r' = r ∧ i' = i) := fun q => hr' (q.1 ▸ hr)
  show (if r' = r ∧ i' = i then z else h'.2.1 r' i') = _
  rw [if_neg this]
  exact a.2.2 r' hr' i'⟩
theorem gG_sG {h : Mem} {r r' : Nat} {i i' z : Int} : gG (sG h r i z) r' i' = if r' = r ∧ i' = i then z else gG h r' i' := rfl
theorem gR_sG {h : Mem} {r r' : Nat} {i i' z : Int} : gR (sG h r i z) r' i' = gR h r' i' := rfl
theorem kd_sG {h : Mem} {r r' : Nat} {i z : Int} : kd (sG h r i z) r' = kd h r' := rfl
theorem ln_sG {h : Mem} {r r' : Nat} {i z : Int} : ln (sG h r i z) r' = ln h r' := rfl
theorem kd_fr {P : Nat → Prop} {h h' : Mem} (a : Fr P h h') (r : Nat) : kd h' r = kd h r := by unfold kd; rw [a.1]
theorem ln_fr {P : Nat → Prop} {h h' : Mem} (a : Fr P h h') (r : Nat) : ln h' r = ln h r := by unfold ln; rw [a.1]
theorem gR_fr {P : Nat → Prop} {h h' : Mem} (a : Fr P h h') (r : Nat) (i : Int) : gR h' r i = gR h r i := by unfold gR; rw [a.2.1]
theorem VOk_fr {P : Nat → Prop} {h h' : Mem} (a : Fr P h h') {v : Nat} (q : VOk h v) : VOk h' v := by
  unfold VOk arrOk at q ⊢
  simp only [kd_fr a, ln_fr a, gR_fr a]
  exact q
/-- the arrays of a Viaduct lie behind it -/
def VAt (h : Mem) (v : Nat) : Prop := gR h v 1 = v + 1 ∧ gR h v 2 = v + 2 ∧ gR h v 3 = v + 3 ∧ gR h v 6 = v + 4 ∧ gR h v 7 = v + 5 ∧ gR h v 8 = v + 6 ∧ gR h v 9 = v + 7 ∧ gR h v 10 = v + 8 ∧ gR h v 11 = v + 9 ∧ gR h v 12 = v + 10 ∧ gR h v 14 = v + 11 ∧ gR h v 15 = v + 12
theorem VAt_fr {P : Nat → Prop} {h h' : Mem} (a : Fr P h h') {v : Nat} (q : VAt h v) : VAt h' v := by
  unfold VAt at q ⊢
  simp only [gR_fr a]
  exact q
/-- all of a Viaduct but its names -/
def VP (v : Nat) : Nat → Prop := fun r => v ≤ r ∧ r ≤ v + 12 ∧ ¬ r = v + 4
def jmpA (A : Int → Int) (a : Int) : Int → Int := pu (pu (pu A (10 + 3 * a) (min 60 (hoA A a + 1))) (10 + 3 * a + 1) (max 0 (moA A a - 1))) 8 (zor (A 8) (shlZ 1 a))
theorem tr_tab : ∀ s, s < 512 → ∀ i, i < 9 → 0 ≤ zor (s : Nat) (shlZ 1 (i : Nat)) ∧ zor (s : Nat) (shlZ 1 (i : Nat)) < 512 := by decide +kernel
theorem tr_b {s i : Int} (h0 : 0 ≤ s) (h1 : s ≤ 511) (h2 : 0 ≤ i) (h3 : i < 9) : 0 ≤ zor s (shlZ 1 i) ∧ zor s (shlZ 1 i) ≤ 511 := by
  obtain ⟨m, rfl⟩ := Int.eq_ofNat_of_zero_le h0
  obtain ⟨n, rfl⟩ := Int.eq_ofNat_of_zero_le h2
  have := tr_tab m (by omega) n (by omega)
  omega
theorem jmp_ok {K : Int} {A : Int → Int} {a : Int} (hA : AOk K A) (ha0 : 0 ≤ a) (ha1 : a < A 0) : AOk K (jmpA A a) := by
  obtain ⟨b0, b1, b2, b3, b4, b5, b6, b8, bK, ba, bp, bq⟩ := hA
  have h8 := tr_b b8.1 b8.2 ha0 (by omega)
  have hb := ba a ha0 ha1
  have c0 : jmpA A a 0 = A 0 := by simp only [jmpA, pu]; omega
  have c1 : jmpA A a 1 = A 1 := by simp only [jmpA, pu]; omega
  have c2 : jmpA A a 2 = A 2 := by simp only [jmpA, pu]; omega
  refine ⟨by omega, by omega, by omega, ?_, ?_, ?_, ?_, ?_, bK, ?_, ?_, ?_⟩
  · simp only [jmpA, pu]; omega
  · simp only [jmpA, pu]; omega
  · simp only [jmpA, pu]; omega
  · simp only [jmpA, pu]; omega
  · simp only [jmpA, pu]; omega
  · intro x hx0 hx1
    rw [c0] at hx1
    have := ba x hx0 hx1
    simp only [hoA, moA, toA, jmpA, pu] at this hb ⊢
    refine ⟨?_, ?_, ?_⟩ <;> omega
  · intro x hx0 hx1
    rw [c1] at hx1
    have := bp x hx0 hx1
    simp only [pA, jmpA, pu] at this ⊢
    refine ⟨?_, ?_, ?_, ?_, ?_, ?_⟩ <;> omega
  · intro x hx0 hx1
    rw [c2] at hx1
    have := bq x hx0 hx1
    simp only [plA, jmpA, pu] at this ⊢
    refine ⟨?_, ?_⟩ <;> omega
