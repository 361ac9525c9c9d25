/-! LEVEL 2: decades as they are lived: the reference, a step's end -/
/-- nothing but what living changes has changed -/
def FrY (h h' : Mem) : Prop := h'.1 = h.1 ∧ h'.2.2 = h.2.2 ∧ ∀ r i, ¬ (r = 128 ∧ 0 ≤ i ∧ i < 90) → ¬ (r = 127 ∧ (i = 32 ∨ i = 33)) → ¬ r = 143 → ¬ r = 144 → gG h' r i = gG h r i
theorem FrY.refl {h : Mem} : FrY h h := ⟨rfl, rfl, fun _ _ _ _ _ _ => rfl⟩
theorem FrY.trans {h h' h'' : Mem} (a : FrY h h') (b : FrY h' h'') : FrY h h'' := ⟨b.1.trans a.1, b.2.1.trans a.2.1, fun r i h0 h1 h2 h3 => (b.2.2 r i h0 h1 h2 h3).trans (a.2.2 r i h0 h1 h2 h3)⟩
theorem FrD.Y {h h' : Mem} (a : FrD h h') : FrY h h' := ⟨a.1, a.2.1, fun r i h0 h1 _ h3 => a.2.2 r i h0 (fun q => h1 ⟨q.1, Or.inl q.2⟩) (fun q => h3 q.1)⟩
theorem FrY.s {h h' : Mem} {r : Nat} {i z : Int} (a : FrY h h') (hr : (r = 127 ∧ (i = 32 ∨ i = 33)) ∨ r = 143 ∨ r = 144) : FrY h (sG h' r i z) := ⟨a.1, a.2.1, fun r' i' h0 h1 h2 h3 => by rw [gG_sG, if_neg (by omega)]; exact a.2.2 r' i' h0 h1 h2 h3⟩
theorem FrY.f {P : Nat → Prop} {h h' : Mem} (a : Fr P h h') (hp : ∀ r, P r → r = 143) : FrY h h' := ⟨a.1, a.2.1, fun r i _ _ h2 _ => a.2.2 r (fun q => h2 (hp r q)) i⟩
theorem RSt.y {h h' : Mem} {R : Int → Int → Int} {N : Int} (q : RSt h R N) (h7 : gG h' 128 7 = N) (a : FrY h h') : RSt h' R N := ⟨h7, fun k j h0 h1 h2 h3 => (a.2.2 128 _ (by omega) (by omega) (by omega) (by omega)).trans (q.2 k j h0 h1 h2 h3)⟩
/-- the reference's rounds behind a loop: the same as the class's once the ends are passed -/
theorem sk_loop {R : Int → Int → Int} {N k : Int} {D L : Int → Int} (hN : Nst R N D) (hk : 0 ≤ k ∧ k < N) (h21 : R k 0 = 21) (hf : 1 ≤ R k 1 ∧ R k 1 ≤ 99) (hop : k < R k 4 ∧ R k 4 < N) : ∃ m, skN R N m (k + 1) (pu L k (R k 1 - 1)) = skN R N 4 (k + 1) (lL R L k) := by
  obtain ⟨hw, hpp⟩ := hN.2.2.2 k hk.1 hk.2 (Or.inl h21)
  by_cases e : R k 4 = k + 1
  · rw [show lL R L k = pu L k 0 by unfold lL; rw [if_pos h21, if_pos e]]
    rw [e] at hop hw hpp
    refine ⟨4 + (R k 1 - 1).toNat, ?_⟩
    have := sk_empty (R := R) (N := N) (k := k + 1) (o := k) (L := L) (by omega) hw hpp h21 rfl (R k 1 - 1).toNat 4
    rw [show (((R k 1 - 1).toNat : Nat) : Int) = R k 1 - 1 by omega] at this
    exact this
  · rw [show lL R L k = pu L k (R k 1 - 1) by unfold lL; rw [if_pos h21, if_neg e]]
    exact ⟨4, rfl⟩
/-- the next row's ends are soon passed -/
theorem lL_ne {R : Int → Int → Int} {N k k1 : Int} {D L : Int → Int} (hN : Nst R N D) (hk : 0 ≤ k ∧ k < N) (h1 : k1 = k + 1 ∨ (2000 ≤ R k 0 ∧ k1 = R k 4 + 1)) : NE1 R N (lL R L k) k1 := by
  intro q1 q2 q3 q4
  rcases h1 with e | ⟨w, e⟩
  · subst e
    rw [show k + 1 - 1 = k by omega] at q3 q4 ⊢
    have b := (hN.2.1 (k + 1) (by omega) q1 q2).2.2.2
    rw [q3] at b
    unfold lL
    rw [if_pos q4, if_pos b, pu_e]
  · subst e
    rw [show R k 4 + 1 - 1 = R k 4 by omega] at q4
    have b := (hN.2.2.2 k hk.1 hk.2 (Or.inr w)).1
    omega
