/-! LEVEL 2: decades as they are lived: ends and fuel, pure -/
theorem rw_sk {R : Int → Int → Int} {N : Int} : ∀ (m : Nat) (k : Int) (L : Int → Int), ∃ c, c ≤ m ∧ ∀ (f : Nat) (A : Int → Int) (x dn mi : Int), rwN R N (f + c) A x L k dn mi = rwN R N f A x (skN R N m k L).2 (skN R N m k L).1 dn mi := by
  intro m; induction m with
  | zero => intro k L; exact ⟨0, by omega, fun f A x dn mi => rfl⟩
  | succ m ih =>
    intro k L
    rw [sk_s]
    by_cases hc : k < N ∧ R k 0 = 22
    · rw [if_pos hc]
      obtain ⟨c, hcm, he⟩ := ih (eK R L k) (eL R L k)
      refine ⟨c + 1, by omega, fun f A x dn mi => ?_⟩
      rw [← he f A x dn mi, show f + (c + 1) = f + c + 1 by omega, rw_s, if_neg (fun q => q hc.1), if_pos hc.2]
    · rw [if_neg hc]
      exact ⟨0, by omega, fun f A x dn mi => rfl⟩
/-- the rounds of a loop without a step: the reference counts them down -/
theorem sk_empty {R : Int → Int → Int} {N k o : Int} {L : Int → Int} (hk : k < N) (hw : R k 0 = 22) (ho : R k 4 = o) (hwo : R o 0 = 21) (he : o + 1 = k) : ∀ (n m : Nat), skN R N (m + n) k (pu L o (n : Int)) = skN R N m k (pu L o 0) := by
  intro n; induction n with
  | zero => intro m; rfl
  | succ n ih =>
    intro m
    have hg : R (R k 4) 0 = 21 ∧ 0 < pu L o ((n + 1 : Nat) : Int) (R k 4) := by rw [ho, pu_e]; exact ⟨hwo, by omega⟩
    rw [show m + (n + 1) = m + n + 1 by omega, sk_s, if_pos ⟨hk, hw⟩, show eK R (pu L o ((n + 1 : Nat) : Int)) k = R k 4 + 1 from if_pos hg, show eL R (pu L o ((n + 1 : Nat) : Int)) k = pu (pu L o ((n + 1 : Nat) : Int)) (R k 4) (pu L o ((n + 1 : Nat) : Int) (R k 4) - 1) from if_pos hg, ho, pu_e, pu_pu, he, show ((n + 1 : Nat) : Int) - 1 = (n : Int) by omega]
    exact ih m
/-- more fuel changes nothing where the ends are passed -/
theorem sk_more {R : Int → Int → Int} {N : Int} : ∀ (m : Nat) (k : Int) (L : Int → Int) (n : Nat), ¬ ((skN R N m k L).1 < N ∧ R (skN R N m k L).1 0 = 22) → skN R N (m + n) k L = skN R N m k L := by
  intro m; induction m with
  | zero =>
    intro k L n h
    cases n with
    | zero => rfl
    | succ n =>
      rw [show 0 + (n + 1) = n + 1 by omega, sk_s, if_neg (show ¬ (k < N ∧ R k 0 = 22) from h)]
      rfl
  | succ m ih =>
    intro k L n h
    rw [sk_s] at h
    rw [show m + 1 + n = m + n + 1 by omega, sk_s, sk_s]
    by_cases hc : k < N ∧ R k 0 = 22
    · rw [if_pos hc] at h ⊢
      rw [if_pos hc]
      exact ih _ _ n h
    · rw [if_neg hc, if_neg hc]
