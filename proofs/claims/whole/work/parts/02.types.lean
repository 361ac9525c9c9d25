/-! A small machine of our own: ints, longs and references as mathematical values, a memory of cells by number.
Its runs are tied to the real machine in part 03; everything later is said of it alone. -/
abbrev MV : Type := Int ⊕ (Int ⊕ Nat)
abbrev vI (z : Int) : MV := Sum.inl z
abbrev vL (z : Int) : MV := Sum.inr (Sum.inl z)
abbrev vR (r : Nat) : MV := Sum.inr (Sum.inr r)
/-- shapes (kind, length) of the cells; numbers by cell and place; references by cell and place -/
abbrev Mem : Type := List (Nat × Nat) × (Nat → Int → Int) × (Nat → Int → Nat)
abbrev Lo : Type := List (Option MV)
abbrev Info : Type := Nat × Int × Int × List (Int × Nat)
abbrev OpI : Type := Instr × Info
abbrev RetP : Type := Option MV → Mem → Prop
abbrev Cal : Type := Nat → List MV → Mem → RetP → Prop
abbrev Jmp : Type := Nat → Lo → List MV → Mem → Prop
abbrev Blk : Type := Lo → List MV → Mem → Prop
def totS (S : List (Nat × Nat)) : Nat := (S.map (·.2)).sum
