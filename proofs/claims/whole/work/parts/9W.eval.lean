/-! LEVEL 3: runs that need no input, by evaluation -/
abbrev M1 : Type := List (Nat × Nat) × List (Nat × Int × Int) × List (Nat × Int × Nat)
def lkG : List (Nat × Int × Int) → Nat → Int → Int
  | [], _, _ => 0
  | e :: l, r, i => if r = e.1 ∧ i = e.2.1 then e.2.2 else lkG l r i
def lkR : List (Nat × Int × Nat) → Nat → Int → Nat
  | [], _, _ => 999999
  | e :: l, r, i => if r = e.1 ∧ i = e.2.1 then e.2.2 else lkR l r i
def ab (m : M1) : Mem := (m.1, fun r i => lkG m.2.1 r i, fun r i => lkR m.2.2 r i)
def pG (m : M1) (r : Nat) (i z : Int) : M1 := (m.1, (r, i, z) :: m.2.1, m.2.2)
def pR (m : M1) (r : Nat) (i : Int) (z : Nat) : M1 := (m.1, m.2.1, (r, i, z) :: m.2.2)
def pA1 (m : M1) (k n : Nat) : M1 := (m.1 ++ [(k, n)], m.2.1, m.2.2)
theorem ab_G {m : M1} {r : Nat} {i z : Int} : ab (pG m r i z) = sG (ab m) r i z := rfl
theorem ab_R {m : M1} {r : Nat} {i : Int} {z : Nat} : ab (pR m r i z) = sR (ab m) r i z := rfl
def fresh (m : M1) : Bool := m.2.1.all (fun e => !(e.1 == m.1.length)) && m.2.2.all (fun e => !(e.1 == m.1.length))
theorem lkG_f {n : Nat} : ∀ (l : List (Nat × Int × Int)), (l.all (fun e => !(e.1 == n))) = true → ∀ i, lkG l n i = 0 := by
  intro l; induction l with
  | nil => intro _ i; rfl
  | cons e l ih =>
    intro h i
    rw [List.all_cons, Bool.and_eq_true] at h
    have he : ¬ n = e.1 := fun q => by
      have h1 := h.1
      rw [← q, beq_self_eq_true] at h1
      cases h1
    show (if n = e.1 ∧ i = e.2.1 then e.2.2 else lkG l n i) = 0
    rw [if_neg (fun q => he q.1)]
    exact ih h.2 i
theorem lkR_f {n : Nat} : ∀ (l : List (Nat × Int × Nat)), (l.all (fun e => !(e.1 == n))) = true → ∀ i, lkR l n i = 999999 := by
  intro l; induction l with
  | nil => intro _ i; rfl
  | cons e l ih =>
    intro h i
    rw [List.all_cons, Bool.and_eq_true] at h
    have he : ¬ n = e.1 := fun q => by
      have h1 := h.1
      rw [← q, beq_self_eq_true] at h1
      cases h1
    show (if n = e.1 ∧ i = e.2.1 then e.2.2 else lkR l n i) = 999999
    rw [if_neg (fun q => he q.1)]
    exact ih h.2 i
theorem ab_A {m : M1} {k n : Nat} (hf : fresh m = true) : ab (pA1 m k n) = alc (ab m) k n := by
  unfold fresh at hf
  rw [Bool.and_eq_true] at hf
  unfold ab pA1 alc
  refine Prod.ext rfl (Prod.ext ?_ ?_)
  · funext r i
    show lkG m.2.1 r i = if r = m.1.length then 0 else lkG m.2.1 r i
    by_cases e : r = m.1.length
    · rw [if_pos e, e]; exact lkG_f _ hf.1 i
    · rw [if_neg e]
  · funext r i
    show lkR m.2.2 r i = if r = m.1.length then 999999 else lkR m.2.2 r i
    by_cases e : r = m.1.length
    · rw [if_pos e, e]; exact lkR_f _ hf.2 i
    · rw [if_neg e]
abbrev Rs : Type := (Lo × List MV × M1) ⊕ ((Nat × Lo × List MV × M1) ⊕ (Option MV × M1))
def post (k : Blk) (J : Jmp) (Q : RetP) (s : Rs) : Prop := match s with
  | .inl q => k q.1 q.2.1 (ab q.2.2)
  | .inr (.inl q) => J q.1 q.2.1 q.2.2.1 (ab q.2.2.2)
  | .inr (.inr q) => Q q.1 (ab q.2)
def eN1 (lo : Lo) (st : List MV) (m : M1) : Option Rs := some (.inl (lo, st, m))
def eJ1 (t : Nat) (lo : Lo) (st : List MV) (m : M1) : Option Rs := some (.inr (.inl (t, lo, st, m)))
section EV
variable {k : Blk} {J : Jmp} {Q : RetP} {s : Rs} {lo : Lo} {st : List MV} {m : M1} {S1 : List (Nat × Nat)}
theorem eN_p (h : eN1 lo st m = some s) (hp : post k J Q s) : k lo st (ab m) := by
  have := Option.some.inj h
  subst this
  exact hp
theorem eJ_p {t : Nat} (h : eJ1 t lo st m = some s) (hp : post k J Q s) : J t lo st (ab m) := by
  have := Option.some.inj h
  subst this
  exact hp
def e_ald (n : Nat) (lo : Lo) (st : List MV) (m : M1) : Option Rs := match nthL lo n with
  | some (.inr (.inr r)) => eN1 lo (vR r :: st) m
  | _ => none
theorem e_ald_k {n : Nat} (h : e_ald n lo st m = some s) (hp : post k J Q s) : o_ald n k lo st (ab m) := by
  unfold e_ald at h
  unfold o_ald
  split at h
  · rename_i r he
    rw [he]
    exact eN_p h hp
  · cases h
def e_ild (n : Nat) (lo : Lo) (st : List MV) (m : M1) : Option Rs := match nthL lo n with
  | some (.inl z) => eN1 lo (vI z :: st) m
  | _ => none
theorem e_ild_k {n : Nat} (h : e_ild n lo st m = some s) (hp : post k J Q s) : o_ild n k lo st (ab m) := by
  unfold e_ild at h
  unfold o_ild
  split at h
  · rename_i r he
    rw [he]
    exact eN_p h hp
  · cases h
def e_ist (n : Nat) (lo : Lo) (st : List MV) (m : M1) : Option Rs := match st with
  | .inl z :: st => eN1 (sto1 lo n (vI z)) st m
  | _ => none
theorem e_ist_k {n : Nat} (h : e_ist n lo st m = some s) (hp : post k J Q s) : o_ist n k lo st (ab m) := by
  unfold e_ist at h
  split at h
  · have q := eN_p (k := k) (J := J) (Q := Q) h hp
    exact q
  · cases h
def e_ast (n : Nat) (lo : Lo) (st : List MV) (m : M1) : Option Rs := match st with
  | .inr (.inr z) :: st => eN1 (sto1 lo n (vR z)) st m
  | _ => none
theorem e_ast_k {n : Nat} (h : e_ast n lo st m = some s) (hp : post k J Q s) : o_ast n k lo st (ab m) := by
  unfold e_ast at h
  split at h
  · have q := eN_p (k := k) (J := J) (Q := Q) h hp
    exact q
  · cases h
def e_inc (n : Nat) (c : Int) (lo : Lo) (st : List MV) (m : M1) : Option Rs := match nthL lo n with
  | some (.inl z) => if -2147483648 ≤ z + c ∧ z + c ≤ 2147483647 then eN1 (sto1 lo n (vI (z + c))) st m else none
  | _ => none
theorem e_inc_k {n : Nat} {c : Int} (h : e_inc n c lo st m = some s) (hp : post k J Q s) : o_inc n c k lo st (ab m) := by
  unfold e_inc at h
  unfold o_inc
  split at h
  · rename_i z he
    rw [he]
    split at h
    · rename_i q
      exact ⟨q, eN_p h hp⟩
    · cases h
  · cases h
def e_iadd (lo : Lo) (st : List MV) (m : M1) : Option Rs := match st with
  | .inl b :: .inl a :: st => if -2147483648 ≤ a + b ∧ a + b ≤ 2147483647 then eN1 lo (vI (a + b) :: st) m else none
  | _ => none
theorem e_iadd_k (h : e_iadd lo st m = some s) (hp : post k J Q s) : o_iadd k lo st (ab m) := by
  unfold e_iadd at h
  split at h
  · split at h
    · rename_i q
      exact ⟨q, eN_p h hp⟩
    · cases h
  · cases h
def e_dup (lo : Lo) (st : List MV) (m : M1) : Option Rs := match st with
  | v :: st => match cat1 v with
    | true => eN1 lo (v :: v :: st) m
    | false => none
  | _ => none
theorem e_dup_k (h : e_dup lo st m = some s) (hp : post k J Q s) : o_dup k lo st (ab m) := by
  unfold e_dup at h
  unfold o_dup
  split at h
  · split at h
    · rename_i he
      show (match cat1 _ with | true => _ | false => False)
      rw [he]
      exact eN_p h hp
    · cases h
  · cases h
def e_ge (t : Nat) (lo : Lo) (st : List MV) (m : M1) : Option Rs := match st with
  | .inl b :: .inl a :: st => if b ≤ a then eJ1 t lo st m else eN1 lo st m
  | _ => none
theorem e_ge_k {t : Nat} (h : e_ge t lo st m = some s) (hp : post k J Q s) : o_icmp .ge J t k lo st (ab m) := by
  unfold e_ge at h
  split at h
  · split at h
    · rename_i q
      exact ⟨fun _ => eJ_p h hp, fun x => by omega⟩
    · rename_i q
      exact ⟨fun x => absurd x q, fun _ => eN_p h hp⟩
  · cases h
def e_get (c : Nat) (f t : Int) (lo : Lo) (st : List MV) (m : M1) : Option Rs := match st with
  | .inr (.inr r) :: st => if kd (ab m) r = c then (match t with
    | 1 => eN1 lo (vL (gG (ab m) r f) :: st) m
    | 2 => eN1 lo (vR (gR (ab m) r f) :: st) m
    | _ => eN1 lo (vI (gG (ab m) r f) :: st) m) else none
  | _ => none
theorem e_get_k {c : Nat} {f t : Int} (h : e_get c f t lo st m = some s) (hp : post k J Q s) : o_get c f t k lo st (ab m) := by
  unfold e_get at h
  unfold o_get
  split at h
  · split at h
    · rename_i q
      refine ⟨q, ?_⟩
      split at h
      · exact eN_p h hp
      · exact eN_p h hp
      · rename_i n1 n2
        split
        · exact absurd rfl n1
        · exact absurd rfl n2
        · exact eN_p h hp
    · cases h
  · cases h
def e_put (c : Nat) (f t : Int) (lo : Lo) (st : List MV) (m : M1) : Option Rs := match st with
  | v :: .inr (.inr r) :: st => if kd (ab m) r = c then (match t, v with
    | 0, .inl z => eN1 lo st (pG m r f z)
    | 1, .inr (.inl z) => eN1 lo st (pG m r f z)
    | 2, .inr (.inr q) => eN1 lo st (pR m r f q)
    | 3, .inl z => if z = 0 ∨ z = 1 then eN1 lo st (pG m r f z) else none
    | _, _ => none) else none
  | _ => none
theorem e_put_k {c : Nat} {f t : Int} (h : e_put c f t lo st m = some s) (hp : post k J Q s) : o_put c f t k lo st (ab m) := by
  unfold e_put at h
  unfold o_put
  split at h
  · split at h
    · rename_i q
      refine ⟨q, ?_⟩
      split at h
      · exact eN_p h hp
      · exact eN_p h hp
      · exact eN_p h hp
      · split at h
        · rename_i q2
          exact ⟨q2, eN_p h hp⟩
        · cases h
      · cases h
    · cases h
  · cases h
def e_iasI (lo : Lo) (st : List MV) (m : M1) : Option Rs := match st with
  | .inl z :: .inl i :: .inr (.inr r) :: st => if kd (ab m) r = 100 ∧ 0 ≤ i ∧ i < ln (ab m) r then eN1 lo st (pG m r i z) else none
  | _ => none
theorem e_iasI_k (h : e_iasI lo st m = some s) (hp : post k J Q s) : o_iasI k lo st (ab m) := by
  unfold e_iasI at h
  split at h
  · split at h
    · rename_i q
      exact ⟨q, eN_p h hp⟩
    · cases h
  · cases h
def e_aas (kk ck : Nat) (lo : Lo) (st : List MV) (m : M1) : Option Rs := match st with
  | .inr (.inr q) :: .inl i :: .inr (.inr r) :: st => if (kd (ab m) r = kk ∧ 0 ≤ i ∧ i < ln (ab m) r) ∧ kd (ab m) q = ck then eN1 lo st (pR m r i q) else none
  | _ => none
theorem e_aas_k {kk ck : Nat} (h : e_aas kk ck lo st m = some s) (hp : post k J Q s) : o_aas kk ck k lo st (ab m) := by
  unfold e_aas at h
  split at h
  · split at h
    · rename_i q
      exact ⟨q, eN_p h hp⟩
    · cases h
  · cases h
def e_new (S1 : List (Nat × Nat)) (c n : Nat) (lo : Lo) (st : List MV) (m : M1) : Option Rs := if (m.1.length + 1 ≤ S1.length ∧ totS m.1 + n ≤ totS S1 ∧ m.1.length < 800000) ∧ fresh m = true then eN1 lo (vR m.1.length :: st) (pA1 m c n) else none
theorem e_new_k {c n : Nat} (h : e_new S1 c n lo st m = some s) (hp : post k J Q s) : o_new S1 c n k lo st (ab m) := by
  unfold e_new at h
  split at h
  · rename_i q
    refine ⟨q.1, ?_⟩
    rw [← ab_A q.2]
    exact eN_p h hp
  · cases h
def e_nea (S1 : List (Nat × Nat)) (kk : Nat) (lo : Lo) (st : List MV) (m : M1) : Option Rs := match st with
  | .inl z :: st => if (0 ≤ z ∧ z < 100000 ∧ (m.1.length + 1 ≤ S1.length ∧ totS m.1 + z.toNat ≤ totS S1 ∧ m.1.length < 800000)) ∧ fresh m = true then eN1 lo (vR m.1.length :: st) (pA1 m kk z.toNat) else none
  | _ => none
theorem e_nea_k {kk : Nat} (h : e_nea S1 kk lo st m = some s) (hp : post k J Q s) : o_nea S1 kk k lo st (ab m) := by
  unfold e_nea at h
  split at h
  · split at h
    · rename_i q
      refine ⟨q.1, ?_⟩
      rw [← ab_A q.2]
      exact eN_p h hp
    · cases h
  · cases h
abbrev Cl1 : Type := Nat → List MV → M1 → Option (Option MV × M1)
def e_call (C : Cl1) (y n : Nat) (lo : Lo) (st : List MV) (m : M1) : Option Rs := if (st.drop n).length ≤ 4 ∧ n ≤ st.length then (match C y (st.take n).reverse m with
  | some q => eN1 lo (psh q.1 (st.drop n)) q.2
  | none => none) else none
def okC (C : Cl1) (C' : Cal) : Prop := ∀ y as m r m', C y as m = some (r, m') → ∀ Q : RetP, Q r (ab m') → C' y as (ab m) Q
theorem e_call_k {C : Cl1} {C' : Cal} {y n : Nat} (hC : okC C C') (h : e_call C y n lo st m = some s) (hp : post k J Q s) : o_call C' y n k lo st (ab m) := by
  unfold e_call at h
  split at h
  · rename_i q
    split at h
    · rename_i q2 he
      exact ⟨q.1, q.2, hC y _ m q2.1 q2.2 he _ (eN_p h hp)⟩
    · cases h
  · cases h
def e_callV (C : Cl1) (y n c : Nat) (lo : Lo) (st : List MV) (m : M1) : Option Rs := match (st.take n).reverse with
  | .inr (.inr r) :: _ => if kd (ab m) r = c then e_call C y n lo st m else none
  | _ => none
theorem e_callV_k {C : Cl1} {C' : Cal} {y n c : Nat} (hC : okC C C') (h : e_callV C y n c lo st m = some s) (hp : post k J Q s) : o_callV C' y n c k lo st (ab m) := by
  unfold e_callV at h
  unfold o_callV
  split at h
  · rename_i r as he
    rw [he]
    split at h
    · rename_i q
      exact ⟨q, e_call_k hC h hp⟩
    · cases h
  · cases h
def e_callI (C : Cl1) (S1 : List (Nat × Nat)) (y n c : Nat) (ps : List (Int × Nat)) (lo : Lo) (st : List MV) (m : M1) : Option Rs := match ps with
  | q :: _ => if m.1.length + q.1.toNat ≤ S1.length ∧ totS m.1 + q.2 ≤ totS S1 then e_callV C y n c lo st m else none
  | _ => none
theorem e_callI_k {C : Cl1} {C' : Cal} {y n c : Nat} {ps : List (Int × Nat)} (hC : okC C C') (h : e_callI C S1 y n c ps lo st m = some s) (hp : post k J Q s) : o_callI C' S1 y n c ps k lo st (ab m) := by
  unfold e_callI at h
  unfold o_callI
  split at h
  · split at h
    · rename_i q
      exact ⟨q, e_callV_k hC h hp⟩
    · cases h
  · cases h
def e_oin (lo : Lo) (st : List MV) (m : M1) : Option Rs := match st with
  | .inr (.inr r) :: st => if kd (ab m) r < 11 ∧ st.length ≤ 4 then eN1 lo st m else none
  | _ => none
theorem e_oin_k (h : e_oin lo st m = some s) (hp : post k J Q s) : o_oin k lo st (ab m) := by
  unfold e_oin at h
  split at h
  · split at h
    · rename_i q
      exact ⟨q, eN_p h hp⟩
    · cases h
  · cases h
def e_vret (S1 : List (Nat × Nat)) (st : List MV) (m : M1) : Option Rs := match st with
  | [] => if m.1 = S1 then some (.inr (.inr (none, m))) else none
  | _ => none
theorem e_vret_k (h : e_vret S1 st m = some s) (hp : post k J Q s) : o_vret Q S1 lo st (ab m) := by
  unfold e_vret at h
  split at h
  · split at h
    · rename_i q
      have := Option.some.inj h
      subst this
      exact ⟨q, hp⟩
    · cases h
  · cases h
def e_iv (C : Cl1) (y : Nat) (f z : Int) (lo : Lo) (st : List MV) (m : M1) : Option Rs := match z with
  | 99 => e_call C y f.toNat lo st m
  | _ => e_callV C y f.toNat z.toNat lo st m
theorem e_iv_k {C : Cl1} {C' : Cal} {y : Nat} {f z : Int} (hC : okC C C') (h : e_iv C y f z lo st m = some s) (hp : post k J Q s) : (match z with
  | 99 => o_call C' y f.toNat k
  | _ => o_callV C' y f.toNat z.toNat k) lo st (ab m) := by
  unfold e_iv at h
  split at h
  · exact e_call_k hC h hp
  · exact e_callV_k hC h hp
def e_is (C : Cl1) (S1 : List (Nat × Nat)) (y : Nat) (f z : Int) (ps : List (Int × Nat)) (lo : Lo) (st : List MV) (m : M1) : Option Rs := match y with
  | 1999 => e_oin lo st m
  | _ => e_callI C S1 y f.toNat z.toNat ps lo st m
theorem e_is_k {C : Cl1} {C' : Cal} {y : Nat} {f z : Int} {ps : List (Int × Nat)} (hC : okC C C') (h : e_is C S1 y f z ps lo st m = some s) (hp : post k J Q s) : (match y with
  | 1999 => o_oin k
  | _ => o_callI C' S1 y f.toNat z.toNat ps k) lo st (ab m) := by
  unfold e_is at h
  split at h
  · exact e_oin_k h hp
  · exact e_callI_k hC h hp
end EV
/-- one instruction -/
def op1 (C : Cl1) (S1 : List (Nat × Nat)) (x : OpI) (lo : Lo) (st : List MV) (m : M1) : Option Rs := match x with
  | (i, y, f, z, ps) => match i with
  | .aload_n n => e_ald n.val lo st m
  | .iload_n n => e_ild n.val lo st m
  | .istore_n n => e_ist n.val lo st m
  | .astore_n n => e_ast n.val lo st m
  | .iinc n c => e_inc n c lo st m
  | .iconst z => eN1 lo (vI z :: st) m
  | .bipush z => eN1 lo (vI z :: st) m
  | .sipush z => eN1 lo (vI z :: st) m
  | .lconst z => eN1 lo (vL z.val :: st) m
  | .iadd => e_iadd lo st m
  | .dup => e_dup lo st m
  | .goto _ => eJ1 y lo st m
  | .nop => eJ1 y lo st m
  | .if_icmp c _ => match c with
    | .ge => e_ge y lo st m
    | _ => none
  | .getfield _ => e_get y f z lo st m
  | .putfield _ => e_put y f z lo st m
  | .iastore => e_iasI lo st m
  | .aastore => e_aas y f.toNat lo st m
  | .new _ => e_new S1 y f.toNat lo st m
  | .newarray _ => e_nea S1 y lo st m
  | .anewarray _ => e_nea S1 y lo st m
  | .invokevirtual _ => e_iv C y f z lo st m
  | .invokespecial _ => e_is C S1 y f z ps lo st m
  | .return_ => e_vret S1 st m
  | _ => none
set_option maxHeartbeats 4000000 in
theorem op_k {C : Cl1} {C' : Cal} {S1 : List (Nat × Nat)} {x : OpI} {k : Blk} {J : Jmp} {Q : RetP} {s : Rs} {lo : Lo} {st : List MV} {m : M1} (hC : okC C C') (h : op1 C S1 x lo st m = some s) (hp : post k J Q s) : opd C' J Q S1 x k lo st (ab m) := by
  obtain ⟨i, y, f, z, ps⟩ := x
  cases i with
  | aload_n n => exact e_ald_k (n := n.val) h hp
  | iload_n n => exact e_ild_k (n := n.val) h hp
  | istore_n n => exact e_ist_k (n := n.val) h hp
  | astore_n n => exact e_ast_k (n := n.val) h hp
  | iinc n c => exact e_inc_k h hp
  | iconst z => exact eN_p (lo := lo) (st := vI z :: st) (m := m) h hp
  | bipush z => exact eN_p (lo := lo) (st := vI z :: st) (m := m) h hp
  | sipush z => exact eN_p (lo := lo) (st := vI z :: st) (m := m) h hp
  | lconst z => exact eN_p (lo := lo) (st := vL z.val :: st) (m := m) h hp
  | iadd => exact e_iadd_k h hp
  | dup => exact e_dup_k h hp
  | goto t => exact ⟨eJ_p (t := y) (lo := lo) (st := st) (m := m) h hp, trivial⟩
  | nop => exact ⟨eJ_p (t := y) (lo := lo) (st := st) (m := m) h hp, trivial⟩
  | if_icmp c t =>
    cases c with
    | ge => exact e_ge_k (t := y) h hp
    | _ => exact nomatch (show none = some s from h)
  | getfield t => exact e_get_k (c := y) (f := f) (t := z) h hp
  | putfield t => exact e_put_k (c := y) (f := f) (t := z) h hp
  | iastore => exact e_iasI_k h hp
  | aastore => exact e_aas_k (kk := y) (ck := f.toNat) h hp
  | new t => exact e_new_k (c := y) (n := f.toNat) h hp
  | newarray t => exact e_nea_k (kk := y) h hp
  | anewarray t => exact e_nea_k (kk := y) h hp
  | invokevirtual t => exact e_iv_k hC h hp
  | invokespecial t => exact e_is_k hC h hp
  | return_ => exact e_vret_k (lo := lo) h hp
  | _ => exact nomatch (show none = some s from h)
def runB (C : Cl1) (S1 : List (Nat × Nat)) (K : List (Nat × List OpI)) : Nat → List OpI → Lo → List MV → M1 → Option (Option MV × M1)
  | 0, _, _, _, _ => none
  | _ + 1, [], _, _, _ => none
  | f + 1, x :: ops, lo, st, m => match op1 C S1 x lo st m with
    | some (.inl q) => runB C S1 K f ops q.1 q.2.1 q.2.2
    | some (.inr (.inl q)) => runB C S1 K f (lkB K q.1) q.2.1 q.2.2.1 q.2.2.2
    | some (.inr (.inr q)) => some q
    | none => none
theorem runB_k {C : Cl1} {C' : Cal} {S1 : List (Nat × Nat)} {K : List (Nat × List OpI)} {Q : RetP} {r : Option MV} {m' : M1} (hC : okC C C') (hQ : Q r (ab m')) : ∀ (f : Nat) (ops : List OpI) (lo : Lo) (st : List MV) (m : M1), runB C S1 K f ops lo st m = some (r, m') → den C' (Ex C' K S1 Q) Q S1 ops lo st (ab m) := by
  intro f; induction f with
  | zero => intro ops lo st m h; cases h
  | succ f ih =>
    intro ops lo st m h
    cases ops with
    | nil => cases h
    | cons x ops =>
      have h2 : (match op1 C S1 x lo st m with
        | some (.inl q) => runB C S1 K f ops q.1 q.2.1 q.2.2
        | some (.inr (.inl q)) => runB C S1 K f (lkB K q.1) q.2.1 q.2.2.1 q.2.2.2
        | some (.inr (.inr q)) => some q
        | none => none) = some (r, m') := h
      show opd C' (Ex C' K S1 Q) Q S1 x (den C' (Ex C' K S1 Q) Q S1 ops) lo st (ab m)
      split at h2
      · rename_i q he
        exact op_k hC he (ih _ _ _ _ h2)
      · rename_i q he
        exact op_k hC he (Ex_step (ih _ _ _ _ h2))
      · rename_i q he
        have := Option.some.inj h2
        subst this
        exact op_k hC he hQ
      · cases h2
def call1 (fu : Nat) : Nat → Cl1
  | 0 => fun _ _ _ => none
  | d + 1 => fun y as m => if y < 1000 ∧ (as.flatMap lay1).length ≤ (mi y).2.2.1 then runB (call1 fu d) (m.1 ++ (mi y).2.2.2.2.2.2.1) (mi y).2.2.2.2.2.2.2 fu (lkB (mi y).2.2.2.2.2.2.2 0) (entL as (mi y).2.2.1) [] m else none
theorem call1_k {X : Int → Int} {XL : Int} {fu : Nat} : ∀ d, okC (call1 fu d) (WP X XL d) := by
  intro d; induction d with
  | zero => intro y as m r m' h; cases h
  | succ d ih =>
    intro y as m r m' h Q hQ
    have h2 : (if y < 1000 ∧ (as.flatMap lay1).length ≤ (mi y).2.2.1 then runB (call1 fu d) (m.1 ++ (mi y).2.2.2.2.2.2.1) (mi y).2.2.2.2.2.2.2 fu (lkB (mi y).2.2.2.2.2.2.2 0) (entL as (mi y).2.2.1) [] m else none) = some (r, m') := h
    split at h2
    · rename_i q
      unfold WP
      rw [if_pos q.1]
      exact ⟨q.2, Ex_step (runB_k ih hQ _ _ _ _ _ h2)⟩
    · cases h2
/-- a block up to its jump -/
def blkJ (C : Cl1) (S1 : List (Nat × Nat)) : List OpI → Lo → List MV → M1 → Option (Nat × Lo × List MV × M1)
  | [], _, _, _ => none
  | x :: ops, lo, st, m => match op1 C S1 x lo st m with
    | some (.inl q) => blkJ C S1 ops q.1 q.2.1 q.2.2
    | some (.inr (.inl q)) => some q
    | _ => none
theorem blkJ_k {C : Cl1} {C' : Cal} {S1 : List (Nat × Nat)} {J : Jmp} {Q : RetP} (hC : okC C C') : ∀ (ops : List OpI) (lo : Lo) (st : List MV) (m : M1) (q : Nat × Lo × List MV × M1), blkJ C S1 ops lo st m = some q → J q.1 q.2.1 q.2.2.1 (ab q.2.2.2) → den C' J Q S1 ops lo st (ab m) := by
  intro ops; induction ops with
  | nil => intro lo st m q h; cases h
  | cons x ops ih =>
    intro lo st m q h hJ
    have h2 : (match op1 C S1 x lo st m with
      | some (.inl q) => blkJ C S1 ops q.1 q.2.1 q.2.2
      | some (.inr (.inl q)) => some q
      | _ => none) = some q := h
    show opd C' J Q S1 x (den C' J Q S1 ops) lo st (ab m)
    split at h2
    · rename_i q2 he
      exact op_k hC he (ih _ _ _ _ h2 hJ)
    · rename_i q2 he
      have := Option.some.inj h2
      subst this
      exact op_k hC he hJ
    · cases h2
/-- both constructors -/
def lawB : Option (Nat × Lo × List MV × M1) := blkJ (call1 20000 40) (growM 353) (lkB KL_law 0) (entL [vR 900000] 4) [] ([], [], [])
def isR (v : Option MV) (r : Nat) : Bool := match v with
  | some (.inr (.inr q)) => q == r
  | _ => false
def isI (v : Option MV) (z : Int) : Bool := match v with
  | some (.inl q) => q == z
  | _ => false
theorem isR_e {v : Option MV} {r : Nat} (h : isR v r = true) : v = some (vR r) := by
  unfold isR at h
  split at h
  · rw [beq_iff_eq] at h; rw [h]
  · cases h
theorem isI_e {v : Option MV} {z : Int} (h : isI v z = true) : v = some (vI z) := by
  unfold isI at h
  split at h
  · rw [beq_iff_eq] at h; rw [h]
  · cases h
def lawT : Bool := match lawB with
  | some q => match q.2.1, q.2.2.1 with
    | [a, b, c, e], [] => q.1 == 18 && (isR a 900000 && (isR b 0 && (isR c 127 && isI e 0)))
    | _, _ => false
  | none => false
theorem lawT_1 : lawT = true := by decide +kernel
theorem lawB_1 : ∃ m, lawB = some (18, [some (vR 900000), some (vR 0), some (vR 127), some (vI 0)], [], m) := by
  have h := lawT_1
  unfold lawT at h
  split at h
  · rename_i q he
    split at h
    · rename_i a b c e h1 h2
      simp only [Bool.and_eq_true, beq_iff_eq] at h
      obtain ⟨g1, g2, g3, g4, g5⟩ := h
      refine ⟨q.2.2.2, ?_⟩
      rw [he, ← isR_e g2, ← isR_e g3, ← isR_e g4, ← isI_e g5, ← h1, ← g1, ← h2]
    · cases h
  · cases h
