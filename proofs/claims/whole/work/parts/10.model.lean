/-! what the instructions do -/
def gG (h : Mem) (r : Nat) (i : Int) : Int := h.2.1 r i
def gR (h : Mem) (r : Nat) (i : Int) : Nat := h.2.2 r i
def kd (h : Mem) (r : Nat) : Nat := (h.1.getD r (999, 0)).1
def ln (h : Mem) (r : Nat) : Int := ((h.1.getD r (999, 0)).2 : Int)
def sG (h : Mem) (r : Nat) (i z : Int) : Mem := (h.1, fun r' i' => if r' = r ∧ i' = i then z else h.2.1 r' i', h.2.2)
def sR (h : Mem) (r : Nat) (i : Int) (z : Nat) : Mem := (h.1, h.2.1, fun r' i' => if r' = r ∧ i' = i then z else h.2.2 r' i')
def alc (h : Mem) (k n : Nat) : Mem := (h.1 ++ [(k, n)], fun r i => if r = h.1.length then 0 else h.2.1 r i, fun r i => if r = h.1.length then 999999 else h.2.2 r i)
def cpG (h : Mem) (src : Nat) (sp : Int) (dst : Nat) (dp n : Int) : Mem := (h.1, fun r i => if r = dst ∧ dp ≤ i ∧ i < dp + n then h.2.1 src (sp + (i - dp)) else h.2.1 r i, h.2.2)
def inI (z : Int) : Prop := -2147483648 ≤ z ∧ z ≤ 2147483647
def inL (z : Int) : Prop := -9223372036854775808 ≤ z ∧ z ≤ 9223372036854775807
def nthL (lo : Lo) (i : Nat) : Option MV := (lo[i]?).join
def clr (lo : Lo) (i : Nat) : Lo := match i with
  | 0 => lo
  | j + 1 => match nthL lo j with
    | some (.inr (.inl _)) => lo.set j none
    | _ => lo
def sto1 (lo : Lo) (i : Nat) (v : MV) : Lo := (clr lo i).set i (some v)
def sto2 (lo : Lo) (i : Nat) (v : MV) : Lo := ((clr lo i).set i (some v)).set (i + 1) none
def zand (a b : Int) : Int := (Int32.ofInt a &&& Int32.ofInt b).toInt
def zor (a b : Int) : Int := (Int32.ofInt a ||| Int32.ofInt b).toInt
def zxor (a b : Int) : Int := (Int32.ofInt a ^^^ Int32.ofInt b).toInt
def zushr (a b : Int) : Int := (((Int32.ofInt a).toUInt32 >>> ((Int32.ofInt b).toUInt32 &&& Int32.toUInt32 31)).toInt32).toInt
def zdiv (a b : Int) : Int := (Int32.ofInt a / Int32.ofInt b).toInt
def zrem (a b : Int) : Int := (Int32.ofInt a - Int32.ofInt a / Int32.ofInt b * Int32.ofInt b).toInt
def zb (a : Int) : Int := ((Int32.ofInt a).toInt8.toInt32).toInt
def zs (a : Int) : Int := ((Int32.ofInt a).toInt16.toInt32).toInt
def l2iZ (a : Int) : Int := ((Int64.ofInt a).toInt32).toInt
def ladZ (a b : Int) : Int := (Int64.ofInt a + Int64.ofInt b).toInt
def lsbZ (a b : Int) : Int := (Int64.ofInt a - Int64.ofInt b).toInt
def lmlZ (a b : Int) : Int := (Int64.ofInt a * Int64.ofInt b).toInt
def ldvZ (a b : Int) : Int := (Int64.ofInt a / Int64.ofInt b).toInt
def lrmZ (a b : Int) : Int := (Int64.ofInt a - Int64.ofInt a / Int64.ofInt b * Int64.ofInt b).toInt
def lanZ (a b : Int) : Int := (Int64.ofInt a &&& Int64.ofInt b).toInt
def lorZ (a b : Int) : Int := (Int64.ofInt a ||| Int64.ofInt b).toInt
def lshZ (a b : Int) : Int := (Int64.ofInt a <<< ((Int32.ofInt b).toInt64 &&& 63)).toInt
def cmpZ (a b : Int) : Int := if a > b then 1 else if a = b then 0 else -1
def shlZ (a b : Int) : Int := a * 2 ^ b.toNat
def shrZ (a b : Int) : Int := a >>> b.toNat
-- one instruction each
def o_ald (n : Nat) (k : Blk) : Blk := fun lo st h => match nthL lo n with
  | some (.inr (.inr r)) => k lo (vR r :: st) h
  | _ => False
def o_ild (n : Nat) (k : Blk) : Blk := fun lo st h => match nthL lo n with
  | some (.inl z) => k lo (vI z :: st) h
  | _ => False
def o_lld (n : Nat) (k : Blk) : Blk := fun lo st h => match nthL lo n with
  | some (.inr (.inl z)) => k lo (vL z :: st) h
  | _ => False
def o_ist (n : Nat) (k : Blk) : Blk := fun lo st h => match st with
  | .inl z :: st => k (sto1 lo n (vI z)) st h
  | _ => False
def o_ast (n : Nat) (k : Blk) : Blk := fun lo st h => match st with
  | .inr (.inr r) :: st => k (sto1 lo n (vR r)) st h
  | _ => False
def o_lst (n : Nat) (k : Blk) : Blk := fun lo st h => match st with
  | .inr (.inl z) :: st => k (sto2 lo n (vL z)) st h
  | _ => False
def o_inc (n : Nat) (c : Int) (k : Blk) : Blk := fun lo st h => match nthL lo n with
  | some (.inl z) => inI (z + c) ∧ k (sto1 lo n (vI (z + c))) st h
  | _ => False
def o_psh (v : MV) (k : Blk) : Blk := fun lo st h => k lo (v :: st) h
def o_bin (f : Int → Int → Int) (k : Blk) : Blk := fun lo st h => match st with
  | .inl b :: .inl a :: st => k lo (vI (f a b) :: st) h
  | _ => False
def o_binV (P : Int → Int → Prop) (f : Int → Int → Int) (k : Blk) : Blk := fun lo st h => match st with
  | .inl b :: .inl a :: st => P a b ∧ k lo (vI (f a b) :: st) h
  | _ => False
def o_iadd (k : Blk) : Blk := fun lo st h => match st with
  | .inl b :: .inl a :: st => (inI (a + b)) ∧ k lo (vI (a + b) :: st) h
  | _ => False
def o_isub (k : Blk) : Blk := fun lo st h => match st with
  | .inl b :: .inl a :: st => (inI (a - b)) ∧ k lo (vI (a - b) :: st) h
  | _ => False
def o_imul (k : Blk) : Blk := fun lo st h => match st with
  | .inl b :: .inl a :: st => (inI (a * b)) ∧ k lo (vI (a * b) :: st) h
  | _ => False
def o_idiv (k : Blk) : Blk := fun lo st h => match st with
  | .inl b :: .inl a :: st => (¬ b = 0) ∧ k lo (vI (zdiv a b) :: st) h
  | _ => False
def o_irem (k : Blk) : Blk := fun lo st h => match st with
  | .inl b :: .inl a :: st => (¬ b = 0) ∧ k lo (vI (zrem a b) :: st) h
  | _ => False
def o_ishl (k : Blk) : Blk := fun lo st h => match st with
  | .inl b :: .inl a :: st => (0 ≤ b ∧ b < 32 ∧ inI (shlZ a b)) ∧ k lo (vI (shlZ a b) :: st) h
  | _ => False
def o_ishr (k : Blk) : Blk := fun lo st h => match st with
  | .inl b :: .inl a :: st => (0 ≤ b ∧ b < 32) ∧ k lo (vI (shrZ a b) :: st) h
  | _ => False
def o_ldiv (k : Blk) : Blk := fun lo st h => match st with
  | .inr (.inl b) :: .inr (.inl a) :: st => (¬ b = 0) ∧ k lo (vL (ldvZ a b) :: st) h
  | _ => False
def o_lrem (k : Blk) : Blk := fun lo st h => match st with
  | .inr (.inl b) :: .inr (.inl a) :: st => (¬ b = 0) ∧ k lo (vL (lrmZ a b) :: st) h
  | _ => False
def o_un (f : Int → Int) (k : Blk) : Blk := fun lo st h => match st with
  | .inl a :: st => k lo (vI (f a) :: st) h
  | _ => False
def o_lbin (f : Int → Int → Int) (k : Blk) : Blk := fun lo st h => match st with
  | .inr (.inl b) :: .inr (.inl a) :: st => k lo (vL (f a b) :: st) h
  | _ => False
def o_lbinV (P : Int → Int → Prop) (f : Int → Int → Int) (k : Blk) : Blk := fun lo st h => match st with
  | .inr (.inl b) :: .inr (.inl a) :: st => P a b ∧ k lo (vL (f a b) :: st) h
  | _ => False
def o_lsh (k : Blk) : Blk := fun lo st h => match st with
  | .inl b :: .inr (.inl a) :: st => k lo (vL (lshZ a b) :: st) h
  | _ => False
def o_i2l (k : Blk) : Blk := fun lo st h => match st with
  | .inl a :: st => k lo (vL a :: st) h
  | _ => False
def o_l2i (k : Blk) : Blk := fun lo st h => match st with
  | .inr (.inl a) :: st => k lo (vI (l2iZ a) :: st) h
  | _ => False
def o_lcm (k : Blk) : Blk := fun lo st h => match st with
  | .inr (.inl b) :: .inr (.inl a) :: st => k lo (vI (cmpZ a b) :: st) h
  | _ => False
def cat1 (v : MV) : Bool := match v with
  | .inr (.inl _) => false
  | _ => true
def o_dup (k : Blk) : Blk := fun lo st h => match st with
  | v :: st => match cat1 v with
    | true => k lo (v :: v :: st) h
    | false => False
  | _ => False
def o_dup2 (k : Blk) : Blk := fun lo st h => match st with
  | v :: w :: st => match cat1 v && cat1 w with
    | true => k lo (v :: w :: v :: w :: st) h
    | false => False
  | _ => False
def o_pop (k : Blk) : Blk := fun lo st h => match st with
  | v :: st => match cat1 v with
    | true => k lo st h
    | false => False
  | _ => False
def o_if (c : ClassFile.Cond) (J : Jmp) (t : Nat) (k : Blk) : Blk := fun lo st h => match st with
  | .inl a :: st => match c with
    | .eq => (a = 0 → J t lo st h) ∧ (¬ a = 0 → k lo st h)
    | .ne => (¬ a = 0 → J t lo st h) ∧ (a = 0 → k lo st h)
    | .lt => (a < 0 → J t lo st h) ∧ (0 ≤ a → k lo st h)
    | .ge => (0 ≤ a → J t lo st h) ∧ (a < 0 → k lo st h)
    | .gt => (0 < a → J t lo st h) ∧ (a ≤ 0 → k lo st h)
    | .le => (a ≤ 0 → J t lo st h) ∧ (0 < a → k lo st h)
  | _ => False
def o_icmp (c : ClassFile.Cond) (J : Jmp) (t : Nat) (k : Blk) : Blk := fun lo st h => match st with
  | .inl b :: .inl a :: st => match c with
    | .eq => (a = b → J t lo st h) ∧ (¬ a = b → k lo st h)
    | .ne => (¬ a = b → J t lo st h) ∧ (a = b → k lo st h)
    | .lt => (a < b → J t lo st h) ∧ (b ≤ a → k lo st h)
    | .ge => (b ≤ a → J t lo st h) ∧ (a < b → k lo st h)
    | .gt => (b < a → J t lo st h) ∧ (a ≤ b → k lo st h)
    | .le => (a ≤ b → J t lo st h) ∧ (b < a → k lo st h)
  | _ => False
def swt (J : Jmp) (d : Nat) (a : Int) (lo : Lo) (st : List MV) (h : Mem) : List (Int × Nat) → Prop
  | [] => J d lo st h
  | (z, t) :: l => (a = z → J t lo st h) ∧ (¬ a = z → swt J d a lo st h l)
def o_swt (J : Jmp) (d : Nat) (ps : List (Int × Nat)) : Blk := fun lo st h => match st with
  | .inl a :: st => swt J d a lo st h ps ∧ True
  | _ => False
def o_get (c : Nat) (f : Int) (t : Int) (k : Blk) : Blk := fun lo st h => match st with
  | .inr (.inr r) :: st => kd h r = c ∧ (match t with
    | 1 => k lo (vL (gG h r f) :: st) h
    | 2 => k lo (vR (gR h r f) :: st) h
    | _ => k lo (vI (gG h r f) :: st) h)
  | _ => False
def o_put (c : Nat) (f : Int) (t : Int) (k : Blk) : Blk := fun lo st h => match st with
  | v :: .inr (.inr r) :: st => kd h r = c ∧ (match t, v with
    | 0, .inl z => k lo st (sG h r f z)
    | 1, .inr (.inl z) => k lo st (sG h r f z)
    | 2, .inr (.inr q) => k lo st (sR h r f q)
    | 3, .inl z => (z = 0 ∨ z = 1) ∧ k lo st (sG h r f z)
    | _, _ => False)
  | _ => False
def ixOk (h : Mem) (r : Nat) (i : Int) (kk : Nat) : Prop := kd h r = kk ∧ 0 ≤ i ∧ i < ln h r
def o_ial (kk : Nat) (k : Blk) : Blk := fun lo st h => match st with
  | .inl i :: .inr (.inr r) :: st => ixOk h r i kk ∧ k lo (vI (gG h r i) :: st) h
  | _ => False
def o_lal (k : Blk) : Blk := fun lo st h => match st with
  | .inl i :: .inr (.inr r) :: st => ixOk h r i 101 ∧ k lo (vL (gG h r i) :: st) h
  | _ => False
def o_aal (kk : Nat) (k : Blk) : Blk := fun lo st h => match st with
  | .inl i :: .inr (.inr r) :: st => ixOk h r i kk ∧ k lo (vR (gR h r i) :: st) h
  | _ => False
def stOk (kk : Nat) (z : Int) : Prop := match kk with
  | 100 => True
  | 102 => -128 ≤ z ∧ z ≤ 127
  | _ => z = 0 ∨ z = 1
def o_iasI (k : Blk) : Blk := fun lo st h => match st with
  | .inl z :: .inl i :: .inr (.inr r) :: st => ixOk h r i 100 ∧ k lo st (sG h r i z)
  | _ => False
def o_bas (kk : Nat) (k : Blk) : Blk := fun lo st h => match st with
  | .inl z :: .inl i :: .inr (.inr r) :: st => (ixOk h r i kk ∧ stOk kk z) ∧ k lo st (sG h r i z)
  | _ => False
def o_las (k : Blk) : Blk := fun lo st h => match st with
  | .inr (.inl z) :: .inl i :: .inr (.inr r) :: st => ixOk h r i 101 ∧ k lo st (sG h r i z)
  | _ => False
def o_aas (kk ck : Nat) (k : Blk) : Blk := fun lo st h => match st with
  | .inr (.inr q) :: .inl i :: .inr (.inr r) :: st => (ixOk h r i kk ∧ kd h q = ck) ∧ k lo st (sR h r i q)
  | _ => False
def o_len (kk : Nat) (k : Blk) : Blk := fun lo st h => match st with
  | .inr (.inr r) :: st => kd h r = kk ∧ k lo (vI (ln h r) :: st) h
  | _ => False
def roomOk (S1 : List (Nat × Nat)) (h : Mem) (n : Nat) : Prop := h.1.length + 1 ≤ S1.length ∧ totS h.1 + n ≤ totS S1 ∧ h.1.length < 800000
def o_new (S1 : List (Nat × Nat)) (c n : Nat) (k : Blk) : Blk := fun lo st h => roomOk S1 h n ∧ k lo (vR h.1.length :: st) (alc h c n)
def o_nea (S1 : List (Nat × Nat)) (kk : Nat) (k : Blk) : Blk := fun lo st h => match st with
  | .inl z :: st => (0 ≤ z ∧ z < 100000 ∧ roomOk S1 h z.toNat) ∧ k lo (vR h.1.length :: st) (alc h kk z.toNat)
  | _ => False
def psh (r : Option MV) (st : List MV) : List MV := match r with
  | some v => v :: st
  | none => st
def o_call (C : Cal) (y n : Nat) (k : Blk) : Blk := fun lo st h => (st.drop n).length ≤ 4 ∧ n ≤ st.length ∧ C y (st.take n).reverse h (fun r h' => k lo (psh r (st.drop n)) h')
def o_callV (C : Cal) (y n c : Nat) (k : Blk) : Blk := fun lo st h => match (st.take n).reverse with
  | .inr (.inr r) :: as => kd h r = c ∧ o_call C y n k lo st h
  | _ => False
def o_mx (f : Int → Int → Int) (k : Blk) : Blk := fun lo st h => match st with
  | .inl b :: .inl a :: st => st.length ≤ 8 ∧ k lo (vI (f a b) :: st) h
  | _ => False
def o_oin (k : Blk) : Blk := fun lo st h => match st with
  | .inr (.inr r) :: st => (kd h r < 11 ∧ st.length ≤ 4) ∧ k lo st h
  | _ => False
def o_callI (C : Cal) (S1 : List (Nat × Nat)) (y n c : Nat) (ps : List (Int × Nat)) (k : Blk) : Blk := fun lo st h => match ps with
  | (g, t) :: _ => (h.1.length + g.toNat ≤ S1.length ∧ totS h.1 + t ≤ totS S1) ∧ o_callV C y n c k lo st h
  | _ => False
def o_cpy (kk : Nat) (k : Blk) : Blk := fun lo st h => match st with
  | .inl n :: .inl dp :: .inr (.inr dst) :: .inl sp :: .inr (.inr src) :: st =>
    (kd h src = kk ∧ kd h dst = kk ∧ 0 ≤ sp ∧ 0 ≤ dp ∧ 0 ≤ n ∧ sp + n ≤ ln h src ∧ dp + n ≤ ln h dst ∧ st.length ≤ 4) ∧ k lo st (cpG h src sp dst dp n)
  | _ => False
def o_iret (Q : RetP) (S1 : List (Nat × Nat)) (t : Nat) : Blk := fun _ st h => match st with
  | [.inl z] => ((t = 1 → z = 0 ∨ z = 1) ∧ h.1 = S1) ∧ Q (some (vI z)) h
  | _ => False
def o_lret (Q : RetP) (S1 : List (Nat × Nat)) : Blk := fun _ st h => match st with
  | [.inr (.inl z)] => h.1 = S1 ∧ Q (some (vL z)) h
  | _ => False
def o_vret (Q : RetP) (S1 : List (Nat × Nat)) : Blk := fun _ st h => match st with
  | [] => h.1 = S1 ∧ Q none h
  | _ => False
def o_bad : Blk := fun _ _ _ => False
/-- what an instruction, with what its numbers mean, does ahead of the rest k -/
def opd (C : Cal) (J : Jmp) (Q : RetP) (S1 : List (Nat × Nat)) (x : OpI) (k : Blk) : Blk := match x with
  | (i, y, f, z, ps) => match i with
  | .aload n => o_ald n k
  | .aload_n n => o_ald n.val k
  | .iload n => o_ild n k
  | .iload_n n => o_ild n.val k
  | .lload n => o_lld n k
  | .lload_n n => o_lld n.val k
  | .istore n => o_ist n k
  | .istore_n n => o_ist n.val k
  | .astore n => o_ast n k
  | .astore_n n => o_ast n.val k
  | .lstore n => o_lst n k
  | .lstore_n n => o_lst n.val k
  | .iinc n c => o_inc n c k
  | .iconst z => o_psh (vI z) k
  | .bipush z => o_psh (vI z) k
  | .sipush z => o_psh (vI z) k
  | .lconst z => o_psh (vL z.val) k
  | .ldc _ => match y with
    | 0 => o_psh (vI z) k
    | _ => o_psh (vR f.toNat) k
  | .ldc_w _ => o_psh (vI z) k
  | .ldc2_w _ => o_psh (vL z) k
  | .iadd => o_iadd k
  | .isub => o_isub k
  | .imul => o_imul k
  | .idiv => o_idiv k
  | .irem => o_irem k
  | .ishl => o_ishl k
  | .ishr => o_ishr k
  | .iushr => o_bin zushr k
  | .iand => o_bin zand k
  | .ior => o_bin zor k
  | .ixor => o_bin zxor k
  | .i2b => o_un zb k
  | .i2s => o_un zs k
  | .i2l => o_i2l k
  | .l2i => o_l2i k
  | .ladd => o_lbin ladZ k
  | .lsub => o_lbin lsbZ k
  | .lmul => o_lbin lmlZ k
  | .ldiv => o_ldiv k
  | .lrem => o_lrem k
  | .land => o_lbin lanZ k
  | .lor => o_lbin lorZ k
  | .lshl => o_lsh k
  | .lcmp => o_lcm k
  | .dup => o_dup k
  | .dup2 => o_dup2 k
  | .pop => o_pop k
  | .goto _ => fun lo st h => J y lo st h ∧ True
  | .nop => fun lo st h => J y lo st h ∧ True
  | .ifCond c _ => o_if c J y k
  | .if_icmp c _ => o_icmp c J y k
  | .tableswitch _ _ _ _ => o_swt J y ps
  | .lookupswitch _ _ => o_swt J y ps
  | .getfield _ => o_get y f z k
  | .putfield _ => o_put y f z k
  | .iaload => match y with
    | 200 => fun lo st h => match st with
      | .inl i :: .inr (.inr 900000) :: st => C 2000 [vI i] h (fun r h' => k lo (psh r st) h') ∧ True
      | _ => False
    | _ => o_ial 100 k
  | .laload => o_lal k
  | .baload => o_ial y k
  | .aaload => o_aal y k
  | .iastore => o_iasI k
  | .lastore => o_las k
  | .bastore => o_bas y k
  | .aastore => o_aas y f.toNat k
  | .arraylength => match y with
    | 200 => fun lo st h => match st with
      | .inr (.inr 900000) :: st => C 2001 [] h (fun r h' => k lo (psh r st) h') ∧ True
      | _ => False
    | _ => o_len y k
  | .new _ => o_new S1 y f.toNat k
  | .newarray _ => o_nea S1 y k
  | .anewarray _ => o_nea S1 y k
  | .invokestatic _ => match y with
    | 1000 => o_mx max k
    | 1001 => o_mx min k
    | 1003 => o_cpy f.toNat k
    | _ => o_call C y f.toNat k
  | .invokevirtual _ => match z with
    | 99 => o_call C y f.toNat k
    | _ => o_callV C y f.toNat z.toNat k
  | .invokespecial _ => match y with
    | 1999 => o_oin k
    | _ => o_callI C S1 y f.toNat z.toNat ps k
  | .ireturn => o_iret Q S1 y
  | .lreturn => o_lret Q S1
  | .return_ => o_vret Q S1
  | _ => o_bad
def den (C : Cal) (J : Jmp) (Q : RetP) (S1 : List (Nat × Nat)) : List OpI → Blk
  | [] => o_bad
  | x :: ops => opd C J Q S1 x (den C J Q S1 ops)
def lkB : List (Nat × List OpI) → Nat → List OpI
  | [], _ => []
  | (q, ops) :: l, pc => if q = pc then ops else lkB l pc
/-- the run of a body from a place on: the least that is closed under its blocks -/
def Ex (C : Cal) (K : List (Nat × List OpI)) (S1 : List (Nat × Nat)) (Q : RetP) (pc : Nat) (lo : Lo) (st : List MV) (h : Mem) : Prop :=
  ∀ X : Jmp, (∀ J : Jmp, (∀ t lo st h, J t lo st h → X t lo st h) → ∀ pc lo st h, den C J Q S1 (lkB K pc) lo st h → X pc lo st h) → X pc lo st h
theorem Ex_step {C : Cal} {K : List (Nat × List OpI)} {S1 : List (Nat × Nat)} {Q : RetP} {pc : Nat} {lo : Lo} {st : List MV} {h : Mem} (q : den C (Ex C K S1 Q) Q S1 (lkB K pc) lo st h) : Ex C K S1 Q pc lo st h :=
  fun X hX => hX (Ex C K S1 Q) (fun _ _ _ _ e => e X hX) pc lo st h q
def lay1 (v : MV) : Lo := match v with
  | .inr (.inl z) => [some (vL z), none]
  | v => [some v]
def entL (args : List MV) (n : Nat) : Lo := args.flatMap lay1 ++ List.replicate (n - (args.flatMap lay1).length) none
