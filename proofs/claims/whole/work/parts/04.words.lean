/-! tables of the classes; the words that all methods need; what is checked of an instruction -/
def RR : Nat → String
  | 0 => RX0
  | 1 => RX1
  | 2 => RX2
  | 3 => RX3
  | 4 => RX4
  | 5 => RX5
  | 6 => RX6
  | 7 => RX7
  | 8 => RX8
  | 9 => RX9
  | 10 => RX10
  | _ => ""
def TT : Nat → u_T
  | 0 => TX0
  | 1 => TX1
  | 2 => TX2
  | 3 => TX3
  | 4 => TX4
  | 5 => TX5
  | 6 => TX6
  | 7 => TX7
  | 8 => TX8
  | 9 => TX9
  | 10 => TX10
  | _ => TX0
def NN : Nat → Nat
  | 0 => 4
  | 1 => 4
  | 2 => 7
  | 3 => 9
  | 4 => 5
  | 5 => 14
  | 6 => 3
  | 7 => 20
  | 8 => 2
  | 9 => 19
  | 10 => 39
  | _ => 0
def tcode : FieldType → Nat
  | .int => 0
  | .long => 1
  | .boolean => 3
  | .object _ => 2
  | .array _ => 2
  | _ => 9
theorem vw_at : ∀ c, c < 11 → vwCl[c]? = some (RR c, TT c, NN c)
  | 0, _ => rfl
  | 1, _ => rfl
  | 2, _ => rfl
  | 3, _ => rfl
  | 4, _ => rfl
  | 5, _ => rfl
  | 6, _ => rfl
  | 7, _ => rfl
  | 8, _ => rfl
  | 9, _ => rfl
  | 10, _ => rfl
  | _ + 11, h => absurd h (by omega)
theorem vw_ty : ∀ c, c < 11 → ∀ k, k < NN c → parseFieldDescriptor (TT c k).2.2.1 = some (tyT c k)
  | 0, _ => tyX0_ok
  | 1, _ => tyX1_ok
  | 2, _ => tyX2_ok
  | 3, _ => tyX3_ok
  | 4, _ => tyX4_ok
  | 5, _ => tyX5_ok
  | 6, _ => tyX6_ok
  | 7, _ => tyX7_ok
  | 8, _ => tyX8_ok
  | 9, _ => tyX9_ok
  | 10, _ => tyX10_ok
  | _ + 11, h => absurd h (by omega)
theorem vw_nm : ∀ c, c < 11 → ∀ a, a < NN c → ∀ b, b < NN c → a ≠ b → (TT c a).2.1 ≠ (TT c b).2.1
  | 0, _ => nmX0
  | 1, _ => nmX1
  | 2, _ => nmX2
  | 3, _ => nmX3
  | 4, _ => nmX4
  | 5, _ => nmX5
  | 6, _ => nmX6
  | 7, _ => nmX7
  | 8, _ => nmX8
  | 9, _ => nmX9
  | 10, _ => nmX10
  | _ + 11, h => absurd h (by omega)
theorem ft_len : ∀ c, c < 11 → (ftys.getD c []).length = NN c := by decide +kernel
theorem ft_code : ∀ c, c < 11 → ∀ k, k < NN c → tcode (tyT c k) = (ftys.getD c []).getD k 0 := by decide +kernel
def kC : Nat → String
  | 104 => RX6
  | 105 => RX7
  | _ => RX3
def ON : Nat → String
  | 0 => RX0
  | 1 => RX1
  | 2 => RX2
  | 3 => RX3
  | 4 => RX4
  | 5 => RX5
  | 6 => RX6
  | 7 => RX7
  | 8 => RX8
  | 9 => RX9
  | 10 => RX10
  | 11 => RL
  | 12 => RJ6
  | _ => RJ7
def yOf (y : Nat) : MethodName := match y with
  | 1000 => Lib.Math.max.name
  | 1001 => Lib.Math.min.name
  | 1003 => arraycopyName
  | 1005 => yJ0_length_8abf5
  | 1006 => yJ0_charAt_5068e
  | 1999 => Lib.objectInit
  | y => (mi y).1
def wF (o : Nat) : List Cond := (fTab o).map (fun q => Cond.fieldLink (ON o) q.1 (TT q.2.1 q.2.2).1 (TT q.2.1 q.2.2).2.1 (TT q.2.1 q.2.2).2.2.1)
def wMt (o : Nat) : List Cond := (mTab o).map (fun q => Cond.methodLink (ON o) q.1 (yOf q.2))
def wC (o : Nat) : List Cond := (cTab o).map (fun q => Cond.classLink (ON o) q.1 (RR q.2))
def wK (o : Nat) : List Cond := (kTab o).map (fun q => Cond.constant (ON o) q.1 (Int32.ofInt q.2))
def wLg (o : Nat) : List Cond := (lTab o).map (fun q => Cond.constantLong (ON o) q.1 (Int64.ofInt q.2))
def wCls (c : Nat) : List Cond := u_ws (RR c) (TT c) (NN c) ++ [Cond.instantiable (RR c) (NN c)]
def wY (y : Nat) : List Cond := match (mi y).2.2.2.2.1.1 with
  | 0 => [Cond.code (mi y).1 (mi y).2.1 (mi y).2.2.1 (mi y).2.2.2.1, Cond.instanceMethod (mi y).1, Cond.selects (mi y).1.cls (mi y).1 (mi y).1]
  | 1 => [Cond.code (mi y).1 (mi y).2.1 (mi y).2.2.1 (mi y).2.2.2.1, Cond.static (mi y).1]
  | _ => [Cond.code (mi y).1 (mi y).2.1 (mi y).2.2.1 (mi y).2.2.2.1, Cond.instanceMethod (mi y).1]
def wO : List Cond := (List.range 14).map (fun o => Cond.initialized (ON o)) ++ [Cond.arrayClass .int, Cond.arrayClass .long, Cond.arrayClass .byte, Cond.arrayClass .boolean, Cond.instanceMethod Lib.objectInit, Cond.code Lib.objectInit ⟨#[0xb1]⟩ 1 none,
  Cond.static Lib.Math.max.name, Cond.initialized "java/lang/Math", Cond.code Lib.Math.max.name Lib.Math.max.code 2 (some .int), Cond.static Lib.Math.min.name, Cond.code Lib.Math.min.name Lib.Math.min.code 2 (some .int), Cond.native arraycopyName, Cond.static arraycopyName, Cond.initialized "java/lang/System"]
/-- String.length and charAt of a Latin1 text, and what they call -/
def wS : List Cond := [Cond.code yJ0_length_8abf5 cJ0_length_8abf5 1 (some .int), Cond.instanceMethod yJ0_length_8abf5, Cond.selects RJ0 yJ0_length_8abf5 yJ0_length_8abf5, Cond.code yJ0_charAt_5068e cJ0_charAt_5068e 2 (some .char), Cond.instanceMethod yJ0_charAt_5068e, Cond.selects RJ0 yJ0_charAt_5068e yJ0_charAt_5068e, Cond.initialized RJ0,
  Cond.fieldLink RJ0 9 "java/lang/String" "value" "[B", Cond.methodLink RJ0 335 yJ0_coder_7d493, Cond.instanceMethod yJ0_coder_7d493, Cond.selects RJ0 yJ0_coder_7d493 yJ0_coder_7d493, Cond.code yJ0_coder_7d493 cJ0_coder_7d493 1 (some .byte), Cond.fieldLink RJ0 38 "java/lang/String" "COMPACT_STRINGS" "Z", Cond.fieldLink RJ0 15 "java/lang/String" "coder" "B",
  Cond.methodLink RJ0 492 yJ0_isLatin1_aae02, Cond.instanceMethod yJ0_isLatin1_aae02, Cond.selects RJ0 yJ0_isLatin1_aae02 yJ0_isLatin1_aae02, Cond.code yJ0_isLatin1_aae02 cJ0_isLatin1_aae02 1 (some .boolean), Cond.methodLink RJ0 495 yJ1_charAt_3b067, Cond.static yJ1_charAt_3b067, Cond.initialized RJ1, Cond.code yJ1_charAt_3b067 cJ1_charAt_3b067 2 (some .char),
  Cond.methodLink RJ1 9 yJ0_checkIndex_df160, Cond.static yJ0_checkIndex_df160, Cond.code yJ0_checkIndex_df160 cJ0_checkIndex_df160 2 none, Cond.fieldLink RJ0 1053 "jdk/internal/util/Preconditions" "SIOOBE_FORMATTER" "Ljava/util/function/BiFunction;", Cond.methodLink RJ0 1059 yJ3_checkIndex_8e157, Cond.static yJ3_checkIndex_8e157, Cond.initialized RJ3, Cond.code yJ3_checkIndex_8e157 cJ3_checkIndex_8e157 3 (some .int)]
def NMc : Nat := NM - 1
/-- all words that the methods (but the law itself) need -/
def AW : List Cond := (wS ++ wO) ++ ((List.range 14).flatMap (fun o => wF o ++ wMt o ++ wC o ++ wK o ++ wLg o) ++ ((List.range 11).flatMap wCls ++ (List.range NMc).flatMap wY))
theorem AW_o {w : Cond} (h : w ∈ wO) : w ∈ AW := List.mem_append_left _ (List.mem_append_right _ h)
theorem AW_s {w : Cond} (h : w ∈ wS) : w ∈ AW := List.mem_append_left _ (List.mem_append_left _ h)
theorem wS_all : ∀ w ∈ wS, goodWord w = true := by
  intro w h
  simp only [wS, List.mem_cons, List.not_mem_nil, or_false] at h
  rcases h with rfl | rfl | rfl | rfl | rfl | rfl | rfl | rfl | rfl | rfl | rfl | rfl | rfl | rfl | rfl | rfl | rfl | rfl | rfl | rfl | rfl | rfl | rfl | rfl | rfl | rfl | rfl | rfl | rfl | rfl <;> rfl
theorem AW_t {w : Cond} {o : Nat} (ho : o < 14) (h : w ∈ wF o ++ wMt o ++ wC o ++ wK o ++ wLg o) : w ∈ AW := List.mem_append_right _ (List.mem_append_left _ (List.mem_flatMap.mpr ⟨o, List.mem_range.mpr ho, h⟩))
theorem AW_c {w : Cond} {c : Nat} (hc : c < 11) (h : w ∈ wCls c) : w ∈ AW := List.mem_append_right _ (List.mem_append_right _ (List.mem_append_left _ (List.mem_flatMap.mpr ⟨c, List.mem_range.mpr hc, h⟩)))
theorem AW_y {w : Cond} {y : Nat} (hy : y < NMc) (h : w ∈ wY y) : w ∈ AW := List.mem_append_right _ (List.mem_append_right _ (List.mem_append_right _ (List.mem_flatMap.mpr ⟨y, List.mem_range.mpr hy, h⟩)))
theorem AW_f {o : Nat} (ho : o < 14) {q : Nat × Nat × Nat} (h : q ∈ fTab o) : Cond.fieldLink (ON o) q.1 (TT q.2.1 q.2.2).1 (TT q.2.1 q.2.2).2.1 (TT q.2.1 q.2.2).2.2.1 ∈ AW := by
  refine AW_t ho ?_
  simp only [List.mem_append]
  exact Or.inl (Or.inl (Or.inl (Or.inl (List.mem_map.mpr ⟨q, h, rfl⟩))))
theorem AW_m {o : Nat} (ho : o < 14) {q : Nat × Nat} (h : q ∈ mTab o) : Cond.methodLink (ON o) q.1 (yOf q.2) ∈ AW := by
  refine AW_t ho ?_
  simp only [List.mem_append]
  exact Or.inl (Or.inl (Or.inl (Or.inr (List.mem_map.mpr ⟨q, h, rfl⟩))))
theorem AW_cl {o : Nat} (ho : o < 14) {q : Nat × Nat} (h : q ∈ cTab o) : Cond.classLink (ON o) q.1 (RR q.2) ∈ AW := by
  refine AW_t ho ?_
  simp only [List.mem_append]
  exact Or.inl (Or.inl (Or.inr (List.mem_map.mpr ⟨q, h, rfl⟩)))
theorem AW_k {o : Nat} (ho : o < 14) {q : Nat × Int} (h : q ∈ kTab o) : Cond.constant (ON o) q.1 (Int32.ofInt q.2) ∈ AW := by
  refine AW_t ho ?_
  simp only [List.mem_append]
  exact Or.inl (Or.inr (List.mem_map.mpr ⟨q, h, rfl⟩))
theorem AW_l {o : Nat} (ho : o < 14) {q : Nat × Int} (h : q ∈ lTab o) : Cond.constantLong (ON o) q.1 (Int64.ofInt q.2) ∈ AW := by
  refine AW_t ho ?_
  simp only [List.mem_append]
  exact Or.inr (List.mem_map.mpr ⟨q, h, rfl⟩)
theorem AW_lay {c : Nat} (hc : c < 11) : ∀ w ∈ u_ws (RR c) (TT c) (NN c), w ∈ AW := fun w h => AW_c hc (List.mem_append_left _ h)
theorem AW_ins {c : Nat} (hc : c < 11) : Cond.instantiable (RR c) (NN c) ∈ AW := AW_c hc (List.mem_append_right _ List.mem_cons_self)
theorem AW_ini {o : Nat} (ho : o < 14) : Cond.initialized (ON o) ∈ AW := AW_o (List.mem_append_left _ (List.mem_map.mpr ⟨o, List.mem_range.mpr ho, rfl⟩))
theorem AW_code {y : Nat} (hy : y < NMc) : Cond.code (mi y).1 (mi y).2.1 (mi y).2.2.1 (mi y).2.2.2.1 ∈ AW := by
  refine AW_y hy ?_
  unfold wY
  split <;> exact List.mem_cons_self
theorem AW_all {w : Cond} (h : w ∈ AW) : goodWord w = true := by
  have h : w ∈ (wS ++ wO) ++ ((List.range 14).flatMap (fun o => wF o ++ wMt o ++ wC o ++ wK o ++ wLg o) ++ ((List.range 11).flatMap wCls ++ (List.range NMc).flatMap wY)) := h
  rcases List.mem_append.mp h with h | h
  · rcases List.mem_append.mp h with h | h
    · exact wS_all w h
    · simp only [wO, List.mem_append, List.mem_map, List.mem_cons, List.not_mem_nil, or_false] at h
      rcases h with ⟨o, -, rfl⟩ | h
      · rfl
      · rcases h with rfl | rfl | rfl | rfl | rfl | rfl | rfl | rfl | rfl | rfl | rfl | rfl | rfl | rfl <;> rfl
  simp only [List.mem_append, List.mem_flatMap, List.mem_map, List.mem_cons, List.not_mem_nil, or_false, wF, wMt, wC, wK, wLg, wCls] at h
  rcases h with ⟨o, -, ((((⟨q, -, rfl⟩ | ⟨q, -, rfl⟩) | ⟨q, -, rfl⟩) | ⟨q, -, rfl⟩) | ⟨q, -, rfl⟩)⟩ | ⟨c, -, h | rfl⟩ | ⟨y, -, h⟩
  · rfl
  · rfl
  · rfl
  · rfl
  · rfl
  · unfold u_ws at h
    obtain ⟨k, -, rfl⟩ := List.mem_map.mp h
    unfold u_lay
    split <;> rfl
  · rfl
  · unfold wY at h
    split at h <;> simp only [List.mem_cons, List.not_mem_nil, or_false] at h
    · rcases h with rfl | rfl | rfl <;> rfl
    · rcases h with rfl | rfl <;> rfl
    · rcases h with rfl | rfl <;> rfl
def growM (y : Nat) : List (Nat × Nat) := (mi y).2.2.2.2.2.2.1
def lenI (i : Instr) (f : Int) : Nat := match i with
  | .aload _ | .iload _ | .lload _ | .istore _ | .astore _ | .lstore _ | .bipush _ | .ldc _ | .newarray _ => 2
  | .sipush _ | .ldc_w _ | .ldc2_w _ | .iinc _ _ | .ifCond _ _ | .if_icmp _ _ | .goto _ | .getfield _ | .putfield _ | .new _ | .anewarray _ | .invokestatic _ | .invokevirtual _ | .invokespecial _ => 3
  | .tableswitch _ _ _ _ | .lookupswitch _ _ => f.toNat
  | .nop => 0
  | _ => 1
def flv (y : Nat) : Nat := (mi y).2.2.2.2.1.1
def nar (y : Nat) : Nat := (mi y).2.2.2.2.1.2
def cln (y : Nat) : Nat := (mi y).2.2.2.2.2.1
def in32 (z : Int) : Bool := decide (-2147483648 ≤ z) && decide (z ≤ 2147483647)
def in64 (z : Int) : Bool := decide (-9223372036854775808 ≤ z) && decide (z ≤ 9223372036854775807)
def callOk (y fl : Nat) (n : Int) (a : Nat) : Bool := decide (y < NMc) && decide (flv y = fl) && decide (n = (nar y + a : Nat))
def kCn : Nat → Nat
  | 104 => 6
  | 105 => 7
  | _ => 3
def opOk (o : Nat) (ctor : Bool) (rb : Nat) (nL pc : Nat) (x : OpI) : Bool := match x with
  | (i, y, f, z, ps) => match i with
  | .istore n => decide (n < nL)
  | .istore_n n => decide (n.val < nL)
  | .astore n => decide (n < nL)
  | .astore_n n => decide (n.val < nL)
  | .lstore n => decide (n + 1 < nL)
  | .lstore_n n => decide (n.val + 1 < nL)
  | .iinc n _ => decide (n < nL)
  | .iconst v => in32 v
  | .bipush v => decide (-128 ≤ v ∧ v ≤ 127)
  | .sipush v => decide (-32768 ≤ v ∧ v ≤ 32767)
  | .ldc i => match y with
    | 0 => decide ((i, z) ∈ kTab o) && in32 z
    | _ => decide ((o = 5 ∧ i = 82 ∧ f = 900001) ∨ (o = 10 ∧ i = 181 ∧ f = 900002))
  | .ldc_w i => decide ((i, z) ∈ kTab o) && in32 z
  | .ldc2_w i => decide ((i, z) ∈ lTab o) && in64 z
  | .goto off => decide ((pc : Int) + off = (y : Int))
  | .nop => decide (y = pc)
  | .ifCond _ off => decide ((pc : Int) + off = (y : Int))
  | .if_icmp _ off => decide ((pc : Int) + off = (y : Int))
  | .tableswitch dflt lw hg ar => decide ((pc : Int) + dflt = (y : Int)) && decide (hg = lw + (ar.toList.length : Int) - 1) && decide (ar.toList.mapIdx (fun i o => (lw + (i : Int), (pc : Int) + o)) = ps.map (fun q => (q.1, (q.2 : Int))))
  | .lookupswitch dflt ar => decide ((pc : Int) + dflt = (y : Int)) && decide (ar.toList.map (fun q => (q.1, (pc : Int) + q.2)) = ps.map (fun q => (q.1, (q.2 : Int)))) && (ar.toList.zip (ar.toList.drop 1)).all (fun (a, next) => a.1 < next.1)
  | .getfield i => decide ((i, y, f.toNat) ∈ fTab o) && decide (0 ≤ f) && decide (y < 11) && decide (f.toNat < NN y) && decide ((z = 1 ∧ (ftys.getD y [])[f.toNat]? = some 1) ∨ (z = 2 ∧ (ftys.getD y [])[f.toNat]? = some 2) ∨ (z = 0 ∧ ((ftys.getD y [])[f.toNat]? = some 0 ∨ (ftys.getD y [])[f.toNat]? = some 3)))
  | .putfield i => decide ((i, y, f.toNat) ∈ fTab o) && decide (0 ≤ f) && decide (y < 11) && decide (f.toNat < NN y) && decide (0 ≤ z) && decide ((ftys.getD y [])[f.toNat]? = some z.toNat) && (decide ((TT y f.toNat).2.2.2 = false) || (ctor && decide (y = o)))
  | .iaload => decide (y = 100) || (decide (y = 200) && decide (o = 11))
  | .baload => decide (y = 102) || decide (y = 103)
  | .bastore => decide (y = 102) || decide (y = 103)
  | .aaload => decide (y = 104 ∨ y = 105 ∨ y = 106)
  | .aastore => decide ((y = 104 ∧ f = 6) ∨ (y = 105 ∧ f = 7) ∨ (y = 106 ∧ f = 3))
  | .arraylength => decide (y = 101) || (decide (y = 200) && decide (o = 11))
  | .new i => decide ((i, y) ∈ cTab o) && decide (y < 11) && decide (f = (NN y : Int))
  | .newarray at' => decide ((y = 100 ∧ at' = .int) ∨ (y = 101 ∧ at' = .long) ∨ (y = 102 ∧ at' = .byte) ∨ (y = 103 ∧ at' = .boolean))
  | .anewarray i => decide (y = 104 ∨ y = 105 ∨ y = 106) && decide ((i, kCn y) ∈ cTab o)
  | .invokestatic i => match y with
    | 1000 => decide ((i, 1000) ∈ mTab o)
    | 1001 => decide ((i, 1001) ∈ mTab o)
    | 1003 => decide ((i, 1003) ∈ mTab o) && decide (f = 100 ∨ f = 101)
    | _ => callOk y 1 f 0 && decide ((growM y).length = 0) && (decide ((i, y) ∈ mTab o) || (decide (y = 182) && decide ((o = 8 ∧ i = 53) ∨ (o = 7 ∧ i = 139) ∨ (o = 1 ∧ i = 50))))
  | .invokevirtual i => match z with
    | 99 => decide ((i, y) ∈ mTab o) && decide ((y = 1005 ∧ f = 1) ∨ (y = 1006 ∧ f = 2))
    | _ => callOk y 0 f 1 && decide ((growM y).length = 0) && decide ((i, y) ∈ mTab o) && decide (z = (cln y : Int)) && decide (cln y < 11)
  | .invokespecial i => match y with
    | 1999 => decide ((i, 1999) ∈ mTab o)
    | _ => callOk y 2 f 1 && decide ((i, y) ∈ mTab o) && decide (z = (cln y : Int)) && decide (cln y < 11) && decide (ps = [(((growM y).length : Int), totS (growM y))])
  | .ireturn => decide (y = rb) && decide (rb < 2)
  | .lreturn => decide (rb = 3)
  | .return_ => decide (rb = 4)
  | _ => true
def chkO (o : Nat) (ctor : Bool) (rb nL : Nat) (cc : ByteArray) : Nat → List OpI → Bool
  | _, [] => true
  | pc, x :: ops => opOk o ctor rb nL pc x && (decide (x.1 = .nop) || decide (decode cc pc = .ok (x.1, lenI x.1 x.2.2.1))) && chkO o ctor rb nL cc (pc + lenI x.1 x.2.2.1) ops
/-- what is known of a method's name and numbers -/
def YOk (y : Nat) : Prop := (mi y).1.cls = ON (cln y) ∧ (mi y).1.cls ≠ "java/lang/invoke/MethodHandle" ∧ (mi y).1.cls ≠ "java/lang/invoke/VarHandle" ∧ (parseMethodDescriptor (mi y).1.desc).map (fun d => d.parameters.length) = some (nar y) ∧ plainName (mi y).1.cls = true ∧ (flv y = 2 → (mi y).1.name = "<init>" ∧ (mi y).2.2.2.1 = none) ∧ (mi y).2.2.1 ≤ 80 ∧ cln y < 14
theorem RR_ON : ∀ c, c < 11 → RR c = ON c
  | 0, _ | 1, _ | 2, _ | 3, _ | 4, _ | 5, _ | 6, _ | 7, _ | 8, _ | 9, _ | 10, _ => rfl
  | _ + 11, h => absurd h (by omega)
theorem TT_own : ∀ c, c < 11 → ∀ k, k < NN c → (TT c k).1 = ON c := by decide +kernel
theorem kC_RR : ∀ y, y = 104 ∨ y = 105 ∨ y = 106 → kC y = RR (kCn y) := by
  intro y h
  rcases h with rfl | rfl | rfl <;> rfl
theorem yOf_mi {y : Nat} (h : y < NMc) : yOf y = (mi y).1 := by
  have : y < 400 := Nat.lt_of_lt_of_le h (by decide)
  unfold yOf
  split <;> first | omega | rfl
def rbO (r : Option FieldType) : Nat := match r with
  | some .int => 0
  | some .boolean => 1
  | some .long => 3
  | none => 4
  | _ => 9
def chkY (y : Nat) : Prop := ∀ q ∈ (mi y).2.2.2.2.2.2.2, chkO (cln y) (decide (flv y = 2)) (rbO (mi y).2.2.2.1) (mi y).2.2.1 (mi y).2.1 q.1 q.2 = true
