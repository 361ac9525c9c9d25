/-! arraycopy, constants, the words that all methods need, what is checked of an instruction, and that then the model's block is the machine's -/
section MORE
variable {p : Program} {l : Launch} {e : Env} {R : Room} {s : State} {m : MethodId} {args : Array Value} {below : List Frame} {meth : Method} {c : Code} {QQ : State → Prop} {B : Nat} {A : Nat → Option Nat} {kA : Nat → ClassId} {D : va_G} {cc : ByteArray} {nL : Nat} {own : String} {len0 tot0 : Nat} {Ts : List Cond} {pc : Nat} {k : Blk} {J : Jmp} {adK adV : Nat → Nat}
theorem MOk_cp {h : Mem} {src dst kk n1 n2 : Nat} {sp dp n : Int} (hM : MOk h) (hs : h.1[src]? = some (kk, n1)) (hd : h.1[dst]? = some (kk, n2)) (hk : kk = 100 ∨ kk = 101) (h0 : 0 ≤ sp) : MOk (cpG h src sp dst dp n) := by
  intro r q hq j
  show rngK q.1 j (if r = dst ∧ dp ≤ (j : Int) ∧ (j : Int) < dp + n then h.2.1 src (sp + ((j : Int) - dp)) else h.2.1 r j)
  by_cases hc : r = dst ∧ dp ≤ (j : Int) ∧ (j : Int) < dp + n
  · rw [if_pos hc]
    obtain ⟨rfl, h1, h2⟩ := hc
    have : some q = some (kk, n2) := hq.symm.trans hd
    cases this
    have hv := hM src _ hs (sp + ((j : Int) - dp)).toNat
    rw [ix_nat (by omega)] at hv
    unfold rngK at hv ⊢
    rcases hk with rfl | rfl <;> simpa [isL, gG] using hv
  · rw [if_neg hc]
    exact hM r q hq j
theorem cpy_eq {h : Mem} {src dst : Nat} {sp dp n : Int} {α : Type} (F : Int → α) (hs : inI sp) (hd : inI dp) (hn : inI n) (h0 : 0 ≤ sp) (h1 : 0 ≤ dp) (h2 : 0 ≤ n) :
    va_cpy (fun j : Nat => F (gG h src j)) (fun j : Nat => F (gG h dst j)) (Int32.ofInt sp).toNatClampNeg (Int32.ofInt dp).toNatClampNeg (Int32.ofInt n).toNatClampNeg = fun j : Nat => F (gG (cpG h src sp dst dp n) dst j) := by
  rw [i32_clamp hs h0, i32_clamp hd h1, i32_clamp hn h2]
  funext j
  show (if dp.toNat ≤ j ∧ j < dp.toNat + n.toNat then F (gG h src ((sp.toNat + (j - dp.toNat) : Nat) : Int)) else F (gG h dst j)) = F (if dst = dst ∧ dp ≤ (j : Int) ∧ (j : Int) < dp + n then h.2.1 src (sp + ((j : Int) - dp)) else h.2.1 dst j)
  by_cases hc : dp.toNat ≤ j ∧ j < dp.toNat + n.toNat
  · rw [if_pos hc, if_pos ⟨rfl, by omega, by omega⟩]
    have : ((sp.toNat + (j - dp.toNat) : Nat) : Int) = sp + ((j : Int) - dp) := by omega
    rw [this]; rfl
  · rw [if_neg hc, if_neg (fun q => hc (by omega))]; rfl
theorem s_cpy (hF : FxC p s m c args cc nL own Ts D kA A B len0 adK adV) (hRf : 1 ≤ R.frames) (hRl : 100 ≤ R.locals) {idx kk : Nat} (hkk : kk = 100 ∨ kk = 101) (hw1 : Cond.methodLink own idx arraycopyName ∈ Ts) (hw2 : Cond.native arraycopyName ∈ Ts) (hw3 : Cond.static arraycopyName ∈ Ts) (hw4 : Cond.initialized "java/lang/System" ∈ Ts) (hdg : decode cc pc = .ok (.invokestatic idx, 3)) (hk : Sd p l e R s m args below meth c QQ B A kA D nL len0 tot0 (pc + 3) k) : Sd p l e R s m args below meth c QQ B A kA D nL len0 tot0 pc (o_cpy kk k) := by
  intro lo st h H ls locs cells slots fr q
  unfold o_cpy at q
  split at q
  · rename_i n dp dst sp src st'
    obtain ⟨⟨hk1, hk2, s0, d0, n0, l1, l2, hl⟩, q⟩ := q
    obtain ⟨m1, hr1, e1⟩ := kd_some hk1 (by omega)
    obtain ⟨m2, hr2, e2⟩ := kd_some hk2 (by omega)
    have hA1 : A src = some (B + src) := hF.2.2.2.2.2.2.2.1 src (fr.1.lt hr1)
    have hA2 : A dst = some (B + dst) := hF.2.2.2.2.2.2.2.1 dst (fr.1.lt hr2)
    have hn : inI n := hd_ok fr.ok
    have hdp : inI dp := hd_ok (tl_ok fr.ok)
    have hsp : inI sp := hd_ok (tl_ok (tl_ok (tl_ok fr.ok)))
    have hts := hF.2.2.2.2.1
    have hc := cat_le (A := A) (st := st')
    have hst := tl_ok (tl_ok (tl_ok (tl_ok (tl_ok fr.ok))))
    have he1 := wsO_at (B := B) (A := A) (kA := kA) hr1
    have he2 := wsO_at (B := B) (A := A) (kA := kA) hr2
    rw [List.map_cons, List.map_cons, List.map_cons, List.map_cons, List.map_cons, show trV A (Sum.inr (Sum.inr src)) = .ref (B + src) by simp [trV, va_rf, hA1], show trV A (Sum.inr (Sum.inr dst)) = .ref (B + dst) by simp [trV, va_rf, hA2]]
    have ng : ∀ {z : Int}, inI z → 0 ≤ z → ¬ Int32.ofInt z < 0 := fun hz h0 q => by have := (i32_lt hz inI_0).mp (i32_0 ▸ q); omega
    have hnw : nativeFrameWords "java/lang/System" "arraycopy" 5 = 7 := by decide +kernel
    have hM := MOk_cp (dp := dp) (n := n) fr.1.2.2.2.2 hr1 hr2 hkk s0
    rcases hkk with rfl | rfl
    · rw [cel_i (Or.inl rfl)] at he1 he2
      refine va_copyi hF.1 hF.2.1 (hF.2.2.1.trans fr.2.2.1.1.symm) hF.2.2.2.1 (hts _ hw1) (hts _ hw2) (hts _ hw3) (hts _ hw4) hF.2.2.2.2.2.1 fr.1.1 fr.1.2.1 fr.2.1 src dst 0 0 (ty := .int) he1 he2 rfl rfl rfl (ng hsp s0) (ng hdp d0) (ng hn n0) (by rw [i32_clamp hsp s0, i32_clamp hn n0]; omega) (by rw [i32_clamp hdp d0, i32_clamp hn n0]; omega) (fun _ _ => rfl) hRf ?_ hdg ?_
      · rw [hnw]; omega
      intro H1 locs1 h1 h2 h3
      have hws : (wsO B A kA h).set dst (B + dst, .inl (kA 100, m2, .inl (va_cpy (fun j : Nat => Int32.ofInt (gG h src j)) (fun j : Nat => Int32.ofInt (gG h dst j)) (Int32.ofInt sp).toNatClampNeg (Int32.ofInt dp).toNatClampNeg (Int32.ofInt n).toNatClampNeg))) = wsO B A kA (cpG h src sp dst dp n) := by
        refine wsO_set (h := h) (h' := cpG h src sp dst dp n) rfl hr2 cel_cp ?_
        rw [cpy_eq Int32.ofInt hsp hdp hn s0 d0 n0, cel_i (Or.inl rfl)]
      rw [hws] at h1 h2
      exact hk lo st' (cpG h src sp dst dp n) H1 ls locs1 cells slots (fr.mem rfl h1 h2 h3 hM hst) q
    · rw [cel_l] at he1 he2
      refine va_copyl hF.1 hF.2.1 (hF.2.2.1.trans fr.2.2.1.1.symm) hF.2.2.2.1 (hts _ hw1) (hts _ hw2) (hts _ hw3) (hts _ hw4) hF.2.2.2.2.2.1 fr.1.1 fr.1.2.1 fr.2.1 src dst 1 1 (ty := .long) he1 he2 rfl rfl rfl (ng hsp s0) (ng hdp d0) (ng hn n0) (by rw [i32_clamp hsp s0, i32_clamp hn n0]; omega) (by rw [i32_clamp hdp d0, i32_clamp hn n0]; omega) (fun _ _ => rfl) hRf ?_ hdg ?_
      · rw [hnw]; omega
      intro H1 locs1 h1 h2 h3
      have hws : (wsO B A kA h).set dst (B + dst, .inl (kA 101, m2, .inr (.inl (va_cpy (fun j : Nat => Int64.ofInt (gG h src j)) (fun j : Nat => Int64.ofInt (gG h dst j)) (Int32.ofInt sp).toNatClampNeg (Int32.ofInt dp).toNatClampNeg (Int32.ofInt n).toNatClampNeg)))) = wsO B A kA (cpG h src sp dst dp n) := by
        refine wsO_set (h := h) (h' := cpG h src sp dst dp n) rfl hr2 cel_cp ?_
        rw [cpy_eq Int64.ofInt hsp hdp hn s0 d0 n0, cel_l]
      rw [hws] at h1 h2
      exact hk lo st' (cpG h src sp dst dp n) H1 ls locs1 cells slots (fr.mem rfl h1 h2 h3 hM hst) q
  · exact q.elim
theorem s_ldcw (hF : FxC p s m c args cc nL own Ts D kA A B len0 adK adV) {i : Nat} {z : Int} (hz : inI z) (hw : Jvm.Cond.constant own i (Int32.ofInt z) ∈ Ts) (hdg : decode cc pc = .ok (.ldc_w i, 3)) (hk : Sd p l e R s m args below meth c QQ B A kA D nL len0 tot0 (pc + 3) k) : Sd p l e R s m args below meth c QQ B A kA D nL len0 tot0 pc (o_psh (vI z) k) := by
  intro lo st h H ls locs cells slots fr q
  intro T hT X
  obtain ⟨t, a1, b1⟩ := hk lo (vI z :: st) h H ls locs cells slots (fr.push hz) q T hT X
  exact ⟨t, va_ldcwI X hF.1 hF.2.2.2.1 (hF.2.2.2.2.1 _ hw) (g := F0 m pc ls (st.map (trV A))) rfl (by rw [hF.2.1]; exact hdg) t a1, b1⟩
theorem s_ldcS (hF : FxC p s m c args cc nL own Ts D kA A B len0 adK adV) {i r a : Nat} {tx : String} (hA : A r = some a) (hR : vk_R own i tx a s) (hdg : decode cc pc = .ok (.ldc i, 2)) (hk : Sd p l e R s m args below meth c QQ B A kA D nL len0 tot0 (pc + 2) k) : Sd p l e R s m args below meth c QQ B A kA D nL len0 tot0 pc (o_psh (vR r) k) := by
  intro lo st h H ls locs cells slots fr q
  have hw := hk lo (vR r :: st) h H ls locs cells slots (fr.push trivial) q
  rw [List.map_cons, show trV A (vR r) = .ref a by simp [trV, va_rf, hA]] at hw
  exact va_ldcS hF.1 hF.2.1 hF.2.2.2.1 hR hdg hw
end MORE
-- the words
def ON : Nat → String
  | 0 => RX0
  | 1 => RX1
  | 2 => RX2
  | 3 => RX3
  | 4 => RX4
  | 5 => RX5
  | 6 => RX6
  | 7 => RX7
  | 8 => RX8
  | 9 => RX9
  | 10 => RX10
  | 11 => RL
  | 12 => RJ6
  | _ => RJ7
def yOf (y : Nat) : MethodName := match y with
  | 1000 => Lib.Math.max.name
  | 1001 => Lib.Math.min.name
  | 1003 => arraycopyName
  | 1005 => yJ0_length_8abf5
  | 1006 => yJ0_charAt_5068e
  | 1999 => Lib.objectInit
  | y => (mi y).1
def wF (o : Nat) : List Cond := (fTab o).map (fun q => Cond.fieldLink (ON o) q.1 (TT q.2.1 q.2.2).1 (TT q.2.1 q.2.2).2.1 (TT q.2.1 q.2.2).2.2.1)
def wMt (o : Nat) : List Cond := (mTab o).map (fun q => Cond.methodLink (ON o) q.1 (yOf q.2))
def wC (o : Nat) : List Cond := (cTab o).map (fun q => Cond.classLink (ON o) q.1 (RR q.2))
def wK (o : Nat) : List Cond := (kTab o).map (fun q => Cond.constant (ON o) q.1 (Int32.ofInt q.2))
def wLg (o : Nat) : List Cond := (lTab o).map (fun q => Cond.constantLong (ON o) q.1 (Int64.ofInt q.2))
def wCls (c : Nat) : List Cond := u_ws (RR c) (TT c) (NN c) ++ [Cond.instantiable (RR c) (NN c)]
def wY (y : Nat) : List Cond := match (mi y).2.2.2.2.1.1 with
  | 0 => [Cond.code (mi y).1 (mi y).2.1 (mi y).2.2.1 (mi y).2.2.2.1, Cond.instanceMethod (mi y).1, Cond.selects (mi y).1.cls (mi y).1 (mi y).1]
  | 1 => [Cond.code (mi y).1 (mi y).2.1 (mi y).2.2.1 (mi y).2.2.2.1, Cond.static (mi y).1]
  | _ => [Cond.code (mi y).1 (mi y).2.1 (mi y).2.2.1 (mi y).2.2.2.1, Cond.instanceMethod (mi y).1]
def wO : List Cond := (List.range 14).map (fun o => Cond.initialized (ON o)) ++ [Cond.arrayClass .int, Cond.arrayClass .long, Cond.arrayClass .byte, Cond.arrayClass .boolean, Cond.instanceMethod Lib.objectInit, Cond.code Lib.objectInit ⟨#[0xb1]⟩ 1 none,
  Cond.static Lib.Math.max.name, Cond.initialized "java/lang/Math", Cond.code Lib.Math.max.name Lib.Math.max.code 2 (some .int), Cond.static Lib.Math.min.name, Cond.code Lib.Math.min.name Lib.Math.min.code 2 (some .int), Cond.native arraycopyName, Cond.static arraycopyName, Cond.initialized "java/lang/System"]
/-- String.length and charAt of a Latin1 text, and what they call -/
def wS : List Cond := [Cond.code yJ0_length_8abf5 cJ0_length_8abf5 1 (some .int), Cond.instanceMethod yJ0_length_8abf5, Cond.selects RJ0 yJ0_length_8abf5 yJ0_length_8abf5, Cond.code yJ0_charAt_5068e cJ0_charAt_5068e 2 (some .char), Cond.instanceMethod yJ0_charAt_5068e, Cond.selects RJ0 yJ0_charAt_5068e yJ0_charAt_5068e, Cond.initialized RJ0,
  Cond.fieldLink RJ0 9 "java/lang/String" "value" "[B", Cond.methodLink RJ0 335 yJ0_coder_7d493, Cond.instanceMethod yJ0_coder_7d493, Cond.selects RJ0 yJ0_coder_7d493 yJ0_coder_7d493, Cond.code yJ0_coder_7d493 cJ0_coder_7d493 1 (some .byte), Cond.fieldLink RJ0 38 "java/lang/String" "COMPACT_STRINGS" "Z", Cond.fieldLink RJ0 15 "java/lang/String" "coder" "B",
  Cond.methodLink RJ0 492 yJ0_isLatin1_aae02, Cond.instanceMethod yJ0_isLatin1_aae02, Cond.selects RJ0 yJ0_isLatin1_aae02 yJ0_isLatin1_aae02, Cond.code yJ0_isLatin1_aae02 cJ0_isLatin1_aae02 1 (some .boolean), Cond.methodLink RJ0 495 yJ1_charAt_3b067, Cond.static yJ1_charAt_3b067, Cond.initialized RJ1, Cond.code yJ1_charAt_3b067 cJ1_charAt_3b067 2 (some .char),
  Cond.methodLink RJ1 9 yJ0_checkIndex_df160, Cond.static yJ0_checkIndex_df160, Cond.code yJ0_checkIndex_df160 cJ0_checkIndex_df160 2 none, Cond.fieldLink RJ0 1053 "jdk/internal/util/Preconditions" "SIOOBE_FORMATTER" "Ljava/util/function/BiFunction;", Cond.methodLink RJ0 1059 yJ3_checkIndex_8e157, Cond.static yJ3_checkIndex_8e157, Cond.initialized RJ3, Cond.code yJ3_checkIndex_8e157 cJ3_checkIndex_8e157 3 (some .int)]
def NMc : Nat := NM - 1
/-- all words that the methods (but the law itself) need -/
def AW : List Cond := (wS ++ wO) ++ ((List.range 14).flatMap (fun o => wF o ++ wMt o ++ wC o ++ wK o ++ wLg o) ++ ((List.range 11).flatMap wCls ++ (List.range NMc).flatMap wY))
theorem AW_o {w : Cond} (h : w ∈ wO) : w ∈ AW := List.mem_append_left _ (List.mem_append_right _ h)
theorem AW_s {w : Cond} (h : w ∈ wS) : w ∈ AW := List.mem_append_left _ (List.mem_append_left _ h)
theorem wS_all : ∀ w ∈ wS, goodWord w = true := by
  intro w h
  simp only [wS, List.mem_cons, List.not_mem_nil, or_false] at h
  rcases h with rfl | rfl | rfl | rfl | rfl | rfl | rfl | rfl | rfl | rfl | rfl | rfl | rfl | rfl | rfl | rfl | rfl | rfl | rfl | rfl | rfl | rfl | rfl | rfl | rfl | rfl | rfl | rfl | rfl | rfl <;> rfl
theorem AW_t {w : Cond} {o : Nat} (ho : o < 14) (h : w ∈ wF o ++ wMt o ++ wC o ++ wK o ++ wLg o) : w ∈ AW := List.mem_append_right _ (List.mem_append_left _ (List.mem_flatMap.mpr ⟨o, List.mem_range.mpr ho, h⟩))
theorem AW_c {w : Cond} {c : Nat} (hc : c < 11) (h : w ∈ wCls c) : w ∈ AW := List.mem_append_right _ (List.mem_append_right _ (List.mem_append_left _ (List.mem_flatMap.mpr ⟨c, List.mem_range.mpr hc, h⟩)))
theorem AW_y {w : Cond} {y : Nat} (hy : y < NMc) (h : w ∈ wY y) : w ∈ AW := List.mem_append_right _ (List.mem_append_right _ (List.mem_append_right _ (List.mem_flatMap.mpr ⟨y, List.mem_range.mpr hy, h⟩)))
theorem AW_f {o : Nat} (ho : o < 14) {q : Nat × Nat × Nat} (h : q ∈ fTab o) : Cond.fieldLink (ON o) q.1 (TT q.2.1 q.2.2).1 (TT q.2.1 q.2.2).2.1 (TT q.2.1 q.2.2).2.2.1 ∈ AW := by
  refine AW_t ho ?_
  simp only [List.mem_append]
  exact Or.inl (Or.inl (Or.inl (Or.inl (List.mem_map.mpr ⟨q, h, rfl⟩))))
theorem AW_m {o : Nat} (ho : o < 14) {q : Nat × Nat} (h : q ∈ mTab o) : Cond.methodLink (ON o) q.1 (yOf q.2) ∈ AW := by
  refine AW_t ho ?_
  simp only [List.mem_append]
  exact Or.inl (Or.inl (Or.inl (Or.inr (List.mem_map.mpr ⟨q, h, rfl⟩))))
theorem AW_cl {o : Nat} (ho : o < 14) {q : Nat × Nat} (h : q ∈ cTab o) : Cond.classLink (ON o) q.1 (RR q.2) ∈ AW := by
  refine AW_t ho ?_
  simp only [List.mem_append]
  exact Or.inl (Or.inl (Or.inr (List.mem_map.mpr ⟨q, h, rfl⟩)))
theorem AW_k {o : Nat} (ho : o < 14) {q : Nat × Int} (h : q ∈ kTab o) : Cond.constant (ON o) q.1 (Int32.ofInt q.2) ∈ AW := by
  refine AW_t ho ?_
  simp only [List.mem_append]
  exact Or.inl (Or.inr (List.mem_map.mpr ⟨q, h, rfl⟩))
theorem AW_l {o : Nat} (ho : o < 14) {q : Nat × Int} (h : q ∈ lTab o) : Cond.constantLong (ON o) q.1 (Int64.ofInt q.2) ∈ AW := by
  refine AW_t ho ?_
  simp only [List.mem_append]
  exact Or.inr (List.mem_map.mpr ⟨q, h, rfl⟩)
theorem AW_lay {c : Nat} (hc : c < 11) : ∀ w ∈ u_ws (RR c) (TT c) (NN c), w ∈ AW := fun w h => AW_c hc (List.mem_append_left _ h)
theorem AW_ins {c : Nat} (hc : c < 11) : Cond.instantiable (RR c) (NN c) ∈ AW := AW_c hc (List.mem_append_right _ List.mem_cons_self)
theorem AW_ini {o : Nat} (ho : o < 14) : Cond.initialized (ON o) ∈ AW := AW_o (List.mem_append_left _ (List.mem_map.mpr ⟨o, List.mem_range.mpr ho, rfl⟩))
theorem AW_code {y : Nat} (hy : y < NMc) : Cond.code (mi y).1 (mi y).2.1 (mi y).2.2.1 (mi y).2.2.2.1 ∈ AW := by
  refine AW_y hy ?_
  unfold wY
  split <;> exact List.mem_cons_self
theorem AW_all {w : Cond} (h : w ∈ AW) : goodWord w = true := by
  have h : w ∈ (wS ++ wO) ++ ((List.range 14).flatMap (fun o => wF o ++ wMt o ++ wC o ++ wK o ++ wLg o) ++ ((List.range 11).flatMap wCls ++ (List.range NMc).flatMap wY)) := h
  rcases List.mem_append.mp h with h | h
  · rcases List.mem_append.mp h with h | h
    · exact wS_all w h
    · simp only [wO, List.mem_append, List.mem_map, List.mem_cons, List.not_mem_nil, or_false] at h
      rcases h with ⟨o, -, rfl⟩ | h
      · rfl
      · rcases h with rfl | rfl | rfl | rfl | rfl | rfl | rfl | rfl | rfl | rfl | rfl | rfl | rfl | rfl <;> rfl
  simp only [List.mem_append, List.mem_flatMap, List.mem_map, List.mem_cons, List.not_mem_nil, or_false, wF, wMt, wC, wK, wLg, wCls] at h
  rcases h with ⟨o, -, ((((⟨q, -, rfl⟩ | ⟨q, -, rfl⟩) | ⟨q, -, rfl⟩) | ⟨q, -, rfl⟩) | ⟨q, -, rfl⟩)⟩ | ⟨c, -, h | rfl⟩ | ⟨y, -, h⟩
  · rfl
  · rfl
  · rfl
  · rfl
  · rfl
  · unfold u_ws at h
    obtain ⟨k, -, rfl⟩ := List.mem_map.mp h
    unfold u_lay
    split <;> rfl
  · rfl
  · unfold wY at h
    split at h <;> simp only [List.mem_cons, List.not_mem_nil, or_false] at h
    · rcases h with rfl | rfl | rfl <;> rfl
    · rcases h with rfl | rfl <;> rfl
    · rcases h with rfl | rfl <;> rfl
