/-! String.length() and charAt() of the two texts -/
def PcX (adK adV : Nat → Nat) (B : Nat) (as : List Value) : Array Value → State → Prop := fun a U => a = as.toArray ∧ Xk adK adV B U ∧ B ≤ U.heap.size
def QcV : Array Value → State → Outcome → State → Prop := fun _ st o t => o = .returned none ∧ t.heap = st.heap
def rmJ (d : Nat) : Room := { frames := d, cells := 0, slots := 0, locals := 100 * d }
def strN (i : Nat) : Nat := ([st0.length, st1.length] : List Nat).getD i 0
def strB (i j : Nat) : Int32 := (([st0.map Int32.ofInt, st1.map Int32.ofInt] : List (List Int32)).getD i []).getD j 0
theorem dJ0_length_8abf5_6 : decode cJ0_length_8abf5 6 = .ok (.invokevirtual 335, 3) := by decide +kernel
theorem dJ0_length_8abf5_9 : decode cJ0_length_8abf5 9 = .ok (.ishr, 1) := by decide +kernel
theorem dJ0_length_8abf5_10 : decode cJ0_length_8abf5 10 = .ok (.ireturn, 1) := by decide +kernel
theorem dJ0_checkIndex_df160_5 : decode cJ0_checkIndex_df160 5 = .ok (.invokestatic 1059, 3) := by decide +kernel
theorem dJ0_checkIndex_df160_8 : decode cJ0_checkIndex_df160 8 = .ok (.pop, 1) := by decide +kernel
theorem dJ0_checkIndex_df160_9 : decode cJ0_checkIndex_df160 9 = .ok (.return_, 1) := by decide +kernel
theorem dJ1_charAt_3b067_3 : decode cJ1_charAt_3b067 3 = .ok (.invokestatic 9, 3) := by decide +kernel
theorem dJ1_charAt_3b067_6 : decode cJ1_charAt_3b067 6 = .ok (.aload_n 0, 1) := by decide +kernel
theorem dJ1_charAt_3b067_7 : decode cJ1_charAt_3b067 7 = .ok (.iload_n 1, 1) := by decide +kernel
theorem dJ1_charAt_3b067_8 : decode cJ1_charAt_3b067 8 = .ok (.baload, 1) := by decide +kernel
theorem dJ1_charAt_3b067_9 : decode cJ1_charAt_3b067 9 = .ok (.sipush 255, 3) := by decide +kernel
theorem dJ1_charAt_3b067_12 : decode cJ1_charAt_3b067 12 = .ok (.iand, 1) := by decide +kernel
theorem dJ1_charAt_3b067_13 : decode cJ1_charAt_3b067 13 = .ok (.i2c, 1) := by decide +kernel
theorem dJ1_charAt_3b067_14 : decode cJ1_charAt_3b067 14 = .ok (.ireturn, 1) := by decide +kernel
theorem dJ0_charAt_5068e_1 : decode cJ0_charAt_5068e 1 = .ok (.invokevirtual 492, 3) := by decide +kernel
theorem dJ0_charAt_5068e_4 : decode cJ0_charAt_5068e 4 = .ok (.ifCond .eq 12, 3) := by decide +kernel
theorem dJ0_charAt_5068e_7 : decode cJ0_charAt_5068e 7 = .ok (.aload_n 0, 1) := by decide +kernel
theorem dJ0_charAt_5068e_8 : decode cJ0_charAt_5068e 8 = .ok (.getfield 9, 3) := by decide +kernel
theorem dJ0_charAt_5068e_11 : decode cJ0_charAt_5068e 11 = .ok (.iload_n 1, 1) := by decide +kernel
theorem dJ0_charAt_5068e_12 : decode cJ0_charAt_5068e 12 = .ok (.invokestatic 495, 3) := by decide +kernel
theorem dJ0_charAt_5068e_15 : decode cJ0_charAt_5068e 15 = .ok (.ireturn, 1) := by decide +kernel
section STR
variable {l : Launch} {B : Nat} {adK adV : Nat → Nat}
theorem Xk_blind {g : JFrame} {mk : MethodId} {a : Array Value} {U : State} (h : Xk adK adV B U) : Xk adK adV B (U.calling g mk a) := by
  obtain ⟨a1, a2, a3, n1, n2, n3, r1, r2, sS, z1, z2⟩ := h
  have hv : (U.calling g mk a).vm = U.vm := rfl
  exact ⟨a1.moved (u := U) (U := U.calling g mk a) (Vm.Alike.refl U.vm), a2.moved (u := U) (U := U.calling g mk a) (Vm.Alike.refl U.vm), a3.moved (u := U) (U := U.calling g mk a) (Vm.Alike.refl U.vm), va_Nw.same rfl hv.symm n1, va_Nw.same rfl hv.symm n2, va_Nw.same rfl hv.symm n3, vk_R.same hv r1, vk_R.same hv r2, sS.moved (u := U) (U := U.calling g mk a) (Vm.Alike.refl U.vm), z1.moved (u := U) (U := U.calling g mk a) (Vm.Alike.refl U.vm), z2.moved (u := U) (U := U.calling g mk a) (Vm.Alike.refl U.vm)⟩
theorem PcX_blind {as : List Value} : FrameBlind (PcX adK adV B as) := fun a U g mk q => ⟨q.1, Xk_blind q.2.1, q.2.2⟩
theorem PcX_here {s : State} {as : List Value} {H : Heap} (hX : Xk adK adV B s) (hB : B ≤ s.heap.size) (hz : s.heap.size ≤ H.size) (ho : ∀ q : Nat, q < s.heap.size → ¬ B ≤ q → H[q]? = s.heap[q]?) : ∀ U : State, U.heap = H → s.WarmedH U.vm → PcX adK adV B as as.toArray U :=
  fun U hU hW => ⟨rfl, Xk.go hW hU hB ho hX, by rw [hU]; omega⟩
theorem gcode {Ts : List Cond} {w0 : Cond} (hAT : ∀ w ∈ AW, w ∈ Ts) (h0 : w0 ∈ AW) : GoodIn Ts (w0 :: AW) := by
  intro w hw
  have hA : w ∈ AW := (List.mem_cons.mp hw).elim (fun e => e ▸ h0) id
  exact ⟨hAT w hA, good_of_word (AW_all hA)⟩
theorem m_coder {i : Nat} (hi : i < 2) : Met l yJ0_coder_7d493 (Cond.code yJ0_coder_7d493 cJ0_coder_7d493 1 (some .byte) :: AW) (rmJ 1) (PcX adK adV B [.ref (adK i)]) (QcRead 0) 0 0 (fun _ => False) := by
  refine Met.ofW (cc := cJ0_coder_7d493) (maxL := 1) (ret := some .byte) (by decide) rfl ?_
  intro p e s m args below meth c s₁ Bd hml hv; obtain ⟨rfl, hX, hB⟩ := hv; have hx := Bd.exec; have hb := Bd.bytes; have hr := Bd.returns; have hlocks := Bd.notSynchronized; have hS : va_S (fun q => B ≤ q) s.heap s.heap [] := va_S.rf
  have hts := atoms_spec (ws := Cond.code yJ0_coder_7d493 cJ0_coder_7d493 1 (some .byte) :: AW) Bd.pre
  have hw : ∀ w ∈ wS, w.before #[.ref (adK i)] s = true := fun w h => hts w (List.mem_cons_of_mem _ (AW_s h))
  have hown : s.vm.findClass RJ0 = some m.cls := findClass_of_methodNamed Bd.named
  have hl := lv_entry ([.ref (adK i)]) (n := 1) (Nat.le_of_ble_eq_true rfl)
  rw [lg_entry_eq]
  generalize (lg_sl ([.ref (adK i)]) ++ List.replicate (1 - (lg_sl ([.ref (adK i)])).length) Slot.unset).toArray = ls at hl ⊢
  refine va_gets hx hb hX.2.2.2.2.2.2.2.2.2.1 hS hown (hw _ (List.mem_of_getElem? (i := 12) rfl)) (fun _ h => h) (by decide +kernel) ?_
  refine lv_if_eq (tgt := 13) hx hb (off := 10) (by decide +kernel) (by decide) (fun q => by cases q) (fun _ => ?_)
  refine lv_aload_n hx hb (k := 0) (by decide +kernel) rfl (lv_at hl 0 rfl) ?_
  refine vk_getf hx hb (hX.2.2.2.2.2.2.2.2.1.1 i hi).2.1 hS hown (hw _ (List.mem_of_getElem? (i := 13) rfl)) (fun _ h => h) (by decide +kernel) ?_
  refine lv_goto (tgt := 14) hx hb (off := 4) (by decide +kernel) (by decide) ?_
  exact W.zret (v := 0) hx hb hr rfl (fun t ht _ => ⟨rfl, ht⟩) (fun _ h => absurd h List.not_mem_nil) (by decide +kernel) hlocks
theorem m_isLatin1 {i : Nat} (hi : i < 2) : Met l yJ0_isLatin1_aae02 (Cond.code yJ0_isLatin1_aae02 cJ0_isLatin1_aae02 1 (some .boolean) :: AW) (rmJ 1) (PcX adK adV B [.ref (adK i)]) (QcRead 1) 0 0 (fun _ => False) := by
  refine Met.ofW (cc := cJ0_isLatin1_aae02) (maxL := 1) (ret := some .boolean) (by decide) rfl ?_
  intro p e s m args below meth c s₁ Bd hml hv; obtain ⟨rfl, hX, hB⟩ := hv; have hx := Bd.exec; have hb := Bd.bytes; have hr := Bd.returns; have hlocks := Bd.notSynchronized; have hS : va_S (fun q => B ≤ q) s.heap s.heap [] := va_S.rf
  have hts := atoms_spec (ws := Cond.code yJ0_isLatin1_aae02 cJ0_isLatin1_aae02 1 (some .boolean) :: AW) Bd.pre
  have hw : ∀ w ∈ wS, w.before #[.ref (adK i)] s = true := fun w h => hts w (List.mem_cons_of_mem _ (AW_s h))
  have hown : s.vm.findClass RJ0 = some m.cls := findClass_of_methodNamed Bd.named
  have hl := lv_entry ([.ref (adK i)]) (n := 1) (Nat.le_of_ble_eq_true rfl)
  rw [lg_entry_eq]
  generalize (lg_sl ([.ref (adK i)]) ++ List.replicate (1 - (lg_sl ([.ref (adK i)])).length) Slot.unset).toArray = ls at hl ⊢
  refine va_gets hx hb hX.2.2.2.2.2.2.2.2.2.1 hS hown (hw _ (List.mem_of_getElem? (i := 12) rfl)) (fun _ h => h) (by decide +kernel) ?_
  refine lv_if_eq (tgt := 17) hx hb (off := 14) (by decide +kernel) (by decide) (fun q => by cases q) (fun _ => ?_)
  refine lv_aload_n hx hb (k := 0) (by decide +kernel) rfl (lv_at hl 0 rfl) ?_
  refine vk_getf hx hb (hX.2.2.2.2.2.2.2.2.1.1 i hi).2.1 hS hown (hw _ (List.mem_of_getElem? (i := 13) rfl)) (fun _ h => h) (by decide +kernel) ?_
  refine lv_if_ne (tgt := 17) hx hb (off := 7) (by decide +kernel) (by decide) (fun q => absurd rfl q) (fun _ => ?_)
  refine lv_iconst (v := 1) hx hb (n := 1) (by decide +kernel) (by decide) ?_
  refine lv_goto (tgt := 18) hx hb (off := 4) (by decide +kernel) (by decide) ?_
  exact W.zret (v := 1) hx hb hr rfl (fun t ht _ => ⟨rfl, ht⟩) (fun _ h => absurd h List.not_mem_nil) (by decide +kernel) hlocks
theorem m_length {i : Nat} (hi : i < 2) : Met l yJ0_length_8abf5 (Cond.code yJ0_length_8abf5 cJ0_length_8abf5 1 (some .int) :: AW) (rmJ 2) (PcX adK adV B [.ref (adK i)]) (QcRead (Int32.ofNat (strN i))) 0 0 (fun _ => False) := by
  refine Met.ofW (cc := cJ0_length_8abf5) (maxL := 1) (ret := some .int) (by decide) rfl ?_
  intro p e s m args below meth c s₁ Bd hml hv; obtain ⟨rfl, hX, hB⟩ := hv; have hx := Bd.exec; have hb := Bd.bytes; have hr := Bd.returns; have hlocks := Bd.notSynchronized; have hS : va_S (fun q => B ≤ q) s.heap s.heap [] := va_S.rf
  have hts := atoms_spec (ws := Cond.code yJ0_length_8abf5 cJ0_length_8abf5 1 (some .int) :: AW) Bd.pre
  have hw : ∀ w ∈ wS, w.before #[.ref (adK i)] s = true := fun w h => hts w (List.mem_cons_of_mem _ (AW_s h))
  have hown : s.vm.findClass RJ0 = some m.cls := findClass_of_methodNamed Bd.named
  have hl := lv_entry ([.ref (adK i)]) (n := 1) (Nat.le_of_ble_eq_true rfl)
  rw [lg_entry_eq]
  generalize (lg_sl ([.ref (adK i)]) ++ List.replicate (1 - (lg_sl ([.ref (adK i)])).length) Slot.unset).toArray = ls at hl ⊢
  have hV := hX.2.2.2.2.2.2.2.2.1
  refine lv_aload_n hx hb (k := 0) (by decide +kernel) rfl (lv_at hl 0 rfl) ?_
  refine vk_getf hx hb (hV.1 i hi).2.2.1 hS hown (hw _ (List.mem_of_getElem? (i := 7) rfl)) (fun _ h => h) (by decide +kernel) ?_
  refine va_tlen hx hb (hV.1 i hi).2.2.2 hS rfl (by decide +kernel) ?_
  refine lv_aload_n hx hb (k := 0) (by decide +kernel) rfl (lv_at hl 0 rfl) ?_
  refine W.callR (W.runV (C := RJ0) (As := []) (b := adK i) (rest := [.int (Int32.ofNat (strN i))]) ⟨hx, hb, hml, hown, hts⟩ (m_coder hi) ⟨callB_of 0 hts (gcode (fun w h => List.mem_cons_of_mem _ h) (AW_s (List.mem_of_getElem? (i := 11) rfl))) rfl rfl rfl (hw _ (List.mem_of_getElem? (i := 6) rfl)) (hw _ (List.mem_of_getElem? (i := 8) rfl)) (by decide +kernel) ⟨Nat.le_of_ble_eq_true rfl, Nat.le_of_ble_eq_true rfl⟩, hw _ (List.mem_of_getElem? (i := 9) rfl), hw _ (List.mem_of_getElem? (i := 10) rfl)⟩ ⟨PcX_blind, vk_recv hV hi hS, PcX_here hX hB (Nat.le_refl _) (fun _ _ _ => rfl)⟩ rfl rfl hl.1 rfl (lv_room (Nat.le_of_ble_eq_true rfl)) dJ0_length_8abf5_6 ⟨Nat.zero_le _, Nat.zero_le _⟩) ?_
  refine lv_ishr hx hb dJ0_length_8abf5_9 ?_
  have e0 : Int32.ofNat (strN i) >>> ((0 : Int32) &&& 31) = Int32.ofNat (strN i) := by
    rcases (show i = 0 ∨ i = 1 by omega) with rfl | rfl <;> decide +kernel
  rw [e0]
  exact W.iret hx hb hr (fun t ht _ => ⟨rfl, ht⟩) (fun _ h => absurd h List.not_mem_nil) dJ0_length_8abf5_10 hlocks
theorem m_ck3 {i n : Int32} {f : Option Nat} (h0 : ¬ i < 0) (h1 : i < n) : Met l yJ3_checkIndex_8e157 (Cond.code yJ3_checkIndex_8e157 cJ3_checkIndex_8e157 3 (some .int) :: AW) (rmJ 1) (PcX adK adV B [.int i, .int n, va_rf f]) (QcRead i) 0 0 (fun _ => False) := by
  refine Met.ofW (cc := cJ3_checkIndex_8e157) (maxL := 3) (ret := some .int) (by decide) rfl ?_
  intro p e s m args below meth c s₁ Bd hml hv; obtain ⟨rfl, hX, hB⟩ := hv; have hx := Bd.exec; have hb := Bd.bytes; have hr := Bd.returns; have hlocks := Bd.notSynchronized; have hS : va_S (fun q => B ≤ q) s.heap s.heap [] := va_S.rf
  have hl : lv_has ((lg_sl ([.int i, .int n, va_rf f]) ++ List.replicate (3 - (lg_sl ([.int i, .int n, va_rf f])).length) Slot.unset).toArray) 3 (lv_args 0 [.int i, .int n, va_rf f]) := lv_entry ([.int i, .int n, va_rf f]) (n := 3) (by cases f <;> exact Nat.le_of_ble_eq_true rfl)
  rw [lg_entry_eq]
  generalize (lg_sl ([.int i, .int n, va_rf f]) ++ List.replicate (3 - (lg_sl ([.int i, .int n, va_rf f])).length) Slot.unset).toArray = ls at hl ⊢
  refine lv_iload_n hx hb (k := 0) (by decide +kernel) rfl (lv_at hl 0 rfl) ?_
  refine lv_if_lt (tgt := 9) hx hb (off := 8) (by decide +kernel) (by decide) (fun q => absurd q h0) (fun _ => ?_)
  refine lv_iload_n hx hb (k := 0) (by decide +kernel) rfl (lv_at hl 0 rfl) ?_
  refine lv_iload_n hx hb (k := 1) (by decide +kernel) rfl (lv_at hl 1 rfl) ?_
  refine lv_icmp_lt (tgt := 16) hx hb (off := 10) (by decide +kernel) (by decide) (fun _ => ?_) (fun q => absurd h1 q)
  refine lv_iload_n hx hb (k := 0) (by decide +kernel) rfl (lv_at hl 0 rfl) ?_
  exact W.iret hx hb hr (fun t ht _ => ⟨rfl, ht⟩) (fun _ h => absurd h List.not_mem_nil) (by decide +kernel) hlocks
theorem m_ck0 {i n : Int32} (h0 : ¬ i < 0) (h1 : i < n) : Met l yJ0_checkIndex_df160 (Cond.code yJ0_checkIndex_df160 cJ0_checkIndex_df160 2 none :: AW) (rmJ 2) (PcX adK adV B [.int i, .int n]) QcV 0 0 (fun _ => False) := by
  refine Met.ofW (cc := cJ0_checkIndex_df160) (maxL := 2) (ret := none) (by decide) rfl ?_
  intro p e s m args below meth c s₁ Bd hml hv; obtain ⟨rfl, hX, hB⟩ := hv; have hx := Bd.exec; have hb := Bd.bytes; have hr := Bd.returns; have hlocks := Bd.notSynchronized; have hS : va_S (fun q => B ≤ q) s.heap s.heap [] := va_S.rf
  have hts := atoms_spec (ws := Cond.code yJ0_checkIndex_df160 cJ0_checkIndex_df160 2 none :: AW) Bd.pre
  have hw : ∀ w ∈ wS, w.before #[.int i, .int n] s = true := fun w h => hts w (List.mem_cons_of_mem _ (AW_s h))
  have hown : s.vm.findClass RJ0 = some m.cls := findClass_of_methodNamed Bd.named
  have hl := lv_entry ([.int i, .int n]) (n := 2) (Nat.le_of_ble_eq_true rfl)
  rw [lg_entry_eq]
  generalize (lg_sl ([.int i, .int n]) ++ List.replicate (2 - (lg_sl ([.int i, .int n])).length) Slot.unset).toArray = ls at hl ⊢
  refine lv_iload_n hx hb (k := 0) (by decide +kernel) rfl (lv_at hl 0 rfl) ?_
  refine lv_iload_n hx hb (k := 1) (by decide +kernel) rfl (lv_at hl 1 rfl) ?_
  have key : ∀ f : Option Nat, W p l e (rmJ 2) s m #[.int i, .int n] below meth c s.heap [] 0 0 (MQ below QcV #[.int i, .int n] s 0 0 (fun _ => False)) (F0 m 5 ls [va_rf f, .int n, .int i]) := by
    intro f
    refine W.callR (W.runS (As := [.int i, .int n, va_rf f]) (rest := []) ⟨hx, hb, hml, hown, hts⟩ (m_ck3 (f := f) h0 h1) ⟨callB_of 3 hts (gcode (fun w h => List.mem_cons_of_mem _ h) (AW_s (List.mem_of_getElem? (i := 29) rfl))) rfl rfl rfl (hw _ (List.mem_of_getElem? (i := 28) rfl)) (hw _ (List.mem_of_getElem? (i := 26) rfl)) (by decide +kernel) ⟨Nat.le_of_ble_eq_true rfl, Nat.le_of_ble_eq_true rfl⟩, hw _ (List.mem_of_getElem? (i := 27) rfl)⟩ ⟨PcX_blind, PcX_here hX hB (Nat.le_refl _) (fun _ _ _ => rfl)⟩ rfl rfl hl.1 rfl (lv_room (Nat.le_of_ble_eq_true rfl)) dJ0_checkIndex_df160_5 ⟨Nat.zero_le _, Nat.zero_le _⟩) ?_
    refine lv_pop hx hb dJ0_checkIndex_df160_8 rfl ?_
    exact W.vret hx hb hr (fun t ht _ => ⟨rfl, ht⟩) (fun _ h => absurd h List.not_mem_nil) dJ0_checkIndex_df160_9 hlocks
  rcases hX.2.2.2.2.2.2.2.2.2.2 with hz | ⟨t, hz⟩
  · exact va_gets hx hb hz hS hown (hw _ (List.mem_of_getElem? (i := 25) rfl)) (fun _ h => h) (by decide +kernel) (key none)
  · exact va_gets hx hb hz hS hown (hw _ (List.mem_of_getElem? (i := 25) rfl)) (fun _ h => h) (by decide +kernel) (key (some t))
theorem W_callV {p : Program} {e : Env} {R : Room} {s : State} {m : MethodId} {args : Array Value} {below : List Frame} {meth : Method} {c : Code} {H : Heap} {locs : List Loc} {cells slots : Nat} {Q : State → Prop} {g : JFrame} {rest : List Value} {a : Array Value} (hr : CallRun p l e R s m args below meth c H locs cells slots 0 0 g rest (QcV a) (fun _ => False)) (kk : W p l e R s m args below meth c H locs cells slots Q { g with pc := g.pc + 3, stack := rest }) : W p l e R s m args below meth c H locs cells slots Q g := by
  intro T hT X
  obtain ⟨v, st₀, t, T', L, h0, X', hL, e1, ⟨hv, hh⟩, st⟩ := hr T hT X
  cases hv
  obtain ⟨t2, a1, b1⟩ := kk T' (by rw [e1, hh, h0]) (Stand.forget X' (fun q h => (hL q h).elim))
  exact ⟨t2, st t2 a1, b1⟩
theorem strB_ok : ∀ i, i < 2 → ∀ j, j < strN i → ((strB i j &&& 255).toUInt32 % 65536).toInt32 = strB i j ∧ narrow .char (.int (strB i j)) = .int (strB i j) := by decide +kernel
theorem m_ch1 {i : Nat} (hi : i < 2) {j : Int32} (hj : vp_in j (strN i)) : Met l yJ1_charAt_3b067 (Cond.code yJ1_charAt_3b067 cJ1_charAt_3b067 2 (some .char) :: AW) (rmJ 3) (PcX adK adV B [.ref (adV i), .int j]) (QcRead (strB i j.toNatClampNeg)) 0 0 (fun _ => False) := by
  refine Met.ofW (cc := cJ1_charAt_3b067) (maxL := 2) (ret := some .char) (by decide) rfl ?_
  intro p e s m args below meth c s₁ Bd hml hv; obtain ⟨rfl, hX, hB⟩ := hv; have hx := Bd.exec; have hb := Bd.bytes; have hr := Bd.returns; have hlocks := Bd.notSynchronized; have hS : va_S (fun q => B ≤ q) s.heap s.heap [] := va_S.rf
  have hts := atoms_spec (ws := Cond.code yJ1_charAt_3b067 cJ1_charAt_3b067 2 (some .char) :: AW) Bd.pre
  have hw : ∀ w ∈ wS, w.before #[.ref (adV i), .int j] s = true := fun w h => hts w (List.mem_cons_of_mem _ (AW_s h))
  have hown : s.vm.findClass RJ1 = some m.cls := findClass_of_methodNamed Bd.named
  have hl := lv_entry ([.ref (adV i), .int j]) (n := 2) (Nat.le_of_ble_eq_true rfl)
  rw [lg_entry_eq]
  generalize (lg_sl ([.ref (adV i), .int j]) ++ List.replicate (2 - (lg_sl ([.ref (adV i), .int j])).length) Slot.unset).toArray = ls at hl ⊢
  have hV := hX.2.2.2.2.2.2.2.2.1
  have hsm : strN i < 2 ^ 31 := by rcases (show i = 0 ∨ i = 1 by omega) with rfl | rfl <;> decide +kernel
  have hj0 : ¬ j < 0 := fun q => hj (Or.inl q)
  have hj1 : j < Int32.ofNat (strN i) := by
    obtain ⟨n, hn, rfl⟩ := vp_in_of hj hsm
    exact nI_lt hn hsm
  refine lv_iload_n hx hb (k := 1) (by decide +kernel) rfl (lv_at hl 1 rfl) ?_
  refine lv_aload_n hx hb (k := 0) (by decide +kernel) rfl (lv_at hl 0 rfl) ?_
  refine va_tlen hx hb (hV.1 i hi).2.2.2 hS rfl (by decide +kernel) ?_
  refine W_callV (W.runS (As := [.int j, .int (Int32.ofNat (strN i))]) (rest := []) ⟨hx, hb, hml, hown, hts⟩ (m_ck0 hj0 hj1) ⟨callB_of 2 hts (gcode (fun w h => List.mem_cons_of_mem _ h) (AW_s (List.mem_of_getElem? (i := 24) rfl))) rfl rfl rfl (hw _ (List.mem_of_getElem? (i := 6) rfl)) (hw _ (List.mem_of_getElem? (i := 22) rfl)) (by decide +kernel) ⟨Nat.le_of_ble_eq_true rfl, Nat.le_of_ble_eq_true rfl⟩, hw _ (List.mem_of_getElem? (i := 23) rfl)⟩ ⟨PcX_blind, PcX_here hX hB (Nat.le_refl _) (fun _ _ _ => rfl)⟩ rfl rfl hl.1 rfl (lv_room (Nat.le_of_ble_eq_true rfl)) dJ1_charAt_3b067_3 ⟨Nat.zero_le _, Nat.zero_le _⟩) ?_
  refine lv_aload_n hx hb (k := 0) dJ1_charAt_3b067_6 rfl (lv_at hl 0 rfl) ?_
  refine lv_iload_n hx hb (k := 1) dJ1_charAt_3b067_7 rfl (lv_at hl 1 rfl) ?_
  refine va_tb hx hb (hV.1 i hi).2.2.2 hS hj (v := .int (strB i j.toNatClampNeg)) rfl dJ1_charAt_3b067_8 ?_
  refine lv_sipush (v := 255) hx hb (n := 255) dJ1_charAt_3b067_9 (by decide) ?_
  refine lv_iand hx hb dJ1_charAt_3b067_12 ?_
  have hlt : j.toNatClampNeg < strN i := Nat.lt_of_not_le (fun q => hj (Or.inr q))
  have hsb := strB_ok i hi _ hlt
  refine lv_i2c hx hb dJ1_charAt_3b067_13 hsb.1 ?_
  exact W.zret hx hb hr hsb.2 (fun t ht _ => ⟨rfl, ht⟩) (fun _ h => absurd h List.not_mem_nil) dJ1_charAt_3b067_14 hlocks
theorem m_charAt {i : Nat} (hi : i < 2) {j : Int32} (hj : vp_in j (strN i)) : Met l yJ0_charAt_5068e (Cond.code yJ0_charAt_5068e cJ0_charAt_5068e 2 (some .char) :: AW) (rmJ 4) (PcX adK adV B [.ref (adK i), .int j]) (QcRead (strB i j.toNatClampNeg)) 0 0 (fun _ => False) := by
  refine Met.ofW (cc := cJ0_charAt_5068e) (maxL := 2) (ret := some .char) (by decide) rfl ?_
  intro p e s m args below meth c s₁ Bd hml hv; obtain ⟨rfl, hX, hB⟩ := hv; have hx := Bd.exec; have hb := Bd.bytes; have hr := Bd.returns; have hlocks := Bd.notSynchronized; have hS : va_S (fun q => B ≤ q) s.heap s.heap [] := va_S.rf
  have hts := atoms_spec (ws := Cond.code yJ0_charAt_5068e cJ0_charAt_5068e 2 (some .char) :: AW) Bd.pre
  have hw : ∀ w ∈ wS, w.before #[.ref (adK i), .int j] s = true := fun w h => hts w (List.mem_cons_of_mem _ (AW_s h))
  have hown : s.vm.findClass RJ0 = some m.cls := findClass_of_methodNamed Bd.named
  have hl := lv_entry ([.ref (adK i), .int j]) (n := 2) (Nat.le_of_ble_eq_true rfl)
  rw [lg_entry_eq]
  generalize (lg_sl ([.ref (adK i), .int j]) ++ List.replicate (2 - (lg_sl ([.ref (adK i), .int j])).length) Slot.unset).toArray = ls at hl ⊢
  have hV := hX.2.2.2.2.2.2.2.2.1
  have hlt : j.toNatClampNeg < strN i := Nat.lt_of_not_le (fun q => hj (Or.inr q))
  have hsb := strB_ok i hi _ hlt
  refine lv_aload_n hx hb (k := 0) (by decide +kernel) rfl (lv_at hl 0 rfl) ?_
  refine W.callR (W.runV (C := RJ0) (As := []) (b := adK i) (rest := []) ⟨hx, hb, hml, hown, hts⟩ (m_isLatin1 hi) ⟨callB_of 0 hts (gcode (fun w h => List.mem_cons_of_mem _ h) (AW_s (List.mem_of_getElem? (i := 17) rfl))) rfl rfl rfl (hw _ (List.mem_of_getElem? (i := 6) rfl)) (hw _ (List.mem_of_getElem? (i := 14) rfl)) (by decide +kernel) ⟨Nat.le_of_ble_eq_true rfl, Nat.le_of_ble_eq_true rfl⟩, hw _ (List.mem_of_getElem? (i := 15) rfl), hw _ (List.mem_of_getElem? (i := 16) rfl)⟩ ⟨PcX_blind, vk_recv hV hi hS, PcX_here hX hB (Nat.le_refl _) (fun _ _ _ => rfl)⟩ rfl rfl hl.1 rfl (lv_room (Nat.le_of_ble_eq_true rfl)) dJ0_charAt_5068e_1 ⟨Nat.zero_le _, Nat.zero_le _⟩) ?_
  refine lv_if_eq (tgt := 16) hx hb (off := 12) dJ0_charAt_5068e_4 rfl (fun q => by cases q) (fun _ => ?_)
  refine lv_aload_n hx hb (k := 0) dJ0_charAt_5068e_7 rfl (lv_at hl 0 rfl) ?_
  refine vk_getf hx hb (hV.1 i hi).2.2.1 hS hown (hw _ (List.mem_of_getElem? (i := 7) rfl)) (fun _ h => h) dJ0_charAt_5068e_8 ?_
  refine lv_iload_n hx hb (k := 1) dJ0_charAt_5068e_11 rfl (lv_at hl 1 rfl) ?_
  refine W.callR (W.runS (As := [.ref (adV i), .int j]) (rest := []) ⟨hx, hb, hml, hown, hts⟩ (m_ch1 hi hj) ⟨callB_of 2 hts (gcode (fun w h => List.mem_cons_of_mem _ h) (AW_s (List.mem_of_getElem? (i := 21) rfl))) rfl rfl rfl (hw _ (List.mem_of_getElem? (i := 20) rfl)) (hw _ (List.mem_of_getElem? (i := 18) rfl)) (by decide +kernel) ⟨Nat.le_of_ble_eq_true rfl, Nat.le_of_ble_eq_true rfl⟩, hw _ (List.mem_of_getElem? (i := 19) rfl)⟩ ⟨PcX_blind, PcX_here hX hB (Nat.le_refl _) (fun _ _ _ => rfl)⟩ rfl rfl hl.1 rfl (lv_room (Nat.le_of_ble_eq_true rfl)) dJ0_charAt_5068e_12 ⟨Nat.zero_le _, Nat.zero_le _⟩) ?_
  exact W.zret hx hb hr hsb.2 (fun t ht _ => ⟨rfl, ht⟩) (fun _ h => absurd h List.not_mem_nil) dJ0_charAt_5068e_15 hlocks
theorem str_snd {A : Nat → Option Nat} {kA : Nat → ClassId} {D : va_G} {X : Int → Int} {XL : Int} (d : Nat) {p : Program} {e : Env} {R : Room} {s : State} {m : MethodId} {args : Array Value} {below : List Frame} {meth : Method} {c : Code} {QQ : State → Prop} {cc : ByteArray} {nL o len0 tot0 : Nat} {Ts : List Cond} (hF : FxC p s m c args cc nL (ON o) Ts D kA A B len0 adK adV) (ho : o < 14) (hAT : ∀ w ∈ AW, w ∈ Ts) (_ : 1 ≤ R.frames) (_ : 100 ≤ R.locals) (hRf : d + 1 ≤ R.frames) (hRl : 100 * (d + 1) ≤ R.locals) :
    ∀ (idx y n pc : Nat) (k : Blk), (idx, y) ∈ mTab o → (y = 1005 ∧ n = 1) ∨ (y = 1006 ∧ n = 2) → decode cc pc = .ok (.invokevirtual idx, 3) → Sd p l e R s m args below meth c QQ B A kA D nL len0 tot0 (pc + 3) k → Sd p l e R s m args below meth c QQ B A kA D nL len0 tot0 pc (o_call (WP X XL d) y n k) := by
  intro idx y n pc k hm hyn hdg hk lo st h H ls locs cells slots fr q
  obtain ⟨q1, q2, q3⟩ := q
  have hX := hF.2.2.2.2.2.2.2.2.2.2.2
  have hB : B ≤ s.heap.size := by rw [hF.2.2.2.2.2.2.1]; omega
  have hts := hF.2.2.2.2.1
  have hw : ∀ w ∈ wS, w.before args s = true := fun w h => hts w (hAT w (AW_s h))
  have hA : ∀ r, r = 900001 ∨ r = 900002 → ∃ i, i < 2 ∧ A r = some (adK i) ∧ strL r = (strN i : Int) ∧ ∀ j : Nat, j < strN i → strB i j = Int32.ofInt (strC r j) := by
    intro r hr
    rcases hr with rfl | rfl
    · exact ⟨0, by omega, hF.2.2.2.2.2.2.2.2.2.1, by decide +kernel, by decide +kernel⟩
    · exact ⟨1, by omega, hF.2.2.2.2.2.2.2.2.2.2.1, by decide +kernel, by decide +kernel⟩
  have hchr : ∀ r, r = 900001 ∨ r = 900002 → ∀ j : Nat, j < 130 → 0 ≤ strC r j ∧ strC r j < 200 := by
    intro r hr
    rcases hr with rfl | rfl <;> decide +kernel
  have hsmall : ∀ r, r = 900001 ∨ r = 900002 → 0 ≤ strL r ∧ strL r < 130 := by
    intro r hr
    rcases hr with rfl | rfl <;> decide +kernel
  cases d with
  | zero => exact q3.elim
  | succ d =>
    unfold WP at q3
    rcases hyn with ⟨rfl, rfl⟩ | ⟨rfl, rfl⟩
    · rw [if_neg (by omega)] at q3
      obtain ⟨h4, q3⟩ := q3
      rcases st with _ | ⟨v, st'⟩
      · simp at q2
      rcases v with z | z | r
      · exact q3.elim
      · exact q3.elim
      have q3 : (r = 900001 ∨ r = 900002) ∧ k lo (vI (strL r) :: st') h := q3
      obtain ⟨hr, q4⟩ := q3
      obtain ⟨i, hi, hAi, hlen, -⟩ := hA r hr
      have hcat := cat_le (A := A) (st := st')
      have hsm := hsmall r hr
      simp at q1
      have hwk := hk lo (vI (strL r) :: st') h H ls locs cells slots (fr.st (cons_ok ⟨by omega, by omega⟩ (tl_ok fr.ok))) q4
      rw [List.map_cons, show trV A (Sum.inr (Sum.inr r)) = .ref (adK i) by simp [trV, va_rf, hAi]]
      have er : Int32.ofInt (strL r) = Int32.ofNat (strN i) := by rw [hlen]; rfl
      refine W.callR (W.runV (C := RJ0) (As := []) (b := adK i) (rest := st'.map (trV A)) ⟨hF.1, hF.2.1, hF.2.2.1, hF.2.2.2.1, hts⟩ (m_length hi) ⟨callB_of 0 hts (gcode hAT (AW_s (List.mem_of_getElem? (i := 0) rfl))) rfl rfl rfl (hw _ (List.mem_of_getElem? (i := 6) rfl)) (hts _ (hAT _ (AW_m ho hm))) (by decide +kernel) ⟨by show 2 + 1 ≤ _; omega, by show 8 + (1 + 11) + 200 ≤ _; omega⟩, hw _ (List.mem_of_getElem? (i := 1) rfl), hw _ (List.mem_of_getElem? (i := 2) rfl)⟩ ⟨PcX_blind, vk_recv hX.2.2.2.2.2.2.2.2.1 hi fr.2.1, PcX_here hX hB fr.2.1.1 fr.2.1.2.1⟩ rfl rfl fr.2.2.1.1 rfl (lv_room (by omega)) hdg ⟨fr.2.2.2.1.2.1, fr.2.2.2.1.2.2⟩) ?_
      rw [← er]
      exact hwk
    · rw [if_neg (by omega)] at q3
      obtain ⟨h4, q3⟩ := q3
      rcases st with _ | ⟨v1, _ | ⟨v, st'⟩⟩
      · simp at q2
      · simp at q2
      rcases v with z | z | r
      · exact q3.elim
      · exact q3.elim
      rcases v1 with j | j | j
      · have q3 : ((r = 900001 ∨ r = 900002) ∧ 0 ≤ j ∧ j < strL r) ∧ k lo (vI (strC r j) :: st') h := q3
        obtain ⟨⟨hr, hj0, hj1⟩, q4⟩ := q3
        obtain ⟨i, hi, hAi, hlen, hch⟩ := hA r hr
        have hcat := cat_le (A := A) (st := st')
        have hsm := hsmall r hr
        have hcr := hchr r hr j.toNat (by omega)
        rw [ix_nat hj0] at hcr
        have hji : inI j := hd_ok fr.ok
        simp at q1
        have hwk := hk lo (vI (strC r j) :: st') h H ls locs cells slots (fr.st (cons_ok ⟨by omega, by omega⟩ (tl_ok (tl_ok fr.ok)))) q4
        rw [List.map_cons, List.map_cons, show trV A (Sum.inr (Sum.inr r)) = .ref (adK i) by simp [trV, va_rf, hAi]]
        have hin : vp_in (Int32.ofInt j) (strN i) := i32_vin hji hj0 (by omega)
        have er : strB i (Int32.ofInt j).toNatClampNeg = Int32.ofInt (strC r j) := by
          rw [i32_clamp hji hj0, hch _ (by omega), ix_nat hj0]
        refine W.callR (W.runV (C := RJ0) (As := [.int (Int32.ofInt j)]) (b := adK i) (rest := st'.map (trV A)) ⟨hF.1, hF.2.1, hF.2.2.1, hF.2.2.2.1, hts⟩ (m_charAt hi hin) ⟨callB_of 1 hts (gcode hAT (AW_s (List.mem_of_getElem? (i := 3) rfl))) rfl rfl rfl (hw _ (List.mem_of_getElem? (i := 6) rfl)) (hts _ (hAT _ (AW_m ho hm))) (by decide +kernel) ⟨by show 4 + 1 ≤ _; omega, by show 8 + (2 + 11) + 400 ≤ _; omega⟩, hw _ (List.mem_of_getElem? (i := 4) rfl), hw _ (List.mem_of_getElem? (i := 5) rfl)⟩ ⟨PcX_blind, vk_recv hX.2.2.2.2.2.2.2.2.1 hi fr.2.1, PcX_here hX hB fr.2.1.1 fr.2.1.2.1⟩ rfl rfl fr.2.2.1.1 rfl (lv_room (by omega)) hdg ⟨fr.2.2.2.1.2.1, fr.2.2.2.1.2.2⟩) ?_
        rw [er]
        exact hwk
      · exact q3.elim
      · exact q3.elim
end STR
