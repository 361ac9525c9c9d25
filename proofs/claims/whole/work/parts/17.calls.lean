/-! calls, by the callee's contract; arraycopy; the script; the ends -/
def wsM (AW : List Cond) (y : Nat) : List Cond := Cond.code (mi y).1 (mi y).2.1 (mi y).2.2.1 (mi y).2.2.2.1 :: AW
def rmM (d y : Nat) : Room := { frames := d, cells := (growM y).length, slots := totS (growM y), locals := 100 * d }
def vokO (r : Option MV) : Prop := ∀ v, r = some v → vok v
def PcM (B : Nat) (A : Nat → Option Nat) (kA : Nat → ClassId) (D : va_G) (adK adV : Nat → Nat) (as : List MV) (h : Mem) : Array Value → State → Prop := fun a U =>
  a = (as.map (trV A)).toArray ∧ U.heap.size = B + h.1.length ∧ Wd B A kA D (fun q => B ≤ q) h U.heap ∧ va_K D vwCl (tys7 kA) U ∧ Xk adK adV B U
def QcM (B : Nat) (A : Nat → Option Nat) (kA : Nat → ClassId) (D : va_G) (h : Mem) (g : List (Nat × Nat)) (Q : RetP) : Array Value → State → Outcome → State → Prop := fun _ st o t =>
  ∃ r h', o = .returned (r.map (trV A)) ∧ Q r h' ∧ vokO r ∧ h'.1 = h.1 ++ g ∧ Wd B A kA D (fun q => B ≤ q) h' t.heap ∧ st.heap.size ≤ t.heap.size ∧ ∀ q : Nat, q < B → t.heap[q]? = st.heap[q]?
/-- a method's contract, by the model's run of it -/
def MetM (l : Launch) (AW : List Cond) (B : Nat) (A : Nat → Option Nat) (kA : Nat → ClassId) (D : va_G) (adK adV : Nat → Nat) (d y : Nat) (as : List MV) (h : Mem) (Q : RetP) : Prop :=
  Met l (mi y).1 (wsM AW y) (rmM d y) (PcM B A kA D adK adV as h) (QcM B A kA D h (growM y) Q) (growM y).length (totS (growM y)) (fun q => B ≤ q)
section CALLS
variable {p : Program} {l : Launch} {e : Env} {R : Room} {s : State} {m : MethodId} {args : Array Value} {below : List Frame} {meth : Method} {c : Code} {QQ : State → Prop} {B : Nat} {A : Nat → Option Nat} {kA : Nat → ClassId} {D : va_G} {cc : ByteArray} {nL : Nat} {own : String} {len0 tot0 : Nat} {Ts : List Cond} {pc : Nat} {k : Blk} {J : Jmp} {adK adV : Nat → Nat}
theorem Xk.go {U : State} {H : Heap} (hW : s.WarmedH U.vm) (hU : U.heap = H) (hB : B ≤ s.heap.size) (ho : ∀ q : Nat, q < s.heap.size → ¬ B ≤ q → H[q]? = s.heap[q]?) (h : Xk adK adV B s) : Xk adK adV B U := by
  obtain ⟨a1, a2, a3, n1, n2, n3, r1, r2, sS, z1, z2⟩ := h
  refine ⟨a1.moved hW.alike, a2.moved hW.alike, a3.moved hW.alike, va_Nw.warmM hW n1, va_Nw.warmM hW n2, va_Nw.warmM hW n3, r1.warm hW, r2.warm hW, (sS.moved hW.alike).kept ?_, (z1.moved hW.alike).kept ?_, (z2.moved hW.alike).kept ?_⟩ <;> (intro a ha hn; rw [hU]; exact ho a ha hn)
theorem PcM_blind {as : List MV} {h : Mem} : FrameBlind (PcM B A kA D adK adV as h) := by
  intro a U g mk ⟨q1, q2, q3, q4, q5⟩
  refine ⟨q1, q2, q3, va_K.moved (u := U) (U := U.calling g mk a) (Vm.Alike.refl U.vm) q4, ?_⟩
  obtain ⟨a1, a2, a3, n1, n2, n3, r1, r2, sS, z1, z2⟩ := q5
  have hv : (U.calling g mk a).vm = U.vm := rfl
  exact ⟨a1.moved (u := U) (U := U.calling g mk a) (Vm.Alike.refl U.vm), a2.moved (u := U) (U := U.calling g mk a) (Vm.Alike.refl U.vm), a3.moved (u := U) (U := U.calling g mk a) (Vm.Alike.refl U.vm), va_Nw.same rfl hv.symm n1, va_Nw.same rfl hv.symm n2, va_Nw.same rfl hv.symm n3, vk_R.same hv r1, vk_R.same hv r2, sS.moved (u := U) (U := U.calling g mk a) (Vm.Alike.refl U.vm), z1.moved (u := U) (U := U.calling g mk a) (Vm.Alike.refl U.vm), z2.moved (u := U) (U := U.calling g mk a) (Vm.Alike.refl U.vm)⟩
theorem PcM_here (hF : FxC p s m c args cc nL own Ts D kA A B len0 adK adV) {lo : Lo} {st : List MV} {h : Mem} {H : Heap} {ls : Array Slot} {locs : List Loc} {cells slots : Nat} (fr : FrC R s nL B A kA D len0 tot0 lo st h H ls locs cells slots) (hz : H.size = B + h.1.length) {as : List MV} : ∀ U : State, U.heap = H → s.WarmedH U.vm → PcM B A kA D adK adV as h (as.map (trV A)).toArray U := by
  intro U hU hW
  refine ⟨rfl, by rw [hU]; exact hz, by rw [hU]; exact fr.1, va_K.moved hW.alike hF.2.2.2.2.2.1, Xk.go hW hU (by rw [hF.2.2.2.2.2.2.1]; omega) (fun q h1 h2 => fr.2.1.2.1 q h1 h2) hF.2.2.2.2.2.2.2.2.2.2.2⟩
/-- what a call that came back leaves of the frame -/
theorem call_core (hF : FxC p s m c args cc nL own Ts D kA A B len0 adK adV) {lo : Lo} {st : List MV} {h : Mem} {H : Heap} {ls : Array Slot} {locs : List Loc} {cells slots : Nat} (fr : FrC R s nL B A kA D len0 tot0 lo st h H ls locs cells slots) {y n : Nat} {g : List (Nat × Nat)} {Q' : RetP} {av : Array Value} {stk : List Value} (hr : va_Run p l e R s m args below meth c H locs cells slots g.length (totS g) (F0 m pc ls stk) ((st.drop n).map (trV A)) (QcM B A kA D h g Q' av) (fun q => B ≤ q))
    (hrm : cells + g.length ≤ R.cells ∧ slots + totS g ≤ R.slots) (hQ : ∀ r h', Q' r h' → k lo (psh r (st.drop n)) h') (hk : Sd p l e R s m args below meth c QQ B A kA D nL len0 tot0 (pc + 3) k) : W p l e R s m args below meth c H locs cells slots QQ (F0 m pc ls stk) := by
  intro T hT X
  obtain ⟨v, st₀, t, T', L, h0, X', hL, e1, -, ⟨r, h', ho, hq, hv, hs, hw, hz, hu⟩, go⟩ := hr T hT X
  have ev : v = r.map (trV A) := by cases ho; rfl
  subst ev
  have hfr : FrC R s nL B A kA D len0 tot0 lo (psh r (st.drop n)) h' t.heap ls (locs ++ L) (cells + g.length) (slots + totS g) := by
    refine ⟨hw, ⟨?_, fun q h1 h2 => ?_, fun x hx => ?_⟩, fr.2.2.1, ⟨fr.2.2.2.1.1, hrm⟩, fr.2.2.2.2.1, ?_, ?_, ?_⟩
    · exact Nat.le_trans fr.2.1.1 (by rw [h0] at hz; exact hz)
    · rw [hu q (by omega), h0]
      exact fr.2.1.2.1 q h1 h2
    · rcases List.mem_append.mp hx with q | q
      · exact fr.2.1.2.2 x q
      · exact hL x q
    · intro w hw'
      unfold psh at hw'
      split at hw'
      · rename_i v'
        rcases List.mem_cons.mp hw' with rfl | q
        · exact hv _ rfl
        · exact fr.ok w (List.mem_of_mem_drop q)
      · exact fr.ok w (List.mem_of_mem_drop hw')
    · rw [hs, List.length_append, fr.2.2.2.2.2.2.1]; omega
    · rw [hs]
      have := fr.2.2.2.2.2.2.2
      simp only [totS, List.map_append, List.sum_append] at this ⊢
      omega
  obtain ⟨t2, a1, b1⟩ := hk lo (psh r (st.drop n)) h' t.heap ls (locs ++ L) (cells + g.length) (slots + totS g) hfr (hQ r h' hq) T' e1 X'
  refine ⟨t2, go t2 ?_, b1⟩
  have : (psh r (st.drop n)).map (trV A) = (r.map (trV A)).toList ++ (st.drop n).map (trV A) := by
    unfold psh
    cases r <;> rfl
  rw [this] at a1
  exact a1
theorem good_M {AW : List Cond} {y : Nat} (hAT : ∀ w ∈ AW, w ∈ Ts) (hG : ∀ w ∈ AW, goodWord w = true) (hcode : Cond.code (mi y).1 (mi y).2.1 (mi y).2.2.1 (mi y).2.2.2.1 ∈ AW) : GoodIn Ts (wsM AW y) := by
  intro w hw
  have hA : w ∈ AW := (List.mem_cons.mp hw).elim (fun e => e ▸ hcode) id
  exact ⟨hAT w hA, good_of_word (hG w hA)⟩
theorem callB_M (hF : FxC p s m c args cc nL own Ts D kA A B len0 adK adV) {AW : List Cond} {d y n idx : Nat} (hAT : ∀ w ∈ AW, w ∈ Ts) (hG : ∀ w ∈ AW, goodWord w = true) (hcode : Cond.code (mi y).1 (mi y).2.1 (mi y).2.2.1 (mi y).2.2.2.1 ∈ AW) (hini : Cond.initialized (mi y).1.cls ∈ AW) (hmh : (mi y).1.cls ≠ "java/lang/invoke/MethodHandle") (hvh : (mi y).1.cls ≠ "java/lang/invoke/VarHandle") (hRf : d + 1 ≤ R.frames) (hRl : 100 * (d + 1) ≤ R.locals) (hmx : (mi y).2.2.1 ≤ 80) (hpd : (parseMethodDescriptor (mi y).1.desc).map (fun d => d.parameters.length) = some n) (hml : Cond.methodLink own idx (mi y).1 ∈ AW) :
    CallB R s args own idx (mi y).1 (mi y).2.1 (mi y).2.2.1 (mi y).2.2.2.1 (wsM AW y) (rmM d y) (growM y).length (totS (growM y)) n :=
  callB_of n hF.2.2.2.2.1 (good_M hAT hG hcode) rfl rfl rfl (hF.2.2.2.2.1 _ (hAT _ hini)) (hF.2.2.2.2.1 _ (hAT _ hml)) ⟨hmh, hvh, hpd⟩ ⟨hRf, by show 8 + ((mi y).2.2.1 + 11) + 100 * d ≤ R.locals; omega⟩
theorem stk_eq {st : List MV} (n : Nat) : st.map (trV A) = (((st.take n).reverse).map (trV A)).reverse ++ (st.drop n).map (trV A) := by
  rw [← List.map_reverse, List.reverse_reverse, ← List.map_append, List.take_append_drop]
theorem s_callS (hF : FxC p s m c args cc nL own Ts D kA A B len0 adK adV) {C : Cal} {AW : List Cond} {d y n idx : Nat} (hAT : ∀ w ∈ AW, w ∈ Ts) (hG : ∀ w ∈ AW, goodWord w = true) (hcode : Cond.code (mi y).1 (mi y).2.1 (mi y).2.2.1 (mi y).2.2.2.1 ∈ AW) (hini : Cond.initialized (mi y).1.cls ∈ AW) (hmh : (mi y).1.cls ≠ "java/lang/invoke/MethodHandle") (hvh : (mi y).1.cls ≠ "java/lang/invoke/VarHandle") (hRf : d + 1 ≤ R.frames) (hRl : 100 * (d + 1) ≤ R.locals) (hmx : (mi y).2.2.1 ≤ 80) (hg0 : growM y = []) (hRc : ∀ lo st h H ls locs cells slots, FrC R s nL B A kA D len0 tot0 lo st h H ls locs cells slots → cells ≤ R.cells ∧ slots ≤ R.slots)
    (hpd : (parseMethodDescriptor (mi y).1.desc).map (fun d => d.parameters.length) = some n) (hml : Cond.methodLink own idx (mi y).1 ∈ AW) (hst : Cond.static (mi y).1 ∈ AW)
    (hC : ∀ as h Q, (∀ v ∈ as, vok v) → C y as h Q → MetM l AW B A kA D adK adV d y as h Q) (hdg : decode cc pc = .ok (.invokestatic idx, 3)) (hk : Sd p l e R s m args below meth c QQ B A kA D nL len0 tot0 (pc + 3) k) : Sd p l e R s m args below meth c QQ B A kA D nL len0 tot0 pc (o_call C y n k) := by
  intro lo st h H ls locs cells slots fr q
  obtain ⟨q1, q2, q3⟩ := q
  refine W_size hF fr (fun hz => ?_)
  have hrc := hRc _ _ _ _ _ _ _ _ fr
  have hM := hC _ _ _ (fun v hv => fr.ok v (List.mem_of_mem_take (List.mem_reverse.mp hv))) q3
  have hcat := cat_le (A := A) (st := st.drop n)
  rw [stk_eq (A := A) (st := st) n]
  refine call_core hF fr (y := y) (n := n) (g := growM y) (va_runS (As := ((st.take n).reverse).map (trV A)) (rest := (st.drop n).map (trV A)) ⟨hF.1, hF.2.1, hF.2.2.1, hF.2.2.2.1, hF.2.2.2.2.1⟩ hM ⟨callB_M hF hAT hG hcode hini hmh hvh hRf hRl hmx hpd hml, hF.2.2.2.2.1 _ (hAT _ hst)⟩ ⟨PcM_blind, PcM_here hF fr hz⟩ rfl (by simp; omega) fr.2.2.1.1 rfl (lv_room (by omega)) hdg (by rw [hg0]; exact hrc)) (by rw [hg0]; exact hrc) (fun r h' q => q) hk
theorem s_callSN (hF : FxC p s m c args cc nL own Ts D kA A B len0 adK adV) {C : Cal} {AW : List Cond} {d y n idx : Nat} {host : String} (hAT : ∀ w ∈ AW, w ∈ Ts) (hG : ∀ w ∈ AW, goodWord w = true) (hcode : Cond.code (mi y).1 (mi y).2.1 (mi y).2.2.1 (mi y).2.2.2.1 ∈ AW) (hini : Cond.initialized (mi y).1.cls ∈ AW) (hmh : (mi y).1.cls ≠ "java/lang/invoke/MethodHandle") (hvh : (mi y).1.cls ≠ "java/lang/invoke/VarHandle") (hRf : d + 1 ≤ R.frames) (hRl : 100 * (d + 1) ≤ R.locals) (hmx : (mi y).2.2.1 ≤ 80) (hg0 : growM y = []) (hRc : ∀ lo st h H ls locs cells slots, FrC R s nL B A kA D len0 tot0 lo st h H ls locs cells slots → cells ≤ R.cells ∧ slots ≤ R.slots)
    (hpd : (parseMethodDescriptor (mi y).1.desc).map (fun d => d.parameters.length) = some n) (hml : va_Nw (.methodLinkNest own idx (mi y).1 host) s) (hst : Cond.static (mi y).1 ∈ AW)
    (hC : ∀ as h Q, (∀ v ∈ as, vok v) → C y as h Q → MetM l AW B A kA D adK adV d y as h Q) (hdg : decode cc pc = .ok (.invokestatic idx, 3)) (hk : Sd p l e R s m args below meth c QQ B A kA D nL len0 tot0 (pc + 3) k) : Sd p l e R s m args below meth c QQ B A kA D nL len0 tot0 pc (o_call C y n k) := by
  intro lo st h H ls locs cells slots fr q
  obtain ⟨q1, q2, q3⟩ := q
  refine W_size hF fr (fun hz => ?_)
  have hrc := hRc _ _ _ _ _ _ _ _ fr
  have hM := hC _ _ _ (fun v hv => fr.ok v (List.mem_of_mem_take (List.mem_reverse.mp hv))) q3
  have hcat := cat_le (A := A) (st := st.drop n)
  rw [stk_eq (A := A) (st := st) n]
  refine call_core hF fr (y := y) (n := n) (g := growM y) (va_runSN (As := ((st.take n).reverse).map (trV A)) (rest := (st.drop n).map (trV A)) ⟨hF.1, hF.2.1, hF.2.2.1, hF.2.2.2.1, hF.2.2.2.2.1⟩ hM ⟨va_cnB n hF.2.2.2.2.1 (good_M hAT hG hcode) rfl rfl rfl hml (hF.2.2.2.2.1 _ (hAT _ hini)) ⟨hmh, hvh, hpd⟩ ⟨hRf, by show 8 + ((mi y).2.2.1 + 11) + 100 * d ≤ R.locals; omega⟩, hF.2.2.2.2.1 _ (hAT _ hst), trivial⟩ ⟨PcM_blind, PcM_here hF fr hz⟩ rfl (by simp; omega) fr.2.2.1.1 rfl (lv_room (by omega)) hdg (by rw [hg0]; exact hrc)) (by rw [hg0]; exact hrc) (fun r h' q => q) hk
theorem s_callV (hF : FxC p s m c args cc nL own Ts D kA A B len0 adK adV) {C : Cal} {AW : List Cond} {d y n idx ck : Nat} (hAT : ∀ w ∈ AW, w ∈ Ts) (hG : ∀ w ∈ AW, goodWord w = true) (hcode : Cond.code (mi y).1 (mi y).2.1 (mi y).2.2.1 (mi y).2.2.2.1 ∈ AW) (hini : Cond.initialized (mi y).1.cls ∈ AW) (hmh : (mi y).1.cls ≠ "java/lang/invoke/MethodHandle") (hvh : (mi y).1.cls ≠ "java/lang/invoke/VarHandle") (hRf : d + 1 ≤ R.frames) (hRl : 100 * (d + 1) ≤ R.locals) (hmx : (mi y).2.2.1 ≤ 80) (hck : ck < 11) (hcl : (mi y).1.cls = RR ck) (hg0 : growM y = []) (hRc : ∀ lo st h H ls locs cells slots, FrC R s nL B A kA D len0 tot0 lo st h H ls locs cells slots → cells ≤ R.cells ∧ slots ≤ R.slots)
    (hpd : (parseMethodDescriptor (mi y).1.desc).map (fun d => d.parameters.length + 1) = some n) (hml : Cond.methodLink own idx (mi y).1 ∈ AW) (hin : Cond.instanceMethod (mi y).1 ∈ AW) (hse : Cond.selects (mi y).1.cls (mi y).1 (mi y).1 ∈ AW)
    (hC : ∀ as h Q, (∀ v ∈ as, vok v) → C y as h Q → MetM l AW B A kA D adK adV d y as h Q) (hdg : decode cc pc = .ok (.invokevirtual idx, 3)) (hk : Sd p l e R s m args below meth c QQ B A kA D nL len0 tot0 (pc + 3) k) : Sd p l e R s m args below meth c QQ B A kA D nL len0 tot0 pc (o_callV C y n ck k) := by
  intro lo st h H ls locs cells slots fr q
  unfold o_callV at q
  split at q
  · rename_i r as has
    obtain ⟨hkd, q1, q2, q3⟩ := q
    obtain ⟨n2, hr, -⟩ := kd_some hkd (by omega)
    have hA : A r = some (B + r) := hF.2.2.2.2.2.2.2.1 r (fr.1.lt hr)
    refine W_size hF fr (fun hz => ?_)
    have hrc := hRc _ _ _ _ _ _ _ _ fr
    have hM := hC _ _ _ (fun v hv => fr.ok v (List.mem_of_mem_take (List.mem_reverse.mp hv))) q3
    have hcat := cat_le (A := A) (st := st.drop n)
    have he := wsO_at (B := B) (A := A) (kA := kA) hr
    rw [cel_obj (by omega)] at he
    have hlen : as.length + 1 = n := by
      have := congrArg List.length has
      simp at this
      omega
    have hpd' : (parseMethodDescriptor (mi y).1.desc).map (fun d => d.parameters.length) = some as.length := by
      cases hp : parseMethodDescriptor (mi y).1.desc with
      | none => rw [hp] at hpd; cases hpd
      | some z =>
        rw [hp] at hpd
        simp only [Option.map_some, Option.some.injEq] at hpd ⊢
        omega
    have hargs : ((st.take n).reverse).map (trV A) = .ref (B + r) :: as.map (trV A) := by
      rw [has, List.map_cons, show trV A (Sum.inr (Sum.inr r)) = .ref (B + r) by simp [trV, va_rf, hA]]
    rw [stk_eq (A := A) (st := st) n, hargs]
    have hP := PcM_here hF fr hz (as := (st.take n).reverse)
    rw [hargs] at hP
    refine call_core hF fr (y := y) (n := n) (g := growM y) (va_runV (C := RR ck) (b := B + r) (As := as.map (trV A)) (rest := (st.drop n).map (trV A)) ⟨hF.1, hF.2.1, hF.2.2.1, hF.2.2.2.1, hF.2.2.2.2.1⟩ hM ⟨callB_M hF hAT hG hcode hini hmh hvh hRf hRl hmx hpd' hml, hF.2.2.2.2.1 _ (hAT _ hin), hcl ▸ hF.2.2.2.2.1 _ (hAT _ hse)⟩ ⟨PcM_blind, va_recv hF.2.2.2.2.2.1 fr.1.1 (vw_at ck hck) he, hP⟩ rfl (by simp) fr.2.2.1.1 (by simp) (lv_room (by omega)) hdg (by rw [hg0]; exact hrc)) (by rw [hg0]; exact hrc) (fun r h' q => q) hk
  · exact q.elim
theorem s_callI (hF : FxC p s m c args cc nL own Ts D kA A B len0 adK adV) {C : Cal} {S1 : List (Nat × Nat)} {AW : List Cond} {d y n idx ck : Nat} {ps : List (Int × Nat)} (hAT : ∀ w ∈ AW, w ∈ Ts) (hG : ∀ w ∈ AW, goodWord w = true) (hcode : Cond.code (mi y).1 (mi y).2.1 (mi y).2.2.1 (mi y).2.2.2.1 ∈ AW) (hini : Cond.initialized (mi y).1.cls ∈ AW) (hmh : (mi y).1.cls ≠ "java/lang/invoke/MethodHandle") (hvh : (mi y).1.cls ≠ "java/lang/invoke/VarHandle") (hRf : d + 1 ≤ R.frames) (hRl : 100 * (d + 1) ≤ R.locals) (hmx : (mi y).2.2.1 ≤ 80) (hck : ck < 11) (hps : ps = [(((growM y).length : Int), totS (growM y))]) (hRc : S1.length ≤ len0 + R.cells) (hRs : totS S1 ≤ tot0 + R.slots) (hret : (mi y).2.2.2.1 = none) (hnm : (mi y).1.name = "<init>")
    (hpd : (parseMethodDescriptor (mi y).1.desc).map (fun d => d.parameters.length + 1) = some n) (hml : Cond.methodLink own idx (mi y).1 ∈ AW) (hin : Cond.instanceMethod (mi y).1 ∈ AW)
    (hC : ∀ as h Q, (∀ v ∈ as, vok v) → C y as h Q → MetM l AW B A kA D adK adV d y as h Q) (hdg : decode cc pc = .ok (.invokespecial idx, 3)) (hk : Sd p l e R s m args below meth c QQ B A kA D nL len0 tot0 (pc + 3) k) : Sd p l e R s m args below meth c QQ B A kA D nL len0 tot0 pc (o_callI C S1 y n ck ps k) := by
  intro lo st h H ls locs cells slots fr q
  subst hps
  unfold o_callI at q
  obtain ⟨⟨g1, g2⟩, q⟩ := q
  unfold o_callV at q
  split at q
  · rename_i r as has
    obtain ⟨hkd, q1, q2, q3⟩ := q
    obtain ⟨n2, hr, -⟩ := kd_some hkd (by omega)
    have hA : A r = some (B + r) := hF.2.2.2.2.2.2.2.1 r (fr.1.lt hr)
    refine W_size hF fr (fun hz => ?_)
    have e1 := fr.2.2.2.2.2.2.1
    have e2 := fr.2.2.2.2.2.2.2
    have hM := hC _ _ _ (fun v hv => fr.ok v (List.mem_of_mem_take (List.mem_reverse.mp hv))) q3
    have hcat := cat_le (A := A) (st := st.drop n)
    have hlen : as.length + 1 = n := by
      have := congrArg List.length has
      simp at this
      omega
    have hpd' : (parseMethodDescriptor (mi y).1.desc).map (fun d => d.parameters.length) = some as.length := by
      cases hp : parseMethodDescriptor (mi y).1.desc with
      | none => rw [hp] at hpd; cases hpd
      | some z =>
        rw [hp] at hpd
        simp only [Option.map_some, Option.some.injEq] at hpd ⊢
        omega
    have hargs : ((st.take n).reverse).map (trV A) = .ref (B + r) :: as.map (trV A) := by
      rw [has, List.map_cons, show trV A (Sum.inr (Sum.inr r)) = .ref (B + r) by simp [trV, va_rf, hA]]
    rw [stk_eq (A := A) (st := st) n, hargs]
    have hP := PcM_here hF fr hz (as := (st.take n).reverse)
    rw [hargs] at hP
    have hcb := callB_M hF hAT hG hcode hini hmh hvh hRf hRl hmx hpd' hml
    rw [hret] at hcb
    have hg1 : (((growM y).length : Int)).toNat = (growM y).length := rfl
    rw [hg1] at g1
    refine call_core hF fr (y := y) (n := n) (g := growM y) (va_runI (b := B + r) (As := as.map (trV A)) (rest := (st.drop n).map (trV A)) ⟨hF.1, hF.2.1, hF.2.2.1, hF.2.2.2.1, hF.2.2.2.2.1⟩ hM ⟨hcb, hnm, hF.2.2.2.2.1 _ (hAT _ hin)⟩ ⟨PcM_blind, hP⟩ rfl (by simp) fr.2.2.1.1 (by simp) (lv_room (by omega)) hdg ⟨by omega, by omega⟩) ⟨by omega, by omega⟩ (fun r h' q => q) hk
  · exact q.elim
end CALLS
