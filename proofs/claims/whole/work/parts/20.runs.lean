/-! the model's run of a method is the machine's -/
section RUNS
variable {p : Program} {l : Launch} {e : Env} {R : Room} {s : State} {m : MethodId} {args : Array Value} {below : List Frame} {meth : Method} {c : Code} {QQ : State → Prop} {B : Nat} {A : Nat → Option Nat} {kA : Nat → ClassId} {D : va_G} {cc : ByteArray} {nL : Nat} {own : String} {len0 tot0 : Nat} {Ts : List Cond} {pc : Nat} {k : Blk} {J : Jmp} {adK adV : Nat → Nat}
theorem den_snd {C : Cal} {Q : RetP} {S1 : List (Nat × Nat)} {d o rb : Nat} {ctor : Bool} (hF : FxC p s m c args cc nL (ON o) Ts D kA A B len0 adK adV) (ho : o < 14) (hAT : ∀ w ∈ AW, w ∈ Ts) (hY : ∀ y, y < NMc → YOk y) (hRf : d + 1 ≤ R.frames) (hRl : 100 * (d + 1) ≤ R.locals) (hRc : S1.length ≤ len0 + R.cells) (hRs : totS S1 ≤ tot0 + R.slots) (hct : ctor = true → meth.name = "<init>")
    (hC : ∀ y, y < NMc → ∀ as h Q, (∀ v ∈ as, vok v) → C y as h Q → MetM l AW B A kA D adK adV d y as h Q)
    (hStr : ∀ (idx y n pc : Nat) (k : Blk), (idx, y) ∈ mTab o → (y = 1005 ∧ n = 1) ∨ (y = 1006 ∧ n = 2) → decode cc pc = .ok (.invokevirtual idx, 3) → Sd p l e R s m args below meth c QQ B A kA D nL len0 tot0 (pc + 3) k → Sd p l e R s m args below meth c QQ B A kA D nL len0 tot0 pc (o_call C y n k))
    (hScr : o = 11 → ∀ (pc : Nat) (k : Blk), Sd p l e R s m args below meth c QQ B A kA D nL len0 tot0 (pc + 1) k → (decode cc pc = .ok (.iaload, 1) → Sd p l e R s m args below meth c QQ B A kA D nL len0 tot0 pc (fun lo st h => match st with | .inl i :: .inr (.inr 900000) :: st => C 2000 [vI i] h (fun r h' => k lo (psh r st) h') ∧ True | _ => False)) ∧ (decode cc pc = .ok (.arraylength, 1) → Sd p l e R s m args below meth c QQ B A kA D nL len0 tot0 pc (fun lo st h => match st with | .inr (.inr 900000) :: st => C 2001 [] h (fun r h' => k lo (psh r st) h') ∧ True | _ => False)))
    (hI : rb < 2 → ∀ pc, decode cc pc = .ok (.ireturn, 1) → Sd p l e R s m args below meth c QQ B A kA D nL len0 tot0 pc (o_iret Q S1 rb)) (hL : rb = 3 → ∀ pc, decode cc pc = .ok (.lreturn, 1) → Sd p l e R s m args below meth c QQ B A kA D nL len0 tot0 pc (o_lret Q S1)) (hV : rb = 4 → ∀ pc, decode cc pc = .ok (.return_, 1) → Sd p l e R s m args below meth c QQ B A kA D nL len0 tot0 pc (o_vret Q S1))
    (hJ : ∀ t, Sd p l e R s m args below meth c QQ B A kA D nL len0 tot0 t (J t)) : ∀ (ops : List OpI) (pc : Nat), chkO o ctor rb nL cc pc ops = true → Sd p l e R s m args below meth c QQ B A kA D nL len0 tot0 pc (den C J Q S1 ops)
  | [], pc, _ => fun lo st h H ls locs cells slots fr q => q.elim
  | (i, y, f, z, ps) :: ops, pc, hchk => by
    simp only [chkO, Bool.and_eq_true, Bool.or_eq_true, decide_eq_true_eq] at hchk
    exact op_snd hF ho hAT hY hRf hRl hRc hRs hct hC hStr hScr hI hL hV hJ hchk.1.1 hchk.1.2 (den_snd hF ho hAT hY hRf hRl hRc hRs hct hC hStr hScr hI hL hV hJ ops _ hchk.2)
theorem lkB_chk {o rb nL : Nat} {ctor : Bool} {cc : ByteArray} : ∀ (K : List (Nat × List OpI)), (∀ q ∈ K, chkO o ctor rb nL cc q.1 q.2 = true) → ∀ pc, chkO o ctor rb nL cc pc (lkB K pc) = true
  | [], _, pc => rfl
  | (q, ops) :: K, h, pc => by
    unfold lkB
    split
    · rename_i e
      subst e
      exact h (q, ops) List.mem_cons_self
    · exact lkB_chk K (fun x hx => h x (List.mem_cons_of_mem _ hx)) pc
theorem ex_snd {C : Cal} {Q : RetP} {S1 : List (Nat × Nat)} {d o rb : Nat} {ctor : Bool} (hF : FxC p s m c args cc nL (ON o) Ts D kA A B len0 adK adV) (ho : o < 14) (hAT : ∀ w ∈ AW, w ∈ Ts) (hY : ∀ y, y < NMc → YOk y) (hRf : d + 1 ≤ R.frames) (hRl : 100 * (d + 1) ≤ R.locals) (hRc : S1.length ≤ len0 + R.cells) (hRs : totS S1 ≤ tot0 + R.slots) (hct : ctor = true → meth.name = "<init>")
    (hC : ∀ y, y < NMc → ∀ as h Q, (∀ v ∈ as, vok v) → C y as h Q → MetM l AW B A kA D adK adV d y as h Q)
    (hStr : ∀ (idx y n pc : Nat) (k : Blk), (idx, y) ∈ mTab o → (y = 1005 ∧ n = 1) ∨ (y = 1006 ∧ n = 2) → decode cc pc = .ok (.invokevirtual idx, 3) → Sd p l e R s m args below meth c QQ B A kA D nL len0 tot0 (pc + 3) k → Sd p l e R s m args below meth c QQ B A kA D nL len0 tot0 pc (o_call C y n k))
    (hScr : o = 11 → ∀ (pc : Nat) (k : Blk), Sd p l e R s m args below meth c QQ B A kA D nL len0 tot0 (pc + 1) k → (decode cc pc = .ok (.iaload, 1) → Sd p l e R s m args below meth c QQ B A kA D nL len0 tot0 pc (fun lo st h => match st with | .inl i :: .inr (.inr 900000) :: st => C 2000 [vI i] h (fun r h' => k lo (psh r st) h') ∧ True | _ => False)) ∧ (decode cc pc = .ok (.arraylength, 1) → Sd p l e R s m args below meth c QQ B A kA D nL len0 tot0 pc (fun lo st h => match st with | .inr (.inr 900000) :: st => C 2001 [] h (fun r h' => k lo (psh r st) h') ∧ True | _ => False)))
    (hI : rb < 2 → ∀ pc, decode cc pc = .ok (.ireturn, 1) → Sd p l e R s m args below meth c QQ B A kA D nL len0 tot0 pc (o_iret Q S1 rb)) (hL : rb = 3 → ∀ pc, decode cc pc = .ok (.lreturn, 1) → Sd p l e R s m args below meth c QQ B A kA D nL len0 tot0 pc (o_lret Q S1)) (hV : rb = 4 → ∀ pc, decode cc pc = .ok (.return_, 1) → Sd p l e R s m args below meth c QQ B A kA D nL len0 tot0 pc (o_vret Q S1))
    {K : List (Nat × List OpI)} (hK : ∀ q ∈ K, chkO o ctor rb nL cc q.1 q.2 = true) {lo : Lo} {st : List MV} {h : Mem} {H : Heap} {ls : Array Slot} {locs : List Loc} {cells slots : Nat} (fr : FrC R s nL B A kA D len0 tot0 lo st h H ls locs cells slots) {pc : Nat} (q : Ex C K S1 Q pc lo st h) : W p l e R s m args below meth c H locs cells slots QQ (F0 m pc ls (st.map (trV A))) := by
  refine q (fun pc lo st h => ∀ H ls locs cells slots, FrC R s nL B A kA D len0 tot0 lo st h H ls locs cells slots → W p l e R s m args below meth c H locs cells slots QQ (F0 m pc ls (st.map (trV A)))) ?_ H ls locs cells slots fr
  intro J hJ pc lo st h hd H ls locs cells slots fr
  exact den_snd hF ho hAT hY hRf hRl hRc hRs hct hC hStr hScr hI hL hV (fun t lo st h H ls locs cells slots fr q => hJ t lo st h q H ls locs cells slots fr) _ pc (lkB_chk K hK pc) lo st h H ls locs cells slots fr hd
end RUNS
-- the model's calls
def strT (r : Nat) : List Int := if r = 900001 then st0 else st1
def strL (r : Nat) : Int := ((strT r).length : Int)
def strC (r : Nat) (i : Int) : Int := (strT r).getD i.toNat 0
def extP (X : Int → Int) (XL : Int) (y : Nat) (as : List MV) (h : Mem) (Q : RetP) : Prop := match y with
  | 1005 => match as with
    | [.inr (.inr r)] => (r = 900001 ∨ r = 900002) ∧ Q (some (vI (strL r))) h
    | _ => False
  | 1006 => match as with
    | [.inr (.inr r), .inl i] => ((r = 900001 ∨ r = 900002) ∧ 0 ≤ i ∧ i < strL r) ∧ Q (some (vI (strC r i))) h
    | _ => False
  | 2000 => match as with
    | [.inl i] => (0 ≤ i ∧ i < XL) ∧ Q (some (vI (X i))) h
    | _ => False
  | 2001 => Q (some (vI XL)) h
  | _ => False
/-- a call by the model: at most d calls within each other -/
def WP (X : Int → Int) (XL : Int) : Nat → Cal
  | 0 => fun _ _ _ _ => False
  | d + 1 => fun y as h Q => if y < 1000 then (as.flatMap lay1).length ≤ (mi y).2.2.1 ∧ Ex (WP X XL d) (mi y).2.2.2.2.2.2.2 (h.1 ++ (mi y).2.2.2.2.2.2.1) Q 0 (entL as (mi y).2.2.1) [] h else 4 ≤ d ∧ extP X XL y as h Q
section MET
variable {l : Launch} {B : Nat} {A : Nat → Option Nat} {kA : Nat → ClassId} {D : va_G} {adK adV : Nat → Nat} {X : Int → Int} {XL : Int}
theorem prs_rep (n : Nat) : ∀ i, prsF A i (List.replicate n none) = [] := by
  induction n with
  | zero => intro i; rfl
  | succ n ih => intro i; exact ih (i + 1)
theorem prs_ent (n : Nat) : ∀ (as : List MV) (i : Nat), ∀ q ∈ prsF A i (as.flatMap lay1 ++ List.replicate n none), q ∈ lv_args i (as.map (trV A))
  | [], i, q, h => by
    simp only [List.flatMap_nil, List.nil_append, prs_rep] at h
    cases h
  | v :: as, i, q, h => by
    rw [List.map_cons]
    unfold lv_args
    rcases v with z | z | r
    · have h : q ∈ (i, trV A (vI z)) :: prsF A (i + 1) (as.flatMap lay1 ++ List.replicate n none) := h
      rcases List.mem_cons.mp h with rfl | h
      · exact List.mem_cons_self
      · exact List.mem_cons_of_mem _ (prs_ent n as (i + 1) q h)
    · have h : q ∈ (i, trV A (vL z)) :: prsF A (i + 1 + 1) (as.flatMap lay1 ++ List.replicate n none) := h
      rcases List.mem_cons.mp h with rfl | h
      · exact List.mem_cons_self
      · exact List.mem_cons_of_mem _ (prs_ent n as (i + 2) q h)
    · have h : q ∈ (i, trV A (vR r)) :: prsF A (i + 1) (as.flatMap lay1 ++ List.replicate n none) := h
      have hc : ¬ (trV A (vR r)).category = 2 := fun q => (trV_cat A (vR r)).mp q
      rw [if_neg hc]
      rcases List.mem_cons.mp h with rfl | h
      · exact List.mem_cons_self
      · exact List.mem_cons_of_mem _ (prs_ent n as (i + 1) q h)
theorem sl_len : ∀ as : List MV, (lg_sl (as.map (trV A))).length = (as.flatMap lay1).length
  | [] => rfl
  | v :: as => by
    have ih := sl_len as
    rcases v with z | z | r
    · simp [lg_sl, lay1, trV, Value.category] at ih ⊢; omega
    · simp [lg_sl, lay1, trV, Value.category] at ih ⊢; omega
    · have hc : ¬ (trV A (vR r)).category = 2 := fun q => (trV_cat A (vR r)).mp q
      simp [lg_sl, lay1] at ih ⊢
      rw [if_neg hc]
      simp
      omega
theorem ent_ok {n : Nat} {as : List MV} (h : ∀ v ∈ as, vok v) {i : Nat} {v : MV} (hn : nthL (entL as n) i = some v) : vok v := by
  have hm : some v ∈ entL as n := List.mem_of_getElem? (nth_some.mp hn)
  unfold entL at hm
  rcases List.mem_append.mp hm with hm | hm
  · obtain ⟨w, hw, hv⟩ := List.mem_flatMap.mp hm
    have := h w hw
    rcases w with z | z | r <;> simp [lay1] at hv <;> subst hv <;> exact this
  · have := List.eq_of_mem_replicate hm
    cases this
theorem ret_end {s : State} {R : Room} {nL : Nat} {h0 h : Mem} {g : List (Nat × Nat)} {Q : RetP} {args : Array Value} {lo : Lo} {st : List MV} {H : Heap} {ls : Array Slot} {locs : List Loc} {cells slots : Nat} (hsz : s.heap.size = B + h0.1.length) (fr : FrC R s nL B A kA D h0.1.length (totS h0.1) lo st h H ls locs cells slots) (hs : h.1 = h0.1 ++ g) {r : Option MV} (hr : vokO r) (hq : Q r h) : (cells = g.length ∧ slots = totS g) ∧ ∀ t : State, t.heap = H → QcM B A kA D h0 g Q args s (.returned (r.map (trV A))) t := by
  have e1 := fr.2.2.2.2.2.2.1
  have e2 := fr.2.2.2.2.2.2.2
  rw [hs] at e1 e2
  simp only [List.length_append, totS, List.map_append, List.sum_append] at e1 e2
  refine ⟨⟨by omega, by unfold totS; omega⟩, fun t ht => ⟨r, h, rfl, hq, hr, hs, by rw [ht]; exact fr.1, by rw [ht]; exact fr.2.1.1, fun q hq => ?_⟩⟩
  rw [ht]
  exact fr.2.1.2.1 q (by omega) (by omega)
theorem s_iret {p : Program} {e : Env} {R : Room} {s : State} {m : MethodId} {args : Array Value} {below : List Frame} {meth : Method} {c : Code} {cc : ByteArray} {nL rb pc : Nat} {h0 : Mem} {g : List (Nat × Nat)} {Q : RetP} {ret : Option FieldType} (hx : p.tables.exec = Jvm.exec) (hb : c.code = cc) (hrt : meth.sig.returnType = ret) (hlocks : meth.locks = false) (hrb : rb = rbO ret) (hrb2 : rb < 2) (hsz : s.heap.size = B + h0.1.length) (hdg : decode cc pc = .ok (.ireturn, 1)) :
    Sd p l e R s m args below meth c (MQ below (QcM B A kA D h0 g Q) args s g.length (totS g) (fun q => B ≤ q)) B A kA D nL h0.1.length (totS h0.1) pc (o_iret Q (h0.1 ++ g) rb) := by
  intro lo st h H ls locs cells slots fr q
  unfold o_iret at q
  split at q
  · rename_i z
    obtain ⟨⟨hz, hs⟩, q⟩ := q
    obtain ⟨⟨rfl, rfl⟩, hend⟩ := ret_end (r := some (vI z)) (args := args) hsz fr hs (fun v hv => by cases hv; exact hd_ok fr.ok) q
    have hr2 : ret = some .int ∨ ret = some .boolean := by
      unfold rbO at hrb
      split at hrb <;> first | exact Or.inl rfl | exact Or.inr rfl | omega
    rcases hr2 with rfl | rfl
    · exact W.iret (v := Int32.ofInt z) hx hb hrt (fun t ht _ => hend t ht) fr.2.1.2.2 hdg hlocks
    · refine W.zret (v := Int32.ofInt z) hx hb hrt ?_ (fun t ht _ => hend t ht) fr.2.1.2.2 hdg hlocks
      rcases hz hrb with rfl | rfl <;> decide
  · exact q.elim
theorem s_lret {p : Program} {e : Env} {R : Room} {s : State} {m : MethodId} {args : Array Value} {below : List Frame} {meth : Method} {c : Code} {cc : ByteArray} {nL pc : Nat} {h0 : Mem} {g : List (Nat × Nat)} {Q : RetP} {ret : Option FieldType} (hx : p.tables.exec = Jvm.exec) (hb : c.code = cc) (hrt : meth.sig.returnType = ret) (hlocks : meth.locks = false) (hrb : rbO ret = 3) (hsz : s.heap.size = B + h0.1.length) (hdg : decode cc pc = .ok (.lreturn, 1)) :
    Sd p l e R s m args below meth c (MQ below (QcM B A kA D h0 g Q) args s g.length (totS g) (fun q => B ≤ q)) B A kA D nL h0.1.length (totS h0.1) pc (o_lret Q (h0.1 ++ g)) := by
  intro lo st h H ls locs cells slots fr q
  unfold o_lret at q
  split at q
  · rename_i z
    obtain ⟨hs, q⟩ := q
    obtain ⟨⟨rfl, rfl⟩, hend⟩ := ret_end (r := some (vL z)) (args := args) hsz fr hs (fun v hv => by cases hv; exact hd_ok fr.ok) q
    have hr2 : ret = some .long := by
      unfold rbO at hrb
      split at hrb <;> first | rfl | omega
    subst hr2
    exact W.lret (v := Int64.ofInt z) hx hb hrt (fun t ht _ => hend t ht) fr.2.1.2.2 hdg hlocks
  · exact q.elim
theorem s_vret {p : Program} {e : Env} {R : Room} {s : State} {m : MethodId} {args : Array Value} {below : List Frame} {meth : Method} {c : Code} {cc : ByteArray} {nL pc : Nat} {h0 : Mem} {g : List (Nat × Nat)} {Q : RetP} {ret : Option FieldType} (hx : p.tables.exec = Jvm.exec) (hb : c.code = cc) (hrt : meth.sig.returnType = ret) (hlocks : meth.locks = false) (hrb : rbO ret = 4) (hsz : s.heap.size = B + h0.1.length) (hdg : decode cc pc = .ok (.return_, 1)) :
    Sd p l e R s m args below meth c (MQ below (QcM B A kA D h0 g Q) args s g.length (totS g) (fun q => B ≤ q)) B A kA D nL h0.1.length (totS h0.1) pc (o_vret Q (h0.1 ++ g)) := by
  intro lo st h H ls locs cells slots fr q
  unfold o_vret at q
  split at q
  · obtain ⟨hs, q⟩ := q
    obtain ⟨⟨rfl, rfl⟩, hend⟩ := ret_end (r := none) (args := args) hsz fr hs (fun v hv => by cases hv) q
    have hr2 : ret = none := by
      unfold rbO at hrb
      split at hrb <;> first | rfl | omega
    subst hr2
    exact W.vret hx hb hrt (fun t ht _ => hend t ht) fr.2.1.2.2 hdg hlocks
  · exact q.elim
set_option maxHeartbeats 1000000 in
/-- every method, by the model's run of it -/
theorem met_all (hAr : ∀ r, r < 900000 → A r = some (B + r)) (hAn : A 999999 = none) (hA1 : A 900001 = some (adK 0)) (hA2 : A 900002 = some (adK 1)) (hY : ∀ y, y < NMc → YOk y) (hch : ∀ y, y < NMc → chkY y) (h11 : ∀ y, y < NMc → ¬ cln y = 11)
    (hStr : ∀ d, ∀ {p : Program} {e : Env} {R : Room} {s : State} {m : MethodId} {args : Array Value} {below : List Frame} {meth : Method} {c : Code} {QQ : State → Prop} {cc : ByteArray} {nL o len0 tot0 : Nat} {Ts : List Cond}, FxC p s m c args cc nL (ON o) Ts D kA A B len0 adK adV → o < 14 → (∀ w ∈ AW, w ∈ Ts) → 1 ≤ R.frames → 100 ≤ R.locals → d + 1 ≤ R.frames → 100 * (d + 1) ≤ R.locals → ∀ (idx y n pc : Nat) (k : Blk), (idx, y) ∈ mTab o → (y = 1005 ∧ n = 1) ∨ (y = 1006 ∧ n = 2) → decode cc pc = .ok (.invokevirtual idx, 3) → Sd p l e R s m args below meth c QQ B A kA D nL len0 tot0 (pc + 3) k → Sd p l e R s m args below meth c QQ B A kA D nL len0 tot0 pc (o_call (WP X XL d) y n k)) :
    ∀ (d y : Nat), y < NMc → ∀ as h Q, (∀ v ∈ as, vok v) → WP X XL d y as h Q → MetM l AW B A kA D adK adV d y as h Q := by
  intro d
  induction d with
  | zero => intro y _ as h Q _ hw; exact hw.elim
  | succ d ih =>
    intro y hy as h Q hv hw
    have hy1 : y < 1000 := Nat.lt_of_lt_of_le hy (by decide)
    have hYy := hY y hy
    unfold WP at hw
    rw [if_pos hy1] at hw
    obtain ⟨hlen, hw⟩ := hw
    refine Met.ofW (cc := (mi y).2.1) (maxL := (mi y).2.2.1) (ret := (mi y).2.2.2.1) hYy.2.2.2.2.1 rfl ?_
    intro p e s m args below meth c s₁ B' hml hv'
    obtain ⟨rfl, hsz, hW, hK, hX⟩ := hv'
    have hF : FxC p s m c ((as.map (trV A)).toArray) (mi y).2.1 (mi y).2.2.1 (ON (cln y)) (wsM AW y) D kA A B h.1.length adK adV := ⟨B'.exec, B'.bytes, hml, by rw [← hYy.1]; exact findClass_of_methodNamed B'.named, atoms_spec (ws := wsM AW y) B'.pre, hK, hsz, hAr, hAn, hA1, hA2, hX⟩
    rw [lg_entry_eq]
    have hl := lv_entry (as.map (trV A)) (n := (mi y).2.2.1) (by rw [sl_len]; exact hlen)
    generalize (lg_sl (as.map (trV A)) ++ List.replicate ((mi y).2.2.1 - (lg_sl (as.map (trV A))).length) Slot.unset).toArray = ls at hl ⊢
    have fr : FrC (rmM (d + 1) y) s (mi y).2.2.1 B A kA D h.1.length (totS h.1) (entL as (mi y).2.2.1) [] h s.heap ls [] 0 0 := by
      refine ⟨hW, va_S.rf, ⟨hl.1, hl.2.1, fun q hq => hl.2.2 q (prs_ent _ as 0 q hq)⟩, ⟨?_, Nat.zero_le _, Nat.zero_le _⟩, fun i v hn => ent_ok hv hn, (fun v hv => absurd hv List.not_mem_nil), rfl, rfl⟩
      unfold entL
      rw [List.length_append, List.length_replicate]
      omega
    refine ex_snd (S1 := h.1 ++ growM y) (o := cln y) (ctor := decide (flv y = 2)) (rb := rbO (mi y).2.2.2.1) (d := d) hF hYy.2.2.2.2.2.2.2 (fun w hw => List.mem_cons_of_mem _ hw) hY (Nat.le_refl _) (Nat.le_refl _) (by rw [List.length_append]; exact Nat.le_refl _) (by simp only [totS, List.map_append, List.sum_append]; exact Nat.le_refl _) ?_ (fun y' hy' as' h' Q' hv' hw' => ih y' hy' as' h' Q' hv' hw') ?_ ?_ ?_ ?_ ?_ (hch y hy) fr hw
    · intro hc
      have hfl := of_decide_eq_true hc
      have h1 : meth.name = (mi y).1.name := (name_of_methodNamed B'.named B'.method).1
      rw [h1]
      exact (hYy.2.2.2.2.2.1 hfl).1
    · intro idx y' n pc k h1 h2 h3 h4
      exact hStr d hF hYy.2.2.2.2.2.2.2 (fun w hw => List.mem_cons_of_mem _ hw) (Nat.le_add_left 1 d) (by show 100 ≤ 100 * (d + 1); omega) (Nat.le_refl _) (Nat.le_refl _) idx y' n pc k h1 h2 h3 h4
    · intro h; exact absurd h (h11 y hy)
    · intro h pc hdg
      exact s_iret B'.exec B'.bytes B'.returns B'.notSynchronized rfl h hsz hdg
    · intro h pc hdg
      exact s_lret B'.exec B'.bytes B'.returns B'.notSynchronized h hsz hdg
    · intro h pc hdg
      exact s_vret B'.exec B'.bytes B'.returns B'.notSynchronized h hsz hdg
end MET
