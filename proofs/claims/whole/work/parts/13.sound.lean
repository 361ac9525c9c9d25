/-! every instruction of the model is the machine's -/
def tx0 : String := "net fog odds arch holds moss toll person weight doubt love at plant joy run rope jump home day any when over loop end stop "
def tx1 : String := " net fog odds arch person plant holds moss toll weight doubt love at joy run rope jump home day any when loop end stop over "
def st0 : List Int := [110, 101, 116, 32, 102, 111, 103, 32, 111, 100, 100, 115, 32, 97, 114, 99, 104, 32, 104, 111, 108, 100, 115, 32, 109, 111, 115, 115, 32, 116, 111, 108, 108, 32, 112, 101, 114, 115, 111, 110, 32, 119, 101, 105, 103, 104, 116, 32, 100, 111, 117, 98, 116, 32, 108, 111, 118, 101, 32, 97, 116, 32, 112, 108, 97, 110, 116, 32, 106, 111, 121, 32, 114, 117, 110, 32, 114, 111, 112, 101, 32, 106, 117, 109, 112, 32, 104, 111, 109, 101, 32, 100, 97, 121, 32, 97, 110, 121, 32, 119, 104, 101, 110, 32, 111, 118, 101, 114, 32, 108, 111, 111, 112, 32, 101, 110, 100, 32, 115, 116, 111, 112, 32]
def st1 : List Int := [32, 110, 101, 116, 32, 102, 111, 103, 32, 111, 100, 100, 115, 32, 97, 114, 99, 104, 32, 112, 101, 114, 115, 111, 110, 32, 112, 108, 97, 110, 116, 32, 104, 111, 108, 100, 115, 32, 109, 111, 115, 115, 32, 116, 111, 108, 108, 32, 119, 101, 105, 103, 104, 116, 32, 100, 111, 117, 98, 116, 32, 108, 111, 118, 101, 32, 97, 116, 32, 106, 111, 121, 32, 114, 117, 110, 32, 114, 111, 112, 101, 32, 106, 117, 109, 112, 32, 104, 111, 109, 101, 32, 100, 97, 121, 32, 97, 110, 121, 32, 119, 104, 101, 110, 32, 108, 111, 111, 112, 32, 101, 110, 100, 32, 115, 116, 111, 112, 32, 111, 118, 101, 114, 32]
/-- what is known of the launch beside the words: arrays of references, calls between nest mates, the two texts, String's own statics -/
def Xk (adK adV : Nat → Nat) (B : Nat) (U : State) : Prop :=
  va_AO RX6 U ∧ va_AO RX7 U ∧ va_AO RX3 U ∧ va_Nw (.methodLinkNest RX8 53 yX9_contains RX9) U ∧ va_Nw (.methodLinkNest RX7 139 yX9_contains RX9) U ∧ va_Nw (.methodLinkNest RX1 50 yX9_contains RX9) U ∧
  vk_R RX5 82 tx0 (adK 0) U ∧ vk_R RX10 181 tx1 (adK 1) U ∧ vk_S 2 [st0.length, st1.length] [st0.map Int32.ofInt, st1.map Int32.ofInt] adK adV (fun q => B ≤ q) U U.heap ∧
  va_Z "java/lang/String" "COMPACT_STRINGS" "Z" (.int 1) (fun q => B ≤ q) U U.heap ∧ va_Zq "jdk/internal/util/Preconditions" "SIOOBE_FORMATTER" "Ljava/util/function/BiFunction;" (fun q => B ≤ q) U U.heap
def FxC (p : Program) (s : State) (m : MethodId) (c : Code) (args : Array Value) (cc : ByteArray) (nL : Nat) (own : String) (Ts : List Cond) (D : va_G) (kA : Nat → ClassId) (A : Nat → Option Nat) (B len0 : Nat) (adK adV : Nat → Nat) : Prop :=
  p.tables.exec = Jvm.exec ∧ c.code = cc ∧ c.maxLocals = nL ∧ s.vm.findClass own = some m.cls ∧ (∀ w ∈ Ts, w.before args s = true) ∧ va_K D vwCl (tys7 kA) s ∧ s.heap.size = B + len0 ∧ (∀ r, r < 900000 → A r = some (B + r)) ∧ A 999999 = none ∧ A 900001 = some (adK 0) ∧ A 900002 = some (adK 1) ∧ Xk adK adV B s
def FrC (R : Room) (s : State) (nL B : Nat) (A : Nat → Option Nat) (kA : Nat → ClassId) (D : va_G) (len0 tot0 : Nat) (lo : Lo) (st : List MV) (h : Mem) (H : Heap) (ls : Array Slot) (locs : List Loc) (cells slots : Nat) : Prop :=
  Wd B A kA D (fun q => B ≤ q) h H ∧ va_S (fun q => B ≤ q) s.heap H locs ∧ lv_has ls nL (prsF A 0 lo) ∧ (lo.length = nL ∧ cells ≤ R.cells ∧ slots ≤ R.slots) ∧ (∀ i v, nthL lo i = some v → vok v) ∧ (∀ v ∈ st, vok v) ∧ h.1.length = len0 + cells ∧ totS h.1 = tot0 + slots
def Sd (p : Program) (l : Launch) (e : Env) (R : Room) (s : State) (m : MethodId) (args : Array Value) (below : List Frame) (meth : Method) (c : Code) (QQ : State → Prop) (B : Nat) (A : Nat → Option Nat) (kA : Nat → ClassId) (D : va_G) (nL len0 tot0 : Nat) (pc : Nat) (b : Blk) : Prop :=
  ∀ lo st h H ls locs cells slots, FrC R s nL B A kA D len0 tot0 lo st h H ls locs cells slots → b lo st h → W p l e R s m args below meth c H locs cells slots QQ (F0 m pc ls (st.map (trV A)))
section SND
variable {p : Program} {l : Launch} {e : Env} {R : Room} {s : State} {m : MethodId} {args : Array Value} {below : List Frame} {meth : Method} {c : Code} {QQ : State → Prop} {B : Nat} {A : Nat → Option Nat} {kA : Nat → ClassId} {D : va_G} {cc : ByteArray} {nL : Nat} {own : String} {len0 tot0 : Nat} {Ts : List Cond} {pc : Nat} {k : Blk} {adK adV : Nat → Nat}
theorem FrC.st {lo : Lo} {st st' : List MV} {h : Mem} {H : Heap} {ls : Array Slot} {locs : List Loc} {cells slots : Nat} (f : FrC R s nL B A kA D len0 tot0 lo st h H ls locs cells slots) (hv : ∀ v ∈ st', vok v) : FrC R s nL B A kA D len0 tot0 lo st' h H ls locs cells slots :=
  ⟨f.1, f.2.1, f.2.2.1, f.2.2.2.1, f.2.2.2.2.1, hv, f.2.2.2.2.2.2⟩
theorem FrC.ok {lo : Lo} {st : List MV} {h : Mem} {H : Heap} {ls : Array Slot} {locs : List Loc} {cells slots : Nat} (f : FrC R s nL B A kA D len0 tot0 lo st h H ls locs cells slots) : ∀ v ∈ st, vok v := f.2.2.2.2.2.1
theorem FrC.lok {lo : Lo} {st : List MV} {h : Mem} {H : Heap} {ls : Array Slot} {locs : List Loc} {cells slots : Nat} (f : FrC R s nL B A kA D len0 tot0 lo st h H ls locs cells slots) {i : Nat} {v : MV} (hn : nthL lo i = some v) : vok v := f.2.2.2.2.1 i v hn
theorem FrC.push {lo : Lo} {st : List MV} {h : Mem} {H : Heap} {ls : Array Slot} {locs : List Loc} {cells slots : Nat} (f : FrC R s nL B A kA D len0 tot0 lo st h H ls locs cells slots) {v : MV} (hv : vok v) : FrC R s nL B A kA D len0 tot0 lo (v :: st) h H ls locs cells slots :=
  f.st (fun w hw => (List.mem_cons.mp hw).elim (fun e => e ▸ hv) (f.ok w))
theorem FrC.sto1 {lo : Lo} {st st' : List MV} {h : Mem} {H : Heap} {ls ls' : Array Slot} {locs : List Loc} {cells slots : Nat} {i : Nat} {v : MV} (f : FrC R s nL B A kA D len0 tot0 lo st h H ls locs cells slots) (hl : lv_has ls' nL (prsF A 0 (sto1 lo i v))) (hv : vok v) (hs : ∀ w ∈ st', vok w) : FrC R s nL B A kA D len0 tot0 (sto1 lo i v) st' h H ls' locs cells slots :=
  ⟨f.1, f.2.1, hl, by rw [sto1_len]; exact f.2.2.2.1, fun j w hj => (nth_sto1 hj).elim (fun q => q.2 ▸ hv) (fun q => f.lok q.2.1), hs, f.2.2.2.2.2.2⟩
theorem FrC.sto2 {lo : Lo} {st st' : List MV} {h : Mem} {H : Heap} {ls ls' : Array Slot} {locs : List Loc} {cells slots : Nat} {i : Nat} {v : MV} (f : FrC R s nL B A kA D len0 tot0 lo st h H ls locs cells slots) (hl : lv_has ls' nL (prsF A 0 (sto2 lo i v))) (hv : vok v) (hs : ∀ w ∈ st', vok w) : FrC R s nL B A kA D len0 tot0 (sto2 lo i v) st' h H ls' locs cells slots :=
  ⟨f.1, f.2.1, hl, by rw [sto2_len]; exact f.2.2.2.1, fun j w hj => (nth_sto2 hj).elim (fun q => q.2 ▸ hv) (fun q => f.lok q.2.2.1), hs, f.2.2.2.2.2.2⟩
theorem tl_ok {v : MV} {st : List MV} (h : ∀ w ∈ v :: st, vok w) : ∀ w ∈ st, vok w := fun w hw => h w (List.mem_cons_of_mem _ hw)
theorem hd_ok {v : MV} {st : List MV} (h : ∀ w ∈ v :: st, vok w) : vok v := h v List.mem_cons_self
theorem cons_ok {v : MV} {st : List MV} (hv : vok v) (h : ∀ w ∈ st, vok w) : ∀ w ∈ v :: st, vok w := fun w hw => (List.mem_cons.mp hw).elim (fun e => e ▸ hv) (h w)
-- loads
theorem s_aload_n (hF : FxC p s m c args cc nL own Ts D kA A B len0 adK adV) {i : Fin 4} (hdg : decode cc pc = .ok (.aload_n i, 1)) (hk : Sd p l e R s m args below meth c QQ B A kA D nL len0 tot0 (pc + 1) k) : Sd p l e R s m args below meth c QQ B A kA D nL len0 tot0 pc (o_ald i.val k) := by
  intro lo st h H ls locs cells slots fr q
  unfold o_ald at q
  split at q
  · rename_i r hn
    have hl := prs_at fr.2.2.1 hn
    have hw := hk lo (vR r :: st) h H ls locs cells slots (fr.push trivial) q
    rw [List.map_cons] at hw
    cases hA : A r with
    | none =>
      simp only [trV, va_rf, hA] at hl hw
      exact lv_aload_nN hF.1 hF.2.1 hdg rfl hl hw
    | some a =>
      simp only [trV, va_rf, hA] at hl hw
      exact lv_aload_n hF.1 hF.2.1 hdg rfl hl hw
  · exact q.elim
theorem s_aload (hF : FxC p s m c args cc nL own Ts D kA A B len0 adK adV) {i : Nat} (hdg : decode cc pc = .ok (.aload i, 2)) (hk : Sd p l e R s m args below meth c QQ B A kA D nL len0 tot0 (pc + 2) k) : Sd p l e R s m args below meth c QQ B A kA D nL len0 tot0 pc (o_ald i k) := by
  intro lo st h H ls locs cells slots fr q
  unfold o_ald at q
  split at q
  · rename_i r hn
    have hl := prs_at fr.2.2.1 hn
    have hw := hk lo (vR r :: st) h H ls locs cells slots (fr.push trivial) q
    rw [List.map_cons] at hw
    cases hA : A r with
    | none =>
      simp only [trV, va_rf, hA] at hl hw
      exact lv_aloadN hF.1 hF.2.1 hdg hl hw
    | some a =>
      simp only [trV, va_rf, hA] at hl hw
      exact lv_aload hF.1 hF.2.1 hdg hl hw
  · exact q.elim
theorem s_iload_n (hF : FxC p s m c args cc nL own Ts D kA A B len0 adK adV) {i : Fin 4} (hdg : decode cc pc = .ok (.iload_n i, 1)) (hk : Sd p l e R s m args below meth c QQ B A kA D nL len0 tot0 (pc + 1) k) : Sd p l e R s m args below meth c QQ B A kA D nL len0 tot0 pc (o_ild i.val k) := by
  intro lo st h H ls locs cells slots fr q
  unfold o_ild at q
  split at q
  · rename_i r hn
    exact lv_iload_n hF.1 hF.2.1 hdg rfl (prs_at fr.2.2.1 hn) (hk lo (vI r :: st) h H ls locs cells slots (fr.push (fr.lok hn)) q)
  · exact q.elim
theorem s_iload (hF : FxC p s m c args cc nL own Ts D kA A B len0 adK adV) {i : Nat} (hdg : decode cc pc = .ok (.iload i, 2)) (hk : Sd p l e R s m args below meth c QQ B A kA D nL len0 tot0 (pc + 2) k) : Sd p l e R s m args below meth c QQ B A kA D nL len0 tot0 pc (o_ild i k) := by
  intro lo st h H ls locs cells slots fr q
  unfold o_ild at q
  split at q
  · rename_i r hn
    exact lv_iload hF.1 hF.2.1 hdg (prs_at fr.2.2.1 hn) (hk lo (vI r :: st) h H ls locs cells slots (fr.push (fr.lok hn)) q)
  · exact q.elim
theorem s_lload_n (hF : FxC p s m c args cc nL own Ts D kA A B len0 adK adV) {i : Fin 4} (hdg : decode cc pc = .ok (.lload_n i, 1)) (hk : Sd p l e R s m args below meth c QQ B A kA D nL len0 tot0 (pc + 1) k) : Sd p l e R s m args below meth c QQ B A kA D nL len0 tot0 pc (o_lld i.val k) := by
  intro lo st h H ls locs cells slots fr q
  unfold o_lld at q
  split at q
  · rename_i r hn
    exact lv_lload_n hF.1 hF.2.1 hdg rfl (prs_at fr.2.2.1 hn) (hk lo (vL r :: st) h H ls locs cells slots (fr.push (fr.lok hn)) q)
  · exact q.elim
theorem s_lload (hF : FxC p s m c args cc nL own Ts D kA A B len0 adK adV) {i : Nat} (hdg : decode cc pc = .ok (.lload i, 2)) (hk : Sd p l e R s m args below meth c QQ B A kA D nL len0 tot0 (pc + 2) k) : Sd p l e R s m args below meth c QQ B A kA D nL len0 tot0 pc (o_lld i k) := by
  intro lo st h H ls locs cells slots fr q
  unfold o_lld at q
  split at q
  · rename_i r hn
    exact lv_lload hF.1 hF.2.1 hdg (prs_at fr.2.2.1 hn) (hk lo (vL r :: st) h H ls locs cells slots (fr.push (fr.lok hn)) q)
  · exact q.elim
-- stores
theorem s_istore_n (hF : FxC p s m c args cc nL own Ts D kA A B len0 adK adV) {i : Fin 4} (hi : i.val < nL) (hdg : decode cc pc = .ok (.istore_n i, 1)) (hk : Sd p l e R s m args below meth c QQ B A kA D nL len0 tot0 (pc + 1) k) : Sd p l e R s m args below meth c QQ B A kA D nL len0 tot0 pc (o_ist i.val k) := by
  intro lo st h H ls locs cells slots fr q
  unfold o_ist at q
  split at q
  · rename_i z st'
    have hz := hd_ok fr.ok
    exact lv_istore_n hF.1 hF.2.1 hdg rfl fr.2.2.1 hi rfl (fun ls' hl' => hk _ st' h H ls' locs cells slots (fr.sto1 (has_sto1 (v := vI z) hl') hz (tl_ok fr.ok)) q)
  · exact q.elim
theorem s_istore (hF : FxC p s m c args cc nL own Ts D kA A B len0 adK adV) {i : Nat} (hi : i < nL) (hdg : decode cc pc = .ok (.istore i, 2)) (hk : Sd p l e R s m args below meth c QQ B A kA D nL len0 tot0 (pc + 2) k) : Sd p l e R s m args below meth c QQ B A kA D nL len0 tot0 pc (o_ist i k) := by
  intro lo st h H ls locs cells slots fr q
  unfold o_ist at q
  split at q
  · rename_i z st'
    have hz := hd_ok fr.ok
    exact lv_istore hF.1 hF.2.1 hdg fr.2.2.1 hi rfl (fun ls' hl' => hk _ st' h H ls' locs cells slots (fr.sto1 (has_sto1 (v := vI z) hl') hz (tl_ok fr.ok)) q)
  · exact q.elim
theorem s_lstore_n (hF : FxC p s m c args cc nL own Ts D kA A B len0 adK adV) {i : Fin 4} (hi : i.val + 1 < nL) (hdg : decode cc pc = .ok (.lstore_n i, 1)) (hk : Sd p l e R s m args below meth c QQ B A kA D nL len0 tot0 (pc + 1) k) : Sd p l e R s m args below meth c QQ B A kA D nL len0 tot0 pc (o_lst i.val k) := by
  intro lo st h H ls locs cells slots fr q
  unfold o_lst at q
  split at q
  · rename_i z st'
    have hz := hd_ok fr.ok
    exact lv_lstore_n hF.1 hF.2.1 hdg rfl fr.2.2.1 hi rfl (fun ls' hl' => hk _ st' h H ls' locs cells slots (fr.sto2 (has_sto2 (v := vL z) hl') hz (tl_ok fr.ok)) q)
  · exact q.elim
theorem s_lstore (hF : FxC p s m c args cc nL own Ts D kA A B len0 adK adV) {i : Nat} (hi : i + 1 < nL) (hdg : decode cc pc = .ok (.lstore i, 2)) (hk : Sd p l e R s m args below meth c QQ B A kA D nL len0 tot0 (pc + 2) k) : Sd p l e R s m args below meth c QQ B A kA D nL len0 tot0 pc (o_lst i k) := by
  intro lo st h H ls locs cells slots fr q
  unfold o_lst at q
  split at q
  · rename_i z st'
    have hz := hd_ok fr.ok
    exact lv_lstore hF.1 hF.2.1 hdg fr.2.2.1 hi rfl (fun ls' hl' => hk _ st' h H ls' locs cells slots (fr.sto2 (has_sto2 (v := vL z) hl') hz (tl_ok fr.ok)) q)
  · exact q.elim
theorem s_astore_n (hF : FxC p s m c args cc nL own Ts D kA A B len0 adK adV) {i : Fin 4} (hi : i.val < nL) (hdg : decode cc pc = .ok (.astore_n i, 1)) (hk : Sd p l e R s m args below meth c QQ B A kA D nL len0 tot0 (pc + 1) k) : Sd p l e R s m args below meth c QQ B A kA D nL len0 tot0 pc (o_ast i.val k) := by
  intro lo st h H ls locs cells slots fr q
  unfold o_ast at q
  split at q
  · rename_i r st'
    have key : ∀ ls', lv_has ls' nL ((i.val, trV A (vR r)) :: (prsF A 0 lo).filter (fun q => !(q.1 == i.val) && !(q.1 + 1 == i.val && q.2.category == 2))) → W p l e R s m args below meth c H locs cells slots QQ (F0 m (pc + 1) ls' (st'.map (trV A))) :=
      fun ls' hl' => hk _ st' h H ls' locs cells slots (fr.sto1 (has_sto1 (v := vR r) hl') trivial (tl_ok fr.ok)) q
    rw [List.map_cons]
    cases hA : A r with
    | none =>
      simp only [trV, va_rf, hA] at key ⊢
      exact lv_astore_nN hF.1 hF.2.1 hdg rfl fr.2.2.1 hi rfl key
    | some a =>
      simp only [trV, va_rf, hA] at key ⊢
      exact lv_astore_n hF.1 hF.2.1 hdg rfl fr.2.2.1 hi rfl key
  · exact q.elim
theorem s_astore (hF : FxC p s m c args cc nL own Ts D kA A B len0 adK adV) {i : Nat} (hi : i < nL) (hdg : decode cc pc = .ok (.astore i, 2)) (hk : Sd p l e R s m args below meth c QQ B A kA D nL len0 tot0 (pc + 2) k) : Sd p l e R s m args below meth c QQ B A kA D nL len0 tot0 pc (o_ast i k) := by
  intro lo st h H ls locs cells slots fr q
  unfold o_ast at q
  split at q
  · rename_i r st'
    have key : ∀ ls', lv_has ls' nL ((i, trV A (vR r)) :: (prsF A 0 lo).filter (fun q => !(q.1 == i) && !(q.1 + 1 == i && q.2.category == 2))) → W p l e R s m args below meth c H locs cells slots QQ (F0 m (pc + 2) ls' (st'.map (trV A))) :=
      fun ls' hl' => hk _ st' h H ls' locs cells slots (fr.sto1 (has_sto1 (v := vR r) hl') trivial (tl_ok fr.ok)) q
    rw [List.map_cons]
    cases hA : A r with
    | none =>
      simp only [trV, va_rf, hA] at key ⊢
      exact lv_astoreN hF.1 hF.2.1 hdg fr.2.2.1 hi rfl key
    | some a =>
      simp only [trV, va_rf, hA] at key ⊢
      exact lv_astore hF.1 hF.2.1 hdg fr.2.2.1 hi rfl key
  · exact q.elim
theorem s_iinc (hF : FxC p s m c args cc nL own Ts D kA A B len0 adK adV) {i : Nat} {z : Int} (hi : i < nL) (hdg : decode cc pc = .ok (.iinc i z, 3)) (hk : Sd p l e R s m args below meth c QQ B A kA D nL len0 tot0 (pc + 3) k) : Sd p l e R s m args below meth c QQ B A kA D nL len0 tot0 pc (o_inc i z k) := by
  intro lo st h H ls locs cells slots fr q
  unfold o_inc at q
  split at q
  · rename_i a hn
    have hm : (i, Value.int (Int32.ofInt a)) ∈ prsF A 0 lo := (mem_prs lo 0 _).mpr ⟨i, vI a, nth_some.mp hn, by simp [trV]⟩
    obtain ⟨j, hj⟩ := List.getElem?_of_mem hm
    exact lv_iinc hF.1 hF.2.1 hdg fr.2.2.1 hj (Int32.ofInt_add a z).symm hi rfl (fun ls' hl' => hk _ st h H ls' locs cells slots (fr.sto1 (has_sto1 (v := vI (a + z)) hl') q.1 fr.ok) q.2)
  · exact q.elim
-- constants
theorem s_iconst (hF : FxC p s m c args cc nL own Ts D kA A B len0 adK adV) {z : Int} (hz : inI z) (hdg : decode cc pc = .ok (.iconst z, 1)) (hk : Sd p l e R s m args below meth c QQ B A kA D nL len0 tot0 (pc + 1) k) : Sd p l e R s m args below meth c QQ B A kA D nL len0 tot0 pc (o_psh (vI z) k) := by
  intro lo st h H ls locs cells slots fr q
  exact lv_iconst hF.1 hF.2.1 hdg rfl (hk lo (vI z :: st) h H ls locs cells slots (fr.push hz) q)
theorem s_bipush (hF : FxC p s m c args cc nL own Ts D kA A B len0 adK adV) {z : Int} (hz : -128 ≤ z ∧ z ≤ 127) (hdg : decode cc pc = .ok (.bipush z, 2)) (hk : Sd p l e R s m args below meth c QQ B A kA D nL len0 tot0 (pc + 2) k) : Sd p l e R s m args below meth c QQ B A kA D nL len0 tot0 pc (o_psh (vI z) k) := by
  intro lo st h H ls locs cells slots fr q
  exact lv_bipush hF.1 hF.2.1 hdg (i32_bipush hz) (hk lo (vI z :: st) h H ls locs cells slots (fr.push ⟨by omega, by omega⟩) q)
theorem s_sipush (hF : FxC p s m c args cc nL own Ts D kA A B len0 adK adV) {z : Int} (hz : -32768 ≤ z ∧ z ≤ 32767) (hdg : decode cc pc = .ok (.sipush z, 3)) (hk : Sd p l e R s m args below meth c QQ B A kA D nL len0 tot0 (pc + 3) k) : Sd p l e R s m args below meth c QQ B A kA D nL len0 tot0 pc (o_psh (vI z) k) := by
  intro lo st h H ls locs cells slots fr q
  exact lv_sipush hF.1 hF.2.1 hdg (i32_sipush hz) (hk lo (vI z :: st) h H ls locs cells slots (fr.push ⟨by omega, by omega⟩) q)
theorem s_lconst (hF : FxC p s m c args cc nL own Ts D kA A B len0 adK adV) {z : Fin 2} (hdg : decode cc pc = .ok (.lconst z, 1)) (hk : Sd p l e R s m args below meth c QQ B A kA D nL len0 tot0 (pc + 1) k) : Sd p l e R s m args below meth c QQ B A kA D nL len0 tot0 pc (o_psh (vL z.val) k) := by
  intro lo st h H ls locs cells slots fr q
  exact lv_lconst hF.1 hF.2.1 hdg rfl (hk lo (vL z.val :: st) h H ls locs cells slots (fr.push ⟨by omega, by omega⟩) q)
theorem s_ldc (hF : FxC p s m c args cc nL own Ts D kA A B len0 adK adV) {i : Nat} {z : Int} (hz : inI z) (hw : Jvm.Cond.constant own i (Int32.ofInt z) ∈ Ts) (hdg : decode cc pc = .ok (.ldc i, 2)) (hk : Sd p l e R s m args below meth c QQ B A kA D nL len0 tot0 (pc + 2) k) : Sd p l e R s m args below meth c QQ B A kA D nL len0 tot0 pc (o_psh (vI z) k) := by
  intro lo st h H ls locs cells slots fr q
  exact lv_ldc hF.1 hF.2.1 hF.2.2.2.1 (hF.2.2.2.2.1 _ hw) hdg (hk lo (vI z :: st) h H ls locs cells slots (fr.push hz) q)
theorem s_ldc2 (hF : FxC p s m c args cc nL own Ts D kA A B len0 adK adV) {i : Nat} {z : Int} (hz : inL z) (hw : Jvm.Cond.constantLong own i (Int64.ofInt z) ∈ Ts) (hdg : decode cc pc = .ok (.ldc2_w i, 3)) (hk : Sd p l e R s m args below meth c QQ B A kA D nL len0 tot0 (pc + 3) k) : Sd p l e R s m args below meth c QQ B A kA D nL len0 tot0 pc (o_psh (vL z) k) := by
  intro lo st h H ls locs cells slots fr q
  exact lv_ldc2 hF.1 hF.2.1 hF.2.2.2.1 (hF.2.2.2.2.1 _ hw) hdg (hk lo (vL z :: st) h H ls locs cells slots (fr.push hz) q)
-- arithmetic
theorem s_binV {P : Int → Int → Prop} {f : Int → Int → Int} {F : Int32 → Int32 → Int32} (hf : ∀ a b, inI a → inI b → P a b → F (Int32.ofInt a) (Int32.ofInt b) = Int32.ofInt (f a b) ∧ inI (f a b))
    (row : ∀ H ls locs cells slots rest a b, inI a → inI b → P a b → W p l e R s m args below meth c H locs cells slots QQ (F0 m (pc + 1) ls (.int (F (Int32.ofInt a) (Int32.ofInt b)) :: rest)) → W p l e R s m args below meth c H locs cells slots QQ (F0 m pc ls (.int (Int32.ofInt b) :: .int (Int32.ofInt a) :: rest)))
    (hk : Sd p l e R s m args below meth c QQ B A kA D nL len0 tot0 (pc + 1) k) : Sd p l e R s m args below meth c QQ B A kA D nL len0 tot0 pc (o_binV P f k) := by
  intro lo st h H ls locs cells slots fr q
  unfold o_binV at q
  split at q
  · rename_i b a st'
    have hb := hd_ok fr.ok
    have ha := hd_ok (tl_ok fr.ok)
    have hr := hf a b ha hb q.1
    refine row _ _ _ _ _ _ a b ha hb q.1 ?_
    rw [hr.1]
    exact hk lo (vI (f a b) :: st') h H ls locs cells slots (fr.st (cons_ok hr.2 (tl_ok (tl_ok fr.ok)))) q.2
  · exact q.elim
theorem s_bin {f : Int → Int → Int} {F : Int32 → Int32 → Int32} (hf : ∀ a b, inI a → inI b → F (Int32.ofInt a) (Int32.ofInt b) = Int32.ofInt (f a b) ∧ inI (f a b))
    (row : ∀ H ls locs cells slots rest a b, inI a → inI b → W p l e R s m args below meth c H locs cells slots QQ (F0 m (pc + 1) ls (.int (F (Int32.ofInt a) (Int32.ofInt b)) :: rest)) → W p l e R s m args below meth c H locs cells slots QQ (F0 m pc ls (.int (Int32.ofInt b) :: .int (Int32.ofInt a) :: rest)))
    (hk : Sd p l e R s m args below meth c QQ B A kA D nL len0 tot0 (pc + 1) k) : Sd p l e R s m args below meth c QQ B A kA D nL len0 tot0 pc (o_bin f k) := by
  intro lo st h H ls locs cells slots fr q
  unfold o_bin at q
  split at q
  · rename_i b a st'
    have hb := hd_ok fr.ok
    have ha := hd_ok (tl_ok fr.ok)
    have hr := hf a b ha hb
    refine row _ _ _ _ _ _ a b ha hb ?_
    rw [hr.1]
    exact hk lo (vI (f a b) :: st') h H ls locs cells slots (fr.st (cons_ok hr.2 (tl_ok (tl_ok fr.ok)))) q
  · exact q.elim
theorem s_un {f : Int → Int} {F : Int32 → Int32} (hf : ∀ a, inI a → F (Int32.ofInt a) = Int32.ofInt (f a) ∧ inI (f a))
    (row : ∀ H ls locs cells slots rest a, inI a → W p l e R s m args below meth c H locs cells slots QQ (F0 m (pc + 1) ls (.int (F (Int32.ofInt a)) :: rest)) → W p l e R s m args below meth c H locs cells slots QQ (F0 m pc ls (.int (Int32.ofInt a) :: rest)))
    (hk : Sd p l e R s m args below meth c QQ B A kA D nL len0 tot0 (pc + 1) k) : Sd p l e R s m args below meth c QQ B A kA D nL len0 tot0 pc (o_un f k) := by
  intro lo st h H ls locs cells slots fr q
  unfold o_un at q
  split at q
  · rename_i a st'
    have ha := hd_ok fr.ok
    have hr := hf a ha
    refine row _ _ _ _ _ _ a ha ?_
    rw [hr.1]
    exact hk lo (vI (f a) :: st') h H ls locs cells slots (fr.st (cons_ok hr.2 (tl_ok fr.ok))) q
  · exact q.elim
theorem s_lbin {f : Int → Int → Int} {F : Int64 → Int64 → Int64} (hf : ∀ a b, inL a → inL b → F (Int64.ofInt a) (Int64.ofInt b) = Int64.ofInt (f a b) ∧ inL (f a b))
    (row : ∀ H ls locs cells slots rest a b, inL a → inL b → W p l e R s m args below meth c H locs cells slots QQ (F0 m (pc + 1) ls (.long (F (Int64.ofInt a) (Int64.ofInt b)) :: rest)) → W p l e R s m args below meth c H locs cells slots QQ (F0 m pc ls (.long (Int64.ofInt b) :: .long (Int64.ofInt a) :: rest)))
    (hk : Sd p l e R s m args below meth c QQ B A kA D nL len0 tot0 (pc + 1) k) : Sd p l e R s m args below meth c QQ B A kA D nL len0 tot0 pc (o_lbin f k) := by
  intro lo st h H ls locs cells slots fr q
  unfold o_lbin at q
  split at q
  · rename_i b a st'
    have hb := hd_ok fr.ok
    have ha := hd_ok (tl_ok fr.ok)
    have hr := hf a b ha hb
    refine row _ _ _ _ _ _ a b ha hb ?_
    rw [hr.1]
    exact hk lo (vL (f a b) :: st') h H ls locs cells slots (fr.st (cons_ok hr.2 (tl_ok (tl_ok fr.ok)))) q
  · exact q.elim
theorem s_lbinV {P : Int → Int → Prop} {f : Int → Int → Int} {F : Int64 → Int64 → Int64} (hf : ∀ a b, inL a → inL b → P a b → F (Int64.ofInt a) (Int64.ofInt b) = Int64.ofInt (f a b) ∧ inL (f a b))
    (row : ∀ H ls locs cells slots rest a b, inL a → inL b → P a b → W p l e R s m args below meth c H locs cells slots QQ (F0 m (pc + 1) ls (.long (F (Int64.ofInt a) (Int64.ofInt b)) :: rest)) → W p l e R s m args below meth c H locs cells slots QQ (F0 m pc ls (.long (Int64.ofInt b) :: .long (Int64.ofInt a) :: rest)))
    (hk : Sd p l e R s m args below meth c QQ B A kA D nL len0 tot0 (pc + 1) k) : Sd p l e R s m args below meth c QQ B A kA D nL len0 tot0 pc (o_lbinV P f k) := by
  intro lo st h H ls locs cells slots fr q
  unfold o_lbinV at q
  split at q
  · rename_i b a st'
    have hb := hd_ok fr.ok
    have ha := hd_ok (tl_ok fr.ok)
    have hr := hf a b ha hb q.1
    refine row _ _ _ _ _ _ a b ha hb q.1 ?_
    rw [hr.1]
    exact hk lo (vL (f a b) :: st') h H ls locs cells slots (fr.st (cons_ok hr.2 (tl_ok (tl_ok fr.ok)))) q.2
  · exact q.elim
theorem s_iadd (hF : FxC p s m c args cc nL own Ts D kA A B len0 adK adV) (hdg : decode cc pc = .ok (.iadd, 1)) (hk : Sd p l e R s m args below meth c QQ B A kA D nL len0 tot0 (pc + 1) k) : Sd p l e R s m args below meth c QQ B A kA D nL len0 tot0 pc (o_iadd k) :=
  (show Sd p l e R s m args below meth c QQ B A kA D nL len0 tot0 pc (o_binV (fun a b => inI (a + b)) (fun a b => a + b) k) from s_binV (F := fun x y => x + y) (fun a b _ _ h => ⟨(Int32.ofInt_add a b).symm, h⟩) (fun _ _ _ _ _ _ _ _ _ _ _ w => lv_iadd hF.1 hF.2.1 hdg w) hk)
theorem s_isub (hF : FxC p s m c args cc nL own Ts D kA A B len0 adK adV) (hdg : decode cc pc = .ok (.isub, 1)) (hk : Sd p l e R s m args below meth c QQ B A kA D nL len0 tot0 (pc + 1) k) : Sd p l e R s m args below meth c QQ B A kA D nL len0 tot0 pc (o_isub k) :=
  (show Sd p l e R s m args below meth c QQ B A kA D nL len0 tot0 pc (o_binV (fun a b => inI (a - b)) (fun a b => a - b) k) from s_binV (F := fun x y => x - y) (fun a b _ _ h => ⟨(Int32.ofInt_sub a b).symm, h⟩) (fun _ _ _ _ _ _ _ _ _ _ _ w => lv_isub hF.1 hF.2.1 hdg w) hk)
theorem s_imul (hF : FxC p s m c args cc nL own Ts D kA A B len0 adK adV) (hdg : decode cc pc = .ok (.imul, 1)) (hk : Sd p l e R s m args below meth c QQ B A kA D nL len0 tot0 (pc + 1) k) : Sd p l e R s m args below meth c QQ B A kA D nL len0 tot0 pc (o_imul k) :=
  (show Sd p l e R s m args below meth c QQ B A kA D nL len0 tot0 pc (o_binV (fun a b => inI (a * b)) (fun a b => a * b) k) from s_binV (F := fun x y => x * y) (fun a b _ _ h => ⟨(Int32.ofInt_mul a b).symm, h⟩) (fun _ _ _ _ _ _ _ _ _ _ _ w => lv_imul hF.1 hF.2.1 hdg w) hk)
theorem nz32 {b : Int} (hb : inI b) (h : ¬ b = 0) : ¬ Int32.ofInt b = 0 := fun q => h ((i32_eq hb inI_0).mp (q.trans i32_0.symm))
theorem nz64 {b : Int} (hb : inL b) (h : ¬ b = 0) : ¬ Int64.ofInt b = 0 := fun q => h ((i64_eq hb ⟨by omega, by omega⟩).mp (q.trans (show (0 : Int64) = Int64.ofInt 0 from rfl)))
theorem s_idiv (hF : FxC p s m c args cc nL own Ts D kA A B len0 adK adV) (hdg : decode cc pc = .ok (.idiv, 1)) (hk : Sd p l e R s m args below meth c QQ B A kA D nL len0 tot0 (pc + 1) k) : Sd p l e R s m args below meth c QQ B A kA D nL len0 tot0 pc (o_idiv k) :=
  (show Sd p l e R s m args below meth c QQ B A kA D nL len0 tot0 pc (o_binV (fun _ b => ¬ b = 0) zdiv k) from s_binV (F := fun x y => x / y) (fun a b _ _ _ => ⟨(i32_oi _).symm, i32_in _⟩) (fun _ _ _ _ _ _ _ _ _ hb h w => lv_idiv hF.1 hF.2.1 hdg (nz32 hb h) w) hk)
theorem s_irem (hF : FxC p s m c args cc nL own Ts D kA A B len0 adK adV) (hdg : decode cc pc = .ok (.irem, 1)) (hk : Sd p l e R s m args below meth c QQ B A kA D nL len0 tot0 (pc + 1) k) : Sd p l e R s m args below meth c QQ B A kA D nL len0 tot0 pc (o_irem k) :=
  (show Sd p l e R s m args below meth c QQ B A kA D nL len0 tot0 pc (o_binV (fun _ b => ¬ b = 0) zrem k) from s_binV (F := fun x y => x - x / y * y) (fun a b _ _ _ => ⟨(i32_oi _).symm, i32_in _⟩) (fun _ _ _ _ _ _ _ _ _ hb h w => lv_irem hF.1 hF.2.1 hdg (nz32 hb h) w) hk)
theorem s_ishl (hF : FxC p s m c args cc nL own Ts D kA A B len0 adK adV) (hdg : decode cc pc = .ok (.ishl, 1)) (hk : Sd p l e R s m args below meth c QQ B A kA D nL len0 tot0 (pc + 1) k) : Sd p l e R s m args below meth c QQ B A kA D nL len0 tot0 pc (o_ishl k) :=
  (show Sd p l e R s m args below meth c QQ B A kA D nL len0 tot0 pc (o_binV (fun a b => 0 ≤ b ∧ b < 32 ∧ inI (shlZ a b)) shlZ k) from s_binV (F := fun x y => x <<< (y &&& 31)) (fun a b _ _ h => ⟨i32_shl h.1 h.2.1, h.2.2⟩) (fun _ _ _ _ _ _ _ _ _ _ _ w => lv_ishl hF.1 hF.2.1 hdg w) hk)
theorem s_ishr (hF : FxC p s m c args cc nL own Ts D kA A B len0 adK adV) (hdg : decode cc pc = .ok (.ishr, 1)) (hk : Sd p l e R s m args below meth c QQ B A kA D nL len0 tot0 (pc + 1) k) : Sd p l e R s m args below meth c QQ B A kA D nL len0 tot0 pc (o_ishr k) :=
  (show Sd p l e R s m args below meth c QQ B A kA D nL len0 tot0 pc (o_binV (fun _ b => 0 ≤ b ∧ b < 32) shrZ k) from s_binV (F := fun x y => x >>> (y &&& 31)) (fun a b ha _ h => ⟨i32_shr ha h.1 h.2, inI_shr ha h.1 h.2⟩) (fun _ _ _ _ _ _ _ _ _ _ _ w => lv_ishr hF.1 hF.2.1 hdg w) hk)
theorem s_iushr (hF : FxC p s m c args cc nL own Ts D kA A B len0 adK adV) (hdg : decode cc pc = .ok (.iushr, 1)) (hk : Sd p l e R s m args below meth c QQ B A kA D nL len0 tot0 (pc + 1) k) : Sd p l e R s m args below meth c QQ B A kA D nL len0 tot0 pc (o_bin zushr k) :=
  s_bin (F := fun x y => (x.toUInt32 >>> (y.toUInt32 &&& Int32.toUInt32 31)).toInt32) (fun a b _ _ => ⟨(i32_oi _).symm, i32_in _⟩) (fun _ _ _ _ _ _ _ _ _ _ w => lv_iushr hF.1 hF.2.1 hdg rfl w) hk
theorem s_iand (hF : FxC p s m c args cc nL own Ts D kA A B len0 adK adV) (hdg : decode cc pc = .ok (.iand, 1)) (hk : Sd p l e R s m args below meth c QQ B A kA D nL len0 tot0 (pc + 1) k) : Sd p l e R s m args below meth c QQ B A kA D nL len0 tot0 pc (o_bin zand k) :=
  s_bin (F := fun x y => x &&& y) (fun a b _ _ => ⟨(i32_oi _).symm, i32_in _⟩) (fun _ _ _ _ _ _ _ _ _ _ w => lv_iand hF.1 hF.2.1 hdg w) hk
theorem s_ior (hF : FxC p s m c args cc nL own Ts D kA A B len0 adK adV) (hdg : decode cc pc = .ok (.ior, 1)) (hk : Sd p l e R s m args below meth c QQ B A kA D nL len0 tot0 (pc + 1) k) : Sd p l e R s m args below meth c QQ B A kA D nL len0 tot0 pc (o_bin zor k) :=
  s_bin (F := fun x y => x ||| y) (fun a b _ _ => ⟨(i32_oi _).symm, i32_in _⟩) (fun _ _ _ _ _ _ _ _ _ _ w => lv_ior hF.1 hF.2.1 hdg w) hk
theorem s_ixor (hF : FxC p s m c args cc nL own Ts D kA A B len0 adK adV) (hdg : decode cc pc = .ok (.ixor, 1)) (hk : Sd p l e R s m args below meth c QQ B A kA D nL len0 tot0 (pc + 1) k) : Sd p l e R s m args below meth c QQ B A kA D nL len0 tot0 pc (o_bin zxor k) :=
  s_bin (F := fun x y => x ^^^ y) (fun a b _ _ => ⟨(i32_oi _).symm, i32_in _⟩) (fun _ _ _ _ _ _ _ _ _ _ w => lv_ixor hF.1 hF.2.1 hdg w) hk
theorem s_i2b (hF : FxC p s m c args cc nL own Ts D kA A B len0 adK adV) (hdg : decode cc pc = .ok (.i2b, 1)) (hk : Sd p l e R s m args below meth c QQ B A kA D nL len0 tot0 (pc + 1) k) : Sd p l e R s m args below meth c QQ B A kA D nL len0 tot0 pc (o_un zb k) :=
  s_un (F := fun x => x.toInt8.toInt32) (fun a _ => ⟨(i32_oi _).symm, i32_in _⟩) (fun _ _ _ _ _ _ _ _ w => lv_i2b hF.1 hF.2.1 hdg rfl w) hk
theorem s_i2s (hF : FxC p s m c args cc nL own Ts D kA A B len0 adK adV) (hdg : decode cc pc = .ok (.i2s, 1)) (hk : Sd p l e R s m args below meth c QQ B A kA D nL len0 tot0 (pc + 1) k) : Sd p l e R s m args below meth c QQ B A kA D nL len0 tot0 pc (o_un zs k) :=
  s_un (F := fun x => x.toInt16.toInt32) (fun a _ => ⟨(i32_oi _).symm, i32_in _⟩) (fun _ _ _ _ _ _ _ _ w => lv_i2s hF.1 hF.2.1 hdg rfl w) hk
theorem s_ladd (hF : FxC p s m c args cc nL own Ts D kA A B len0 adK adV) (hdg : decode cc pc = .ok (.ladd, 1)) (hk : Sd p l e R s m args below meth c QQ B A kA D nL len0 tot0 (pc + 1) k) : Sd p l e R s m args below meth c QQ B A kA D nL len0 tot0 pc (o_lbin ladZ k) :=
  s_lbin (F := fun x y => x + y) (fun a b _ _ => ⟨(i64_oi _).symm, i64_in _⟩) (fun _ _ _ _ _ _ _ _ _ _ w => lv_ladd hF.1 hF.2.1 hdg w) hk
theorem s_lsub (hF : FxC p s m c args cc nL own Ts D kA A B len0 adK adV) (hdg : decode cc pc = .ok (.lsub, 1)) (hk : Sd p l e R s m args below meth c QQ B A kA D nL len0 tot0 (pc + 1) k) : Sd p l e R s m args below meth c QQ B A kA D nL len0 tot0 pc (o_lbin lsbZ k) :=
  s_lbin (F := fun x y => x - y) (fun a b _ _ => ⟨(i64_oi _).symm, i64_in _⟩) (fun _ _ _ _ _ _ _ _ _ _ w => lv_lsub hF.1 hF.2.1 hdg w) hk
theorem s_lmul (hF : FxC p s m c args cc nL own Ts D kA A B len0 adK adV) (hdg : decode cc pc = .ok (.lmul, 1)) (hk : Sd p l e R s m args below meth c QQ B A kA D nL len0 tot0 (pc + 1) k) : Sd p l e R s m args below meth c QQ B A kA D nL len0 tot0 pc (o_lbin lmlZ k) :=
  s_lbin (F := fun x y => x * y) (fun a b _ _ => ⟨(i64_oi _).symm, i64_in _⟩) (fun _ _ _ _ _ _ _ _ _ _ w => lv_lmul hF.1 hF.2.1 hdg w) hk
theorem s_ldiv (hF : FxC p s m c args cc nL own Ts D kA A B len0 adK adV) (hdg : decode cc pc = .ok (.ldiv, 1)) (hk : Sd p l e R s m args below meth c QQ B A kA D nL len0 tot0 (pc + 1) k) : Sd p l e R s m args below meth c QQ B A kA D nL len0 tot0 pc (o_ldiv k) :=
  (show Sd p l e R s m args below meth c QQ B A kA D nL len0 tot0 pc (o_lbinV (fun _ b => ¬ b = 0) ldvZ k) from s_lbinV (F := fun x y => x / y) (fun a b _ _ _ => ⟨(i64_oi _).symm, i64_in _⟩) (fun _ _ _ _ _ _ _ _ _ hb h w => lv_ldiv hF.1 hF.2.1 hdg (nz64 hb h) w) hk)
theorem s_lrem (hF : FxC p s m c args cc nL own Ts D kA A B len0 adK adV) (hdg : decode cc pc = .ok (.lrem, 1)) (hk : Sd p l e R s m args below meth c QQ B A kA D nL len0 tot0 (pc + 1) k) : Sd p l e R s m args below meth c QQ B A kA D nL len0 tot0 pc (o_lrem k) :=
  (show Sd p l e R s m args below meth c QQ B A kA D nL len0 tot0 pc (o_lbinV (fun _ b => ¬ b = 0) lrmZ k) from s_lbinV (F := fun x y => x - x / y * y) (fun a b _ _ _ => ⟨(i64_oi _).symm, i64_in _⟩) (fun _ _ _ _ _ _ _ _ _ hb h w => lv_lrem hF.1 hF.2.1 hdg (nz64 hb h) w) hk)
theorem s_land (hF : FxC p s m c args cc nL own Ts D kA A B len0 adK adV) (hdg : decode cc pc = .ok (.land, 1)) (hk : Sd p l e R s m args below meth c QQ B A kA D nL len0 tot0 (pc + 1) k) : Sd p l e R s m args below meth c QQ B A kA D nL len0 tot0 pc (o_lbin lanZ k) :=
  s_lbin (F := fun x y => x &&& y) (fun a b _ _ => ⟨(i64_oi _).symm, i64_in _⟩) (fun _ _ _ _ _ _ _ _ _ _ w => lv_land hF.1 hF.2.1 hdg w) hk
theorem s_lor (hF : FxC p s m c args cc nL own Ts D kA A B len0 adK adV) (hdg : decode cc pc = .ok (.lor, 1)) (hk : Sd p l e R s m args below meth c QQ B A kA D nL len0 tot0 (pc + 1) k) : Sd p l e R s m args below meth c QQ B A kA D nL len0 tot0 pc (o_lbin lorZ k) :=
  s_lbin (F := fun x y => x ||| y) (fun a b _ _ => ⟨(i64_oi _).symm, i64_in _⟩) (fun _ _ _ _ _ _ _ _ _ _ w => lv_lor hF.1 hF.2.1 hdg w) hk
theorem s_lshl (hF : FxC p s m c args cc nL own Ts D kA A B len0 adK adV) (hdg : decode cc pc = .ok (.lshl, 1)) (hk : Sd p l e R s m args below meth c QQ B A kA D nL len0 tot0 (pc + 1) k) : Sd p l e R s m args below meth c QQ B A kA D nL len0 tot0 pc (o_lsh k) := by
  intro lo st h H ls locs cells slots fr q
  unfold o_lsh at q
  split at q
  · rename_i b a st'
    refine lv_lshl (v := Int64.ofInt (lshZ a b)) hF.1 hF.2.1 hdg (i64_oi _).symm ?_
    exact hk lo (vL (lshZ a b) :: st') h H ls locs cells slots (fr.st (cons_ok (i64_in _) (tl_ok (tl_ok fr.ok)))) q
  · exact q.elim
theorem s_i2l (hF : FxC p s m c args cc nL own Ts D kA A B len0 adK adV) (hdg : decode cc pc = .ok (.i2l, 1)) (hk : Sd p l e R s m args below meth c QQ B A kA D nL len0 tot0 (pc + 1) k) : Sd p l e R s m args below meth c QQ B A kA D nL len0 tot0 pc (o_i2l k) := by
  intro lo st h H ls locs cells slots fr q
  unfold o_i2l at q
  split at q
  · rename_i a st'
    have ha : inI a := hd_ok fr.ok
    exact lv_i2l hF.1 hF.2.1 hdg (i32_wide ha) (hk lo (vL a :: st') h H ls locs cells slots (fr.st (cons_ok ⟨by have := ha.1; omega, by have := ha.2; omega⟩ (tl_ok fr.ok))) q)
  · exact q.elim
theorem s_l2i (hF : FxC p s m c args cc nL own Ts D kA A B len0 adK adV) (hdg : decode cc pc = .ok (.l2i, 1)) (hk : Sd p l e R s m args below meth c QQ B A kA D nL len0 tot0 (pc + 1) k) : Sd p l e R s m args below meth c QQ B A kA D nL len0 tot0 pc (o_l2i k) := by
  intro lo st h H ls locs cells slots fr q
  unfold o_l2i at q
  split at q
  · rename_i a st'
    exact lv_l2i (v := Int32.ofInt (l2iZ a)) hF.1 hF.2.1 hdg (i32_oi _).symm (hk lo (vI (l2iZ a) :: st') h H ls locs cells slots (fr.st (cons_ok (i32_in _) (tl_ok fr.ok))) q)
  · exact q.elim
theorem s_lcmp (hF : FxC p s m c args cc nL own Ts D kA A B len0 adK adV) (hdg : decode cc pc = .ok (.lcmp, 1)) (hk : Sd p l e R s m args below meth c QQ B A kA D nL len0 tot0 (pc + 1) k) : Sd p l e R s m args below meth c QQ B A kA D nL len0 tot0 pc (o_lcm k) := by
  intro lo st h H ls locs cells slots fr q
  unfold o_lcm at q
  split at q
  · rename_i b a st'
    have hb : inL b := hd_ok fr.ok
    have ha : inL a := hd_ok (tl_ok fr.ok)
    have hw := hk lo (vI (cmpZ a b) :: st') h H ls locs cells slots (fr.st (cons_ok (inI_cmp a b) (tl_ok (tl_ok fr.ok)))) q
    refine W.lcmp hF.1 hF.2.1 hdg ?_
    rw [i32_cmp ha hb]
    exact hw
  · exact q.elim
theorem s_dup (hF : FxC p s m c args cc nL own Ts D kA A B len0 adK adV) (hdg : decode cc pc = .ok (.dup, 1)) (hk : Sd p l e R s m args below meth c QQ B A kA D nL len0 tot0 (pc + 1) k) : Sd p l e R s m args below meth c QQ B A kA D nL len0 tot0 pc (o_dup k) := by
  intro lo st h H ls locs cells slots fr q
  unfold o_dup at q
  split at q
  · rename_i v st'
    split at q
    · rename_i hc
      exact lv_dup hF.1 hF.2.1 hdg (trV_cat1 hc) (hk lo (v :: v :: st') h H ls locs cells slots (fr.push (hd_ok fr.ok)) q)
    · exact q.elim
  · exact q.elim
theorem s_dup2 (hF : FxC p s m c args cc nL own Ts D kA A B len0 adK adV) (hdg : decode cc pc = .ok (.dup2, 1)) (hk : Sd p l e R s m args below meth c QQ B A kA D nL len0 tot0 (pc + 1) k) : Sd p l e R s m args below meth c QQ B A kA D nL len0 tot0 pc (o_dup2 k) := by
  intro lo st h H ls locs cells slots fr q
  unfold o_dup2 at q
  split at q
  · rename_i v w st'
    split at q
    · rename_i hc
      rw [Bool.and_eq_true] at hc
      exact lv_dup2_11 hF.1 hF.2.1 hdg (trV_cat1 hc.1) (trV_cat1 hc.2) (hk lo (v :: w :: v :: w :: st') h H ls locs cells slots (fr.st (cons_ok (hd_ok fr.ok) (cons_ok (hd_ok (tl_ok fr.ok)) fr.ok))) q)
    · exact q.elim
  · exact q.elim
theorem s_pop (hF : FxC p s m c args cc nL own Ts D kA A B len0 adK adV) (hdg : decode cc pc = .ok (.pop, 1)) (hk : Sd p l e R s m args below meth c QQ B A kA D nL len0 tot0 (pc + 1) k) : Sd p l e R s m args below meth c QQ B A kA D nL len0 tot0 pc (o_pop k) := by
  intro lo st h H ls locs cells slots fr q
  unfold o_pop at q
  split at q
  · rename_i v st'
    split at q
    · rename_i hc
      exact lv_pop hF.1 hF.2.1 hdg (trV_cat1 hc) (hk lo st' h H ls locs cells slots (fr.st (tl_ok fr.ok)) q)
    · exact q.elim
  · exact q.elim
end SND
