/-! making objects and arrays; Math.max and min, arraycopy, Object's constructor -/
section MAKE
variable {p : Program} {l : Launch} {e : Env} {R : Room} {s : State} {m : MethodId} {args : Array Value} {below : List Frame} {meth : Method} {c : Code} {QQ : State → Prop} {B : Nat} {A : Nat → Option Nat} {kA : Nat → ClassId} {D : va_G} {cc : ByteArray} {nL : Nat} {own : String} {len0 tot0 : Nat} {Ts : List Cond} {pc : Nat} {k : Blk} {J : Jmp} {adK adV : Nat → Nat}
theorem wsO_alc {h : Mem} {ck n : Nat} : wsO B A kA (alc h ck n) = wsO B A kA h ++ [(B + h.1.length, cel A kA (alc h ck n) h.1.length (ck, n))] := by
  unfold wsO
  show (h.1 ++ [(ck, n)]).mapIdx _ = _
  rw [List.mapIdx_concat]
  congr 1
  apply List.ext_getElem?
  intro i
  simp only [List.getElem?_mapIdx]
  cases hi : h.1[i]? with
  | none => rfl
  | some q =>
    have hlt : i < h.1.length := (List.getElem?_eq_some_iff.mp hi).1
    have hne : ¬ i = h.1.length := by omega
    simp only [Option.map_some]
    congr 2
    simp [cel, fvs, fvV, gG, gR, alc, hne]
/-- what making a cell leaves of the frame -/
theorem frc_alc (hF : FxC p s m c args cc nL own Ts D kA A B len0 adK adV) {lo : Lo} {st : List MV} {h : Mem} {H : Heap} {ls : Array Slot} {locs : List Loc} {cells slots : Nat} (fr : FrC R s nL B A kA D len0 tot0 lo st h H ls locs cells slots) {ck n : Nat} {H1 : Heap} {st' : List MV} (hz : H.size = B + h.1.length) (ho : ∀ q, q < H.size → H1[q]? = H[q]?) (hz1 : H1.size = H.size + 1) (hat : va_at D vwCl (B + h.1.length, cel A kA (alc h ck n) h.1.length (ck, n)) H1) (hsh : (ck < 11 ∧ n = (ftys.getD ck []).length) ∨ (100 ≤ ck ∧ ck ≤ 106 ∧ n < 100000)) (hsm : h.1.length + 1 < 900000) (hrm : cells + 1 ≤ R.cells ∧ slots + n ≤ R.slots) (hv : ∀ w ∈ st', vok w) :
    FrC R s nL B A kA D len0 tot0 lo st' (alc h ck n) H1 ls locs (cells + 1) (slots + n) := by
  have hP : va_P D vwCl (wsO B A kA (alc h ck n)) H1 := by
    rw [wsO_alc]
    refine (fr.1.1.kept (fun k x hx => ho x.1 ((fr.1.1 k x hx).lt))).app (fun k x hx => ?_)
    have hk : k < 1 := (List.getElem?_eq_some_iff.mp hx).1
    rw [show k = 0 by omega] at hx
    cases hx
    exact hat
  have hD : va_D (fun q => B ≤ q) (wsO B A kA (alc h ck n)) := by
    rw [wsO_alc]
    exact fr.1.2.1.push fr.1.1 hz.symm (Nat.le_add_right _ _)
  refine ⟨⟨hP, hD, ?_, ?_, ?_⟩, ?_, fr.2.2.1, ⟨fr.2.2.2.1.1, hrm⟩, fr.2.2.2.2.1, hv, ?_, ?_⟩
  · show (h.1 ++ [(ck, n)]).length < 900000
    simp; omega
  · intro r q hq
    have hq : (h.1 ++ [(ck, n)])[r]? = some q := hq
    by_cases hlt : r < h.1.length
    · rw [List.getElem?_append_left hlt] at hq
      exact fr.1.2.2.2.1 r q hq
    · rw [List.getElem?_append_right (by omega)] at hq
      have hr : r - h.1.length < 1 := (List.getElem?_eq_some_iff.mp hq).1
      rw [show r - h.1.length = 0 by omega] at hq
      cases hq
      exact hsh
  · intro r q hq j
    have hq : (h.1 ++ [(ck, n)])[r]? = some q := hq
    show rngK q.1 j (if r = h.1.length then 0 else h.2.1 r j)
    by_cases hlt : r < h.1.length
    · rw [List.getElem?_append_left hlt] at hq
      rw [if_neg (by omega)]
      exact fr.1.2.2.2.2 r q hq j
    · have hr : r < (h.1 ++ [(ck, n)]).length := (List.getElem?_eq_some_iff.mp hq).1
      rw [if_pos (by simp at hr; omega)]
      unfold rngK
      split <;> exact ⟨by omega, by omega⟩
  · refine ⟨Nat.le_trans fr.2.1.1 (by omega), fun x h1 h2 => ?_, fr.2.1.2.2⟩
    rw [ho x (Nat.lt_of_lt_of_le h1 fr.2.1.1)]
    exact fr.2.1.2.1 x h1 h2
  · show (h.1 ++ [(ck, n)]).length = _
    simp; have := fr.2.2.2.2.2.2.1; omega
  · show totS (h.1 ++ [(ck, n)]) = _
    have := fr.2.2.2.2.2.2.2
    simp [totS] at this ⊢
    omega
theorem ft_small : ∀ c, c < 11 → ∀ k, k < NN c → (ftys.getD c []).getD k 0 ≤ 3 := by decide +kernel
theorem fvs_def {h : Mem} (hn : A 999999 = none) {ck : Nat} (hc : ck < 11) : ∀ j, j < NN ck → defaultValue (tyT ck j) = vp_V (fvs A (alc h ck (NN ck)) h.1.length ck) j := by
  intro j hj
  have hlen := ft_len ck hc
  have hlt : j < (ftys.getD ck []).length := by omega
  have ht : (ftys.getD ck [])[j]? = some ((ftys.getD ck [])[j]) := List.getElem?_eq_getElem hlt
  have hcd := ft_code ck hc j hj
  have hsm := ft_small ck hc j hj
  rw [List.getD_eq_getElem?_getD, ht, Option.getD_some] at hcd hsm
  unfold vp_V
  rw [List.getD_eq_getElem?_getD, fvs_at ht, Option.getD_some]
  generalize (ftys.getD ck [])[j] = t at hcd hsm ⊢
  generalize tyT ck j = ty at hcd ⊢
  cases ty <;> simp only [tcode] at hcd <;> first | (exfalso; omega) | (subst hcd; simp [fvV, gG, gR, alc, defaultValue, hn, va_rf])
theorem s_new (hF : FxC p s m c args cc nL own Ts D kA A B len0 adK adV) {S1 : List (Nat × Nat)} {idx ck n : Nat} (hc : ck < 11) (hn : n = NN ck) (hRc : S1.length ≤ len0 + R.cells) (hRs : totS S1 ≤ tot0 + R.slots) (hw1 : Cond.classLink own idx (RR ck) ∈ Ts) (hw2 : Cond.instantiable (RR ck) (NN ck) ∈ Ts) (hw3 : Cond.initialized (RR ck) ∈ Ts) (hlay : ∀ w ∈ u_ws (RR ck) (TT ck) (NN ck), w ∈ Ts)
    (hdg : decode cc pc = .ok (.new idx, 3)) (hk : Sd p l e R s m args below meth c QQ B A kA D nL len0 tot0 (pc + 3) k) : Sd p l e R s m args below meth c QQ B A kA D nL len0 tot0 pc (o_new S1 ck n k) := by
  intro lo st h H ls locs cells slots fr q
  subst hn
  obtain ⟨⟨q1, q2, q3⟩, q⟩ := q
  refine W_size hF fr (fun hz => ?_)
  have hts := hF.2.2.2.2.1
  have hKn := hF.2.2.2.2.2.1.1 ck _ (vw_at ck hc)
  have e1 := fr.2.2.2.2.2.2.1
  have e2 := fr.2.2.2.2.2.2.2
  refine W.newcK hF.1 hF.2.1 hF.2.2.2.1 (hts _ hw1) (hts _ hw2) (hts _ hw3) rfl hdg (by omega) (by omega) hKn.2.1 rfl (fun H1 kC hkC e1 z1 o1 => ?_)
  have hA : A h.1.length = some (B + h.1.length) := hF.2.2.2.2.2.2.2.1 _ fr.1.2.2.1
  have hw := hk lo (vR h.1.length :: st) (alc h ck (NN ck)) H1 ls locs (cells + 1) (slots + NN ck) (frc_alc hF fr hz o1 z1 ?_ (Or.inl ⟨hc, (ft_len ck hc).symm⟩) (by omega) ⟨by omega, by omega⟩ (cons_ok trivial fr.ok)) q
  · rw [List.map_cons, show trV A (vR h.1.length) = .ref H.size by simp [trV, va_rf, hA, hz]] at hw
    exact hw
  · rw [cel_obj (by omega), ← hz]
    exact ⟨_, vw_at ck hc, (u_born (tyT ck) hts hlay hKn hkC e1 (vw_ty ck hc)).to (fvs_def hF.2.2.2.2.2.2.2.2.1 hc)⟩
def kTy : Nat → FieldType
  | 100 => .int
  | 101 => .long
  | 102 => .byte
  | _ => .boolean
theorem s_newa (hF : FxC p s m c args cc nL own Ts D kA A B len0 adK adV) {S1 : List (Nat × Nat)} {kk : Nat} {at' : ArrayType} (hkk : (kk = 100 ∧ at' = .int) ∨ (kk = 101 ∧ at' = .long) ∨ (kk = 102 ∧ at' = .byte) ∨ (kk = 103 ∧ at' = .boolean)) (hRc : S1.length ≤ len0 + R.cells) (hRs : totS S1 ≤ tot0 + R.slots) (hw : Cond.arrayClass (kTy kk) ∈ Ts)
    (hdg : decode cc pc = .ok (.newarray at', 2)) (hk : Sd p l e R s m args below meth c QQ B A kA D nL len0 tot0 (pc + 2) k) : Sd p l e R s m args below meth c QQ B A kA D nL len0 tot0 pc (o_nea S1 kk k) := by
  intro lo st h H ls locs cells slots fr q
  unfold o_nea at q
  split at q
  · rename_i z st'
    obtain ⟨⟨hz0, hz1, q1, q2, q3⟩, q⟩ := q
    refine W_size hF fr (fun hz => ?_)
    have hzi : inI z := hd_ok fr.ok
    have hty : newarray.typeOf at' = kTy kk := by rcases hkk with ⟨rfl, rfl⟩ | ⟨rfl, rfl⟩ | ⟨rfl, rfl⟩ | ⟨rfl, rfl⟩ <;> rfl
    have e1 := fr.2.2.2.2.2.2.1
    have e2 := fr.2.2.2.2.2.2.2
    have hA : A h.1.length = some (B + h.1.length) := hF.2.2.2.2.2.2.2.1 _ fr.1.2.2.1
    refine va_newaK hF.1 hF.2.1 (atype := at') (by rw [hty]; exact hF.2.2.2.2.1 _ hw) rfl hdg (n := Int32.ofInt z) (N := z.toNat) rfl (fun q => by have := (i32_lt hzi inI_0).mp (i32_0 ▸ q); omega) (i32_clamp hzi hz0) ?_ (by omega) (by omega) rfl (fun H1 cA e3 z1 o1 hAr hNm => ?_)
    · have : componentBytes (newarray.typeOf at') ≤ 8 := by rcases hkk with ⟨rfl, rfl⟩ | ⟨rfl, rfl⟩ | ⟨rfl, rfl⟩ | ⟨rfl, rfl⟩ <;> decide
      have h8 : z.toNat * componentBytes (newarray.typeOf at') ≤ z.toNat * 8 := Nat.mul_le_mul_left _ this
      omega
    have hcA : cA = kA kk := by
      rw [hty] at hNm
      have hK := hF.2.2.2.2.2.1.2
      rcases hkk with ⟨rfl, rfl⟩ | ⟨rfl, rfl⟩ | ⟨rfl, rfl⟩ | ⟨rfl, rfl⟩
      · exact Option.some.inj (hNm.symm.trans (hK 0 _ rfl).2)
      · exact Option.some.inj (hNm.symm.trans (hK 1 _ rfl).2)
      · exact Option.some.inj (hNm.symm.trans (hK 2 _ rfl).2)
      · exact Option.some.inj (hNm.symm.trans (hK 3 _ rfl).2)
    have hw' := hk lo (vR h.1.length :: st') (alc h kk z.toNat) H1 ls locs (cells + 1) (slots + z.toNat) (frc_alc hF fr hz o1 z1 ?_ (Or.inr ⟨by omega, by omega, by omega⟩) (by omega) ⟨by omega, by omega⟩ (cons_ok trivial (tl_ok fr.ok))) q
    · rw [List.map_cons, show trV A (vR h.1.length) = .ref H.size by simp [trV, va_rf, hA, hz]] at hw'
      exact hw'
    · subst hcA
      rw [← hz]
      rcases hkk with ⟨rfl, rfl⟩ | ⟨rfl, rfl⟩ | ⟨rfl, rfl⟩ | ⟨rfl, rfl⟩
      · rw [cel_i (Or.inl rfl)]
        show H1[H.size]? = some (vp_cell _ _)
        rw [e3, vp_cell_i]
        simp [gG, alc, defaultValue, newarray.typeOf]
      · rw [cel_l]
        show H1[H.size]? = some (vp_cell _ _)
        rw [e3, vp_cell_l]
        simp [gG, alc, defaultValue, newarray.typeOf]
      · rw [cel_i (Or.inr (Or.inl rfl))]
        show H1[H.size]? = some (vp_cell _ _)
        rw [e3, vp_cell_i]
        simp [gG, alc, defaultValue, newarray.typeOf]
      · rw [cel_i (Or.inr (Or.inr rfl))]
        show H1[H.size]? = some (vp_cell _ _)
        rw [e3, vp_cell_i]
        simp [gG, alc, defaultValue, newarray.typeOf]
  · exact q.elim
theorem s_anew (hF : FxC p s m c args cc nL own Ts D kA A B len0 adK adV) {S1 : List (Nat × Nat)} {idx kk : Nat} (hkk : kk = 104 ∨ kk = 105 ∨ kk = 106) (hRc : S1.length ≤ len0 + R.cells) (hRs : totS S1 ≤ tot0 + R.slots) (hw : Cond.classLink own idx (kC kk) ∈ Ts)
    (hdg : decode cc pc = .ok (.anewarray idx, 3)) (hk : Sd p l e R s m args below meth c QQ B A kA D nL len0 tot0 (pc + 3) k) : Sd p l e R s m args below meth c QQ B A kA D nL len0 tot0 pc (o_nea S1 kk k) := by
  intro lo st h H ls locs cells slots fr q
  unfold o_nea at q
  split at q
  · rename_i z st'
    obtain ⟨⟨hz0, hz1, q1, q2, q3⟩, q⟩ := q
    refine W_size hF fr (fun hz => ?_)
    have hzi : inI z := hd_ok fr.ok
    have e1 := fr.2.2.2.2.2.2.1
    have e2 := fr.2.2.2.2.2.2.2
    have hcl := i32_clamp hzi hz0
    have hA : A h.1.length = some (B + h.1.length) := hF.2.2.2.2.2.2.2.1 _ fr.1.2.2.1
    have hX := hF.2.2.2.2.2.2.2.2.2.2.2
    have hov : va_AO (kC kk) s := by
      rcases hkk with rfl | rfl | rfl
      · exact hX.1
      · exact hX.2.1
      · exact hX.2.2.1
    refine W.anew hF.1 hF.2.1 hF.2.2.2.1 (hF.2.2.2.2.1 _ hw) (va_AO.use hov) rfl hdg (n := Int32.ofInt z) rfl (fun q => by have := (i32_lt hzi inI_0).mp (i32_0 ▸ q); omega) (by rw [hcl]; omega) (by omega) (by rw [hcl]; omega) (fun cA kAc comp f1 f2 f3 f4 => ?_)
    rw [hcl]
    generalize hH1 : H.push ({ cls := cA, slots := Array.replicate z.toNat .null, vm := .none } : Cell) = H1
    have z1 : H1.size = H.size + 1 := by rw [← hH1, Array.size_push]
    have o1 : ∀ q : Nat, q < H.size → H1[q]? = H[q]? := fun q hq => by rw [← hH1, Array.getElem?_push, if_neg (Nat.ne_of_lt hq)]
    have e3 : H1[H.size]? = some (arrV cA z.toNat (fun _ => .null)) := by rw [← hH1, Array.getElem?_push_size, ← arrV_new]
    have hcA : cA = kA kk := by
      have hK := hF.2.2.2.2.2.1.2
      rcases hkk with rfl | rfl | rfl
      · obtain ⟨_, _, _, _, _, g⟩ := (hK 4 _ rfl).2
        exact Option.some.inj (f1.symm.trans g)
      · obtain ⟨_, _, _, _, _, g⟩ := (hK 5 _ rfl).2
        exact Option.some.inj (f1.symm.trans g)
      · obtain ⟨_, _, _, _, _, g⟩ := (hK 6 _ rfl).2
        exact Option.some.inj (f1.symm.trans g)
    have hw' := hk lo (vR h.1.length :: st') (alc h kk z.toNat) H1 ls locs (cells + 1) (slots + z.toNat) (frc_alc hF fr hz o1 z1 ?_ (Or.inr ⟨by omega, by omega, by omega⟩) (by omega) ⟨by omega, by omega⟩ (cons_ok trivial (tl_ok fr.ok))) q
    · rw [List.map_cons, show trV A (vR h.1.length) = .ref H.size by simp [trV, va_rf, hA, hz]] at hw'
      exact hw'
    · subst hcA
      rw [← hz, cel_q (by omega)]
      show H1[H.size]? = some (vp_cell _ _)
      rw [e3, vp_cell_q]
      simp [gR, alc, hF.2.2.2.2.2.2.2.2.1, va_rf]
  · exact q.elim
theorem cat_le {st : List MV} : ((st.map (trV A)).map fun v => v.category).sum ≤ 2 * st.length := by
  induction st with
  | nil => simp
  | cons v st ih =>
    have : (trV A v).category ≤ 2 := by rcases lv_cat (trV A v) with h | h <;> omega
    simp only [List.map_cons, List.sum_cons, List.length_cons]
    omega
theorem s_oin (hF : FxC p s m c args cc nL own Ts D kA A B len0 adK adV) (hRf : 1 ≤ R.frames) (hRl : 100 ≤ R.locals) {idx : Nat} (hw1 : Cond.methodLink own idx Lib.objectInit ∈ Ts) (hw2 : Cond.instanceMethod Lib.objectInit ∈ Ts) (hw3 : Cond.code Lib.objectInit ⟨#[0xb1]⟩ 1 none ∈ Ts) (hdg : decode cc pc = .ok (.invokespecial idx, 3)) (hk : Sd p l e R s m args below meth c QQ B A kA D nL len0 tot0 (pc + 3) k) : Sd p l e R s m args below meth c QQ B A kA D nL len0 tot0 pc (o_oin k) := by
  intro lo st h H ls locs cells slots fr q
  unfold o_oin at q
  split at q
  · rename_i r st'
    obtain ⟨⟨hkd, hl⟩, q⟩ := q
    obtain ⟨n, hr, -⟩ := kd_some (k := kd h r) rfl (by omega)
    have hA : A r = some (B + r) := hF.2.2.2.2.2.2.2.1 r (fr.1.lt hr)
    have hts := hF.2.2.2.2.1
    have hc := cat_le (A := A) (st := st')
    rw [List.map_cons, show trV A (Sum.inr (Sum.inr r)) = .ref (B + r) by simp [trV, va_rf, hA]]
    refine W.objInit hF.1 hF.2.1 hF.2.2.2.1 (hts _ hw1) (hts _ hw2) (hts _ hw3) rfl (fr.2.2.1.1.trans hF.2.2.1.symm) rfl hdg hRf (by show 2 * 0 + _ + 12 ≤ _; omega) (hk lo st' h H ls locs cells slots (fr.st (tl_ok fr.ok)) q)
  · exact q.elim
theorem i32_min {a b : Int} (ha : inI a) (hb : inI b) : (if Int32.ofInt b < Int32.ofInt a then Int32.ofInt b else Int32.ofInt a) = Int32.ofInt (min a b) := by
  by_cases h : b < a
  · rw [if_pos ((i32_lt hb ha).mpr h), show min a b = b by omega]
  · rw [if_neg (fun q => h ((i32_lt hb ha).mp q)), show min a b = a by omega]
theorem s_max (hF : FxC p s m c args cc nL own Ts D kA A B len0 adK adV) (hRf : 1 ≤ R.frames) (hRl : 100 ≤ R.locals) (hRc : ∀ lo st h H ls locs cells slots, FrC R s nL B A kA D len0 tot0 lo st h H ls locs cells slots → cells ≤ R.cells ∧ slots ≤ R.slots) {idx : Nat} (hw1 : Cond.methodLink own idx Lib.Math.max.name ∈ Ts) (hw2 : Cond.static Lib.Math.max.name ∈ Ts) (hw3 : Cond.initialized "java/lang/Math" ∈ Ts) (hw4 : Cond.code Lib.Math.max.name Lib.Math.max.code 2 (some .int) ∈ Ts) (hdg : decode cc pc = .ok (.invokestatic idx, 3)) (hk : Sd p l e R s m args below meth c QQ B A kA D nL len0 tot0 (pc + 3) k) : Sd p l e R s m args below meth c QQ B A kA D nL len0 tot0 pc (o_mx max k) := by
  intro lo st h H ls locs cells slots fr q
  unfold o_mx at q
  split at q
  · rename_i b a st'
    obtain ⟨hl, q⟩ := q
    have hb : inI b := hd_ok fr.ok
    have ha : inI a := hd_ok (tl_ok fr.ok)
    have hts := hF.2.2.2.2.1
    have hc := cat_le (A := A) (st := st')
    have hrc := hRc _ _ _ _ _ _ _ _ fr
    refine va_mmax hF.1 hF.2.1 (hF.2.2.1.trans fr.2.2.1.1.symm) hF.2.2.2.1 (hts _ hw1) (hts _ hw2) (hts _ hw3) (hts _ hw4) hRf (by omega) hrc.1 hrc.2 hdg ?_
    rw [i32_max ha hb]
    exact hk lo (vI (max a b) :: st') h H ls locs cells slots (fr.st (cons_ok (by have := ha.1; have := ha.2; have := hb.1; have := hb.2; exact ⟨by omega, by omega⟩) (tl_ok (tl_ok fr.ok)))) q
  · exact q.elim
theorem s_min (hF : FxC p s m c args cc nL own Ts D kA A B len0 adK adV) (hRf : 1 ≤ R.frames) (hRl : 100 ≤ R.locals) (hRc : ∀ lo st h H ls locs cells slots, FrC R s nL B A kA D len0 tot0 lo st h H ls locs cells slots → cells ≤ R.cells ∧ slots ≤ R.slots) {idx : Nat} (hw1 : Cond.methodLink own idx Lib.Math.min.name ∈ Ts) (hw2 : Cond.static Lib.Math.min.name ∈ Ts) (hw3 : Cond.initialized "java/lang/Math" ∈ Ts) (hw4 : Cond.code Lib.Math.min.name Lib.Math.min.code 2 (some .int) ∈ Ts) (hdg : decode cc pc = .ok (.invokestatic idx, 3)) (hk : Sd p l e R s m args below meth c QQ B A kA D nL len0 tot0 (pc + 3) k) : Sd p l e R s m args below meth c QQ B A kA D nL len0 tot0 pc (o_mx min k) := by
  intro lo st h H ls locs cells slots fr q
  unfold o_mx at q
  split at q
  · rename_i b a st'
    obtain ⟨hl, q⟩ := q
    have hb : inI b := hd_ok fr.ok
    have ha : inI a := hd_ok (tl_ok fr.ok)
    have hts := hF.2.2.2.2.1
    have hc := cat_le (A := A) (st := st')
    have hrc := hRc _ _ _ _ _ _ _ _ fr
    refine va_mmin hF.1 hF.2.1 (hF.2.2.1.trans fr.2.2.1.1.symm) hF.2.2.2.1 (hts _ hw1) (hts _ hw2) (hts _ hw3) (hts _ hw4) hRf (by omega) hrc.1 hrc.2 hdg ?_
    rw [i32_min ha hb]
    exact hk lo (vI (min a b) :: st') h H ls locs cells slots (fr.st (cons_ok (by have := ha.1; have := ha.2; have := hb.1; have := hb.2; exact ⟨by omega, by omega⟩) (tl_ok (tl_ok fr.ok)))) q
  · exact q.elim
end MAKE
