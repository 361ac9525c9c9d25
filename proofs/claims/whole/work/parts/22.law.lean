/-! THE CLAIM OUT OF ONE WALK OF THE LAW'S BODY. Your part is whole_start (and what it stands on); all else here is the same for every law, but numbers. -/
def R_law : String := "LeapArchesLaw"
def lw_P (b : Addr) (xs : List Int32) (args : Array Value) (s : State) : Prop := args = #[.ref b] ∧ s.IntsAt b xs ∧ xs.length ≤ 3072 ∧ (Jvm.Cond.and given_1 narrow_1).before args s = true
def lw_Q (_ : Array Value) (s : State) (o : Outcome) (t : State) : Prop := o = .returned (some (.int 1)) ∧ Framed s o t [] 600000 7302250
def lw_Z (below : List Frame) (a : Array Value) (s : State) : State → Prop := fun t => ∃ o, t.status = .running ∧ Ended t below o ∧ lw_Q a s o t
/-- the law's own end, with 1 on the stack, nothing written that was there before, its room as the claim has it -/
theorem lw_ret {p : Program} {l : Launch} {e : Env} {s : State} {m : MethodId} {below : List Frame} {meth : Method} {c : Code} {b : Nat} (hx : p.tables.exec = Jvm.exec) (hb : c.code = code) (hr : meth.sig.returnType = ret) (hlocks : meth.locks = false) {pc : Nat} {H : Heap} {ls : Array Slot} (hdg : decode code pc = .ok (.ireturn, 1)) : W p l e room_1 s m #[Value.ref b] below meth c H [] 600000 7302250 (lw_Z below #[Value.ref b] s) (F0 m pc ls [.int 1]) := by
  intro T hT X
  obtain ⟨fs, hret, hrun, hended, hW, hframe⟩ := X.leave (v := some (.int 1)) (hlocks := hlocks) (fun h => by rw [hr] at h; cases h)
  have hmeth' : T.vm.method? m = some meth := X.method'
  refine ⟨T.setFrames fs, ?_, .returned (some (.int 1)), hrun, hended, rfl, ⟨_, rfl⟩, hW, hframe⟩
  jvm_step X.here [X.here.top, hx, hb, hdg, hmeth', hr, ret, narrow_b1]
  (try refine ⟨rfl, ?_⟩); (try refine ⟨rfl, ?_⟩)
  first | (intro acts; rw [hret _ acts rfl rfl rfl]) | rw [hret _ _ rfl rfl rfl]
  exact Steps.refl _
/-- what holds at the law's entry: the machine, the code, the tables' words (any of lw_tbl by 'hts w (by decide +kernel)'), the script of L ints xs at the cell b, what the Statement gives of the start (any of its parts by flat_of_before) -/
def lw_At (p : Program) (s : State) (m : MethodId) (meth : Method) (c : Code) (b L : Nat) (xs : Nat → Int32) : Prop :=
  p.tables.exec = Jvm.exec ∧ c.code = code ∧ meth.sig.returnType = ret ∧ c.maxLocals = 4 ∧ s.vm.findClass R_law = some m.cls ∧ (∀ w ∈ lw_tbl, w.before #[Value.ref b] s = true) ∧ va_X b L xs s s.heap ∧ b < s.heap.size ∧ meth.locks = false ∧ (Jvm.Cond.and given_1 narrow_1).before #[Value.ref b] s = true
/-- what is to be shown of the model: the law answers 1 -/
def LawOk : Prop := ∀ (X : Int → Int) (XL : Int), 0 ≤ XL → XL ≤ 3072 → (∀ i, inI (X i)) → WP X XL 41 353 [vR 900000] ([], fun _ _ => 0, fun _ _ => 999999) (fun r _ => r = some (vI 1))
theorem flat_at {args : Array Value} {s : State} (h : (Jvm.Cond.and given_1 narrow_1).before args s = true) {i : Nat} {w : Cond} (hi : (flatC (Jvm.Cond.and given_1 narrow_1))[i]? = some w) : w.before args s = true := flat_of_before _ h w (List.mem_of_getElem? hi)
def tmS (i : Nat) : Term := if i = 0 then .string "LeapArches$Text" 82 else .string "LeapArchesModel" 181
set_option maxRecDepth 100000 in
theorem fl_str : ∀ i, i < 2 → (flatC (Jvm.Cond.and given_1 narrow_1))[42 + 127 * i]? = some (Cond.exactly (tmS i) "java/lang/String") ∧ (flatC (Jvm.Cond.and given_1 narrow_1))[43 + 127 * i]? = some (Cond.eq (.field (tmS i) "java/lang/String" "coder" "B") (.int 0)) ∧ (flatC (Jvm.Cond.and given_1 narrow_1))[44 + 127 * i]? = some (Cond.arrayOf (.field (tmS i) "java/lang/String" "value" "[B") .byte) ∧ (flatC (Jvm.Cond.and given_1 narrow_1))[45 + 127 * i]? = some (Cond.eq (.length (.field (tmS i) "java/lang/String" "value" "[B")) (.int (Int32.ofNat (([st0.length, st1.length] : List Nat).getD i 0)))) := by decide +kernel
set_option maxRecDepth 100000 in
theorem fl_el : ∀ i, i < 2 → ∀ j, j < (([st0.length, st1.length] : List Nat).getD i 0) → (flatC (Jvm.Cond.and given_1 narrow_1))[46 + 127 * i + j]? = some (Cond.eq (.elem (.field (tmS i) "java/lang/String" "value" "[B") (.int (Int32.ofNat j))) (.int ((([st0.map Int32.ofInt, st1.map Int32.ofInt] : List (List Int32)).getD i []).getD j 0))) := by decide +kernel
theorem fl_ne : (flatC (Jvm.Cond.and given_1 narrow_1))[297]? = some (Cond.not (Cond.eq (tmS 0) (tmS 1))) := by decide +kernel
theorem fl_cs : (flatC (Jvm.Cond.and given_1 narrow_1))[4]? = some (Cond.eq (.static "java/lang/String" "COMPACT_STRINGS" "Z") (.int 1)) := by decide +kernel
theorem fl_sf : (flatC (Jvm.Cond.and given_1 narrow_1))[5]? = some (Cond.isRef (.static "jdk/internal/util/Preconditions" "SIOOBE_FORMATTER" "Ljava/util/function/BiFunction;")) := by decide +kernel
set_option maxHeartbeats 4000000 in
theorem law_start (hLaw : LawOk) {p : Program} {e : Env} {s : State} {m : MethodId} {below : List Frame} {meth : Method} {c : Code} (l : Launch) {b L : Nat} {xs : Nat → Int32} (hL : L ≤ 3072) (C0 : lw_At p s m meth c b L xs) : W p l e room_1 s m #[Value.ref b] below meth c s.heap [] 0 0 (lw_Z below #[Value.ref b] s) (entryFrame m ([Value.ref b] : List Value).toArray 4) := by
  obtain ⟨hx, hb, hr, hml, hown, hts, hXs, hbl, hlocks, hgv⟩ := C0
  have hAW : ∀ w ∈ AW, w.before #[Value.ref b] s = true := fun w h => hts w (AW_tbl w h)
  have hcls : ∀ c : Nat, ∃ q : ClassId × (Nat → Nat), c < 11 → u_Kn s (RR c) (TT c) (NN c) q.1 q.2 := by
    intro c
    by_cases hc : c < 11
    · obtain ⟨cC, iS, h⟩ := u_known (T := TT c) (N := NN c) hAW (AW_lay hc) (hAW _ (AW_ins hc))
      exact ⟨(cC, iS), fun _ => h⟩
    · exact ⟨(0, fun _ => 0), fun h => absurd h hc⟩
  obtain ⟨Dq, hDq⟩ := Classical.skolem.mp hcls
  have hao6 : va_AO RX6 s := va_AO.of (hts _ (t_1 (i := 29) (by decide +kernel)))
  have hao7 : va_AO RX7 s := va_AO.of (hts _ (t_2 (i := 68) (by decide +kernel)))
  have hao3 : va_AO RX3 s := va_AO.of (hts _ (t_2 (i := 69) (by decide +kernel)))
  have harr : ∀ k : Nat, ∃ cA : ClassId, (k = 100 ∨ k = 101 ∨ k = 102 ∨ k = 103 → ArrOfT s cA (kTy k) ∧ va_RA s cA (kTy k)) ∧ (k = 104 ∨ k = 105 ∨ k = 106 → ArrOfT s cA (.object (kC k)) ∧ va_RA s cA (.object (kC k))) := by
    intro k
    by_cases h1 : k = 100 ∨ k = 101 ∨ k = 102 ∨ k = 103
    · have hw : (Cond.arrayClass (kTy k)).before #[Value.ref b] s = true := by
        refine hAW _ (AW_o (List.mem_append_right _ ?_))
        rcases h1 with rfl | rfl | rfl | rfl <;> simp [kTy]
      obtain ⟨cA, kk, comp, f1, f2, f3⟩ := Cond.arrayClass_spec hw
      refine ⟨cA, fun _ => ⟨fun N z => ⟨(fun k h => by cases h), kk, f2, comp, f3⟩, ?_⟩, fun h => by omega⟩
      rcases h1 with rfl | rfl | rfl | rfl <;> exact f1
    · by_cases h2 : k = 104 ∨ k = 105 ∨ k = 106
      · have hov : va_AO (kC k) s := by
          rcases h2 with rfl | rfl | rfl
          · exact hao6
          · exact hao7
          · exact hao3
        obtain ⟨comp, cA, kk, g1, -, g3, g4, g5⟩ := Cond.arrayOver_spec (va_AO.use (A := #[Value.ref b]) hov)
        exact ⟨cA, fun h => absurd h h1, fun _ => ⟨fun N z => ⟨(fun k h => by cases h), kk, g3, comp, g4⟩, kk, comp, g3, g4, g1, g5⟩⟩
      · exact ⟨0, fun h => absurd h h1, fun h => absurd h h2⟩
  obtain ⟨kA, hkA⟩ := Classical.skolem.mp harr
  have hK : va_K ((fun c => (Dq c).1, fun c => (Dq c).2) : va_G) vwCl (tys7 kA) s := by
    refine ⟨fun c q hq => ?_, fun k q hq => ?_⟩
    · have hc : c < 11 := (List.getElem?_eq_some_iff.mp hq).1
      have := vw_at c hc
      rw [hq] at this
      cases this
      exact hDq c hc
    · have hk : k < 7 := (List.getElem?_eq_some_iff.mp hq).1
      rcases (show k = 0 ∨ k = 1 ∨ k = 2 ∨ k = 3 ∨ k = 4 ∨ k = 5 ∨ k = 6 by omega) with rfl | rfl | rfl | rfl | rfl | rfl | rfl <;> cases hq
      · exact (hkA 100).1 (by omega)
      · exact (hkA 101).1 (by omega)
      · exact (hkA 102).1 (by omega)
      · exact (hkA 103).1 (by omega)
      · exact (hkA 104).2 (by omega)
      · exact (hkA 105).2 (by omega)
      · exact (hkA 106).2 (by omega)
  have hnA : ∀ a : Nat, a < s.heap.size → ¬ (fun q => s.heap.size ≤ q) a := fun a h => Nat.not_le.mpr h
  obtain ⟨adK, adV, hS, hev⟩ := vk_Sof (args := #[Value.ref b]) (s := s) (N := 2) (tm := tmS) (len := [st0.length, st1.length]) (byt := [st0.map Int32.ofInt, st1.map Int32.ofInt]) (A := fun q => s.heap.size ≤ q) (by decide +kernel) (fun i hi => flat_at hgv (fl_str i hi).1) (fun i hi => flat_at hgv (fl_str i hi).2.1) (fun i hi => flat_at hgv (fl_str i hi).2.2.1) (fun i hi => flat_at hgv (fl_str i hi).2.2.2) (fun i hi j hj => flat_at hgv (fl_el i hi j hj)) (fun i j hi hj hne => by
      rcases (show (i = 0 ∧ j = 1) ∨ (i = 1 ∧ j = 0) by omega) with ⟨rfl, rfl⟩ | ⟨rfl, rfl⟩
      · exact Or.inl (flat_at hgv fl_ne)
      · exact Or.inr (flat_at hgv fl_ne)) hnA
  have hXk : Xk adK adV s.heap.size s := ⟨hao6, hao7, hao3, va_Nw.of rfl (hts _ (t_3 (i := 160) (by decide +kernel))), va_Nw.of rfl (hts _ (t_4 (i := 162) (by decide +kernel))), va_Nw.of rfl (hts _ (t_5 (i := 58) (by decide +kernel))), vk_R.of (hts _ (t_3 (i := 89) (by decide +kernel))) (hev 0 (by omega)), vk_R.of (hts _ (t_7 (i := 50) (by decide +kernel))) (hev 1 (by omega)), hS, va_Zof (hts _ (t_3 (i := 99) (by decide +kernel))) (hts _ (t_1 (i := 15) (by decide +kernel))) (va_eqi (flat_at hgv fl_cs)) hnA, va_Zqof (hts _ (t_3 (i := 115) (by decide +kernel))) (hts _ (t_1 (i := 17) (by decide +kernel))) (flat_at hgv fl_sf) hnA⟩
  obtain ⟨A, hAd⟩ : ∃ A : Nat → Option Nat, A = fun r => if r = 900000 then some b else if r = 900001 then some (adK 0) else if r = 900002 then some (adK 1) else if r = 999999 then none else some (s.heap.size + r) := ⟨_, rfl⟩
  have hAr : ∀ r, r < 900000 → A r = some (s.heap.size + r) := by
    intro r h
    rw [hAd]
    simp only
    rw [if_neg (by omega), if_neg (by omega), if_neg (by omega), if_neg (by omega)]
  have hAn : A 999999 = none := by rw [hAd]; rfl
  have hA0 : A 900000 = some b := by rw [hAd]; rfl
  have hA1 : A 900001 = some (adK 0) := by rw [hAd]; rfl
  have hA2 : A 900002 = some (adK 1) := by rw [hAd]; rfl
  have hF : FxC p s m c #[Value.ref b] code 4 (ON 11) AW ((fun c => (Dq c).1, fun c => (Dq c).2) : va_G) kA A s.heap.size 0 adK adV := ⟨hx, hb, hml, hown, hAW, hK, rfl, hAr, hAn, hA1, hA2, hXk⟩
  have hq := hLaw (fun i => (xs i.toNat).toInt) (L : Int) (by omega) (by omega) (fun i => i32_in _)
  unfold WP at hq
  rw [if_pos (by omega)] at hq
  obtain ⟨-, hq⟩ := hq
  rw [lg_entry_eq]
  have hl := lv_entry ([Value.ref b]) (n := 4) (Nat.le_of_ble_eq_true rfl)
  generalize (lg_sl ([Value.ref b]) ++ List.replicate (4 - (lg_sl ([Value.ref b])).length) Slot.unset).toArray = ls at hl ⊢
  have fr : FrC room_1 s 4 s.heap.size A kA ((fun c => (Dq c).1, fun c => (Dq c).2) : va_G) 0 0 (entL [vR 900000] 4) [] ([], fun _ _ => 0, fun _ _ => 999999) s.heap ls [] 0 0 := by
    refine ⟨⟨(fun k q h => by cases h), ⟨fun i j p q h => (by cases h), fun k q h => (by cases h)⟩, by decide, fun r q h => (by cases h), fun r q h => (by cases h)⟩, va_S.rf, ⟨hl.1, hl.2.1, fun q hq => ?_⟩, ⟨rfl, Nat.zero_le _, Nat.zero_le _⟩, fun i v hn => ?_, (fun v hv => absurd hv List.not_mem_nil), rfl, rfl⟩
    · have := prs_ent (A := A) 3 [vR 900000] 0 q hq
      simp only [List.map_cons, List.map_nil, trV, hA0, va_rf] at this
      exact hl.2.2 q this
    · exact ent_ok (as := [vR 900000]) (fun v hv => by rw [List.mem_singleton.mp hv]; trivial) hn
  have hC := met_all (l := l) (kA := kA) (adV := adV) (D := ((fun c => (Dq c).1, fun c => (Dq c).2) : va_G)) (X := fun i => (xs i.toNat).toInt) (XL := (L : Int)) hAr hAn hA1 hA2 yk_all ck_all nk_all (fun d => str_snd d) 40
  refine ex_snd (S1 := growM 353) (o := 11) (ctor := false) (rb := 1) (d := 40) hF (by omega) (fun w h => h) yk_all (by decide) (by decide) (by decide +kernel) (by decide +kernel) (fun h => by cases h) hC ?_ ?_ ?_ (fun h => by omega) (fun h => by omega) (K := KL_law) ?_ fr hq
  · intro idx y n pc k hm hyn
    exfalso
    have : ∀ q ∈ mTab 11, ¬ (q.2 = 1005 ∨ q.2 = 1006) := by decide +kernel
    exact this _ hm (by rcases hyn with ⟨rfl, _⟩ | ⟨rfl, _⟩ <;> simp)
  · intro _ pc k hk
    refine ⟨fun hdg lo st h H ls locs cells slots fr q => ?_, fun hdg lo st h H ls locs cells slots fr q => ?_⟩
    · dsimp only at q
      split at q
      · rename_i i st'
        obtain ⟨q, -⟩ := q
        have q : (0 ≤ i ∧ i < (L : Int)) ∧ k lo (vI ((xs i.toNat).toInt) :: st') h := q.2
        obtain ⟨⟨h0, h1⟩, q⟩ := q
        have hi : inI i := hd_ok fr.ok
        have hw := hk lo (vI ((xs i.toNat).toInt) :: st') h H ls locs cells slots (fr.st (cons_ok (i32_in _) (tl_ok (tl_ok fr.ok)))) q
        rw [List.map_cons, List.map_cons, show trV A (Sum.inr (Sum.inr 900000)) = .ref b by simp [trV, va_rf, hA0]]
        refine va_sld hx hb hXs hbl (Nat.not_le.mpr hbl) fr.2.1 (i32_vin hi h0 h1) hdg ?_
        rw [i32_clamp hi h0, ← i32_oi (xs i.toNat)]
        exact hw
      · exact q.elim
    · dsimp only at q
      split at q
      · rename_i st'
        obtain ⟨q, -⟩ := q
        have q : k lo (vI (L : Int) :: st') h := q.2
        have hw := hk lo (vI (L : Int) :: st') h H ls locs cells slots (fr.st (cons_ok ⟨by omega, by omega⟩ (tl_ok fr.ok))) q
        rw [List.map_cons, show trV A (Sum.inr (Sum.inr 900000)) = .ref b by simp [trV, va_rf, hA0]]
        exact va_slen hx hb hXs hbl (Nat.not_le.mpr hbl) fr.2.1 hdg hw
      · exact q.elim
  · intro _ pc hdg lo st h H ls locs cells slots fr q
    unfold o_iret at q
    split at q
    · rename_i z
      obtain ⟨_, q⟩ := q
      have e : z = 1 := by
        have := Option.some.inj q
        exact Sum.inl.inj this
      subst e
      refine va_forget (fun q hq => fr.2.1.2.2 q hq) ?_
      refine W.widen (k := 600000) (n := 7302250) fr.2.2.2.1.2.1 fr.2.2.2.1.2.2 ?_
      exact lw_ret hx hb hr hlocks hdg
    · exact q.elim
  · sorry
