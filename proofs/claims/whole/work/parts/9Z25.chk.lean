/-! the law's own instructions, two blocks at a time -/
def lawC (q : Nat × List OpI) : Bool := chkO 11 false 1 4 code q.1 q.2
set_option maxRecDepth 100000 in
theorem lk_0 : ((KL_law.drop 0).take 2).all lawC = true := by decide +kernel
set_option maxRecDepth 100000 in
theorem lk_1 : ((KL_law.drop 2).take 2).all lawC = true := by decide +kernel
set_option maxRecDepth 100000 in
theorem lk_2 : ((KL_law.drop 4).take 2).all lawC = true := by decide +kernel
set_option maxRecDepth 100000 in
theorem lk_3 : ((KL_law.drop 6).take 2).all lawC = true := by decide +kernel
set_option maxRecDepth 100000 in
theorem lk_4 : ((KL_law.drop 8).take 2).all lawC = true := by decide +kernel
set_option maxRecDepth 100000 in
theorem lk_5 : ((KL_law.drop 10).take 2).all lawC = true := by decide +kernel
set_option maxRecDepth 100000 in
theorem lk_6 : ((KL_law.drop 12).take 2).all lawC = true := by decide +kernel
set_option maxRecDepth 100000 in
theorem lk_7 : ((KL_law.drop 14).take 2).all lawC = true := by decide +kernel
set_option maxRecDepth 100000 in
theorem lk_8 : ((KL_law.drop 16).take 2).all lawC = true := by decide +kernel
set_option maxRecDepth 100000 in
theorem lk_9 : ((KL_law.drop 18).take 2).all lawC = true := by decide +kernel
set_option maxRecDepth 100000 in
theorem lk_10 : ((KL_law.drop 20).take 2).all lawC = true := by decide +kernel
set_option maxRecDepth 100000 in
theorem lk_11 : ((KL_law.drop 22).take 2).all lawC = true := by decide +kernel
set_option maxRecDepth 100000 in
theorem lk_12 : ((KL_law.drop 24).take 2).all lawC = true := by decide +kernel
set_option maxRecDepth 100000 in
theorem lk_13 : ((KL_law.drop 26).take 2).all lawC = true := by decide +kernel
set_option maxRecDepth 100000 in
theorem lk_14 : ((KL_law.drop 28).take 2).all lawC = true := by decide +kernel
set_option maxRecDepth 100000 in
theorem lk_15 : ((KL_law.drop 30).take 2).all lawC = true := by decide +kernel
set_option maxRecDepth 100000 in
theorem lk_16 : ((KL_law.drop 32).take 2).all lawC = true := by decide +kernel
set_option maxRecDepth 100000 in
theorem lk_17 : ((KL_law.drop 34).take 2).all lawC = true := by decide +kernel
set_option maxRecDepth 100000 in
theorem lk_18 : ((KL_law.drop 36).take 2).all lawC = true := by decide +kernel
set_option maxRecDepth 100000 in
theorem lk_19 : ((KL_law.drop 38).take 2).all lawC = true := by decide +kernel
set_option maxRecDepth 100000 in
theorem lk_20 : ((KL_law.drop 40).take 2).all lawC = true := by decide +kernel
set_option maxRecDepth 100000 in
theorem lk_21 : ((KL_law.drop 42).take 2).all lawC = true := by decide +kernel
set_option maxRecDepth 100000 in
theorem lk_22 : ((KL_law.drop 44).take 2).all lawC = true := by decide +kernel
set_option maxRecDepth 100000 in
theorem lk_23 : ((KL_law.drop 46).take 2).all lawC = true := by decide +kernel
set_option maxRecDepth 100000 in
theorem lk_24 : ((KL_law.drop 48).take 2).all lawC = true := by decide +kernel
set_option maxRecDepth 100000 in
theorem lk_25 : ((KL_law.drop 50).take 2).all lawC = true := by decide +kernel
set_option maxRecDepth 100000 in
theorem lk_26 : ((KL_law.drop 52).take 2).all lawC = true := by decide +kernel
set_option maxRecDepth 100000 in
theorem lk_27 : ((KL_law.drop 54).take 2).all lawC = true := by decide +kernel
set_option maxRecDepth 100000 in
theorem lk_28 : ((KL_law.drop 56).take 2).all lawC = true := by decide +kernel
set_option maxRecDepth 100000 in
theorem lk_29 : ((KL_law.drop 58).take 2).all lawC = true := by decide +kernel
theorem law_len : KL_law.length ≤ 60 := by decide +kernel
theorem law_at {i k : Nat} {q : Nat × List OpI} (h : ((KL_law.drop k).take 2).all lawC = true) (hi : KL_law[i]? = some q) (h1 : k ≤ i) (h2 : i < k + 2) : lawC q = true := by
  refine List.all_eq_true.mp h q (List.mem_of_getElem? (i := i - k) ?_)
  rw [List.getElem?_take, if_pos (by omega), List.getElem?_drop, show k + (i - k) = i by omega]
  exact hi
theorem law_chk : ∀ q ∈ KL_law, chkO 11 false 1 4 code q.1 q.2 = true := by
  intro q hq
  obtain ⟨i, hi⟩ := List.getElem?_of_mem hq
  have hlt : i < 60 := Nat.lt_of_lt_of_le (List.getElem?_eq_some_iff.mp hi).1 law_len
  by_cases h0 : i < 2
  · exact law_at lk_0 hi (by omega) (by omega)
  by_cases h1 : i < 4
  · exact law_at lk_1 hi (by omega) (by omega)
  by_cases h2 : i < 6
  · exact law_at lk_2 hi (by omega) (by omega)
  by_cases h3 : i < 8
  · exact law_at lk_3 hi (by omega) (by omega)
  by_cases h4 : i < 10
  · exact law_at lk_4 hi (by omega) (by omega)
  by_cases h5 : i < 12
  · exact law_at lk_5 hi (by omega) (by omega)
  by_cases h6 : i < 14
  · exact law_at lk_6 hi (by omega) (by omega)
  by_cases h7 : i < 16
  · exact law_at lk_7 hi (by omega) (by omega)
  by_cases h8 : i < 18
  · exact law_at lk_8 hi (by omega) (by omega)
  by_cases h9 : i < 20
  · exact law_at lk_9 hi (by omega) (by omega)
  by_cases h10 : i < 22
  · exact law_at lk_10 hi (by omega) (by omega)
  by_cases h11 : i < 24
  · exact law_at lk_11 hi (by omega) (by omega)
  by_cases h12 : i < 26
  · exact law_at lk_12 hi (by omega) (by omega)
  by_cases h13 : i < 28
  · exact law_at lk_13 hi (by omega) (by omega)
  by_cases h14 : i < 30
  · exact law_at lk_14 hi (by omega) (by omega)
  by_cases h15 : i < 32
  · exact law_at lk_15 hi (by omega) (by omega)
  by_cases h16 : i < 34
  · exact law_at lk_16 hi (by omega) (by omega)
  by_cases h17 : i < 36
  · exact law_at lk_17 hi (by omega) (by omega)
  by_cases h18 : i < 38
  · exact law_at lk_18 hi (by omega) (by omega)
  by_cases h19 : i < 40
  · exact law_at lk_19 hi (by omega) (by omega)
  by_cases h20 : i < 42
  · exact law_at lk_20 hi (by omega) (by omega)
  by_cases h21 : i < 44
  · exact law_at lk_21 hi (by omega) (by omega)
  by_cases h22 : i < 46
  · exact law_at lk_22 hi (by omega) (by omega)
  by_cases h23 : i < 48
  · exact law_at lk_23 hi (by omega) (by omega)
  by_cases h24 : i < 50
  · exact law_at lk_24 hi (by omega) (by omega)
  by_cases h25 : i < 52
  · exact law_at lk_25 hi (by omega) (by omega)
  by_cases h26 : i < 54
  · exact law_at lk_26 hi (by omega) (by omega)
  by_cases h27 : i < 56
  · exact law_at lk_27 hi (by omega) (by omega)
  by_cases h28 : i < 58
  · exact law_at lk_28 hi (by omega) (by omega)
  by_cases h29 : i < 60
  · exact law_at lk_29 hi (by omega) (by omega)
  omega
set_option maxHeartbeats 4000000 in
theorem law_go (hLaw : LawOk) {p : Program} {e : Env} {s : State} {m : MethodId} {below : List Frame} {meth : Method} {c : Code} (l : Launch) {b L : Nat} {xs : Nat → Int32} (hL : L ≤ 3072) (C0 : lw_At p s m meth c b L xs) : W p l e room_1 s m #[Value.ref b] below meth c s.heap [] 0 0 (lw_Z below #[Value.ref b] s) (entryFrame m ([Value.ref b] : List Value).toArray 4) := by
  obtain ⟨hx, hb, hr, hml, hown, hts, hXs, hbl, hlocks, hgv⟩ := C0
  have hAW : ∀ w ∈ AW, w.before #[Value.ref b] s = true := fun w h => hts w (AW_tbl w h)
  have hcls : ∀ c : Nat, ∃ q : ClassId × (Nat → Nat), c < 11 → u_Kn s (RR c) (TT c) (NN c) q.1 q.2 := by
    intro c
    by_cases hc : c < 11
    · obtain ⟨cC, iS, h⟩ := u_known (T := TT c) (N := NN c) hAW (AW_lay hc) (hAW _ (AW_ins hc))
      exact ⟨(cC, iS), fun _ => h⟩
    · exact ⟨(0, fun _ => 0), fun h => absurd h hc⟩
  obtain ⟨Dq, hDq⟩ := Classical.skolem.mp hcls
  have hao6 : va_AO RX6 s := va_AO.of (hts _ (t_1 (i := 29) (by decide +kernel)))
  have hao7 : va_AO RX7 s := va_AO.of (hts _ (t_2 (i := 68) (by decide +kernel)))
  have hao3 : va_AO RX3 s := va_AO.of (hts _ (t_2 (i := 69) (by decide +kernel)))
  have harr : ∀ k : Nat, ∃ cA : ClassId, (k = 100 ∨ k = 101 ∨ k = 102 ∨ k = 103 → ArrOfT s cA (kTy k) ∧ va_RA s cA (kTy k)) ∧ (k = 104 ∨ k = 105 ∨ k = 106 → ArrOfT s cA (.object (kC k)) ∧ va_RA s cA (.object (kC k))) := by
    intro k
    by_cases h1 : k = 100 ∨ k = 101 ∨ k = 102 ∨ k = 103
    · have hw : (Cond.arrayClass (kTy k)).before #[Value.ref b] s = true := by
        refine hAW _ (AW_o (List.mem_append_right _ ?_))
        rcases h1 with rfl | rfl | rfl | rfl <;> simp [kTy]
      obtain ⟨cA, kk, comp, f1, f2, f3⟩ := Cond.arrayClass_spec hw
      refine ⟨cA, fun _ => ⟨fun N z => ⟨(fun k h => by cases h), kk, f2, comp, f3⟩, ?_⟩, fun h => by omega⟩
      rcases h1 with rfl | rfl | rfl | rfl <;> exact f1
    · by_cases h2 : k = 104 ∨ k = 105 ∨ k = 106
      · have hov : va_AO (kC k) s := by
          rcases h2 with rfl | rfl | rfl
          · exact hao6
          · exact hao7
          · exact hao3
        obtain ⟨comp, cA, kk, g1, -, g3, g4, g5⟩ := Cond.arrayOver_spec (va_AO.use (A := #[Value.ref b]) hov)
        exact ⟨cA, fun h => absurd h h1, fun _ => ⟨fun N z => ⟨(fun k h => by cases h), kk, g3, comp, g4⟩, kk, comp, g3, g4, g1, g5⟩⟩
      · exact ⟨0, fun h => absurd h h1, fun h => absurd h h2⟩
  obtain ⟨kA, hkA⟩ := Classical.skolem.mp harr
  have hK : va_K ((fun c => (Dq c).1, fun c => (Dq c).2) : va_G) vwCl (tys7 kA) s := by
    refine ⟨fun c q hq => ?_, fun k q hq => ?_⟩
    · have hc : c < 11 := (List.getElem?_eq_some_iff.mp hq).1
      have := vw_at c hc
      rw [hq] at this
      cases this
      exact hDq c hc
    · have hk : k < 7 := (List.getElem?_eq_some_iff.mp hq).1
      rcases (show k = 0 ∨ k = 1 ∨ k = 2 ∨ k = 3 ∨ k = 4 ∨ k = 5 ∨ k = 6 by omega) with rfl | rfl | rfl | rfl | rfl | rfl | rfl <;> cases hq
      · exact (hkA 100).1 (by omega)
      · exact (hkA 101).1 (by omega)
      · exact (hkA 102).1 (by omega)
      · exact (hkA 103).1 (by omega)
      · exact (hkA 104).2 (by omega)
      · exact (hkA 105).2 (by omega)
      · exact (hkA 106).2 (by omega)
  have hnA : ∀ a : Nat, a < s.heap.size → ¬ (fun q => s.heap.size ≤ q) a := fun a h => Nat.not_le.mpr h
  obtain ⟨adK, adV, hS, hev⟩ := vk_Sof (args := #[Value.ref b]) (s := s) (N := 2) (tm := tmS) (len := [st0.length, st1.length]) (byt := [st0.map Int32.ofInt, st1.map Int32.ofInt]) (A := fun q => s.heap.size ≤ q) (by decide +kernel) (fun i hi => flat_at hgv (fl_str i hi).1) (fun i hi => flat_at hgv (fl_str i hi).2.1) (fun i hi => flat_at hgv (fl_str i hi).2.2.1) (fun i hi => flat_at hgv (fl_str i hi).2.2.2) (fun i hi j hj => flat_at hgv (fl_el i hi j hj)) (fun i j hi hj hne => by
      rcases (show (i = 0 ∧ j = 1) ∨ (i = 1 ∧ j = 0) by omega) with ⟨rfl, rfl⟩ | ⟨rfl, rfl⟩
      · exact Or.inl (flat_at hgv fl_ne)
      · exact Or.inr (flat_at hgv fl_ne)) hnA
  have hXk : Xk adK adV s.heap.size s := ⟨hao6, hao7, hao3, va_Nw.of rfl (hts _ (t_3 (i := 160) (by decide +kernel))), va_Nw.of rfl (hts _ (t_4 (i := 162) (by decide +kernel))), va_Nw.of rfl (hts _ (t_5 (i := 58) (by decide +kernel))), vk_R.of (hts _ (t_3 (i := 89) (by decide +kernel))) (hev 0 (by omega)), vk_R.of (hts _ (t_7 (i := 50) (by decide +kernel))) (hev 1 (by omega)), hS, va_Zof (hts _ (t_3 (i := 99) (by decide +kernel))) (hts _ (t_1 (i := 15) (by decide +kernel))) (va_eqi (flat_at hgv fl_cs)) hnA, va_Zqof (hts _ (t_3 (i := 115) (by decide +kernel))) (hts _ (t_1 (i := 17) (by decide +kernel))) (flat_at hgv fl_sf) hnA⟩
  obtain ⟨A, hAd⟩ : ∃ A : Nat → Option Nat, A = fun r => if r = 900000 then some b else if r = 900001 then some (adK 0) else if r = 900002 then some (adK 1) else if r = 999999 then none else some (s.heap.size + r) := ⟨_, rfl⟩
  have hAr : ∀ r, r < 900000 → A r = some (s.heap.size + r) := by
    intro r h
    rw [hAd]
    simp only
    rw [if_neg (by omega), if_neg (by omega), if_neg (by omega), if_neg (by omega)]
  have hAn : A 999999 = none := by rw [hAd]; rfl
  have hA0 : A 900000 = some b := by rw [hAd]; rfl
  have hA1 : A 900001 = some (adK 0) := by rw [hAd]; rfl
  have hA2 : A 900002 = some (adK 1) := by rw [hAd]; rfl
  have hF : FxC p s m c #[Value.ref b] code 4 (ON 11) AW ((fun c => (Dq c).1, fun c => (Dq c).2) : va_G) kA A s.heap.size 0 adK adV := ⟨hx, hb, hml, hown, hAW, hK, rfl, hAr, hAn, hA1, hA2, hXk⟩
  have hq := hLaw (fun i => (xs i.toNat).toInt) (L : Int) (by omega) (by omega) (fun i => i32_in _)
  unfold WP at hq
  rw [if_pos (by omega)] at hq
  obtain ⟨-, hq⟩ := hq
  rw [lg_entry_eq]
  have hl := lv_entry ([Value.ref b]) (n := 4) (Nat.le_of_ble_eq_true rfl)
  generalize (lg_sl ([Value.ref b]) ++ List.replicate (4 - (lg_sl ([Value.ref b])).length) Slot.unset).toArray = ls at hl ⊢
  have fr : FrC room_1 s 4 s.heap.size A kA ((fun c => (Dq c).1, fun c => (Dq c).2) : va_G) 0 0 (entL [vR 900000] 4) [] ([], fun _ _ => 0, fun _ _ => 999999) s.heap ls [] 0 0 := by
    refine ⟨⟨(fun k q h => by cases h), ⟨fun i j p q h => (by cases h), fun k q h => (by cases h)⟩, by decide, fun r q h => (by cases h), fun r q h => (by cases h)⟩, va_S.rf, ⟨hl.1, hl.2.1, fun q hq => ?_⟩, ⟨rfl, Nat.zero_le _, Nat.zero_le _⟩, fun i v hn => ?_, (fun v hv => absurd hv List.not_mem_nil), rfl, rfl⟩
    · have := prs_ent (A := A) 3 [vR 900000] 0 q hq
      simp only [List.map_cons, List.map_nil, trV, hA0, va_rf] at this
      exact hl.2.2 q this
    · exact ent_ok (as := [vR 900000]) (fun v hv => by rw [List.mem_singleton.mp hv]; trivial) hn
  have hC := met_all (l := l) (kA := kA) (adV := adV) (D := ((fun c => (Dq c).1, fun c => (Dq c).2) : va_G)) (X := fun i => (xs i.toNat).toInt) (XL := (L : Int)) hAr hAn hA1 hA2 yk_all ck_all nk_all (fun d => str_snd d) 40
  refine ex_snd (S1 := growM 353) (o := 11) (ctor := false) (rb := 1) (d := 40) hF (by omega) (fun w h => h) yk_all (by decide) (by decide) (by decide +kernel) (by decide +kernel) (fun h => by cases h) hC ?_ ?_ ?_ (fun h => by omega) (fun h => by omega) (K := KL_law) ?_ fr hq
  · intro idx y n pc k hm hyn
    exfalso
    have : ∀ q ∈ mTab 11, ¬ (q.2 = 1005 ∨ q.2 = 1006) := by decide +kernel
    exact this _ hm (by rcases hyn with ⟨rfl, _⟩ | ⟨rfl, _⟩ <;> simp)
  · intro _ pc k hk
    refine ⟨fun hdg lo st h H ls locs cells slots fr q => ?_, fun hdg lo st h H ls locs cells slots fr q => ?_⟩
    · dsimp only at q
      split at q
      · rename_i i st'
        obtain ⟨q, -⟩ := q
        have q : (0 ≤ i ∧ i < (L : Int)) ∧ k lo (vI ((xs i.toNat).toInt) :: st') h := q.2
        obtain ⟨⟨h0, h1⟩, q⟩ := q
        have hi : inI i := hd_ok fr.ok
        have hw := hk lo (vI ((xs i.toNat).toInt) :: st') h H ls locs cells slots (fr.st (cons_ok (i32_in _) (tl_ok (tl_ok fr.ok)))) q
        rw [List.map_cons, List.map_cons, show trV A (Sum.inr (Sum.inr 900000)) = .ref b by simp [trV, va_rf, hA0]]
        refine va_sld hx hb hXs hbl (Nat.not_le.mpr hbl) fr.2.1 (i32_vin hi h0 h1) hdg ?_
        rw [i32_clamp hi h0, ← i32_oi (xs i.toNat)]
        exact hw
      · exact q.elim
    · dsimp only at q
      split at q
      · rename_i st'
        obtain ⟨q, -⟩ := q
        have q : k lo (vI (L : Int) :: st') h := q.2
        have hw := hk lo (vI (L : Int) :: st') h H ls locs cells slots (fr.st (cons_ok ⟨by omega, by omega⟩ (tl_ok fr.ok))) q
        rw [List.map_cons, show trV A (Sum.inr (Sum.inr 900000)) = .ref b by simp [trV, va_rf, hA0]]
        exact va_slen hx hb hXs hbl (Nat.not_le.mpr hbl) fr.2.1 hdg hw
      · exact q.elim
  · intro _ pc hdg lo st h H ls locs cells slots fr q
    unfold o_iret at q
    split at q
    · rename_i z
      obtain ⟨_, q⟩ := q
      have e : z = 1 := by
        have := Option.some.inj q
        exact Sum.inl.inj this
      subst e
      refine va_forget (fun q hq => fr.2.1.2.2 q hq) ?_
      refine W.widen (k := 600000) (n := 7302250) fr.2.2.2.1.2.1 fr.2.2.2.1.2.2 ?_
      exact lw_ret hx hb hr hlocks hdg
    · exact q.elim
  · exact law_chk
