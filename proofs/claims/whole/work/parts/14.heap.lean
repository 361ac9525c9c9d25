/-! branches, switches, fields, arrays, making: the model's are the machine's -/
section HEAPOPS
variable {p : Program} {l : Launch} {e : Env} {R : Room} {s : State} {m : MethodId} {args : Array Value} {below : List Frame} {meth : Method} {c : Code} {QQ : State → Prop} {B : Nat} {A : Nat → Option Nat} {kA : Nat → ClassId} {D : va_G} {cc : ByteArray} {nL : Nat} {own : String} {len0 tot0 : Nat} {Ts : List Cond} {pc : Nat} {k : Blk} {J : Jmp} {adK adV : Nat → Nat}
theorem s_if (hF : FxC p s m c args cc nL own Ts D kA A B len0 adK adV) {cd : ClassFile.Cond} {off : Int} {t : Nat} (ht : (pc : Int) + off = (t : Int)) (hdg : decode cc pc = .ok (.ifCond cd off, 3)) (hJ : Sd p l e R s m args below meth c QQ B A kA D nL len0 tot0 t (J t)) (hk : Sd p l e R s m args below meth c QQ B A kA D nL len0 tot0 (pc + 3) k) : Sd p l e R s m args below meth c QQ B A kA D nL len0 tot0 pc (o_if cd J t k) := by
  intro lo st h H ls locs cells slots fr q
  unfold o_if at q
  split at q
  · rename_i a st'
    have ha : inI a := hd_ok fr.ok
    have f' := fr.st (tl_ok fr.ok)
    have e1 := i32_eq ha inI_0
    have e2 := i32_lt ha inI_0
    have e3 := i32_lt inI_0 ha
    have e4 := i32_le ha inI_0
    have e5 := i32_le inI_0 ha
    rw [i32_0] at e1 e2 e3 e4 e5
    cases cd <;> dsimp only at q
    · exact lv_if_eq hF.1 hF.2.1 hdg ht (fun z => hJ lo st' h H ls locs cells slots f' (q.1 (e1.mp z))) (fun z => hk lo st' h H ls locs cells slots f' (q.2 (fun y => z (e1.mpr y))))
    · exact lv_if_ne hF.1 hF.2.1 hdg ht (fun z => hJ lo st' h H ls locs cells slots f' (q.1 (fun y => z (e1.mpr y)))) (fun z => hk lo st' h H ls locs cells slots f' (q.2 (e1.mp z)))
    · exact lv_if_lt hF.1 hF.2.1 hdg ht (fun z => hJ lo st' h H ls locs cells slots f' (q.1 (e2.mp z))) (fun z => hk lo st' h H ls locs cells slots f' (q.2 (Int.not_lt.mp (fun y => z (e2.mpr y)))))
    · exact lv_if_ge hF.1 hF.2.1 hdg ht (fun z => hJ lo st' h H ls locs cells slots f' (q.1 (e5.mp z))) (fun z => hk lo st' h H ls locs cells slots f' (q.2 (Int.not_le.mp (fun y => z (e5.mpr y)))))
    · exact lv_if_gt hF.1 hF.2.1 hdg ht (fun z => hJ lo st' h H ls locs cells slots f' (q.1 (e3.mp z))) (fun z => hk lo st' h H ls locs cells slots f' (q.2 (Int.not_lt.mp (fun y => z (e3.mpr y)))))
    · exact lv_if_le hF.1 hF.2.1 hdg ht (fun z => hJ lo st' h H ls locs cells slots f' (q.1 (e4.mp z))) (fun z => hk lo st' h H ls locs cells slots f' (q.2 (Int.not_le.mp (fun y => z (e4.mpr y)))))
  · exact q.elim
theorem s_icmp (hF : FxC p s m c args cc nL own Ts D kA A B len0 adK adV) {cd : ClassFile.Cond} {off : Int} {t : Nat} (ht : (pc : Int) + off = (t : Int)) (hdg : decode cc pc = .ok (.if_icmp cd off, 3)) (hJ : Sd p l e R s m args below meth c QQ B A kA D nL len0 tot0 t (J t)) (hk : Sd p l e R s m args below meth c QQ B A kA D nL len0 tot0 (pc + 3) k) : Sd p l e R s m args below meth c QQ B A kA D nL len0 tot0 pc (o_icmp cd J t k) := by
  intro lo st h H ls locs cells slots fr q
  unfold o_icmp at q
  split at q
  · rename_i b a st'
    have hb : inI b := hd_ok fr.ok
    have ha : inI a := hd_ok (tl_ok fr.ok)
    have f' := fr.st (tl_ok (tl_ok fr.ok))
    have e1 := i32_eq ha hb
    have e2 := i32_lt ha hb
    have e3 := i32_lt hb ha
    have e4 := i32_le ha hb
    have e5 := i32_le hb ha
    cases cd <;> dsimp only at q
    · exact lv_icmp_eq hF.1 hF.2.1 hdg ht (fun z => hJ lo st' h H ls locs cells slots f' (q.1 (e1.mp z))) (fun z => hk lo st' h H ls locs cells slots f' (q.2 (fun y => z (e1.mpr y))))
    · exact lv_icmp_ne hF.1 hF.2.1 hdg ht (fun z => hJ lo st' h H ls locs cells slots f' (q.1 (fun y => z (e1.mpr y)))) (fun z => hk lo st' h H ls locs cells slots f' (q.2 (e1.mp z)))
    · exact lv_icmp_lt hF.1 hF.2.1 hdg ht (fun z => hJ lo st' h H ls locs cells slots f' (q.1 (e2.mp z))) (fun z => hk lo st' h H ls locs cells slots f' (q.2 (Int.not_lt.mp (fun y => z (e2.mpr y)))))
    · exact lv_icmp_ge hF.1 hF.2.1 hdg ht (fun z => hJ lo st' h H ls locs cells slots f' (q.1 (e5.mp z))) (fun z => hk lo st' h H ls locs cells slots f' (q.2 (Int.not_le.mp (fun y => z (e5.mpr y)))))
    · exact lv_icmp_gt hF.1 hF.2.1 hdg ht (fun z => hJ lo st' h H ls locs cells slots f' (q.1 (e3.mp z))) (fun z => hk lo st' h H ls locs cells slots f' (q.2 (Int.not_lt.mp (fun y => z (e3.mpr y)))))
    · exact lv_icmp_le hF.1 hF.2.1 hdg ht (fun z => hJ lo st' h H ls locs cells slots f' (q.1 (e4.mp z))) (fun z => hk lo st' h H ls locs cells slots f' (q.2 (Int.not_le.mp (fun y => z (e4.mpr y)))))
  · exact q.elim
theorem s_goto (hF : FxC p s m c args cc nL own Ts D kA A B len0 adK adV) {off : Int} {t : Nat} (ht : (pc : Int) + off = (t : Int)) (hdg : decode cc pc = .ok (.goto off, 3)) (hJ : Sd p l e R s m args below meth c QQ B A kA D nL len0 tot0 t (J t)) : Sd p l e R s m args below meth c QQ B A kA D nL len0 tot0 pc (fun lo st h => J t lo st h ∧ True) := by
  intro lo st h H ls locs cells slots fr q
  exact lv_goto hF.1 hF.2.1 hdg ht (hJ lo st h H ls locs cells slots fr q.1)
theorem s_fall (hJ : Sd p l e R s m args below meth c QQ B A kA D nL len0 tot0 pc (J pc)) : Sd p l e R s m args below meth c QQ B A kA D nL len0 tot0 pc (fun lo st h => J pc lo st h ∧ True) := by
  intro lo st h H ls locs cells slots fr q
  exact hJ lo st h H ls locs cells slots fr q.1
theorem swt_look {dflt a : Int} {d : Nat} (hd : (pc : Int) + dflt = (d : Int)) {lo : Lo} {st : List MV} {h : Mem} : ∀ (l : List (Int × Int)) (ps : List (Int × Nat)), l.map (fun q => (q.1, (pc : Int) + q.2)) = ps.map (fun q => (q.1, (q.2 : Int))) → swt J d a lo st h ps → ∃ t : Nat, (pc : Int) + Op.lookupswitch.offset l dflt a = (t : Int) ∧ J t lo st h ∧ (t = d ∨ ∃ z, (z, t) ∈ ps)
  | [], [], _, q => ⟨d, hd, q, Or.inl rfl⟩
  | [], _ :: _, e, _ => by cases e
  | _ :: _, [], e, _ => by cases e
  | (x, o) :: l, (y, t) :: ps, e, q => by
    rw [List.map_cons, List.map_cons, List.cons.injEq] at e
    obtain ⟨e1, e2⟩ := e
    have hx : x = y := (Prod.ext_iff.mp e1).1
    have ho : (pc : Int) + o = (t : Int) := (Prod.ext_iff.mp e1).2
    subst hx
    by_cases hax : a = x
    · refine ⟨t, ?_, q.1 hax, Or.inr ⟨x, List.mem_cons_self⟩⟩
      rw [Op.lookupswitch.offset_cons, if_pos hax.symm]
      exact ho
    · obtain ⟨t', h1, h2, h3⟩ := swt_look hd l ps e2 (q.2 hax)
      refine ⟨t', ?_, h2, h3.elim Or.inl (fun ⟨z, hz⟩ => Or.inr ⟨z, List.mem_cons_of_mem _ hz⟩)⟩
      rw [Op.lookupswitch.offset_cons, if_neg (fun y => hax y.symm)]
      exact h1
theorem swt_tab {d : Nat} {a : Int} {lo : Lo} {st : List MV} {h : Mem} : ∀ (ps : List (Int × Nat)), swt J d a lo st h ps → (∃ (i t : Nat), ps[i]? = some (a, t) ∧ J t lo st h) ∨ ((∀ q ∈ ps, ¬ q.1 = a) ∧ J d lo st h)
  | [], q => Or.inr ⟨fun _ h => absurd h List.not_mem_nil, q⟩
  | (x, t) :: ps, q => by
    by_cases hax : a = x
    · exact Or.inl ⟨0, t, by rw [hax]; rfl, q.1 hax⟩
    · rcases swt_tab ps (q.2 hax) with ⟨i, t', h1, h2⟩ | ⟨h1, h2⟩
      · exact Or.inl ⟨i + 1, t', by simpa using h1, h2⟩
      · exact Or.inr ⟨fun y hy => (List.mem_cons.mp hy).elim (fun e => by rw [e]; exact fun z => hax z.symm) (h1 y), h2⟩
theorem s_lookup (hF : FxC p s m c args cc nL own Ts D kA A B len0 adK adV) {dflt : Int} {ar : Array (Int × Int)} {n d : Nat} {ps : List (Int × Nat)} (hd : (pc : Int) + dflt = (d : Int)) (hps : ar.toList.map (fun q => (q.1, (pc : Int) + q.2)) = ps.map (fun q => (q.1, (q.2 : Int)))) (hso : (ar.toList.zip (ar.toList.drop 1)).all (fun (a, next) => a.1 < next.1) = true)
    (hdg : decode cc pc = .ok (.lookupswitch dflt ar, n)) (hJ : ∀ t, t = d ∨ (∃ z, (z, t) ∈ ps) → Sd p l e R s m args below meth c QQ B A kA D nL len0 tot0 t (J t)) : Sd p l e R s m args below meth c QQ B A kA D nL len0 tot0 pc (o_swt J d ps) := by
  intro lo st h H ls locs cells slots fr q
  unfold o_swt at q
  split at q
  · rename_i a st'
    have ha : inI a := hd_ok fr.ok
    obtain ⟨t, h1, h2, h3⟩ := swt_look hd _ _ hps q.1
    exact lv_lookup hF.1 hF.2.1 hdg hso (by rw [i32_to ha]) h1 (hJ t h3 lo st' h H ls locs cells slots (fr.st (tl_ok fr.ok)) h2)
  · exact q.elim
theorem s_table (hF : FxC p s m c args cc nL own Ts D kA A B len0 adK adV) {dflt lw hg : Int} {ar : Array Int} {n d : Nat} {ps : List (Int × Nat)} (hd : (pc : Int) + dflt = (d : Int)) (hh : hg = lw + (ar.toList.length : Int) - 1) (hps : ar.toList.mapIdx (fun i o => (lw + (i : Int), (pc : Int) + o)) = ps.map (fun q => (q.1, (q.2 : Int))))
    (hdg : decode cc pc = .ok (.tableswitch dflt lw hg ar, n)) (hJ : ∀ t, t = d ∨ (∃ z, (z, t) ∈ ps) → Sd p l e R s m args below meth c QQ B A kA D nL len0 tot0 t (J t)) : Sd p l e R s m args below meth c QQ B A kA D nL len0 tot0 pc (o_swt J d ps) := by
  intro lo st h H ls locs cells slots fr q
  unfold o_swt at q
  split at q
  · rename_i a st'
    have ha : inI a := hd_ok fr.ok
    have hat : ∀ i : Nat, (ar.toList[i]?).map (fun o => (lw + (i : Int), (pc : Int) + o)) = (ps[i]?).map (fun q => (q.1, (q.2 : Int))) := by
      intro i
      have := congrArg (fun l => l[i]?) hps
      simpa [List.getElem?_mapIdx] using this
    rcases swt_tab ps q.1 with ⟨i, t, h1, h2⟩ | ⟨h1, h2⟩
    · have hi := hat i
      rw [h1] at hi
      cases ho : ar.toList[i]? with
      | none => rw [ho] at hi; cases hi
      | some o =>
        rw [ho] at hi
        simp only [Option.map_some, Option.some.injEq, Prod.mk.injEq] at hi
        have hlt : i < ar.toList.length := (List.getElem?_eq_some_iff.mp ho).1
        have hia : (a - lw).toNat = i := by omega
        refine lv_tableIn hF.1 hF.2.1 hdg (by rw [i32_to ha]; omega) (by rw [i32_to ha]; omega) (off := o) ?_ hi.2 (hJ t (Or.inr ⟨a, List.mem_of_getElem? h1⟩) lo st' h H ls locs cells slots (fr.st (tl_ok fr.ok)) h2)
        rw [i32_to ha, hia, ← Array.getElem?_toList]
        exact ho
    · refine lv_tableOut hF.1 hF.2.1 hdg ?_ hd (hJ d (Or.inl rfl) lo st' h H ls locs cells slots (fr.st (tl_ok fr.ok)) h2)
      rw [i32_to ha]
      by_cases hl : a < lw
      · exact Or.inl hl
      · right
        by_cases hh2 : hg < a
        · exact hh2
        · exfalso
          have hlt : (a - lw).toNat < ar.toList.length := by omega
          have hi := hat (a - lw).toNat
          rw [List.getElem?_eq_getElem hlt] at hi
          cases hp : ps[(a - lw).toNat]? with
          | none => rw [hp] at hi; cases hi
          | some y =>
            rw [hp] at hi
            simp only [Option.map_some, Option.some.injEq, Prod.mk.injEq] at hi
            exact h1 y (List.mem_of_getElem? hp) (by omega)
  · exact q.elim
-- fields
theorem Wd.lt {h : Mem} {H : Heap} {r : Nat} {q : Nat × Nat} {AA : Nat → Prop} (w : Wd B A kA D AA h H) (hr : h.1[r]? = some q) : r < 900000 := Nat.lt_trans (List.getElem?_eq_some_iff.mp hr).1 w.2.2.1
theorem cel_obj {h : Mem} {r c n : Nat} (hc : c < 100) : cel A kA h r (c, n) = .inr (c, fvs A h r c) := by simp [cel, hc]
theorem fvs_at {h : Mem} {r c k t : Nat} (ht : (ftys.getD c [])[k]? = some t) : (fvs A h r c)[k]? = some (fvV A h r k t) := by
  simp only [fvs, List.getElem?_mapIdx, ht, Option.map_some]
theorem s_get (hF : FxC p s m c args cc nL own Ts D kA A B len0 adK adV) {idx cN f t : Nat} {tz : Int} (hc : cN < 11) (hf : f < NN cN) (ht : (ftys.getD cN [])[f]? = some t) (htz : (tz = 1 ∧ t = 1) ∨ (tz = 2 ∧ t = 2) ∨ (tz = 0 ∧ ¬ t = 1 ∧ ¬ t = 2)) (hw : Cond.fieldLink own idx (TT cN f).1 (TT cN f).2.1 (TT cN f).2.2.1 ∈ Ts) (hlay : ∀ w ∈ u_ws (RR cN) (TT cN) (NN cN), w ∈ Ts)
    (hdg : decode cc pc = .ok (.getfield idx, 3)) (hk : Sd p l e R s m args below meth c QQ B A kA D nL len0 tot0 (pc + 3) k) : Sd p l e R s m args below meth c QQ B A kA D nL len0 tot0 pc (o_get cN (f : Int) tz k) := by
  intro lo st h H ls locs cells slots fr q
  unfold o_get at q
  split at q
  · rename_i r st'
    obtain ⟨hkd, q⟩ := q
    obtain ⟨n, hr, -⟩ := kd_some hkd (by omega)
    have hA : A r = some (B + r) := hF.2.2.2.2.2.2.2.1 r (fr.1.lt hr)
    have he := wsO_at (B := B) (A := A) (kA := kA) hr
    rw [cel_obj (by omega)] at he
    have hM := fr.1.2.2.2.2 r _ hr f
    rw [List.map_cons, show trV A (Sum.inr (Sum.inr r)) = .ref (B + r) by simp [trV, va_rf, hA]]
    refine va_get (ci := cN) (T := TT cN) (N := NN cN) (v := fvV A h r f t) hF.1 hF.2.1 hF.2.2.2.2.1 hlay hF.2.2.2.1 hF.2.2.2.2.2.1 fr.1.1 r he (vw_at cN hc) f hf (hF.2.2.2.2.1 _ hw) (fun _ h9 => h9) (fvs_at ht) hdg ?_
    have ht' : (ftys.getD cN []).getD f 0 = t := by rw [List.getD_eq_getElem?_getD, ht]; rfl
    rcases htz with ⟨rfl, rfl⟩ | ⟨rfl, rfl⟩ | ⟨rfl, h1, h2⟩
    · have hL : inL (gG h r f) := by
        have : isL cN f = true := by simp only [isL, ht']; simp; omega
        unfold rngK at hM
        rw [if_pos this] at hM
        exact hM
      exact hk lo (vL (gG h r f) :: st') h H ls locs cells slots (fr.st (cons_ok hL (tl_ok fr.ok))) q
    · exact hk lo (vR (gR h r f) :: st') h H ls locs cells slots (fr.st (cons_ok trivial (tl_ok fr.ok))) q
    · have hI : inI (gG h r f) := by
        have : ¬ isL cN f = true := by simp only [isL, ht']; simp; omega
        unfold rngK at hM
        rw [if_neg this] at hM
        exact hM
      have hv : fvV A h r f t = trV A (vI (gG h r f)) := by
        unfold fvV trV
        split
        · exact absurd rfl h1
        · exact absurd rfl h2
        · rfl
      rw [hv]
      exact hk lo (vI (gG h r f) :: st') h H ls locs cells slots (fr.st (cons_ok hI (tl_ok fr.ok))) q
  · exact q.elim
theorem fvs_sG {h : Mem} {r c f t : Nat} {z : Int} {v : Value} (ht : (ftys.getD c [])[f]? = some t) (hv : v = fvV A (sG h r f z) r f t) : (fvs A h r c).set f v = fvs A (sG h r f z) r c := by
  subst hv
  apply List.ext_getElem?
  intro i
  rw [List.getElem?_set]
  have hlt : f < (ftys.getD c []).length := (List.getElem?_eq_some_iff.mp ht).1
  by_cases hi : f = i
  · subst hi
    rw [if_pos rfl, if_pos (by simp [fvs]; simpa using hlt), fvs_at ht]
  · rw [if_neg hi]
    simp only [fvs, List.getElem?_mapIdx]
    cases (ftys.getD c [])[i]? with
    | none => rfl
    | some t' =>
      simp only [Option.map_some]
      have : ¬ (i : Int) = (f : Int) := by omega
      simp [fvV, gG, gR, sG, this]
theorem fvs_sR {h : Mem} {r c f t z : Nat} {v : Value} (ht : (ftys.getD c [])[f]? = some t) (hv : v = fvV A (sR h r f z) r f t) : (fvs A h r c).set f v = fvs A (sR h r f z) r c := by
  subst hv
  apply List.ext_getElem?
  intro i
  rw [List.getElem?_set]
  have hlt : f < (ftys.getD c []).length := (List.getElem?_eq_some_iff.mp ht).1
  by_cases hi : f = i
  · subst hi
    rw [if_pos rfl, if_pos (by simp [fvs]; simpa using hlt), fvs_at ht]
  · rw [if_neg hi]
    simp only [fvs, List.getElem?_mapIdx]
    cases (ftys.getD c [])[i]? with
    | none => rfl
    | some t' =>
      simp only [Option.map_some]
      have : ¬ (i : Int) = (f : Int) := by omega
      simp [fvV, gG, gR, sR, this]
/-- what a store into a cell leaves of the frame -/
theorem FrC.mem {lo : Lo} {st st' : List MV} {h h' : Mem} {H H1 : Heap} {ls : Array Slot} {locs locs1 : List Loc} {cells slots : Nat} (f : FrC R s nL B A kA D len0 tot0 lo st h H ls locs cells slots) (hs : h'.1 = h.1) (hP : va_P D vwCl (wsO B A kA h') H1) (hD : va_D (fun q => B ≤ q) (wsO B A kA h')) (hS : va_S (fun q => B ≤ q) s.heap H1 locs1) (hM : MOk h') (hv : ∀ v ∈ st', vok v) : FrC R s nL B A kA D len0 tot0 lo st' h' H1 ls locs1 cells slots :=
  ⟨⟨hP, hD, by rw [hs]; exact f.1.2.2.1, fun r q hq => f.1.2.2.2.1 r q (hs ▸ hq), hM⟩, hS, f.2.2.1, f.2.2.2.1, f.2.2.2.2.1, hv, by rw [hs]; exact f.2.2.2.2.2.2.1, by rw [hs]; exact f.2.2.2.2.2.2.2⟩
/-- how large the heap is -/
theorem W_size (hF : FxC p s m c args cc nL own Ts D kA A B len0 adK adV) {lo : Lo} {st : List MV} {h : Mem} {H : Heap} {ls : Array Slot} {locs : List Loc} {cells slots : Nat} (fr : FrC R s nL B A kA D len0 tot0 lo st h H ls locs cells slots) {g : JFrame} (hw : H.size = B + h.1.length → W p l e R s m args below meth c H locs cells slots QQ g) : W p l e R s m args below meth c H locs cells slots QQ g := by
  intro T hT X
  have h1 : T.heap.size ≤ s.heap.size + cells := X.same.2.2.1
  rw [hT, hF.2.2.2.2.2.2.1] at h1
  have h2 := fr.2.2.2.2.2.2.1
  have h3 : B + h.1.length ≤ H.size := by
    by_cases h0 : h.1.length = 0
    · have := fr.2.1.1
      rw [hF.2.2.2.2.2.2.1] at this
      omega
    · have hlt : h.1.length - 1 < h.1.length := by omega
      have := (fr.1.1 (h.1.length - 1) _ (wsO_at (List.getElem?_eq_getElem hlt))).lt
      simp only at this
      omega
  exact hw (by omega) T hT X
theorem tc0 {ty : FieldType} (h : tcode ty = 0) : ty = .int := by cases ty <;> simp [tcode] at h ⊢
theorem tc1 {ty : FieldType} (h : tcode ty = 1) : ty = .long := by cases ty <;> simp [tcode] at h ⊢
theorem tc3 {ty : FieldType} (h : tcode ty = 3) : ty = .boolean := by cases ty <;> simp [tcode] at h ⊢
theorem tc2 {ty : FieldType} (h : tcode ty = 2) (a : Option Nat) : narrow ty (va_rf a) = va_rf a ∧ fits ty (va_rf a) = true := by
  cases ty <;> simp [tcode] at h <;> cases a <;> exact ⟨rfl, rfl⟩
/-- a field, final or not, gets a value that is of its type -/
theorem put_row (hF : FxC p s m c args cc nL own Ts D kA A B len0 adK adV) {idx cN f t : Nat} {h h' : Mem} {v : Value} {lo : Lo} {st st' : List MV} {H : Heap} {ls : Array Slot} {locs : List Loc} {cells slots r n : Nat} (fr : FrC R s nL B A kA D len0 tot0 lo st h H ls locs cells slots) (hc : cN < 11) (hf : f < NN cN) (ht : (ftys.getD cN [])[f]? = some t)
    (hfin : (TT cN f).2.2.2 = false ∨ ((TT cN f).2.2.2 = true ∧ meth.name = "<init>" ∧ (TT cN f).1 = own)) (hr : h.1[r]? = some (cN, n)) (hs : h'.1 = h.1) (hn : narrow (tyT cN f) v = v) (hft : fits (tyT cN f) v = true)
    (hset : (fvs A h r cN).set f v = fvs A h' r cN) (hne : ∀ r' q', r' ≠ r → cel A kA h' r' q' = cel A kA h r' q') (hM : MOk h') (hv : ∀ w ∈ st', vok w) (q : k lo st' h') (hw : Cond.fieldLink own idx (TT cN f).1 (TT cN f).2.1 (TT cN f).2.2.1 ∈ Ts) (hlay : ∀ w ∈ u_ws (RR cN) (TT cN) (NN cN), w ∈ Ts) (hdg : decode cc pc = .ok (.putfield idx, 3)) (hk : Sd p l e R s m args below meth c QQ B A kA D nL len0 tot0 (pc + 3) k) :
    W p l e R s m args below meth c H locs cells slots QQ (F0 m pc ls (v :: .ref (B + r) :: st'.map (trV A))) := by
  have he := wsO_at (B := B) (A := A) (kA := kA) hr
  rw [cel_obj (by omega)] at he
  have hl : f < (fvs A h r cN).length := by
    have := (List.getElem?_eq_some_iff.mp ht).1
    simpa [fvs] using this
  have hws : (wsO B A kA h).set r (B + r, .inr (cN, (fvs A h r cN).set f v)) = wsO B A kA h' := wsO_set hs hr hne (by rw [hset, cel_obj (by omega)])
  have kk : ∀ (H1 : Heap) (locs1 : List Loc), va_P D vwCl ((wsO B A kA h).set r (B + r, .inr (cN, (fvs A h r cN).set f v))) H1 → va_D (fun q => B ≤ q) ((wsO B A kA h).set r (B + r, .inr (cN, (fvs A h r cN).set f v))) → va_S (fun q => B ≤ q) s.heap H1 locs1 → W p l e R s m args below meth c H1 locs1 cells slots QQ (F0 m (pc + 3) ls (st'.map (trV A))) := by
    intro H1 locs1 h1 h2 h3
    rw [hws] at h1 h2
    exact hk lo st' h' H1 ls locs1 cells slots (fr.mem hs h1 h2 h3 hM hv) q
  rcases hfin with hfin | ⟨hfin, hin, hdc⟩
  · exact va_put (ci := cN) (T := TT cN) (N := NN cN) hF.1 hF.2.1 hF.2.2.2.2.1 hlay (tyT cN) (vw_ty cN hc) (vw_nm cN hc) hF.2.2.2.1 hF.2.2.2.2.2.1 fr.1.1 fr.1.2.1 fr.2.1 r he (vw_at cN hc) f hf (hF.2.2.2.2.1 _ hw) (fun _ h9 => h9) hfin (vw_ty cN hc f hf) hn hft hl hdg kk
  · exact va_putF (ci := cN) (T := TT cN) (N := NN cN) hF.1 hF.2.1 hF.2.2.2.2.1 hlay (tyT cN) (vw_ty cN hc) (vw_nm cN hc) hF.2.2.2.1 hF.2.2.2.2.2.1 fr.1.1 fr.1.2.1 fr.2.1 r he (vw_at cN hc) f hf (hF.2.2.2.2.1 _ hw) (fun _ h9 => h9) hfin hin hdc (vw_ty cN hc f hf) hn hft hl hdg kk
theorem isL_obj {c f t : Nat} (hc : c < 11) (ht : (ftys.getD c [])[f]? = some t) : isL c f = decide (t = 1) := by
  have ht' : (ftys.getD c []).getD f 0 = t := by rw [List.getD_eq_getElem?_getD, ht]; rfl
  simp only [isL, ht']
  by_cases h1 : t = 1
  · subst h1; simp; omega
  · simp [h1]; omega
theorem s_put (hF : FxC p s m c args cc nL own Ts D kA A B len0 adK adV) {idx cN f t : Nat} {tz : Int} (hc : cN < 11) (hf : f < NN cN) (ht : (ftys.getD cN [])[f]? = some t) (htz : tz = (t : Int)) (hfin : (TT cN f).2.2.2 = false ∨ ((TT cN f).2.2.2 = true ∧ meth.name = "<init>" ∧ (TT cN f).1 = own)) (hw : Cond.fieldLink own idx (TT cN f).1 (TT cN f).2.1 (TT cN f).2.2.1 ∈ Ts) (hlay : ∀ w ∈ u_ws (RR cN) (TT cN) (NN cN), w ∈ Ts) (hdg : decode cc pc = .ok (.putfield idx, 3)) (hk : Sd p l e R s m args below meth c QQ B A kA D nL len0 tot0 (pc + 3) k) : Sd p l e R s m args below meth c QQ B A kA D nL len0 tot0 pc (o_put cN (f : Int) tz k) := by
  intro lo st h H ls locs cells slots fr q
  unfold o_put at q
  split at q
  · rename_i v r st'
    obtain ⟨hkd, q⟩ := q
    obtain ⟨n, hr, -⟩ := kd_some hkd (by omega)
    have hA : A r = some (B + r) := hF.2.2.2.2.2.2.2.1 r (fr.1.lt hr)
    have hcd : tcode (tyT cN f) = t := by
      rw [ft_code cN hc f hf, List.getD_eq_getElem?_getD, ht]; rfl
    have hst := tl_ok (tl_ok fr.ok)
    have hv0 := hd_ok fr.ok
    rw [List.map_cons, List.map_cons, show trV A (Sum.inr (Sum.inr r)) = .ref (B + r) by simp [trV, va_rf, hA]]
    have hI := isL_obj hc ht
    split at q
    · rename_i z
      have e : t = 0 := by omega
      subst e
      have hty := tc0 hcd
      refine put_row hF fr hc hf ht hfin hr (h' := sG h r f z) rfl (by rw [hty]; rfl) (by rw [hty]; rfl) (fvs_sG ht (by simp [trV, fvV, gG, sG])) cel_sG (MOk_sG fr.1.2.2.2.2 hr (fun j hj => ?_)) hst q hw hlay hdg hk
      have : j = f := by omega
      subst this
      unfold rngK
      rw [hI]
      simp
      exact hv0
    · rename_i z
      have e : t = 1 := by omega
      subst e
      have hty := tc1 hcd
      refine put_row hF fr hc hf ht hfin hr (h' := sG h r f z) rfl (by rw [hty]; rfl) (by rw [hty]; rfl) (fvs_sG ht (by simp [trV, fvV, gG, sG])) cel_sG (MOk_sG fr.1.2.2.2.2 hr (fun j hj => ?_)) hst q hw hlay hdg hk
      have : j = f := by omega
      subst this
      unfold rngK
      rw [hI]
      simp
      exact hv0
    · rename_i z
      have e : t = 2 := by omega
      subst e
      have hty := tc2 hcd (A z)
      exact put_row hF fr hc hf ht hfin hr (h' := sR h r f z) rfl hty.1 hty.2 (fvs_sR ht (by simp [trV, fvV, gR, sR])) cel_sR (fun r' q' hq' j => fr.1.2.2.2.2 r' q' hq' j) hst q hw hlay hdg hk
    · rename_i z
      have e : t = 3 := by omega
      subst e
      have hty := tc3 hcd
      have hz := q.1
      refine put_row hF fr hc hf ht hfin hr (h' := sG h r f z) rfl ?_ ?_ (fvs_sG ht (by simp [trV, fvV, gG, sG])) cel_sG (MOk_sG fr.1.2.2.2.2 hr (fun j hj => ?_)) hst q.2 hw hlay hdg hk
      · rw [hty]; rcases hz with rfl | rfl <;> (simp only [trV]; decide)
      · rw [hty]; rcases hz with rfl | rfl <;> (simp only [trV]; decide)
      have : j = f := by omega
      subst this
      unfold rngK
      rw [hI]
      simp
      exact hv0
    · exact q.elim
  · exact q.elim
end HEAPOPS
