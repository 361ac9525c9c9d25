/-! arrays, making, Math.max and min, arraycopy -/
section ARR
variable {p : Program} {l : Launch} {e : Env} {R : Room} {s : State} {m : MethodId} {args : Array Value} {below : List Frame} {meth : Method} {c : Code} {QQ : State → Prop} {B : Nat} {A : Nat → Option Nat} {kA : Nat → ClassId} {D : va_G} {cc : ByteArray} {nL : Nat} {own : String} {len0 tot0 : Nat} {Ts : List Cond} {pc : Nat} {k : Blk} {J : Jmp} {adK adV : Nat → Nat}
theorem cel_i {h : Mem} {r kk n : Nat} (hk : kk = 100 ∨ kk = 102 ∨ kk = 103) : cel A kA h r (kk, n) = .inl (kA kk, n, .inl fun j => Int32.ofInt (gG h r j)) := by
  rcases hk with rfl | rfl | rfl <;> simp [cel]
theorem cel_l {h : Mem} {r n : Nat} : cel A kA h r (101, n) = .inl (kA 101, n, .inr (.inl fun j => Int64.ofInt (gG h r j))) := by simp [cel]
theorem cel_q {h : Mem} {r kk n : Nat} (hk : 104 ≤ kk) : cel A kA h r (kk, n) = .inl (kA kk, n, .inr (.inr (.inr (.inr fun j => A (gR h r j))))) := by
  have h1 : ¬ kk < 100 := by omega
  have h2 : ¬ kk = 101 := by omega
  have h3 : ¬ kk < 104 := by omega
  simp [cel, h1, h2, h3]
theorem rg_i {h : Mem} {r kk n j : Nat} (hM : MOk h) (hr : h.1[r]? = some (kk, n)) (hk : kk = 100 ∨ kk = 102 ∨ kk = 103) : inI (gG h r j) := by
  have := hM r _ hr j
  unfold rngK at this
  rcases hk with rfl | rfl | rfl <;> simpa [isL] using this
theorem rg_l {h : Mem} {r n j : Nat} (hM : MOk h) (hr : h.1[r]? = some (101, n)) : inL (gG h r j) := by
  have := hM r _ hr j
  unfold rngK at this
  simpa [isL] using this
theorem ix_nat {i : Int} (h0 : 0 ≤ i) : ((i.toNat : Nat) : Int) = i := Int.toNat_of_nonneg h0
theorem s_ial (hF : FxC p s m c args cc nL own Ts D kA A B len0 adK adV) {kk : Nat} (hkk : kk = 100 ∨ kk = 102 ∨ kk = 103) (hdg : decode cc pc = .ok (if kk = 100 then .iaload else .baload, 1)) (hk : Sd p l e R s m args below meth c QQ B A kA D nL len0 tot0 (pc + 1) k) : Sd p l e R s m args below meth c QQ B A kA D nL len0 tot0 pc (o_ial kk k) := by
  intro lo st h H ls locs cells slots fr q
  unfold o_ial at q
  split at q
  · rename_i i r st'
    obtain ⟨⟨hkd, hi0, hi1⟩, q⟩ := q
    obtain ⟨n, hr, hn⟩ := kd_some hkd (by omega)
    have hA : A r = some (B + r) := hF.2.2.2.2.2.2.2.1 r (fr.1.lt hr)
    have hi : inI i := hd_ok fr.ok
    have he := wsO_at (B := B) (A := A) (kA := kA) hr
    rw [cel_i hkk] at he
    rw [List.map_cons, List.map_cons, show trV A (Sum.inr (Sum.inr r)) = .ref (B + r) by simp [trV, va_rf, hA]]
    have hin : vp_in (Int32.ofInt i) n := i32_vin hi hi0 (by rw [← hn]; exact hi1)
    have hw := hk lo (vI (gG h r i) :: st') h H ls locs cells slots (fr.st (cons_ok (by have := rg_i (j := i.toNat) fr.1.2.2.2.2 hr hkk; rwa [ix_nat hi0] at this) (tl_ok (tl_ok fr.ok)))) q
    have hv : Int32.ofInt (gG h r ((Int32.ofInt i).toNatClampNeg : Nat)) = Int32.ofInt (gG h r i) := by rw [i32_clamp hi hi0, ix_nat hi0]
    rcases hkk with rfl | rfl | rfl
    · refine va_iald hF.1 hF.2.1 hF.2.2.2.2.2.1 fr.1.1 r 0 he rfl hin hdg ?_
      simp only [hv]
      exact hw
    · refine va_bald hF.1 hF.2.1 hF.2.2.2.2.2.1 fr.1.1 r 2 he rfl hin hdg ?_
      simp only [hv]
      exact hw
    · refine va_zald hF.1 hF.2.1 hF.2.2.2.2.2.1 fr.1.1 r 3 he rfl hin hdg ?_
      simp only [hv]
      exact hw
  · exact q.elim
theorem s_lal (hF : FxC p s m c args cc nL own Ts D kA A B len0 adK adV) (hdg : decode cc pc = .ok (.laload, 1)) (hk : Sd p l e R s m args below meth c QQ B A kA D nL len0 tot0 (pc + 1) k) : Sd p l e R s m args below meth c QQ B A kA D nL len0 tot0 pc (o_lal k) := by
  intro lo st h H ls locs cells slots fr q
  unfold o_lal at q
  split at q
  · rename_i i r st'
    obtain ⟨⟨hkd, hi0, hi1⟩, q⟩ := q
    obtain ⟨n, hr, hn⟩ := kd_some hkd (by omega)
    have hA : A r = some (B + r) := hF.2.2.2.2.2.2.2.1 r (fr.1.lt hr)
    have hi : inI i := hd_ok fr.ok
    have he := wsO_at (B := B) (A := A) (kA := kA) hr
    rw [cel_l] at he
    rw [List.map_cons, List.map_cons, show trV A (Sum.inr (Sum.inr r)) = .ref (B + r) by simp [trV, va_rf, hA]]
    have hin : vp_in (Int32.ofInt i) n := i32_vin hi hi0 (by rw [← hn]; exact hi1)
    have hw := hk lo (vL (gG h r i) :: st') h H ls locs cells slots (fr.st (cons_ok (by have := rg_l (j := i.toNat) fr.1.2.2.2.2 hr; rwa [ix_nat hi0] at this) (tl_ok (tl_ok fr.ok)))) q
    have hv : Int64.ofInt (gG h r ((Int32.ofInt i).toNatClampNeg : Nat)) = Int64.ofInt (gG h r i) := by rw [i32_clamp hi hi0, ix_nat hi0]
    refine va_lald hF.1 hF.2.1 hF.2.2.2.2.2.1 fr.1.1 r 1 he rfl hin hdg ?_
    simp only [hv]
    exact hw
  · exact q.elim
theorem tys_q {kk : Nat} (h : kk = 104 ∨ kk = 105 ∨ kk = 106) : ∃ t0 : Nat, (tys7 kA)[t0]? = some (kA kk, FieldType.object (kC kk)) := by
  rcases h with rfl | rfl | rfl
  · exact ⟨4, rfl⟩
  · exact ⟨5, rfl⟩
  · exact ⟨6, rfl⟩
theorem s_aal (hF : FxC p s m c args cc nL own Ts D kA A B len0 adK adV) {kk : Nat} (hkk : kk = 104 ∨ kk = 105 ∨ kk = 106) (hdg : decode cc pc = .ok (.aaload, 1)) (hk : Sd p l e R s m args below meth c QQ B A kA D nL len0 tot0 (pc + 1) k) : Sd p l e R s m args below meth c QQ B A kA D nL len0 tot0 pc (o_aal kk k) := by
  intro lo st h H ls locs cells slots fr q
  unfold o_aal at q
  split at q
  · rename_i i r st'
    obtain ⟨⟨hkd, hi0, hi1⟩, q⟩ := q
    obtain ⟨n, hr, hn⟩ := kd_some hkd (by omega)
    have hA : A r = some (B + r) := hF.2.2.2.2.2.2.2.1 r (fr.1.lt hr)
    have hi : inI i := hd_ok fr.ok
    have he := wsO_at (B := B) (A := A) (kA := kA) hr
    rw [cel_q (by omega)] at he
    rw [List.map_cons, List.map_cons, show trV A (Sum.inr (Sum.inr r)) = .ref (B + r) by simp [trV, va_rf, hA]]
    have hin : vp_in (Int32.ofInt i) n := i32_vin hi hi0 (by rw [← hn]; exact hi1)
    have hw := hk lo (vR (gR h r i) :: st') h H ls locs cells slots (fr.st (cons_ok trivial (tl_ok (tl_ok fr.ok)))) q
    obtain ⟨t0, ht0⟩ := tys_q (kA := kA) hkk
    have hv : A (gR h r ((Int32.ofInt i).toNatClampNeg : Nat)) = A (gR h r i) := by rw [i32_clamp hi hi0, ix_nat hi0]
    refine va_aldq hF.1 hF.2.1 hF.2.2.2.2.2.1 fr.1.1 r t0 he ht0 hin hdg ?_
    simp only [hv]
    exact hw
  · exact q.elim
theorem upd_sG {h : Mem} {r : Nat} {i z : Int} (hi : inI i) (h0 : 0 ≤ i) : upd (fun j : Nat => Int32.ofInt (gG h r j)) (Int32.ofInt i).toNatClampNeg (Int32.ofInt z) = fun j : Nat => Int32.ofInt (gG (sG h r i z) r j) := by
  rw [i32_clamp hi h0]
  funext j
  show (if j = i.toNat then Int32.ofInt z else Int32.ofInt (gG h r j)) = Int32.ofInt (if r = r ∧ (j : Int) = i then z else h.2.1 r j)
  by_cases hj : j = i.toNat
  · rw [if_pos hj, if_pos ⟨rfl, by omega⟩]
  · rw [if_neg hj, if_neg (fun q => hj (by omega))]; rfl
theorem updL_sG {h : Mem} {r : Nat} {i z : Int} (hi : inI i) (h0 : 0 ≤ i) : vp_updL (fun j : Nat => Int64.ofInt (gG h r j)) (Int32.ofInt i).toNatClampNeg (Int64.ofInt z) = fun j : Nat => Int64.ofInt (gG (sG h r i z) r j) := by
  rw [i32_clamp hi h0]
  funext j
  show (if j = i.toNat then Int64.ofInt z else Int64.ofInt (gG h r j)) = Int64.ofInt (if r = r ∧ (j : Int) = i then z else h.2.1 r j)
  by_cases hj : j = i.toNat
  · rw [if_pos hj, if_pos ⟨rfl, by omega⟩]
  · rw [if_neg hj, if_neg (fun q => hj (by omega))]; rfl
theorem updQ_sR {h : Mem} {r z a : Nat} {i : Int} (hi : inI i) (h0 : 0 ≤ i) (hz : A z = some a) : va_up (fun j : Nat => A (gR h r j)) (Int32.ofInt i).toNatClampNeg (some a) = fun j : Nat => A (gR (sR h r i z) r j) := by
  rw [i32_clamp hi h0]
  funext j
  show (if j = i.toNat then some a else A (gR h r j)) = A (if r = r ∧ (j : Int) = i then z else h.2.2 r j)
  by_cases hj : j = i.toNat
  · rw [if_pos hj, if_pos ⟨rfl, by omega⟩, hz]
  · rw [if_neg hj, if_neg (fun q => hj (by omega))]; rfl
theorem MOk_sGi {h : Mem} {r kk n : Nat} {i z : Int} (hM : MOk h) (hr : h.1[r]? = some (kk, n)) (hk : kk = 100 ∨ kk = 102 ∨ kk = 103) (hz : inI z) : MOk (sG h r i z) :=
  MOk_sG hM hr (fun j _ => by unfold rngK; rcases hk with rfl | rfl | rfl <;> simpa [isL] using hz)
theorem s_ias (hF : FxC p s m c args cc nL own Ts D kA A B len0 adK adV) {kk : Nat} (hkk : kk = 100 ∨ kk = 102 ∨ kk = 103) (hdg : decode cc pc = .ok (if kk = 100 then .iastore else .bastore, 1)) (hk : Sd p l e R s m args below meth c QQ B A kA D nL len0 tot0 (pc + 1) k) {lo : Lo} {st : List MV} {h : Mem} {H : Heap} {ls : Array Slot} {locs : List Loc} {cells slots : Nat} (fr : FrC R s nL B A kA D len0 tot0 lo st h H ls locs cells slots) {i z : Int} {r : Nat} {st' : List MV} (hst : st = .inl z :: .inl i :: .inr (.inr r) :: st') (hix : ixOk h r i kk) (hsk : stOk kk z) (q : k lo st' (sG h r i z)) :
    W p l e R s m args below meth c H locs cells slots QQ (F0 m pc ls (st.map (trV A))) := by
  subst hst
  obtain ⟨hkd, hi0, hi1⟩ := hix
  obtain ⟨n, hr, hn⟩ := kd_some hkd (by omega)
  have hA : A r = some (B + r) := hF.2.2.2.2.2.2.2.1 r (fr.1.lt hr)
  have hz : inI z := hd_ok fr.ok
  have hi : inI i := hd_ok (tl_ok fr.ok)
  have he := wsO_at (B := B) (A := A) (kA := kA) hr
  rw [cel_i hkk] at he
  rw [List.map_cons, List.map_cons, List.map_cons, show trV A (Sum.inr (Sum.inr r)) = .ref (B + r) by simp [trV, va_rf, hA]]
  have hin : vp_in (Int32.ofInt i) n := i32_vin hi hi0 (by rw [← hn]; exact hi1)
  have hws : (wsO B A kA h).set r (B + r, .inl (kA kk, n, .inl (upd (fun j : Nat => Int32.ofInt (gG h r j)) (Int32.ofInt i).toNatClampNeg (Int32.ofInt z)))) = wsO B A kA (sG h r i z) := by
    refine wsO_set (h := h) (h' := sG h r i z) rfl hr cel_sG ?_
    rw [upd_sG hi hi0, cel_i hkk]
  have kk' : ∀ (H1 : Heap) (locs1 : List Loc), va_P D vwCl ((wsO B A kA h).set r (B + r, .inl (kA kk, n, .inl (upd (fun j : Nat => Int32.ofInt (gG h r j)) (Int32.ofInt i).toNatClampNeg (Int32.ofInt z))))) H1 → va_D (fun q => B ≤ q) ((wsO B A kA h).set r (B + r, .inl (kA kk, n, .inl (upd (fun j : Nat => Int32.ofInt (gG h r j)) (Int32.ofInt i).toNatClampNeg (Int32.ofInt z))))) → va_S (fun q => B ≤ q) s.heap H1 locs1 → W p l e R s m args below meth c H1 locs1 cells slots QQ (F0 m (pc + 1) ls (st'.map (trV A))) := by
    intro H1 locs1 h1 h2 h3
    rw [hws] at h1 h2
    exact hk lo st' (sG h r i z) H1 ls locs1 cells slots (fr.mem rfl h1 h2 h3 (MOk_sGi fr.1.2.2.2.2 hr hkk hz) (tl_ok (tl_ok (tl_ok fr.ok)))) q
  rcases hkk with rfl | rfl | rfl
  · exact va_iast hF.1 hF.2.1 hF.2.2.2.2.2.1 fr.1.1 fr.1.2.1 fr.2.1 r 0 he rfl hin hdg kk'
  · refine va_bast hF.1 hF.2.1 hF.2.2.2.2.2.1 fr.1.1 fr.1.2.1 fr.2.1 r 2 he rfl hin hdg ?_
    rw [i32_byte hsk]
    exact kk'
  · refine va_zast hF.1 hF.2.1 hF.2.2.2.2.2.1 fr.1.1 fr.1.2.1 fr.2.1 r 3 he rfl hin hdg ?_
    rw [i32_bool hsk]
    exact kk'
theorem s_iasI (hF : FxC p s m c args cc nL own Ts D kA A B len0 adK adV) (hdg : decode cc pc = .ok (.iastore, 1)) (hk : Sd p l e R s m args below meth c QQ B A kA D nL len0 tot0 (pc + 1) k) : Sd p l e R s m args below meth c QQ B A kA D nL len0 tot0 pc (o_iasI k) := by
  intro lo st h H ls locs cells slots fr q
  unfold o_iasI at q
  split at q
  · exact s_ias hF (kk := 100) (Or.inl rfl) hdg hk fr rfl q.1 trivial q.2
  · exact q.elim
theorem s_bas (hF : FxC p s m c args cc nL own Ts D kA A B len0 adK adV) {kk : Nat} (hkk : kk = 102 ∨ kk = 103) (hdg : decode cc pc = .ok (.bastore, 1)) (hk : Sd p l e R s m args below meth c QQ B A kA D nL len0 tot0 (pc + 1) k) : Sd p l e R s m args below meth c QQ B A kA D nL len0 tot0 pc (o_bas kk k) := by
  intro lo st h H ls locs cells slots fr q
  unfold o_bas at q
  split at q
  · refine s_ias hF (kk := kk) (Or.inr hkk) ?_ hk fr rfl q.1.1 q.1.2 q.2
    rw [if_neg (by omega)]
    exact hdg
  · exact q.elim
theorem s_las (hF : FxC p s m c args cc nL own Ts D kA A B len0 adK adV) (hdg : decode cc pc = .ok (.lastore, 1)) (hk : Sd p l e R s m args below meth c QQ B A kA D nL len0 tot0 (pc + 1) k) : Sd p l e R s m args below meth c QQ B A kA D nL len0 tot0 pc (o_las k) := by
  intro lo st h H ls locs cells slots fr q
  unfold o_las at q
  split at q
  · rename_i z i r st'
    obtain ⟨⟨hkd, hi0, hi1⟩, q⟩ := q
    obtain ⟨n, hr, hn⟩ := kd_some hkd (by omega)
    have hA : A r = some (B + r) := hF.2.2.2.2.2.2.2.1 r (fr.1.lt hr)
    have hz : inL z := hd_ok fr.ok
    have hi : inI i := hd_ok (tl_ok fr.ok)
    have he := wsO_at (B := B) (A := A) (kA := kA) hr
    rw [cel_l] at he
    rw [List.map_cons, List.map_cons, List.map_cons, show trV A (Sum.inr (Sum.inr r)) = .ref (B + r) by simp [trV, va_rf, hA]]
    have hin : vp_in (Int32.ofInt i) n := i32_vin hi hi0 (by rw [← hn]; exact hi1)
    have hws : (wsO B A kA h).set r (B + r, .inl (kA 101, n, .inr (.inl (vp_updL (fun j : Nat => Int64.ofInt (gG h r j)) (Int32.ofInt i).toNatClampNeg (Int64.ofInt z))))) = wsO B A kA (sG h r i z) := by
      refine wsO_set (h := h) (h' := sG h r i z) rfl hr cel_sG ?_
      rw [updL_sG hi hi0, cel_l]
    refine va_last hF.1 hF.2.1 hF.2.2.2.2.2.1 fr.1.1 fr.1.2.1 fr.2.1 r 1 he rfl hin hdg ?_
    intro H1 locs1 h1 h2 h3
    rw [hws] at h1 h2
    refine hk lo st' (sG h r i z) H1 ls locs1 cells slots (fr.mem rfl h1 h2 h3 (MOk_sG fr.1.2.2.2.2 hr (fun j _ => ?_)) (tl_ok (tl_ok (tl_ok fr.ok)))) q
    unfold rngK
    simpa [isL] using hz
  · exact q.elim
theorem s_aas (hF : FxC p s m c args cc nL own Ts D kA A B len0 adK adV) {kk ck : Nat} (hkk : (kk = 104 ∧ ck = 6) ∨ (kk = 105 ∧ ck = 7) ∨ (kk = 106 ∧ ck = 3)) (hdg : decode cc pc = .ok (.aastore, 1)) (hk : Sd p l e R s m args below meth c QQ B A kA D nL len0 tot0 (pc + 1) k) : Sd p l e R s m args below meth c QQ B A kA D nL len0 tot0 pc (o_aas kk ck k) := by
  intro lo st h H ls locs cells slots fr q
  unfold o_aas at q
  split at q
  · rename_i z i r st'
    obtain ⟨⟨⟨hkd, hi0, hi1⟩, hck⟩, q⟩ := q
    obtain ⟨n, hr, hn⟩ := kd_some hkd (by omega)
    obtain ⟨n2, hr2, -⟩ := kd_some hck (by omega)
    have hA : A r = some (B + r) := hF.2.2.2.2.2.2.2.1 r (fr.1.lt hr)
    have hA2 : A z = some (B + z) := hF.2.2.2.2.2.2.2.1 z (fr.1.lt hr2)
    have hi : inI i := hd_ok (tl_ok fr.ok)
    have he := wsO_at (B := B) (A := A) (kA := kA) hr
    have he2 := wsO_at (B := B) (A := A) (kA := kA) hr2
    rw [cel_q (by omega)] at he
    rw [cel_obj (by omega)] at he2
    rw [List.map_cons, List.map_cons, List.map_cons, show trV A (Sum.inr (Sum.inr r)) = .ref (B + r) by simp [trV, va_rf, hA], show trV A (Sum.inr (Sum.inr z)) = .ref (B + z) by simp [trV, va_rf, hA2]]
    have hin : vp_in (Int32.ofInt i) n := i32_vin hi hi0 (by rw [← hn]; exact hi1)
    have hws : (wsO B A kA h).set r (B + r, .inl (kA kk, n, .inr (.inr (.inr (.inr (va_up (fun j : Nat => A (gR h r j)) (Int32.ofInt i).toNatClampNeg (some (B + z)))))))) = wsO B A kA (sR h r i z) := by
      refine wsO_set (h := h) (h' := sR h r i z) rfl hr cel_sR ?_
      rw [updQ_sR hi hi0 hA2, cel_q (by omega)]
    have key : ∀ (H1 : Heap) (locs1 : List Loc), va_P D vwCl ((wsO B A kA h).set r (B + r, .inl (kA kk, n, .inr (.inr (.inr (.inr (va_up (fun j : Nat => A (gR h r j)) (Int32.ofInt i).toNatClampNeg (some (B + z))))))))) H1 → va_D (fun q => B ≤ q) ((wsO B A kA h).set r (B + r, .inl (kA kk, n, .inr (.inr (.inr (.inr (va_up (fun j : Nat => A (gR h r j)) (Int32.ofInt i).toNatClampNeg (some (B + z))))))))) → va_S (fun q => B ≤ q) s.heap H1 locs1 → W p l e R s m args below meth c H1 locs1 cells slots QQ (F0 m (pc + 1) ls (st'.map (trV A))) := by
      intro H1 locs1 h1 h2 h3
      rw [hws] at h1 h2
      exact hk lo st' (sR h r i z) H1 ls locs1 cells slots (fr.mem rfl h1 h2 h3 (fun r' q' hq' j => fr.1.2.2.2.2 r' q' hq' j) (tl_ok (tl_ok (tl_ok fr.ok)))) q
    rcases hkk with ⟨rfl, rfl⟩ | ⟨rfl, rfl⟩ | ⟨rfl, rfl⟩
    · exact va_astq hF.1 hF.2.1 hF.2.2.2.2.2.1 fr.1.1 fr.1.2.1 fr.2.1 r 4 z 6 (r := (RX6, TX6, 3)) he rfl he2 rfl hin hdg key
    · exact va_astq hF.1 hF.2.1 hF.2.2.2.2.2.1 fr.1.1 fr.1.2.1 fr.2.1 r 5 z 7 (r := (RX7, TX7, 20)) he rfl he2 rfl hin hdg key
    · exact va_astq hF.1 hF.2.1 hF.2.2.2.2.2.1 fr.1.1 fr.1.2.1 fr.2.1 r 6 z 3 (r := (RX3, TX3, 9)) he rfl he2 rfl hin hdg key
  · exact q.elim
theorem s_len (hF : FxC p s m c args cc nL own Ts D kA A B len0 adK adV) (hdg : decode cc pc = .ok (.arraylength, 1)) (hk : Sd p l e R s m args below meth c QQ B A kA D nL len0 tot0 (pc + 1) k) : Sd p l e R s m args below meth c QQ B A kA D nL len0 tot0 pc (o_len 101 k) := by
  intro lo st h H ls locs cells slots fr q
  unfold o_len at q
  split at q
  · rename_i r st'
    obtain ⟨hkd, q⟩ := q
    obtain ⟨n, hr, hn⟩ := kd_some hkd (by omega)
    have hA : A r = some (B + r) := hF.2.2.2.2.2.2.2.1 r (fr.1.lt hr)
    have he := wsO_at (B := B) (A := A) (kA := kA) hr
    rw [cel_l] at he
    rw [List.map_cons, show trV A (Sum.inr (Sum.inr r)) = .ref (B + r) by simp [trV, va_rf, hA]]
    have hsm : n < 100000 := by
      rcases fr.1.2.2.2.1 r _ hr with h1 | h1
      · exact absurd h1.1 (by simp)
      · exact h1.2.2
    exact va_alen hF.1 hF.2.1 hF.2.2.2.2.2.1 fr.1.1 r 1 he rfl (v := Int32.ofInt (ln h r)) (by rw [hn]; rfl) hdg (hk lo (vI (ln h r) :: st') h H ls locs cells slots (fr.st (cons_ok (by rw [hn]; exact ⟨by omega, by omega⟩) (tl_ok fr.ok))) q)
  · exact q.elim
end ARR
