/-! arraycopy, constants, the words that all methods need, what is checked of an instruction, and that then the model's block is the machine's -/
section MORE
variable {p : Program} {l : Launch} {e : Env} {R : Room} {s : State} {m : MethodId} {args : Array Value} {below : List Frame} {meth : Method} {c : Code} {QQ : State → Prop} {B : Nat} {A : Nat → Option Nat} {kA : Nat → ClassId} {D : va_G} {cc : ByteArray} {nL : Nat} {own : String} {len0 tot0 : Nat} {Ts : List Cond} {pc : Nat} {k : Blk} {J : Jmp} {adK adV : Nat → Nat}
theorem MOk_cp {h : Mem} {src dst kk n1 n2 : Nat} {sp dp n : Int} (hM : MOk h) (hs : h.1[src]? = some (kk, n1)) (hd : h.1[dst]? = some (kk, n2)) (hk : kk = 100 ∨ kk = 101) (h0 : 0 ≤ sp) : MOk (cpG h src sp dst dp n) := by
  intro r q hq j
  show rngK q.1 j (if r = dst ∧ dp ≤ (j : Int) ∧ (j : Int) < dp + n then h.2.1 src (sp + ((j : Int) - dp)) else h.2.1 r j)
  by_cases hc : r = dst ∧ dp ≤ (j : Int) ∧ (j : Int) < dp + n
  · rw [if_pos hc]
    obtain ⟨rfl, h1, h2⟩ := hc
    have : some q = some (kk, n2) := hq.symm.trans hd
    cases this
    have hv := hM src _ hs (sp + ((j : Int) - dp)).toNat
    rw [ix_nat (by omega)] at hv
    unfold rngK at hv ⊢
    rcases hk with rfl | rfl <;> simpa [isL, gG] using hv
  · rw [if_neg hc]
    exact hM r q hq j
theorem cpy_eq {h : Mem} {src dst : Nat} {sp dp n : Int} {α : Type} (F : Int → α) (hs : inI sp) (hd : inI dp) (hn : inI n) (h0 : 0 ≤ sp) (h1 : 0 ≤ dp) (h2 : 0 ≤ n) :
    va_cpy (fun j : Nat => F (gG h src j)) (fun j : Nat => F (gG h dst j)) (Int32.ofInt sp).toNatClampNeg (Int32.ofInt dp).toNatClampNeg (Int32.ofInt n).toNatClampNeg = fun j : Nat => F (gG (cpG h src sp dst dp n) dst j) := by
  rw [i32_clamp hs h0, i32_clamp hd h1, i32_clamp hn h2]
  funext j
  show (if dp.toNat ≤ j ∧ j < dp.toNat + n.toNat then F (gG h src ((sp.toNat + (j - dp.toNat) : Nat) : Int)) else F (gG h dst j)) = F (if dst = dst ∧ dp ≤ (j : Int) ∧ (j : Int) < dp + n then h.2.1 src (sp + ((j : Int) - dp)) else h.2.1 dst j)
  by_cases hc : dp.toNat ≤ j ∧ j < dp.toNat + n.toNat
  · rw [if_pos hc, if_pos ⟨rfl, by omega, by omega⟩]
    have : ((sp.toNat + (j - dp.toNat) : Nat) : Int) = sp + ((j : Int) - dp) := by omega
    rw [this]; rfl
  · rw [if_neg hc, if_neg (fun q => hc (by omega))]; rfl
theorem s_cpy (hF : FxC p s m c args cc nL own Ts D kA A B len0 adK adV) (hRf : 1 ≤ R.frames) (hRl : 100 ≤ R.locals) {idx kk : Nat} (hkk : kk = 100 ∨ kk = 101) (hw1 : Cond.methodLink own idx arraycopyName ∈ Ts) (hw2 : Cond.native arraycopyName ∈ Ts) (hw3 : Cond.static arraycopyName ∈ Ts) (hw4 : Cond.initialized "java/lang/System" ∈ Ts) (hdg : decode cc pc = .ok (.invokestatic idx, 3)) (hk : Sd p l e R s m args below meth c QQ B A kA D nL len0 tot0 (pc + 3) k) : Sd p l e R s m args below meth c QQ B A kA D nL len0 tot0 pc (o_cpy kk k) := by
  intro lo st h H ls locs cells slots fr q
  unfold o_cpy at q
  split at q
  · rename_i n dp dst sp src st'
    obtain ⟨⟨hk1, hk2, s0, d0, n0, l1, l2, hl⟩, q⟩ := q
    obtain ⟨m1, hr1, e1⟩ := kd_some hk1 (by omega)
    obtain ⟨m2, hr2, e2⟩ := kd_some hk2 (by omega)
    have hA1 : A src = some (B + src) := hF.2.2.2.2.2.2.2.1 src (fr.1.lt hr1)
    have hA2 : A dst = some (B + dst) := hF.2.2.2.2.2.2.2.1 dst (fr.1.lt hr2)
    have hn : inI n := hd_ok fr.ok
    have hdp : inI dp := hd_ok (tl_ok fr.ok)
    have hsp : inI sp := hd_ok (tl_ok (tl_ok (tl_ok fr.ok)))
    have hts := hF.2.2.2.2.1
    have hc := cat_le (A := A) (st := st')
    have hst := tl_ok (tl_ok (tl_ok (tl_ok (tl_ok fr.ok))))
    have he1 := wsO_at (B := B) (A := A) (kA := kA) hr1
    have he2 := wsO_at (B := B) (A := A) (kA := kA) hr2
    rw [List.map_cons, List.map_cons, List.map_cons, List.map_cons, List.map_cons, show trV A (Sum.inr (Sum.inr src)) = .ref (B + src) by simp [trV, va_rf, hA1], show trV A (Sum.inr (Sum.inr dst)) = .ref (B + dst) by simp [trV, va_rf, hA2]]
    have ng : ∀ {z : Int}, inI z → 0 ≤ z → ¬ Int32.ofInt z < 0 := fun hz h0 q => by have := (i32_lt hz inI_0).mp (i32_0 ▸ q); omega
    have hnw : nativeFrameWords "java/lang/System" "arraycopy" 5 = 7 := by decide +kernel
    have hM := MOk_cp (dp := dp) (n := n) fr.1.2.2.2.2 hr1 hr2 hkk s0
    rcases hkk with rfl | rfl
    · rw [cel_i (Or.inl rfl)] at he1 he2
      refine va_copyi hF.1 hF.2.1 (hF.2.2.1.trans fr.2.2.1.1.symm) hF.2.2.2.1 (hts _ hw1) (hts _ hw2) (hts _ hw3) (hts _ hw4) hF.2.2.2.2.2.1 fr.1.1 fr.1.2.1 fr.2.1 src dst 0 0 (ty := .int) he1 he2 rfl rfl rfl (ng hsp s0) (ng hdp d0) (ng hn n0) (by rw [i32_clamp hsp s0, i32_clamp hn n0]; omega) (by rw [i32_clamp hdp d0, i32_clamp hn n0]; omega) (fun _ _ => rfl) hRf ?_ hdg ?_
      · rw [hnw]; omega
      intro H1 locs1 h1 h2 h3
      have hws : (wsO B A kA h).set dst (B + dst, .inl (kA 100, m2, .inl (va_cpy (fun j : Nat => Int32.ofInt (gG h src j)) (fun j : Nat => Int32.ofInt (gG h dst j)) (Int32.ofInt sp).toNatClampNeg (Int32.ofInt dp).toNatClampNeg (Int32.ofInt n).toNatClampNeg))) = wsO B A kA (cpG h src sp dst dp n) := by
        refine wsO_set (h := h) (h' := cpG h src sp dst dp n) rfl hr2 cel_cp ?_
        rw [cpy_eq Int32.ofInt hsp hdp hn s0 d0 n0, cel_i (Or.inl rfl)]
      rw [hws] at h1 h2
      exact hk lo st' (cpG h src sp dst dp n) H1 ls locs1 cells slots (fr.mem rfl h1 h2 h3 hM hst) q
    · rw [cel_l] at he1 he2
      refine va_copyl hF.1 hF.2.1 (hF.2.2.1.trans fr.2.2.1.1.symm) hF.2.2.2.1 (hts _ hw1) (hts _ hw2) (hts _ hw3) (hts _ hw4) hF.2.2.2.2.2.1 fr.1.1 fr.1.2.1 fr.2.1 src dst 1 1 (ty := .long) he1 he2 rfl rfl rfl (ng hsp s0) (ng hdp d0) (ng hn n0) (by rw [i32_clamp hsp s0, i32_clamp hn n0]; omega) (by rw [i32_clamp hdp d0, i32_clamp hn n0]; omega) (fun _ _ => rfl) hRf ?_ hdg ?_
      · rw [hnw]; omega
      intro H1 locs1 h1 h2 h3
      have hws : (wsO B A kA h).set dst (B + dst, .inl (kA 101, m2, .inr (.inl (va_cpy (fun j : Nat => Int64.ofInt (gG h src j)) (fun j : Nat => Int64.ofInt (gG h dst j)) (Int32.ofInt sp).toNatClampNeg (Int32.ofInt dp).toNatClampNeg (Int32.ofInt n).toNatClampNeg)))) = wsO B A kA (cpG h src sp dst dp n) := by
        refine wsO_set (h := h) (h' := cpG h src sp dst dp n) rfl hr2 cel_cp ?_
        rw [cpy_eq Int64.ofInt hsp hdp hn s0 d0 n0, cel_l]
      rw [hws] at h1 h2
      exact hk lo st' (cpG h src sp dst dp n) H1 ls locs1 cells slots (fr.mem rfl h1 h2 h3 hM hst) q
  · exact q.elim
theorem s_ldcw (hF : FxC p s m c args cc nL own Ts D kA A B len0 adK adV) {i : Nat} {z : Int} (hz : inI z) (hw : Jvm.Cond.constant own i (Int32.ofInt z) ∈ Ts) (hdg : decode cc pc = .ok (.ldc_w i, 3)) (hk : Sd p l e R s m args below meth c QQ B A kA D nL len0 tot0 (pc + 3) k) : Sd p l e R s m args below meth c QQ B A kA D nL len0 tot0 pc (o_psh (vI z) k) := by
  intro lo st h H ls locs cells slots fr q
  intro T hT X
  obtain ⟨t, a1, b1⟩ := hk lo (vI z :: st) h H ls locs cells slots (fr.push hz) q T hT X
  exact ⟨t, va_ldcwI X hF.1 hF.2.2.2.1 (hF.2.2.2.2.1 _ hw) (g := F0 m pc ls (st.map (trV A))) rfl (by rw [hF.2.1]; exact hdg) t a1, b1⟩
theorem s_ldcS (hF : FxC p s m c args cc nL own Ts D kA A B len0 adK adV) {i r a : Nat} {tx : String} (hA : A r = some a) (hR : vk_R own i tx a s) (hdg : decode cc pc = .ok (.ldc i, 2)) (hk : Sd p l e R s m args below meth c QQ B A kA D nL len0 tot0 (pc + 2) k) : Sd p l e R s m args below meth c QQ B A kA D nL len0 tot0 pc (o_psh (vR r) k) := by
  intro lo st h H ls locs cells slots fr q
  have hw := hk lo (vR r :: st) h H ls locs cells slots (fr.push trivial) q
  rw [List.map_cons, show trV A (vR r) = .ref a by simp [trV, va_rf, hA]] at hw
  exact va_ldcS hF.1 hF.2.1 hF.2.2.2.1 hR hdg hw
end MORE
