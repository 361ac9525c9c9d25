/-! what is checked of an instruction; then the model's block is the machine's -/
section DEN
variable {p : Program} {l : Launch} {e : Env} {R : Room} {s : State} {m : MethodId} {args : Array Value} {below : List Frame} {meth : Method} {c : Code} {QQ : State → Prop} {B : Nat} {A : Nat → Option Nat} {kA : Nat → ClassId} {D : va_G} {cc : ByteArray} {nL : Nat} {own : String} {len0 tot0 : Nat} {Ts : List Cond} {pc : Nat} {k : Blk} {J : Jmp} {adK adV : Nat → Nat}
theorem op_snd {C : Cal} {Q : RetP} {S1 : List (Nat × Nat)} {d o rb : Nat} {ctor : Bool} (hF : FxC p s m c args cc nL (ON o) Ts D kA A B len0 adK adV) (ho : o < 14) (hAT : ∀ w ∈ AW, w ∈ Ts) (hY : ∀ y, y < NMc → YOk y) (hRf : d + 1 ≤ R.frames) (hRl : 100 * (d + 1) ≤ R.locals) (hRc : S1.length ≤ len0 + R.cells) (hRs : totS S1 ≤ tot0 + R.slots) (hct : ctor = true → meth.name = "<init>")
    (hC : ∀ y, y < NMc → ∀ as h Q, (∀ v ∈ as, vok v) → C y as h Q → MetM l AW B A kA D adK adV d y as h Q)
    (hStr : ∀ (idx y n pc : Nat) (k : Blk), (idx, y) ∈ mTab o → (y = 1005 ∧ n = 1) ∨ (y = 1006 ∧ n = 2) → decode cc pc = .ok (.invokevirtual idx, 3) → Sd p l e R s m args below meth c QQ B A kA D nL len0 tot0 (pc + 3) k → Sd p l e R s m args below meth c QQ B A kA D nL len0 tot0 pc (o_call C y n k))
    (hScr : o = 11 → ∀ (pc : Nat) (k : Blk), Sd p l e R s m args below meth c QQ B A kA D nL len0 tot0 (pc + 1) k → (decode cc pc = .ok (.iaload, 1) → Sd p l e R s m args below meth c QQ B A kA D nL len0 tot0 pc (fun lo st h => match st with | .inl i :: .inr (.inr 900000) :: st => C 2000 [vI i] h (fun r h' => k lo (psh r st) h') ∧ True | _ => False)) ∧ (decode cc pc = .ok (.arraylength, 1) → Sd p l e R s m args below meth c QQ B A kA D nL len0 tot0 pc (fun lo st h => match st with | .inr (.inr 900000) :: st => C 2001 [] h (fun r h' => k lo (psh r st) h') ∧ True | _ => False)))
    (hI : rb < 2 → ∀ pc, decode cc pc = .ok (.ireturn, 1) → Sd p l e R s m args below meth c QQ B A kA D nL len0 tot0 pc (o_iret Q S1 rb)) (hL : rb = 3 → ∀ pc, decode cc pc = .ok (.lreturn, 1) → Sd p l e R s m args below meth c QQ B A kA D nL len0 tot0 pc (o_lret Q S1)) (hV : rb = 4 → ∀ pc, decode cc pc = .ok (.return_, 1) → Sd p l e R s m args below meth c QQ B A kA D nL len0 tot0 pc (o_vret Q S1))
    (hJ : ∀ t, Sd p l e R s m args below meth c QQ B A kA D nL len0 tot0 t (J t)) {i : Instr} {y : Nat} {f z : Int} {ps : List (Int × Nat)} (hok : opOk o ctor rb nL pc (i, y, f, z, ps) = true) (hdec : i = .nop ∨ decode cc pc = .ok (i, lenI i f)) (hk : Sd p l e R s m args below meth c QQ B A kA D nL len0 tot0 (pc + lenI i f) k) : Sd p l e R s m args below meth c QQ B A kA D nL len0 tot0 pc (opd C J Q S1 (i, y, f, z, ps) k) := by
  have hb : ¬ i = .nop → decode cc pc = .ok (i, lenI i f) := fun h => hdec.resolve_left h
  have hR1 : 1 ≤ R.frames := by omega
  have hR2 : 100 ≤ R.locals := by omega
  have hRR : ∀ lo st h H ls locs cells slots, FrC R s nL B A kA D len0 tot0 lo st h H ls locs cells slots → cells ≤ R.cells ∧ slots ≤ R.slots := fun _ _ _ _ _ _ _ _ fr => fr.2.2.2.1.2
  cases i with
  | aload n =>
    exact s_aload hF (hb (by intro h; cases h)) hk
  | aload_n n =>
    exact s_aload_n hF (hb (by intro h; cases h)) hk
  | iload n =>
    exact s_iload hF (hb (by intro h; cases h)) hk
  | iload_n n =>
    exact s_iload_n hF (hb (by intro h; cases h)) hk
  | lload n =>
    exact s_lload hF (hb (by intro h; cases h)) hk
  | lload_n n =>
    exact s_lload_n hF (hb (by intro h; cases h)) hk
  | istore n =>
    exact s_istore hF (of_decide_eq_true hok) (hb (by intro h; cases h)) hk
  | istore_n n =>
    exact s_istore_n hF (of_decide_eq_true hok) (hb (by intro h; cases h)) hk
  | astore n =>
    exact s_astore hF (of_decide_eq_true hok) (hb (by intro h; cases h)) hk
  | astore_n n =>
    exact s_astore_n hF (of_decide_eq_true hok) (hb (by intro h; cases h)) hk
  | lstore n =>
    exact s_lstore hF (of_decide_eq_true hok) (hb (by intro h; cases h)) hk
  | lstore_n n =>
    exact s_lstore_n hF (of_decide_eq_true hok) (hb (by intro h; cases h)) hk
  | iinc n v =>
    exact s_iinc hF (of_decide_eq_true hok) (hb (by intro h; cases h)) hk
  | iconst v =>
    have h2 : (decide (-2147483648 ≤ v) && decide (v ≤ 2147483647)) = true := hok
    simp only [Bool.and_eq_true, decide_eq_true_eq] at h2
    exact s_iconst hF h2 (hb (by intro h; cases h)) hk
  | bipush v =>
    exact s_bipush hF (of_decide_eq_true hok) (hb (by intro h; cases h)) hk
  | sipush v =>
    exact s_sipush hF (of_decide_eq_true hok) (hb (by intro h; cases h)) hk
  | lconst v =>
    exact s_lconst hF (hb (by intro h; cases h)) hk
  | ldc n =>
    dsimp only [opOk, opd] at hok ⊢
    split at hok
    · simp only [in32, Bool.and_eq_true, decide_eq_true_eq] at hok
      exact s_ldc hF hok.2 (hAT _ (AW_k ho hok.1)) (hb (by intro h; cases h)) hk
    · rename_i hy
      have hX := hF.2.2.2.2.2.2.2.2.2.2.2
      split
      · exact absurd rfl (hy)
      rcases of_decide_eq_true hok with ⟨rfl, rfl, rfl⟩ | ⟨rfl, rfl, rfl⟩
      · exact s_ldcS hF hF.2.2.2.2.2.2.2.2.2.1 hX.2.2.2.2.2.2.1 (hb (by intro h; cases h)) hk
      · exact s_ldcS hF hF.2.2.2.2.2.2.2.2.2.2.1 hX.2.2.2.2.2.2.2.1 (hb (by intro h; cases h)) hk
  | ldc_w n =>
    simp only [opOk, in32, Bool.and_eq_true, decide_eq_true_eq] at hok
    exact s_ldcw hF hok.2 (hAT _ (AW_k ho hok.1)) (hb (by intro h; cases h)) hk
  | ldc2_w n =>
    simp only [opOk, in64, Bool.and_eq_true, decide_eq_true_eq] at hok
    exact s_ldc2 hF hok.2 (hAT _ (AW_l ho hok.1)) (hb (by intro h; cases h)) hk
  | iadd =>
    exact s_iadd hF (hb (by intro h; cases h)) hk
  | isub =>
    exact s_isub hF (hb (by intro h; cases h)) hk
  | imul =>
    exact s_imul hF (hb (by intro h; cases h)) hk
  | idiv =>
    exact s_idiv hF (hb (by intro h; cases h)) hk
  | irem =>
    exact s_irem hF (hb (by intro h; cases h)) hk
  | ishl =>
    exact s_ishl hF (hb (by intro h; cases h)) hk
  | ishr =>
    exact s_ishr hF (hb (by intro h; cases h)) hk
  | iushr =>
    exact s_iushr hF (hb (by intro h; cases h)) hk
  | iand =>
    exact s_iand hF (hb (by intro h; cases h)) hk
  | ior =>
    exact s_ior hF (hb (by intro h; cases h)) hk
  | ixor =>
    exact s_ixor hF (hb (by intro h; cases h)) hk
  | i2b =>
    exact s_i2b hF (hb (by intro h; cases h)) hk
  | i2s =>
    exact s_i2s hF (hb (by intro h; cases h)) hk
  | i2l =>
    exact s_i2l hF (hb (by intro h; cases h)) hk
  | l2i =>
    exact s_l2i hF (hb (by intro h; cases h)) hk
  | ladd =>
    exact s_ladd hF (hb (by intro h; cases h)) hk
  | lsub =>
    exact s_lsub hF (hb (by intro h; cases h)) hk
  | lmul =>
    exact s_lmul hF (hb (by intro h; cases h)) hk
  | ldiv =>
    exact s_ldiv hF (hb (by intro h; cases h)) hk
  | lrem =>
    exact s_lrem hF (hb (by intro h; cases h)) hk
  | land =>
    exact s_land hF (hb (by intro h; cases h)) hk
  | lor =>
    exact s_lor hF (hb (by intro h; cases h)) hk
  | lshl =>
    exact s_lshl hF (hb (by intro h; cases h)) hk
  | lcmp =>
    exact s_lcmp hF (hb (by intro h; cases h)) hk
  | dup =>
    exact s_dup hF (hb (by intro h; cases h)) hk
  | dup2 =>
    exact s_dup2 hF (hb (by intro h; cases h)) hk
  | pop =>
    exact s_pop hF (hb (by intro h; cases h)) hk
  | goto off =>
    exact s_goto hF (of_decide_eq_true hok) (hb (by intro h; cases h)) (hJ y)
  | nop =>
    have e : y = pc := of_decide_eq_true hok
    subst e
    exact s_fall (hJ y)
  | ifCond cd off =>
    exact s_if hF (of_decide_eq_true hok) (hb (by intro h; cases h)) (hJ y) hk
  | if_icmp cd off =>
    exact s_icmp hF (of_decide_eq_true hok) (hb (by intro h; cases h)) (hJ y) hk
  | tableswitch dflt lw hg ar =>
    simp only [opOk, Bool.and_eq_true, decide_eq_true_eq] at hok
    exact s_table hF hok.1.1 hok.1.2 hok.2 (hb (by intro h; cases h)) (fun t _ => hJ t)
  | lookupswitch dflt ar =>
    simp only [opOk, Bool.and_eq_true, decide_eq_true_eq] at hok
    exact s_lookup hF hok.1.1 hok.1.2 hok.2 (hb (by intro h; cases h)) (fun t _ => hJ t)
  | getfield n =>
    simp only [opOk, Bool.and_eq_true, decide_eq_true_eq] at hok
    obtain ⟨⟨⟨⟨h1, h2⟩, h3⟩, h4⟩, h5⟩ := hok
    obtain ⟨fn, rfl⟩ := Int.eq_ofNat_of_zero_le h2
    have hfn : ((fn : Int)).toNat = fn := rfl
    rw [hfn] at h1 h4 h5
    rcases h5 with ⟨rfl, h5⟩ | ⟨rfl, h5⟩ | ⟨rfl, h5 | h5⟩
    · exact s_get hF h3 h4 h5 (Or.inl ⟨rfl, rfl⟩) (hAT _ (AW_f ho h1)) (fun w h => hAT w (AW_lay h3 w h)) (hb (by intro h; cases h)) hk
    · exact s_get hF h3 h4 h5 (Or.inr (Or.inl ⟨rfl, rfl⟩)) (hAT _ (AW_f ho h1)) (fun w h => hAT w (AW_lay h3 w h)) (hb (by intro h; cases h)) hk
    · exact s_get hF h3 h4 h5 (Or.inr (Or.inr ⟨rfl, by omega, by omega⟩)) (hAT _ (AW_f ho h1)) (fun w h => hAT w (AW_lay h3 w h)) (hb (by intro h; cases h)) hk
    · exact s_get hF h3 h4 h5 (Or.inr (Or.inr ⟨rfl, by omega, by omega⟩)) (hAT _ (AW_f ho h1)) (fun w h => hAT w (AW_lay h3 w h)) (hb (by intro h; cases h)) hk
  | putfield n =>
    simp only [opOk, Bool.and_eq_true, decide_eq_true_eq, Bool.or_eq_true] at hok
    obtain ⟨⟨⟨⟨⟨⟨h1, h2⟩, h3⟩, h4⟩, h5⟩, h6⟩, h7⟩ := hok
    obtain ⟨fn, rfl⟩ := Int.eq_ofNat_of_zero_le h2
    obtain ⟨zn, rfl⟩ := Int.eq_ofNat_of_zero_le h5
    have hfn : ((fn : Int)).toNat = fn := rfl
    have hzn : ((zn : Int)).toNat = zn := rfl
    rw [hfn] at h1 h4 h6 h7
    rw [hzn] at h6
    refine s_put hF h3 h4 h6 rfl ?_ (hAT _ (AW_f ho h1)) (fun w h => hAT w (AW_lay h3 w h)) (hb (by intro h; cases h)) hk
    rcases h7 with h7 | ⟨h7, h8⟩
    · exact Or.inl h7
    · by_cases hfi : (TT y fn).2.2.2 = false
      · exact Or.inl hfi
      · exact Or.inr ⟨by simpa using hfi, hct h7, by rw [TT_own y h3 fn h4, h8]⟩
  | iaload =>
    simp only [opOk, Bool.and_eq_true, decide_eq_true_eq, Bool.or_eq_true] at hok
    rcases hok with rfl | ⟨rfl, e11⟩
    · exact s_ial hF (kk := 100) (Or.inl rfl) (hb (by intro h; cases h)) hk
    · exact ((hScr e11 pc k hk).1 (hb (by intro h; cases h)))
  | laload =>
    exact s_lal hF (hb (by intro h; cases h)) hk
  | baload =>
    simp only [opOk, decide_eq_true_eq, Bool.or_eq_true] at hok
    rcases hok with rfl | rfl
    · exact s_ial hF (kk := 102) (Or.inr (Or.inl rfl)) (hb (by intro h; cases h)) hk
    · exact s_ial hF (kk := 103) (Or.inr (Or.inr rfl)) (hb (by intro h; cases h)) hk
  | aaload =>
    exact s_aal hF (of_decide_eq_true hok) (hb (by intro h; cases h)) hk
  | iastore =>
    exact s_iasI hF (hb (by intro h; cases h)) hk
  | lastore =>
    exact s_las hF (hb (by intro h; cases h)) hk
  | bastore =>
    simp only [opOk, decide_eq_true_eq, Bool.or_eq_true] at hok
    exact s_bas hF hok (hb (by intro h; cases h)) hk
  | aastore =>
    have h2 := of_decide_eq_true hok
    refine s_aas hF ?_ (hb (by intro h; cases h)) hk
    rcases h2 with ⟨rfl, rfl⟩ | ⟨rfl, rfl⟩ | ⟨rfl, rfl⟩
    · exact Or.inl ⟨rfl, rfl⟩
    · exact Or.inr (Or.inl ⟨rfl, rfl⟩)
    · exact Or.inr (Or.inr ⟨rfl, rfl⟩)
  | arraylength =>
    simp only [opOk, Bool.and_eq_true, decide_eq_true_eq, Bool.or_eq_true] at hok
    rcases hok with rfl | ⟨rfl, e11⟩
    · exact s_len hF (hb (by intro h; cases h)) hk
    · exact ((hScr e11 pc k hk).2 (hb (by intro h; cases h)))
  | new n =>
    simp only [opOk, Bool.and_eq_true, decide_eq_true_eq] at hok
    obtain ⟨⟨h1, h2⟩, rfl⟩ := hok
    exact s_new hF h2 rfl hRc hRs (hAT _ (AW_cl ho h1)) (hAT _ (AW_ins h2)) (hAT _ (by rw [RR_ON y h2]; exact AW_ini (by omega))) (fun w h => hAT w (AW_lay h2 w h)) (hb (by intro h; cases h)) hk
  | newarray at' =>
    have h2 := of_decide_eq_true hok
    refine s_newa hF h2 hRc hRs (hAT _ (AW_o (List.mem_append_right _ ?_))) (hb (by intro h; cases h)) hk
    rcases h2 with ⟨rfl, rfl⟩ | ⟨rfl, rfl⟩ | ⟨rfl, rfl⟩ | ⟨rfl, rfl⟩ <;> simp [kTy]
  | anewarray n =>
    simp only [opOk, Bool.and_eq_true, decide_eq_true_eq] at hok
    exact s_anew hF hok.1 hRc hRs (hAT _ (by rw [kC_RR y hok.1]; exact AW_cl ho hok.2)) (hb (by intro h; cases h)) hk
  | invokestatic n =>
    dsimp only [opOk, opd] at hok ⊢
    split at hok
    · have h1 := of_decide_eq_true hok
      exact s_max hF hR1 hR2 hRR (hAT _ (AW_m ho h1)) (hAT _ (AW_o (List.mem_append_right _ (by simp)))) (hAT _ (AW_o (List.mem_append_right _ (by simp)))) (hAT _ (AW_o (List.mem_append_right _ (by simp)))) (hb (by intro h; cases h)) hk
    · have h1 := of_decide_eq_true hok
      exact s_min hF hR1 hR2 hRR (hAT _ (AW_m ho h1)) (hAT _ (AW_o (List.mem_append_right _ (by simp)))) (hAT _ (AW_o (List.mem_append_right _ (by simp)))) (hAT _ (AW_o (List.mem_append_right _ (by simp)))) (hb (by intro h; cases h)) hk
    · simp only [Bool.and_eq_true, decide_eq_true_eq] at hok
      refine s_cpy hF hR1 hR2 ?_ (hAT _ (AW_m ho hok.1)) (hAT _ (AW_o (List.mem_append_right _ (by simp)))) (hAT _ (AW_o (List.mem_append_right _ (by simp)))) (hAT _ (AW_o (List.mem_append_right _ (by simp)))) (hb (by intro h; cases h)) hk
      rcases hok.2 with rfl | rfl
      · exact Or.inl rfl
      · exact Or.inr rfl
    · rename_i n1 n2 n3
      simp only [callOk, Bool.and_eq_true, decide_eq_true_eq, Bool.or_eq_true] at hok
      obtain ⟨⟨⟨⟨h1, h2⟩, rfl⟩, h3⟩, h4⟩ := hok
      have hy := hY y h1
      have hcd := AW_code h1
      have hst : Cond.static (mi y).1 ∈ AW := by
        refine AW_y h1 ?_
        unfold flv at h2
        simp [wY, h2]
      have hini : Cond.initialized (mi y).1.cls ∈ AW := by rw [hy.1]; exact AW_ini hy.2.2.2.2.2.2.2
      have hg0 : growM y = [] := List.length_eq_zero_iff.mp h3
      rcases h4 with h4 | ⟨h4, h5⟩
      · split
        · exact absurd h1 (by decide)
        · exact absurd h1 (by decide)
        · exact absurd h1 (by decide)
        exact s_callS hF hAT (fun w h => AW_all h) hcd hini hy.2.1 hy.2.2.1 hRf hRl hy.2.2.2.2.2.2.1 hg0 hRR hy.2.2.2.1 (by have := AW_m ho h4; rwa [yOf_mi h1] at this) hst (hC y h1) (hb (by intro h; cases h)) hk
      · subst h4
        have hX := hF.2.2.2.2.2.2.2.2.2.2.2
        rcases h5 with ⟨rfl, rfl⟩ | ⟨rfl, rfl⟩ | ⟨rfl, rfl⟩
        · exact s_callSN (host := RX9) hF hAT (fun w h => AW_all h) hcd hini hy.2.1 hy.2.2.1 hRf hRl hy.2.2.2.2.2.2.1 hg0 hRR hy.2.2.2.1 hX.2.2.2.1 hst (hC 182 h1) (hb (by intro h; cases h)) hk
        · exact s_callSN (host := RX9) hF hAT (fun w h => AW_all h) hcd hini hy.2.1 hy.2.2.1 hRf hRl hy.2.2.2.2.2.2.1 hg0 hRR hy.2.2.2.1 hX.2.2.2.2.1 hst (hC 182 h1) (hb (by intro h; cases h)) hk
        · exact s_callSN (host := RX9) hF hAT (fun w h => AW_all h) hcd hini hy.2.1 hy.2.2.1 hRf hRl hy.2.2.2.2.2.2.1 hg0 hRR hy.2.2.2.1 hX.2.2.2.2.2.1 hst (hC 182 h1) (hb (by intro h; cases h)) hk
  | invokevirtual n =>
    dsimp only [opOk, opd] at hok ⊢
    split at hok
    · simp only [Bool.and_eq_true, decide_eq_true_eq] at hok
      rcases hok.2 with ⟨rfl, rfl⟩ | ⟨rfl, rfl⟩
      · exact hStr n 1005 1 pc k hok.1 (Or.inl ⟨rfl, rfl⟩) (hb (by intro h; cases h)) hk
      · exact hStr n 1006 2 pc k hok.1 (Or.inr ⟨rfl, rfl⟩) (hb (by intro h; cases h)) hk
    · simp only [callOk, Bool.and_eq_true, decide_eq_true_eq] at hok
      obtain ⟨⟨⟨⟨⟨⟨h1, h2⟩, rfl⟩, h3⟩, h4⟩, rfl⟩, h5⟩ := hok
      have hy := hY y h1
      have hcd := AW_code h1
      have hin : Cond.instanceMethod (mi y).1 ∈ AW := by
        refine AW_y h1 ?_
        unfold flv at h2
        simp [wY, h2]
      have hse : Cond.selects (mi y).1.cls (mi y).1 (mi y).1 ∈ AW := by
        refine AW_y h1 ?_
        unfold flv at h2
        simp [wY, h2]
      have hini : Cond.initialized (mi y).1.cls ∈ AW := by rw [hy.1]; exact AW_ini hy.2.2.2.2.2.2.2
      have hg0 : growM y = [] := List.length_eq_zero_iff.mp h3
      have hpd : (parseMethodDescriptor (mi y).1.desc).map (fun d => d.parameters.length + 1) = some (nar y + 1) := by
        have := hy.2.2.2.1
        cases hp : parseMethodDescriptor (mi y).1.desc with
        | none => rw [hp] at this; cases this
        | some v => rw [hp] at this; simp only [Option.map_some, Option.some.injEq] at this ⊢; omega
      split
      · rename_i he
        omega
      exact s_callV hF hAT (fun w h => AW_all h) hcd hini hy.2.1 hy.2.2.1 hRf hRl hy.2.2.2.2.2.2.1 h5 (hy.1.trans (RR_ON _ h5).symm) hg0 hRR hpd (by have := AW_m ho h4; rwa [yOf_mi h1] at this) hin hse (hC y h1) (hb (by intro h; cases h)) hk
  | invokespecial n =>
    dsimp only [opOk, opd] at hok ⊢
    split at hok
    · have h1 := of_decide_eq_true hok
      exact s_oin hF hR1 hR2 (hAT _ (AW_m ho h1)) (hAT _ (AW_o (List.mem_append_right _ (by simp)))) (hAT _ (AW_o (List.mem_append_right _ (by simp)))) (hb (by intro h; cases h)) hk
    · simp only [callOk, Bool.and_eq_true, decide_eq_true_eq] at hok
      obtain ⟨⟨⟨⟨⟨⟨h1, h2⟩, rfl⟩, h4⟩, rfl⟩, h5⟩, hps⟩ := hok
      have hy := hY y h1
      have hcd := AW_code h1
      have hin : Cond.instanceMethod (mi y).1 ∈ AW := by
        refine AW_y h1 ?_
        unfold flv at h2
        simp [wY, h2]
      have hini : Cond.initialized (mi y).1.cls ∈ AW := by rw [hy.1]; exact AW_ini hy.2.2.2.2.2.2.2
      have hpd : (parseMethodDescriptor (mi y).1.desc).map (fun d => d.parameters.length + 1) = some (nar y + 1) := by
        have := hy.2.2.2.1
        cases hp : parseMethodDescriptor (mi y).1.desc with
        | none => rw [hp] at this; cases this
        | some v => rw [hp] at this; simp only [Option.map_some, Option.some.injEq] at this ⊢; omega
      split
      · exact absurd h1 (by decide)
      exact s_callI hF hAT (fun w h => AW_all h) hcd hini hy.2.1 hy.2.2.1 hRf hRl hy.2.2.2.2.2.2.1 h5 hps hRc hRs (hy.2.2.2.2.2.1 h2).2 (hy.2.2.2.2.2.1 h2).1 hpd (by have := AW_m ho h4; rwa [yOf_mi h1] at this) hin (hC y h1) (hb (by intro h; cases h)) hk
  | ireturn =>
    simp only [opOk, Bool.and_eq_true, decide_eq_true_eq] at hok
    obtain ⟨rfl, h2⟩ := hok
    exact hI h2 pc (hb (by intro h; cases h))
  | lreturn =>
    exact hL (of_decide_eq_true hok) pc (hb (by intro h; cases h))
  | return_ =>
    exact hV (of_decide_eq_true hok) pc (hb (by intro h; cases h))
  | _ => exact fun lo st h H ls locs cells slots fr q => q.elim
end DEN
