/-! LEVEL 3: texts -/
theorem pOpt_j {P : Int → Int} {n e w hi idx : Int} {A : Int → Int} {g : Int → Int → Int} {q : (Int → Int) × Int} (hg : ∀ m, g m = pu A idx m) (hx : 10 ≤ idx) (h : pOpt P n e w hi A g = .inr q) : ∀ j, j < 10 → q.1 j = A j := by
  intro j hj
  unfold pOpt at h
  split at h
  · obtain ⟨a, -, h⟩ := bd_i h
    rw [← Sum.inr.inj h]
    show g a.1 j = A j
    rw [hg, pu_n (by omega)]
  · rw [← Sum.inr.inj h]
def nn3 (A : Int → Int) : Prop := 0 ≤ A 0 ∧ 0 ≤ A 1 ∧ 0 ≤ A 2
def kp67 (A A' : Int → Int) : Prop := A' 6 = A 6 ∧ A' 7 = A 7 ∧ nn3 A'
theorem vArch_67 {P : Int → Int} {n e : Int} {A : Int → Int} {q : (Int → Int) × Int} (h3 : nn3 A) (h : vArch P n e A = .inr q) : kp67 A q.1 := by
  obtain ⟨z0, z1, z2⟩ := h3
  unfold vArch at h
  split at h
  · cases h
  · obtain ⟨a1, -, h⟩ := bd_i h
    obtain ⟨a2, -, h⟩ := bd_i h
    obtain ⟨a3, x3, h⟩ := bd_i h
    obtain ⟨a4, x4, h⟩ := bd_i h
    obtain ⟨a5, -, h⟩ := bd_i h
    have j3 := pOpt_j (idx := 10 + 3 * A 0 + 1) (fun _ => rfl) (by omega) x3
    have j4 := pOpt_j (idx := 10 + 3 * A 0 + 2) (fun _ => rfl) (by omega) x4
    have ja : ∀ j, j < 10 → ¬ j = 0 → arcA A a2.1 1 j = A j := fun j u v => by unfold arcA; rw [pu_n v, pu_n (by omega), pu_n (by omega), pu_n (by omega)]
    have j0 : arcA A a2.1 1 0 = A 0 + 1 := by unfold arcA; exact pu_e
    rw [← Sum.inr.inj h]
    show a4.1 6 = A 6 ∧ a4.1 7 = A 7 ∧ 0 ≤ a4.1 0 ∧ 0 ≤ a4.1 1 ∧ 0 ≤ a4.1 2
    rw [j4 6 (by omega), j4 7 (by omega), j4 0 (by omega), j4 1 (by omega), j4 2 (by omega), j3 6 (by omega), j3 7 (by omega), j3 0 (by omega), j3 1 (by omega), j3 2 (by omega), ja 6 (by omega) (by omega), ja 7 (by omega) (by omega), ja 1 (by omega) (by omega), ja 2 (by omega) (by omega), j0]
    exact ⟨rfl, rfl, by omega, by omega, by omega⟩
theorem vPerson_67 {P : Int → Int} {n e : Int} {A N : Int → Int} {q : (Int → Int) × Int} (h3 : nn3 A) (h : vPerson P n e A N = .inr q) : kp67 A q.1 := by
  obtain ⟨z0, z1, z2⟩ := h3
  unfold vPerson at h
  split at h
  · cases h
  · split at h
    · cases h
    · split at h
      · cases h
      · obtain ⟨a1, -, h⟩ := bd_i h
        obtain ⟨a2, -, h⟩ := bd_i h
        obtain ⟨a3, x3, h⟩ := bd_i h
        obtain ⟨a4, x4, h⟩ := bd_i h
        obtain ⟨a5, x5, h⟩ := bd_i h
        obtain ⟨a6, -, h⟩ := bd_i h
        have j3 := pOpt_j (idx := 37 + 6 * A 1 + 1) (fun _ => rfl) (by omega) x3
        have j4 := pOpt_j (idx := 37 + 6 * A 1 + 2) (fun _ => rfl) (by omega) x4
        have j5 := pOpt_j (idx := 37 + 6 * A 1 + 3) (fun _ => rfl) (by omega) x5
        have ja : ∀ j, j < 10 → ¬ j = 1 → perA A a2.1 j = A j := fun j u v => by unfold perA; rw [if_neg v, if_neg (by omega), if_neg (by omega), if_neg (by omega)]
        have j1 : perA A a2.1 1 = A 1 + 1 := by unfold perA; rw [if_pos rfl]
        rw [← Sum.inr.inj h]
        show a5.1 6 = A 6 ∧ a5.1 7 = A 7 ∧ 0 ≤ a5.1 0 ∧ 0 ≤ a5.1 1 ∧ 0 ≤ a5.1 2
        have jj : ∀ j, j < 10 → a5.1 j = perA A a2.1 j := fun j u => by rw [j5 j u, j4 j u, j3 j u]
        rw [jj 6 (by omega), jj 7 (by omega), jj 0 (by omega), jj 1 (by omega), jj 2 (by omega), ja 6 (by omega) (by omega), ja 7 (by omega) (by omega), ja 0 (by omega) (by omega), ja 2 (by omega) (by omega), j1]
        exact ⟨rfl, rfl, by omega, by omega, by omega⟩
theorem vPlant_67 {P : Int → Int} {n e : Int} {A : Int → Int} {q : (Int → Int) × Int} (h3 : nn3 A) (h : vPlant P n e A = .inr q) : kp67 A q.1 := by
  obtain ⟨z0, z1, z2⟩ := h3
  unfold vPlant at h
  split at h
  · cases h
  · obtain ⟨a1, -, h⟩ := bd_i h
    obtain ⟨a2, -, h⟩ := bd_i h
    obtain ⟨a3, -, h⟩ := bd_i h
    obtain ⟨a4, -, h⟩ := bd_i h
    have ja : ∀ j, j < 10 → ¬ j = 2 → plnA A a1.1 a3.1 j = A j := fun j u v => by unfold plnA; rw [pu_n v, pu_n (by omega), pu_n (by omega)]
    have j2 : plnA A a1.1 a3.1 2 = A 2 + 1 := by unfold plnA; exact pu_e
    rw [← Sum.inr.inj h]
    show plnA A a1.1 a3.1 6 = A 6 ∧ plnA A a1.1 a3.1 7 = A 7 ∧ 0 ≤ plnA A a1.1 a3.1 0 ∧ 0 ≤ plnA A a1.1 a3.1 1 ∧ 0 ≤ plnA A a1.1 a3.1 2
    rw [ja 6 (by omega) (by omega), ja 7 (by omega) (by omega), ja 0 (by omega) (by omega), ja 1 (by omega) (by omega), j2]
    exact ⟨rfl, rfl, by omega, by omega, by omega⟩
theorem vRule_67 {P : Int → Int} {n e td k : Int} {A : Int → Int} {q : (Int → Int) × Int} (hk : 0 ≤ k ∧ k < 3) (h3 : nn3 A) (h : vRule P n e A td k = .inr q) : kp67 A q.1 := by
  unfold vRule at h
  split at h
  · cases h
  · obtain ⟨a1, -, h⟩ := bd_i h
    obtain ⟨a2, -, h⟩ := bd_i h
    have ja : ∀ j, j < 3 ∨ 5 < j → ruP A k a1.1 j = A j := fun j u => by unfold ruP; rw [pu_n (by omega)]
    rw [← Sum.inr.inj h]
    show ruP A k a1.1 6 = A 6 ∧ ruP A k a1.1 7 = A 7 ∧ 0 ≤ ruP A k a1.1 0 ∧ 0 ≤ ruP A k a1.1 1 ∧ 0 ≤ ruP A k a1.1 2
    rw [ja 6 (by omega), ja 7 (by omega), ja 0 (by omega), ja 1 (by omega), ja 2 (by omega)]
    exact ⟨rfl, rfl, h3⟩
theorem vRd_67 {P : Int → Int} {n : Int} : ∀ (f : Nat) (e : Int) (A N : Int → Int) (td : Int) (r : (Int → Int) × (Int → Int)), nn3 A → vRd P n f e A N td = .inr r → r.1 6 = A 6 ∧ r.1 7 = A 7 := by
  intro f; induction f with
  | zero => intro e A N td r _ h; cases h
  | succ f ih =>
    intro e A N td r h3 h
    rw [vRd_s] at h
    split at h
    · rw [← Sum.inr.inj h]; exact ⟨rfl, rfl⟩
    · obtain ⟨a, x, h⟩ := bd_i h
      have k : kp67 A a.1.1 := by
        unfold vPart at x
        split at x
        · rename_i c
          obtain ⟨b, y, x⟩ := bd_i x
          rw [← Sum.inr.inj x]; exact vRule_67 c h3 y
        · split at x
          · obtain ⟨b, y, x⟩ := bd_i x
            rw [← Sum.inr.inj x]; exact vArch_67 h3 y
          · split at x
            · obtain ⟨b, y, x⟩ := bd_i x
              rw [← Sum.inr.inj x]; exact vPerson_67 h3 y
            · split at x
              · obtain ⟨b, y, x⟩ := bd_i x
                rw [← Sum.inr.inj x]; exact vPlant_67 h3 y
              · cases x
      have i := ih a.2 a.1.1 a.1.2.1 a.1.2.2 r k.2.2 h
      exact ⟨i.1.trans k.1, i.2.trans k.2.1⟩
theorem plain0_v : plain0 0 = 0 ∧ plain0 1 = 0 ∧ plain0 2 = 0 ∧ plain0 6 = 0 ∧ plain0 7 = -1 := by decide
/-- a text was refused -/
theorem LI_flt {K K' : Int} {h h1 h2 : Mem} {n s st sp : Nat} {A P : Int → Int} {x : Int × Int} {c : Int} (q : LI K h n s st sp A) (hK : K ≤ K' ∧ K' ≤ 30000000) (g1 : h1.1 = h.1) (g2 : ∀ r i, ¬ vol r i → gR h1 r i = gR h r i) (g3 : ∀ i, 7 ≤ i → i ≤ 10 → gR h1 0 i = gR h 0 i) (k1 : ∀ r i, ¬ (s ≤ r ∧ r ≤ s + 12) → ¬ (sp ≤ r ∧ r ≤ sp + 6) → ¬ r = 10 → ¬ (12 ≤ r ∧ r ≤ 14) → ¬ (55 ≤ r ∧ r ≤ 57) → gG h1 r i = gG h r i) (e3 : gG h1 10 3 = x.1) (e4 : gG h1 10 4 = x.2) (f2 : FVf (sG (sG h1 10 0 0) 0 0 9) h2) (e10 : gG h2 127 10 = 0) (e17 : gG h2 127 17 = x.2) : LI K' (sG (sG h2 127 16 x.1) 127 2 9) n s st sp A := by
  have hn := q.2.1
  obtain ⟨r7, r8, r9, r10⟩ := q.2.2.1
  have gg : (sG (sG h2 127 16 x.1) 127 2 9).1 = h.1 := f2.1.trans g1
  have gr : ∀ r i, gR (sG (sG h2 127 16 x.1) 127 2 9) r i = gR h1 r i := fun r i => by
    show gR h2 r i = gR h1 r i
    unfold gR; rw [f2.2.1]; rfl
  have hS2 : Shp (sG (sG h2 127 16 x.1) 127 2 9) := q.1.f gg (fun r i v => (gr r i).trans (g2 r i v))
  have kf : ∀ r i, ¬ (r = 127 ∧ (i = 2 ∨ (10 ≤ i ∧ i ≤ 20) ∨ i = 22 ∨ i = 23)) → ¬ r = 134 → ¬ r = 135 → ¬ (r = 128 ∧ 1832 ≤ i ∧ i < 2290) → ¬ (r = 129 ∧ 24 ≤ i ∧ i < 30) → gG (sG (sG h2 127 16 x.1) 127 2 9) r i = gG (sG (sG h1 10 0 0) 0 0 9) r i := fun r i a b c e f => by
    rw [gG_sG, if_neg (by omega), gG_sG, if_neg (by omega)]; exact f2.2.2 r i a b c e f
  have kk : ∀ r i, ¬ (s ≤ r ∧ r ≤ s + 12) → ¬ (sp ≤ r ∧ r ≤ sp + 6) → ¬ r = 10 → ¬ (12 ≤ r ∧ r ≤ 14) → ¬ (55 ≤ r ∧ r ≤ 57) → ¬ (r = 0 ∧ i = 0) → ¬ (r = 127 ∧ (i = 2 ∨ (10 ≤ i ∧ i ≤ 20) ∨ i = 22 ∨ i = 23)) → ¬ (134 ≤ r ∧ r ≤ 135) → ¬ (r = 128 ∧ 1832 ≤ i ∧ i < 2290) → ¬ (r = 129 ∧ 24 ≤ i ∧ i < 30) → gG (sG (sG h2 127 16 x.1) 127 2 9) r i = gG h r i := fun r i a b c e f g j k l m => by
    rw [kf r i j (by omega) (by omega) l m, gG_sG, if_neg g, gG_sG, if_neg (by omega)]; exact k1 r i a b c e f
  have g7 : ∀ i, 7 ≤ i → i ≤ 10 → gR (sG (sG h2 127 16 x.1) 127 2 9) 0 i = gR h 0 i := fun i a b => (gr 0 i).trans (g3 i a b)
  obtain ⟨s1, s2, s3, s4⟩ := hS2.tt
  obtain ⟨s5, s6⟩ := hS2.tu
  exact ⟨hS2, hn, ⟨(g7 _ (by omega) (by omega)).trans r7, (g7 _ (by omega) (by omega)).trans r8, (g7 _ (by omega) (by omega)).trans r9, (g7 _ (by omega) (by omega)).trans r10⟩, q.pP hK gg (fun i => (gr _ _).trans (g2 _ _ (by unfold vol; omega))) (fun r i y => kk r i (by omega) (by omega) (by omega) (by omega) (by omega) (by omega) (by omega) (by omega) (by omega) (by omega)), q.pE (by rw [g_same, kf 0 0 (by omega) (by omega) (by omega) (by omega) (by omega), g_same]) (fun r i y => kk r i (by omega) (by omega) (by omega) (by omega) (by omega) (by omega) (by omega) (by omega) (by omega) (by omega)), q.pT hS2 (fun r i y => kk r i (by omega) (by omega) (by omega) (by omega) (by omega) (by omega) (by omega) (by omega) (by omega) (by omega)), ⟨0, P, ⟨s1, s2, s3, s4, by rw [kf _ _ (by omega) (by omega) (by omega) (by omega) (by omega), gG_sG, if_neg (by omega), g_same], by omega, fun i a b => by omega⟩, ⟨s5, s6, by rw [g_ne (by omega), g_ne (by omega)]; exact e10, by omega, fun i a b => by omega⟩⟩, ⟨by rw [kf 10 3 (by omega) (by omega) (by omega) (by omega) (by omega), gG_sG, if_neg (by omega), g_ne (by omega), e3, g_ne (by omega), g_same], by rw [kf 10 4 (by omega) (by omega) (by omega) (by omega) (by omega), gG_sG, if_neg (by omega), g_ne (by omega), e4, g_ne (by omega), g_ne (by omega), e17]⟩, q.pL (fun r i y => kk r i (by omega) (by omega) (by omega) (by omega) (by omega) (by omega) (by omega) (by omega) (by omega) (by omega)), q.pW (fun r i y => kk r i (by omega) (by omega) (by omega) (by omega) (by omega) (by omega) (by omega) (by omega) (by omega) (by omega)), q.pM hK gg (fun r i a b => (gr r i).trans (g2 r i (by unfold vol; omega))) (fun r i y => kk r i (by omega) (by omega) (by omega) (by omega) (by omega) (by omega) (by omega) (by omega) (by omega) (by omega))⟩
theorem TxU.u0 {h h1 : Mem} {c : Int} {P : Int → Int} (x2 : TxU h c P) (hS1 : Shp h1) (k1 : ∀ i, gG h1 127 i = gG h 127 i) (k2 : ∀ i, gG h1 133 i = gG h 133 i) : TxU h1 c P := x2.g hS1 (k1 _) k2
theorem t_viaduct {X : Int → Int} {XL : Int} {d : Nat} {K : Int} {h : Mem} {k : Int} (hd : 30 ≤ d) (hI : Inv K h) (hK : 0 ≤ K ∧ K + 25000 ≤ 30000000) : TwoI X XL d K h 126 237 [vI k] := by
  obtain ⟨n, s, st, sp, A, q⟩ := hI
  have hn := q.2.1
  obtain ⟨r7, r8, r9, r10⟩ := q.2.2.1
  have hP := q.2.2.2.1
  obtain ⟨c, P, x1, x2⟩ := q.2.2.2.2.2.2.1
  intro Q1 hq
  by_cases hk : 0 ≤ k ∧ k ≤ c
  · cases hrr : vRd P k 901 0 plain0 (gG h (s + 4)) 0 with
    | inl x =>
      refine c_viaduct (K := 0) (by omega) q.1.x.1 q.1.x.2.2.1 q.1.x.2.2.2.1 r7 r8 r9 q.so.1.1 q.1.rd x1 q.sv.2.1 q.sv.2.2.1 (by omega) (by omega) (by omega) (by omega) hk hrr (fun x' h1 er f1 => ?_) (fun A' N' h1 er => by cases er)
      have ex : x' = x := (Sum.inl.inj er).symm
      subst ex
      have g2 : ∀ r i, gR h1 r i = gR h r i := fun r i => by unfold gR; rw [f1.2.1]; rfl
      have hS1 : Shp h1 := q.1.f f1.1 (fun r i _ => g2 r i)
      have k1 : ∀ r i, ¬ (s ≤ r ∧ r ≤ s + 12) → ¬ (sp ≤ r ∧ r ≤ sp + 6) → ¬ r = 10 → ¬ (12 ≤ r ∧ r ≤ 14) → ¬ (55 ≤ r ∧ r ≤ 57) → gG h1 r i = gG h r i := fun r i a b c e f => by rw [f1.2.2.1 r i (by unfold VQ; omega) (by omega) (by omega) (by omega)]; exact opn_g c
      have hSs : Shp (sG (sG h1 10 0 0) 0 0 9) := hS1.s.s
      refine hq _ _ f1.1 (fun Q2 hq2 => m_viaduct (by omega) (x2.u0 hSs (fun i => by rw [gG_sG, if_neg (by omega), gG_sG, if_neg (by omega)]; exact k1 _ _ (by omega) (by omega) (by omega) (by omega) (by omega)) (fun i => by rw [gG_sG, if_neg (by omega), gG_sG, if_neg (by omega)]; exact k1 _ _ (by omega) (by omega) (by omega) (by omega) (by omega))) hSs.ra hSs.rm hk hrr (fun x2' h2 er2 f2 e10 e17 => ?_) (fun A' N' h2 er2 => by cases er2))
      have ex2 : x2' = x' := (Sum.inl.inj er2).symm
      subst ex2
      exact hq2 _ (f2.1.trans f1.1) ⟨n, s, st, sp, A, LI_flt (P := P) (c := c) q (by omega) f1.1 (fun r i _ => g2 r i) (fun i _ _ => g2 0 i) k1 f1.2.2.2.1 f1.2.2.2.2 f2 e10 e17⟩
    | inr p =>
      obtain ⟨A1, N1⟩ := p
      refine c_viaduct (K := K) (by omega) q.1.x.1 q.1.x.2.2.1 q.1.x.2.2.2.1 r7 r8 r9 q.so.1.1 q.1.rd x1 q.sv.2.1 q.sv.2.2.1 (by omega) (by omega) (by omega) (by omega) hk hrr (fun x' h1 er => by cases er) (fun A' N' h1 er hV1 hN1 f1 => ?_)
      obtain ⟨rfl, rfl⟩ : A1 = A' ∧ N1 = N' := by
        have := Sum.inr.inj er
        exact ⟨congrArg Prod.fst this, congrArg Prod.snd this⟩
      have gr1 : ∀ r i, gR h1 r i = gR h r i := fun r i => by unfold gR; rw [f1.2.1]; rfl
      have gr2 : ∀ r i, ¬ (r = 0 ∧ 7 ≤ i ∧ i ≤ 8) → gR (cvM h1 s n st) r i = gR h r i := fun r i a => by
        unfold cvM
        rw [gR_sG, gR_sG, gR_sG, gR_sG, gR_sR, if_neg (by omega), gR_sR, if_neg (by omega)]
        exact gr1 r i
      have c7 : gR (cvM h1 s n st) 0 7 = s ∧ gR (cvM h1 s n st) 0 8 = n := by
        unfold cvM
        exact ⟨by rw [gR_sG, gR_sG, gR_sG, gR_sG, gR_sR, if_neg (by omega), gR_sR, if_pos ⟨rfl, rfl⟩], by rw [gR_sG, gR_sG, gR_sG, gR_sG, gR_sR, if_pos ⟨rfl, rfl⟩]⟩
      have cg : ∀ r i, ¬ (r = 10 ∧ i = 0) → ¬ (r = st ∧ 0 ≤ i ∧ i ≤ 2) → ¬ (r = 0 ∧ i = 0) → gG (cvM h1 s n st) r i = gG h1 r i := fun r i a b c => by
        unfold cvM
        rw [gG_sG, if_neg (by omega), gG_sG, if_neg (by omega), gG_sG, if_neg (by omega), gG_sG, if_neg (by omega)]
        show gG (sG h1 10 0 0) r i = gG h1 r i
        rw [gG_sG, if_neg (by omega)]
      have cs0 : gG (cvM h1 s n st) st 0 = 0 := by
        unfold cvM
        rw [gG_sG, if_neg (by omega), g_ne (by omega), g_ne (by omega), g_same]
      have cx : gG (cvM h1 s n st) 10 0 = 0 ∧ gG (cvM h1 s n st) 0 0 = 0 := by
        unfold cvM
        refine ⟨?_, by rw [g_same]⟩
        rw [gG_sG, if_neg (by omega), gG_sG, if_neg (by omega), gG_sG, if_neg (by omega), gG_sG, if_neg (by omega)]
        show gG (sG h1 10 0 0) 10 0 = 0
        rw [g_same]
      have g1 : (cvM h1 s n st).1 = h.1 := f1.1
      have hS1 : Shp (cvM h1 s n st) := q.1.f g1 (fun r i v => gr2 r i (fun e => v (Or.inl ⟨e.1, by omega, by omega⟩)))
      have k1 : ∀ r i, ¬ (s ≤ r ∧ r ≤ s + 12) → ¬ r = 10 → ¬ (12 ≤ r ∧ r ≤ 14) → ¬ (r = 55 ∧ i = 1) → gG h1 r i = gG h r i := fun r i a b c e => by rw [f1.2.2 r i (by unfold VQ; omega) (by omega) (by omega) e]; exact opn_g b
      have kc : ∀ r i, ¬ (s ≤ r ∧ r ≤ s + 12) → ¬ r = 10 → ¬ (12 ≤ r ∧ r ≤ 14) → ¬ (r = 55 ∧ i = 1) → ¬ (r = st ∧ 0 ≤ i ∧ i ≤ 2) → ¬ (r = 0 ∧ i = 0) → gG (cvM h1 s n st) r i = gG h r i := fun r i a b c e f g => by rw [cg r i (by omega) f g]; exact k1 r i a b c e
      have e34 : gG h1 10 3 = 0 ∧ gG h1 10 4 = -1 := by
        constructor
        · rw [f1.2.2 10 3 (by unfold VQ; omega) (by omega) (by omega) (by omega)]; unfold opn; rw [g_ne (by omega), g_same]
        · rw [f1.2.2 10 4 (by unfold VQ; omega) (by omega) (by omega) (by omega)]; unfold opn; rw [g_same]
      refine hq _ _ g1 (fun Q2 hq2 => m_viaduct (by omega) (x2.u0 hS1 (fun i => kc _ _ (by omega) (by omega) (by omega) (by omega) (by omega) (by omega)) (fun i => kc _ _ (by omega) (by omega) (by omega) (by omega) (by omega) (by omega))) hS1.ra hS1.rm hk hrr (fun x' h2 er2 => by cases er2) (fun A2 N2 h2 er2 f2 e10 e17 eA eN => ?_))
      obtain ⟨rfl, rfl⟩ : A1 = A2 ∧ N1 = N2 := by
        have := Sum.inr.inj er2
        exact ⟨congrArg Prod.fst this, congrArg Prod.snd this⟩
      have v67 := vRd_67 901 0 plain0 (gG h (s + 4)) 0 (A1, N1) ⟨by rw [plain0_v.1]; omega, by rw [plain0_v.2.1]; omega, by rw [plain0_v.2.2.1]; omega⟩ hrr
      rw [plain0_v.2.2.2.1, plain0_v.2.2.2.2] at v67
      have gf : (sG (sG h2 127 16 0) 127 2 0).1 = h.1 := f2.1.trans g1
      have gr : ∀ r i, gR (sG (sG h2 127 16 0) 127 2 0) r i = gR (cvM h1 s n st) r i := fun r i => by
        show gR h2 r i = _
        unfold gR; rw [f2.2.1]
      have hS2 : Shp (sG (sG h2 127 16 0) 127 2 0) := hS1.f f2.1 (fun r i _ => gr r i)
      have kf : ∀ r i, ¬ (r = 127 ∧ (i = 2 ∨ (10 ≤ i ∧ i ≤ 20) ∨ i = 22 ∨ i = 23)) → ¬ r = 134 → ¬ r = 135 → ¬ (r = 128 ∧ ((0 ≤ i ∧ i < 458) ∨ (1832 ≤ i ∧ i < 2290))) → ¬ (r = 129 ∧ ((0 ≤ i ∧ i < 6) ∨ (24 ≤ i ∧ i < 30))) → gG (sG (sG h2 127 16 0) 127 2 0) r i = gG (cvM h1 s n st) r i := fun r i a b c e f => by
        rw [gG_sG, if_neg (by omega), gG_sG, if_neg (by omega)]; exact f2.2.2 r i a b c e f
      have kk : ∀ r i, ¬ (s ≤ r ∧ r ≤ s + 12) → ¬ r = 10 → ¬ (12 ≤ r ∧ r ≤ 14) → ¬ (r = 55 ∧ i = 1) → ¬ (r = st ∧ 0 ≤ i ∧ i ≤ 2) → ¬ (r = 0 ∧ i = 0) → ¬ (r = 127 ∧ (i = 2 ∨ (10 ≤ i ∧ i ≤ 20) ∨ i = 22 ∨ i = 23)) → ¬ (134 ≤ r ∧ r ≤ 135) → ¬ (r = 128 ∧ ((0 ≤ i ∧ i < 458) ∨ (1832 ≤ i ∧ i < 2290))) → ¬ (r = 129 ∧ ((0 ≤ i ∧ i < 6) ∨ (24 ≤ i ∧ i < 30))) → gG (sG (sG h2 127 16 0) 127 2 0) r i = gG h r i := fun r i a b c e f g j k l m => by
        rw [kf r i j (by omega) (by omega) l m]; exact kc r i a b c e f g
      have hT1 : VAt h1 s := q.sv.2.2.1.eq (fun i => gr1 _ _)
      have hV2 : Vr (K + 25000) (sG (sG h2 127 16 0) 127 2 0) s A1 := Vr_K (hV1.eq (show (sG (sG h2 127 16 0) 127 2 0).1 = h1.1 from f2.1) (fun i => (gr _ _).trans ((gr2 _ _ (by omega)).trans (gr1 _ _).symm)) hT1 (fun r i a b => by rw [kf r i (by omega) (by omega) (by omega) (by omega) (by omega)]; exact cg r i (by omega) (by omega) (by omega))) (by omega) (by omega)
      obtain ⟨s1, s2, s3, s4⟩ := hS2.tt
      obtain ⟨s5, s6⟩ := hS2.tu
      refine hq2 _ gf ⟨s, n, st, sp, A1, hS2, ⟨by omega, hn.2⟩, ⟨(gr _ _).trans c7.1, (gr _ _).trans c7.2, (gr _ _).trans ((gr2 _ _ (by omega)).trans r9), (gr _ _).trans ((gr2 _ _ (by omega)).trans r10)⟩, ⟨hV2, fun j a b => ?_, (by have e : A1 6 = 0 := v67.1; omega), fun i a b => ?_, Or.inl ⟨?_, v67.2⟩⟩, q.pE ?_ (fun r i y => kk r i (by omega) (by omega) (by omega) (by omega) (by omega) (by omega) (by omega) (by omega) (by omega) (by omega)), q.pT hS2 (fun r i y => kk r i (by omega) (by omega) (by omega) (by omega) (by omega) (by omega) (by omega) (by omega) (by omega) (by omega)), ⟨0, P, ⟨s1, s2, s3, s4, ?_, by omega, fun i a b => by omega⟩, ⟨s5, s6, by rw [g_ne (by omega), g_ne (by omega)]; exact e10, by omega, fun i a b => by omega⟩⟩, ⟨?_, ?_⟩, q.pL (fun r i y => kk r i (by omega) (by omega) (by omega) (by omega) (by omega) (by omega) (by omega) (by omega) (by omega) (by omega)), q.pW (fun r i y => kk r i (by omega) (by omega) (by omega) (by omega) (by omega) (by omega) (by omega) (by omega) (by omega) (by omega)), q.pM (by omega) gf (fun r i a b => (gr r i).trans (gr2 r i (by omega))) (fun r i y => kk r i (by omega) (by omega) (by omega) (by omega) (by omega) (by omega) (by omega) (by omega) (by omega) (by omega))⟩
      · rw [show (0 : Int) + j = j by omega, gG_sG, if_neg (by omega), gG_sG, if_neg (by omega)]; exact eA j a b
      · rw [show (0 : Int) + i = i by omega, kf (s + 4) i (by omega) (by omega) (by omega) (by omega) (by omega), cg (s + 4) i (by omega) (by omega) (by omega), hN1, gG_sG, if_neg (by omega), gG_sG, if_neg (by omega)]; exact eN i a b
      · rw [kf st 0 (by omega) (by omega) (by omega) (by omega) (by omega)]; exact cs0
      · rw [g_same, kf 0 0 (by omega) (by omega) (by omega) (by omega) (by omega)]; exact cx.2
      · rw [kf 10 0 (by omega) (by omega) (by omega) (by omega) (by omega)]; exact cx.1
      · rw [kf 10 3 (by omega) (by omega) (by omega) (by omega) (by omega), cg 10 3 (by omega) (by omega) (by omega), e34.1, g_ne (by omega), g_same]
      · rw [kf 10 4 (by omega) (by omega) (by omega) (by omega) (by omega), cg 10 4 (by omega) (by omega) (by omega), e34.2, g_ne (by omega), g_ne (by omega), e17]
  · exact c_viaductN (by omega) q.1.x.1 q.1.x.2.2.1 x1 hk (hq _ _ rfl (fun Q2 hq2 => m_viaductN (by omega) (x2.u0 q.1.s (fun i => by rw [gG_sG, if_neg (by omega)]) (fun i => by rw [gG_sG, if_neg (by omega)])) hk (hq2 _ rfl ⟨n, s, st, sp, A, q.st (by omega)⟩)))
