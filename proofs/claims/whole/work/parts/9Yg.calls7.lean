/-! LEVEL 3: decades -/
def sdM (h1 : Mem) (sp st : Nat) : Mem := sG (sR (sR (sG h1 10 0 0) 0 9 sp) 0 10 st) 0 0 0
theorem sdM_r {h1 : Mem} {sp st r : Nat} {i : Int} (a : ¬ (r = 0 ∧ (i = 9 ∨ i = 10))) : gR (sdM h1 sp st) r i = gR h1 r i := by
  unfold sdM
  rw [gR_sG, gR_sR, if_neg (by omega), gR_sR, if_neg (by omega), gR_sG]
theorem sdM_g {h1 : Mem} {sp st r : Nat} {i : Int} (a : ¬ (r = 10 ∧ i = 0)) (b : ¬ (r = 0 ∧ i = 0)) : gG (sdM h1 sp st) r i = gG h1 r i := by
  unfold sdM
  rw [gG_sG, if_neg b]
  show gG (sG h1 10 0 0) r i = gG h1 r i
  rw [gG_sG, if_neg a]
theorem sdM_c {h1 : Mem} {sp st : Nat} : gR (sdM h1 sp st) 0 9 = sp ∧ gR (sdM h1 sp st) 0 10 = st ∧ gG (sdM h1 sp st) 10 0 = 0 ∧ gG (sdM h1 sp st) 0 0 = 0 := by
  refine ⟨?_, ?_, ?_, ?_⟩
  · unfold sdM; rw [gR_sG, gR_sR, if_neg (by omega), gR_sR, if_pos ⟨rfl, rfl⟩]
  · unfold sdM; rw [gR_sG, gR_sR, if_pos ⟨rfl, rfl⟩]
  · unfold sdM; rw [gG_sG, if_neg (by omega)]; show gG (sG h1 10 0 0) 10 0 = 0; rw [g_same]
  · unfold sdM; rw [g_same]
theorem FD.k {st : Nat} {h h1 : Mem} {k : Int} (f : FD st (opn h k) h1) : h1.1 = h.1 ∧ (∀ r i, ¬ (r = 56 ∧ (i = 3 ∨ i = 4)) → gR h1 r i = gR h r i) ∧ ∀ r i, ¬ (st ≤ r ∧ r ≤ st + 6) → ¬ r = 10 → ¬ (12 ≤ r ∧ r ≤ 14) → ¬ (56 ≤ r ∧ r ≤ 57) → gG h1 r i = gG h r i := by
  refine ⟨f.1, fun r i a => (f.2.1 r i a).trans rfl, fun r i a b c e => ?_⟩
  rw [f.2.2 r i a (by omega) (by omega) (by omega) (by omega)]
  exact opn_g b
/-- steps were read -/
theorem LI_stp {K K' : Int} {h h1 h2 : Mem} {n s st sp : Nat} {A P : Int → Int} {k : Int} {R : Int → Int → Int} {N c1 : Int} {O : Int → Int} (q : LI K h n s st sp A) (hK : K ≤ K' ∧ K' ≤ 30000000) (f1 : FD sp (opn h k) h1) (t0 : gG h1 sp 0 = 1) (hC : CS h1 sp R N c1 0 O) (hDI : DI A R N c1 0 O) (e3 : gG h1 10 3 = 0) (e4 : gG h1 10 4 = -1) (f2 : FVd (sdM h1 sp st) h2) (e10 : gG h2 127 10 = 0) (e17 : gG h2 127 17 = -1) (hR : RSt h2 R N) : LI K' (sG (sG h2 127 16 0) 127 2 0) n s sp st (pu A 7 N) := by
  have hn := q.2.1
  obtain ⟨r7, r8, r9, r10⟩ := q.2.2.1
  obtain ⟨g1, g2, g3⟩ := f1.k
  obtain ⟨c9, c10, c00, c0⟩ := sdM_c (h1 := h1) (sp := sp) (st := st)
  have gg : (sG (sG h2 127 16 0) 127 2 0).1 = h.1 := f2.1.trans g1
  have gr : ∀ r i, gR (sG (sG h2 127 16 0) 127 2 0) r i = gR (sdM h1 sp st) r i := fun r i => by
    show gR h2 r i = _
    unfold gR; rw [f2.2.1]
  have gq : ∀ r i, ¬ (r = 0 ∧ (i = 9 ∨ i = 10)) → ¬ (r = 56 ∧ (i = 3 ∨ i = 4)) → gR (sG (sG h2 127 16 0) 127 2 0) r i = gR h r i := fun r i a b => by
    rw [gr, sdM_r a]; exact g2 r i b
  have hS2 : Shp (sG (sG h2 127 16 0) 127 2 0) := q.1.f gg (fun r i v => gq r i (fun e => v (Or.inl ⟨e.1, by omega, by omega⟩)) (fun e => v (Or.inr (Or.inl e))))
  have kf : ∀ r i, ¬ (r = 127 ∧ (i = 2 ∨ (10 ≤ i ∧ i ≤ 20) ∨ i = 22 ∨ i = 23)) → ¬ r = 134 → ¬ r = 135 → ¬ (r = 128 ∧ (i = 7 ∨ (90 ≤ i ∧ i < 450) ∨ (1832 ≤ i ∧ i < 2290))) → ¬ (r = 129 ∧ 24 ≤ i ∧ i < 30) → gG (sG (sG h2 127 16 0) 127 2 0) r i = gG (sdM h1 sp st) r i := fun r i a b c e f => by
    rw [gG_sG, if_neg (by omega), gG_sG, if_neg (by omega)]; exact f2.2.2 r i a b c e f
  have kk : ∀ r i, ¬ (sp ≤ r ∧ r ≤ sp + 6) → ¬ r = 10 → ¬ (12 ≤ r ∧ r ≤ 14) → ¬ (56 ≤ r ∧ r ≤ 57) → ¬ (r = 0 ∧ i = 0) → ¬ (r = 127 ∧ (i = 2 ∨ (10 ≤ i ∧ i ≤ 20) ∨ i = 22 ∨ i = 23)) → ¬ (134 ≤ r ∧ r ≤ 135) → ¬ (r = 128 ∧ (i = 7 ∨ (90 ≤ i ∧ i < 450) ∨ (1832 ≤ i ∧ i < 2290))) → ¬ (r = 129 ∧ 24 ≤ i ∧ i < 30) → gG (sG (sG h2 127 16 0) 127 2 0) r i = gG h r i := fun r i a b c e f g j l m => by
    rw [kf r i g (by omega) (by omega) l m, sdM_g (by omega) f]; exact g3 r i a b c e
  have ks : ∀ r i, sp ≤ r → r ≤ sp + 6 → gG (sG (sG h2 127 16 0) 127 2 0) r i = gG h1 r i := fun r i a b => by
    rw [kf r i (by omega) (by omega) (by omega) (by omega) (by omega), sdM_g (by omega) (by omega)]
  have kA : ∀ i, ¬ i = 7 → i < 90 → 0 ≤ i → gG (sG (sG h2 127 16 0) 127 2 0) 128 i = gG h 128 i := fun i a b c => kk 128 i (by omega) (by omega) (by omega) (by omega) (by omega) (by omega) (by omega) (by omega) (by omega)
  obtain ⟨⟨D, hNst⟩, hVR, hNb⟩ := DI_nst hDI
  have hP := q.2.2.2.1
  have hT := q.cls.1.2.2
  have hV2 : Vr K' (sG (sG h2 127 16 0) 127 2 0) n (pu A 7 N) := (Vr_K (hP.1.eq gg (fun i => gq _ _ (by omega) (by omega)) hT (fun r i a b => kk r i (by omega) (by omega) (by omega) (by omega) (by omega) (by omega) (by omega) (by omega) (by omega))) hK.1 hK.2).p7
  obtain ⟨s1, s2, s3, s4⟩ := hS2.tt
  obtain ⟨s5, s6⟩ := hS2.tu
  have hPI : PI K' (sG (sG h2 127 16 0) 127 2 0) n sp 0 0 (pu A 7 N) := by
    refine ⟨hV2, fun j a b => ?_, by rw [pu_n (by omega)]; exact hP.2.2.1, fun i a b => ?_, Or.inr ⟨R, N, D, ⟨?_, ?_, pu_e, hNb.1, hNb.2⟩, fun k a b => ?_, fun k j a b c e => ?_, hNst, fun k a b => (hVR k a b).m (by rw [pu_n (by omega)]; omega) (by rw [pu_n (by omega)]; omega)⟩⟩
    · rw [show (0 : Int) + j = j by omega]
      by_cases e : j = 7
      · rw [e, pu_e, gG_sG, if_neg (by omega), gG_sG, if_neg (by omega)]; exact hR.1
      · rw [pu_n e, kA j e b a]
        have := hP.2.1 j a b
        rw [show (0 : Int) + j = j by omega] at this
        exact this
    · rw [pu_n (by omega)] at b
      rw [kk (n + 4) i (by omega) (by omega) (by omega) (by omega) (by omega) (by omega) (by omega) (by omega) (by omega), kk 129 (0 + i) (by omega) (by omega) (by omega) (by omega) (by omega) (by omega) (by omega) (by omega) (by have := hP.1.2.2.2.1; omega)]
      exact hP.2.2.2.1 i a b
    · rw [ks sp 0 (by omega) (by omega)]; exact t0
    · rw [ks sp 2 (by omega) (by omega)]; exact hC.1.2.1
    · obtain ⟨w1, w2⟩ := hC.2.2.1 k a b
      unfold CRow
      rw [ks (sp + 1) k (by omega) (by omega), ks (sp + 2) k (by omega) (by omega), ks (sp + 3) k (by omega) (by omega), ks (sp + 4) k (by omega) (by omega), ks (sp + 5) k (by omega) (by omega), ks (sp + 6) k (by omega) (by omega)]
      refine ⟨w1, w2.1, w2.2.1, w2.2.2.1, w2.2.2.2, fun x => hC.2.2.2 k a b ?_⟩
      rcases x with x | x | x
      · exact Or.inr ⟨Or.inl x, fun j u v => by omega⟩
      · exact Or.inl x
      · exact Or.inr ⟨Or.inr x, fun j u v => by omega⟩
    · rw [show (0 : Int) + 90 + 6 * k + j = 90 + 6 * k + j by omega, gG_sG, if_neg (by omega), gG_sG, if_neg (by omega)]
      exact hR.2 k j a b c e
  exact ⟨hS2, ⟨hn.1, by omega⟩, ⟨(gq _ _ (by omega) (by omega)).trans r7, (gq _ _ (by omega) (by omega)).trans r8, (gr _ _).trans c9, (gr _ _).trans c10⟩, hPI, q.pE (by rw [g_same, kf 0 0 (by omega) (by omega) (by omega) (by omega) (by omega)]; exact c0) (fun r i y => kk r i (by omega) (by omega) (by omega) (by omega) (by omega) (by omega) (by omega) (by omega) (by omega)), q.pT hS2 (fun r i y => kk r i (by omega) (by omega) (by omega) (by omega) (by omega) (by omega) (by omega) (by omega) (by omega)), ⟨0, P, ⟨s1, s2, s3, s4, by rw [kf 10 0 (by omega) (by omega) (by omega) (by omega) (by omega)]; exact c00, by omega, fun i a b => by omega⟩, ⟨s5, s6, by rw [g_ne (by omega), g_ne (by omega)]; exact e10, by omega, fun i a b => by omega⟩⟩, ⟨by rw [kf 10 3 (by omega) (by omega) (by omega) (by omega) (by omega), sdM_g (by omega) (by omega), e3, g_ne (by omega), g_same], by rw [kf 10 4 (by omega) (by omega) (by omega) (by omega) (by omega), sdM_g (by omega) (by omega), e4, g_ne (by omega), g_ne (by omega), e17]⟩, q.pL (fun r i y => kk r i (by omega) (by omega) (by omega) (by omega) (by omega) (by omega) (by omega) (by omega) (by omega)), q.pW (fun r i y => kk r i (by omega) (by omega) (by omega) (by omega) (by omega) (by omega) (by omega) (by omega) (by omega)), q.pM hK gg (fun r i a b => gq r i (by omega) (by omega)) (fun r i y => kk r i (by omega) (by omega) (by omega) (by omega) (by omega) (by omega) (by omega) (by omega) (by omega))⟩
theorem m_dec0 {X : Int → Int} {XL : Int} {d : Nat} {K k c : Int} {h M : Mem} {Q : RetP} {n s st sp : Nat} {A P : Int → Int} {r : (Int × Int) ⊕ DS} (hd : 16 ≤ d) (q : LI K h n s st sp A) (x2 : TxU h c P) (hS : Shp M) (e : ∀ r i, r = 127 ∨ r = 133 ∨ (r = 128 ∧ i < 90 ∧ 0 ≤ i) ∨ (r = 129 ∧ i < 6) → gG M r i = gG h r i) (hn : 0 ≤ k ∧ k ≤ c ∧ k ≤ 300) (hr : dRd P k A (gG h (n + 4)) 301 0 S00 = r) (hq0 : ∀ x h', r = .inl x → FVf M h' → gG h' 127 10 = 0 → gG h' 127 17 = x.2 → Q (some (vI (-1))) (sG (sG h' 127 16 x.1) 127 2 9)) (hq1 : ∀ S h', r = .inr S → FVd M h' → gG h' 127 10 = 0 → gG h' 127 17 = -1 → RSt h' S.1 S.2.1 → Q (some (vI S.2.2.1)) (sG (sG h' 127 16 0) 127 2 0)) : WP X XL d 243 [vR 127, vI k] M Q := by
  have hP := q.2.2.2.1
  have a := hP.1.2.2
  have a0 := a.1
  have a1 := a.2.1
  have e0 := hP.2.1 0 (by omega) (by omega)
  have e1 := hP.2.1 1 (by omega) (by omega)
  exact m_decades hd (x2.u0 hS (fun i => e 127 i (by omega)) (fun i => e 133 i (by omega))) hS.ra hS.rm hS.ro ((e 128 0 (by omega)).trans e0) a0 ((e 128 1 (by omega)).trans e1) a1 (fun i u v => by
    rw [e 129 i (by omega)]
    have := hP.2.2.2.1 i u v
    rw [show (0 : Int) + i = i by omega] at this
    exact this) hn hr hq0 hq1
theorem t_decades {X : Int → Int} {XL : Int} {d : Nat} {K : Int} {h : Mem} {k : Int} (hd : 30 ≤ d) (hI : Inv K h) (hK : 0 ≤ K ∧ K + 25000 ≤ 30000000) : TwoI X XL d K h 127 243 [vI k] := by
  obtain ⟨n, s, st, sp, A, q⟩ := hI
  have hn := q.2.1
  obtain ⟨r7, r8, r9, r10⟩ := q.2.2.1
  have hP := q.2.2.2.1
  obtain ⟨c, P, x1, x2⟩ := q.2.2.2.2.2.2.1
  intro Q1 hq
  by_cases hk : 0 ≤ k ∧ k ≤ c ∧ k ≤ 300
  · cases hrr : dRd P k A (gG h (n + 4)) 301 0 S00 with
    | inl x =>
      refine c_decades (K := K) (A := A) (v := n) (st := st) (sp := sp) (by omega) q.1.x.1 q.1.x.2.2.1 q.1.x.2.2.2.2.1 r7 r9 r10 q.1.r1 x1 q.so.2 (by omega) (by omega) (by omega) hP.1 q.cls.1.2.2 rfl hk hrr (fun x' h1 er f1 e3 e4 => ?_) (fun S h1 er => by cases er)
      have ex : x' = x := (Sum.inl.inj er).symm
      subst ex
      obtain ⟨g1, g2, g3⟩ := f1.k
      have hS1 : Shp h1 := q.1.f g1 (fun r i v => g2 r i (fun e => v (Or.inr (Or.inl e))))
      have hSs : Shp (sG (sG h1 10 0 0) 0 0 9) := hS1.s.s
      refine hq _ _ g1 (fun Q2 hq2 => m_dec0 (by omega) q x2 hSs (fun r i u => by rw [gG_sG, if_neg (by omega), gG_sG, if_neg (by omega)]; exact g3 r i (by omega) (by omega) (by omega) (by omega)) hk hrr (fun x2' h2 er2 f2 e10 e17 => ?_) (fun S h2 er2 => by cases er2))
      have ex2 : x2' = x' := (Sum.inl.inj er2).symm
      subst ex2
      exact hq2 _ (f2.1.trans g1) ⟨n, s, st, sp, A, LI_flt (P := P) (c := c) q (by omega) g1 (fun r i v => g2 r i (fun e => v (Or.inr (Or.inl e)))) (fun i _ _ => g2 0 i (by omega)) (fun r i a b c e f => g3 r i b c e (by omega)) e3 e4 f2 e10 e17⟩
    | inr S =>
      refine c_decades (K := K) (A := A) (v := n) (st := st) (sp := sp) (by omega) q.1.x.1 q.1.x.2.2.1 q.1.x.2.2.2.2.1 r7 r9 r10 q.1.r1 x1 q.so.2 (by omega) (by omega) (by omega) hP.1 q.cls.1.2.2 rfl hk hrr (fun x' h1 er => by cases er) (fun S' h1 er t0 hC hD hDI f1 e3 e4 => ?_)
      have ex : S' = S := (Sum.inr.inj er).symm
      subst ex
      obtain ⟨g1, g2, g3⟩ := f1.k
      have hS1 : Shp (sdM h1 sp st) := q.1.f g1 (fun r i v => (sdM_r (fun e => v (Or.inl ⟨e.1, by omega, by omega⟩))).trans (g2 r i (fun e => v (Or.inr (Or.inl e)))))
      refine hq _ _ g1 (fun Q2 hq2 => m_dec0 (M := sdM h1 sp st) (by omega) q x2 hS1 (fun r i u => by rw [sdM_g (by omega) (by omega)]; exact g3 r i (by omega) (by omega) (by omega) (by omega)) hk hrr (fun x' h2 er2 => by cases er2) (fun S2 h2 er2 f2 e10 e17 hR => ?_))
      have ex2 : S2 = S' := (Sum.inr.inj er2).symm
      subst ex2
      rw [hD] at hC hDI
      exact hq2 _ (f2.1.trans g1) ⟨n, s, sp, st, _, LI_stp (P := P) q (by omega) f1 t0 hC hDI e3 e4 f2 e10 e17 hR⟩
  · exact c_decadesN (by omega) q.1.x.1 q.1.x.2.2.1 x1 hk (hq _ _ rfl (fun Q2 hq2 => m_decadesN (by omega) (x2.u0 q.1.s (fun i => by rw [gG_sG, if_neg (by omega)]) (fun i => by rw [gG_sG, if_neg (by omega)])) hk (hq2 _ rfl ⟨n, s, st, sp, A, q.st (by omega)⟩)))
