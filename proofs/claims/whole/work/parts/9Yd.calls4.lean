/-! LEVEL 3: texts, lives, marks -/
theorem Vr.p7 {K : Int} {h : Mem} {v : Nat} {A : Int → Int} {z : Int} (q : Vr K h v A) : Vr K h v (pu A 7 z) := by
  have e : ∀ j, ¬ j = 7 → pu A 7 z j = A j := fun j x => pu_n x
  obtain ⟨q1, ⟨⟨a1, a2, a3, a4, a5, a6, a7, a8⟩, b, c, d⟩, ⟨o1, o2, o3, o4, o5, o6, o7, o8, o9, o10, o11, o12⟩⟩ := q
  refine ⟨q1, ⟨⟨?_, ?_, ?_, ?_, ?_, ?_, ?_, ?_⟩, fun a h0 h1 => ?_, fun p h0 h1 => ?_, fun k h0 h1 => ?_⟩, ⟨?_, ?_, ?_, ?_, ?_, ?_, ?_, ?_, o9, fun a h0 h1 => ?_, fun p h0 h1 => ?_, fun k h0 h1 => ?_⟩⟩
  · rw [e 0 (by omega)]; exact a1
  · rw [e 1 (by omega)]; exact a2
  · rw [e 2 (by omega)]; exact a3
  · rw [e 3 (by omega)]; exact a4
  · rw [e 4 (by omega)]; exact a5
  · rw [e 5 (by omega)]; exact a6
  · rw [e 6 (by omega)]; exact a7
  · rw [e 8 (by omega)]; exact a8
  · rw [e 0 (by omega)] at h1
    have := b a h0 h1
    unfold hoA moA toA at this ⊢
    rw [e _ (by omega), e _ (by omega), e _ (by omega)]
    exact this
  · rw [e 1 (by omega)] at h1
    have := c p h0 h1
    unfold pA at this ⊢
    rw [e _ (by omega), e _ (by omega), e _ (by omega), e _ (by omega), e _ (by omega), e _ (by omega)]
    exact this
  · rw [e 2 (by omega)] at h1
    have := d k h0 h1
    unfold plA at this ⊢
    rw [e _ (by omega), e _ (by omega)]
    exact this
  · rw [e 0 (by omega)]; exact o1
  · rw [e 1 (by omega)]; exact o2
  · rw [e 2 (by omega)]; exact o3
  · rw [e 3 (by omega)]; exact o4
  · rw [e 4 (by omega)]; exact o5
  · rw [e 5 (by omega)]; exact o6
  · rw [e 6 (by omega)]; exact o7
  · rw [e 8 (by omega)]; exact o8
  · rw [e 0 (by omega)] at h1
    have := o10 a h0 h1
    unfold hoA moA toA at this ⊢
    rw [e _ (by omega), e _ (by omega), e _ (by omega)]
    exact this
  · rw [e 1 (by omega)] at h1
    have := o11 p h0 h1
    unfold pA at this ⊢
    rw [e 0 (by omega), e _ (by omega), e _ (by omega), e _ (by omega), e _ (by omega), e _ (by omega), e _ (by omega)]
    exact this
  · rw [e 2 (by omega)] at h1
    have := o12 k h0 h1
    unfold plA at this ⊢
    rw [e _ (by omega), e _ (by omega)]
    exact this
theorem LI.so {K : Int} {h : Mem} {n s st sp : Nat} {A : Int → Int} (q : LI K h n s st sp A) : SOk h st ∧ SOk h sp := by
  rcases q.2.1.2 with ⟨e1, e2⟩ | ⟨e1, e2⟩
  · rw [e1, e2]; exact ⟨q.1.so41, q.1.so48⟩
  · rw [e1, e2]; exact ⟨q.1.so48, q.1.so41⟩
theorem LI.dc {K : Int} {h : Mem} {n s st sp : Nat} {A : Int → Int} (q : LI K h n s st sp A) : DcC h n st := by
  have hn := q.2.1
  exact ⟨q.2.2.1.2.2.1, q.1.lf, q.so.1, q.1.ty, by omega, by omega, by omega, by omega, by omega⟩
theorem rwN_lo {R : Int → Int → Int} {N : Int} : ∀ (f : Nat) (A : Int → Int) (x : Int) (L : Int → Int) (k dn mi K : Int), AOk K A → (∀ k, 0 ≤ k → k < N → okW A (R k 0) (R k 1) (R k 2)) → True := fun _ _ _ _ _ _ _ _ _ _ => trivial
theorem mvC2 {m : Int} (h0 : 0 ≤ m) (h1 : m < 3) : (m = 0 ∧ mv m = 60 ∧ ms m = 73) ∨ (m = 1 ∧ mv m = 80 ∧ ms m = 93) ∨ (m = 2 ∧ mv m = 100 ∧ ms m = 113) := by
  rcases (show m = 0 ∨ m = 1 ∨ m = 2 by omega) with e | e | e
  · subst e; exact Or.inl ⟨rfl, rfl, rfl⟩
  · subst e; exact Or.inr (Or.inl ⟨rfl, rfl, rfl⟩)
  · subst e; exact Or.inr (Or.inr ⟨rfl, rfl, rfl⟩)
/-- a state is copied -/
theorem PI.cp {K : Int} {h h' : Mem} {v st v' st' : Nat} {b nb b' nb' : Int} {A : Int → Int} (q : PI K h v st b nb A) (hV : Vr K h' v' A) (e1 : ∀ j, 0 ≤ j → j < 450 → gG h' 128 (b' + j) = gG h 128 (b + j)) (e2 : ∀ j, 0 ≤ j → j < 6 → gG h' 129 (nb' + j) = gG h 129 (nb + j)) (e3 : ∀ i, 0 ≤ i → i < 6 → gG h' (v' + 4) i = gG h (v + 4) i) (e4 : gG h' st' 0 = gG h st 0 ∧ gG h' st' 2 = gG h st 2) (e5 : ∀ j : Nat, 1 ≤ j → j ≤ 6 → ∀ i, 0 ≤ i → i < 60 → gG h' (st' + j) i = gG h (st + j) i) : PI K h' v' st' b' nb' A := by
  obtain ⟨q1, q2, q3, q4, q5⟩ := q
  have b1 := q1.2.2.2.1
  refine ⟨hV, fun j x y => (e1 j x (by omega)).trans (q2 j x y), q3, fun i x y => ?_, ?_⟩
  · rw [e3 i x (by omega), e2 i x (by omega)]; exact q4 i x y
  · rcases q5 with ⟨x, y⟩ | ⟨R, N, D, ⟨x1, x2, x3, x4, x5⟩, y1, y2, y3, y4⟩
    · exact Or.inl ⟨e4.1.trans x, y⟩
    · refine Or.inr ⟨R, N, D, ⟨e4.1.trans x1, e4.2.trans x2, x3, x4, x5⟩, fun k a c => ?_, fun k j a c a' c' => ?_, y3, y4⟩
      · have := y1 k a c
        unfold CRow at this ⊢
        rw [e5 1 (by omega) (by omega) k a (by omega), e5 2 (by omega) (by omega) k a (by omega), e5 3 (by omega) (by omega) k a (by omega), e5 4 (by omega) (by omega) k a (by omega), e5 5 (by omega) (by omega) k a (by omega), e5 6 (by omega) (by omega) k a (by omega)]
        exact this
      · rw [← y2 k j a c a' c', show b' + 90 + 6 * k + j = b' + (90 + 6 * k + j) by omega, show b + 90 + 6 * k + j = b + (90 + 6 * k + j) by omega]
        exact e1 _ (by omega) (by omega)
theorem PI.t0 {K : Int} {h : Mem} {v st : Nat} {b nb : Int} {A : Int → Int} (q : PI K h v st b nb A) : gG h st 0 = 0 ∨ gG h st 0 = 1 := by
  rcases q.2.2.2.2 with ⟨x, -⟩ | ⟨R, N, D, ⟨x, -⟩, -⟩
  · exact Or.inl x
  · exact Or.inr x
theorem PI.K {K K' : Int} {h : Mem} {v st : Nat} {b nb : Int} {A : Int → Int} (q : PI K h v st b nb A) (hK : K ≤ K' ∧ K' ≤ 30000000) : PI K' h v st b nb A := ⟨Vr_K q.1 hK.1 hK.2, q.2⟩
theorem t_mark {X : Int → Int} {XL : Int} {d : Nat} {K : Int} {h : Mem} (hd : 30 ≤ d) (hI : Inv K h) (hK : 0 ≤ K ∧ K + 25000 ≤ 30000000) : TwoI X XL d K h 172 349 [] := by
  obtain ⟨n, s, st, sp, A, q⟩ := hI
  have hn := q.2.1
  obtain ⟨r7, r8, r9, r10⟩ := q.2.2.1
  obtain ⟨m, ⟨m1, m2, m3, m4⟩, hM⟩ := q.2.2.2.2.2.2.2.2.2.2
  have hP := q.2.2.2.1
  intro Q1 hq
  refine c_mark (T := fun j i => gG h (st + j) i) (by omega) q.cls (by omega) q.1.mk r9 (by omega) (by omega) q.so.1 m1 ⟨m3, m4⟩ ⟨⟨rfl, rfl, rfl⟩, fun j _ _ i _ _ => rfl⟩ hP.t0 (fun c => ?_) (fun c h1 hV1 nm1 sc1 f1 => ?_)
  · refine hq _ _ rfl (fun Q2 hq2 => m_mark (m := m) (by omega) q.1.x.2.1 q.1.ra.1 q.1.ra.2.1 q.1.ra.2.2 q.1.rm.1 q.1.rm.2.1 q.1.rm.2.2 (by rw [gG_sG, if_neg (by omega)]; exact m2) ⟨m3, m4⟩ (fun _ => hq2 _ rfl ⟨n, s, st, sp, A, q.st (by omega)⟩) (fun c2 => absurd c2 (by omega)))
  · have gr1 : ∀ r i, gR h1 r i = gR h r i := fun r i => by unfold gR; rw [f1.2.1]
    have hS1 : Shp h1 := q.1.f f1.1 (fun r i _ => gr1 r i)
    have mc := mvC2 m3 c
    refine hq _ _ f1.1 (fun Q2 hq2 => m_mark (m := m) (by omega) hS1.x.2.1 hS1.ra.1 hS1.ra.2.1 hS1.ra.2.2 hS1.rm.1 hS1.rm.2.1 hS1.rm.2.2 (by rw [gG_sG, if_neg (by omega), gG_sG, if_neg (by omega), f1.2.2 127 (by omega)]; exact m2) ⟨m3, m4⟩ (fun c2 => absurd c2 (by omega)) (fun _ h2 f2 => hq2 _ (f2.1.1.trans f1.1) ⟨n, s, st, sp, A, ?_⟩))
    obtain ⟨f2a, f28, f29⟩ := f2
    have g1 : (sG h2 127 2 0).1 = h.1 := f2a.1.trans f1.1
    have gr : ∀ r i, gR (sG h2 127 2 0) r i = gR h r i := fun r i => by
      rw [← gr1]
      show gR h2 r i = gR h1 r i
      unfold gR; rw [f2a.2.1]; rfl
    have hS2 := q.1.f g1 (fun r i _ => gr r i)
    have kc : ∀ r i, ¬ r = 128 → ¬ r = 129 → ¬ (r = 0 ∧ (i = 0 ∨ i = 13)) → ¬ (r = 127 ∧ (i = 2 ∨ i = 38)) → gG (sG h2 127 2 0) r i = gG h1 r i := fun r i a b u w => by
      rw [gG_sG, if_neg (by omega), f2a.2.2 r (by omega), gG_sG, if_neg (by omega), gG_sG, if_neg (by omega), gG_sG, if_neg (by omega)]
    have k8 : ∀ j, gG (sG h2 127 2 0) 128 j = if 458 * (m + 1) ≤ j ∧ j < 458 * (m + 1) + 458 then gG h 128 (458 * 0 + (j - 458 * (m + 1))) else gG h 128 j := fun j => by
      have z : ∀ x, gG (sG (sG (sG h1 0 13 (m + 1)) 0 0 0) 127 38 (m + 1)) 128 x = gG h 128 x := fun x => by rw [gG_sG, if_neg (by omega), gG_sG, if_neg (by omega), gG_sG, if_neg (by omega), f1.2.2 128 (by omega)]
      rw [gG_sG, if_neg (by omega), f28, z, z]
    have k9 : ∀ j, gG (sG h2 127 2 0) 129 j = if 6 * (m + 1) ≤ j ∧ j < 6 * (m + 1) + 6 then gG h 129 (6 * 0 + (j - 6 * (m + 1))) else gG h 129 j := fun j => by
      have z : ∀ x, gG (sG (sG (sG h1 0 13 (m + 1)) 0 0 0) 127 38 (m + 1)) 129 x = gG h 129 x := fun x => by rw [gG_sG, if_neg (by omega), gG_sG, if_neg (by omega), gG_sG, if_neg (by omega), f1.2.2 129 (by omega)]
      rw [gG_sG, if_neg (by omega), f29, z, z]
    have kk : ∀ r i, ¬ (mv m ≤ r ∧ r ≤ mv m + 19) → ¬ (r = 0 ∧ (i = 0 ∨ i = 13)) → ¬ (r = 127 ∧ (i = 2 ∨ i = 38)) → ¬ (r = 128 ∧ 458 * (m + 1) ≤ i ∧ i < 458 * (m + 1) + 458) → ¬ (r = 129 ∧ 6 * (m + 1) ≤ i ∧ i < 6 * (m + 1) + 6) → gG (sG h2 127 2 0) r i = gG h r i := fun r i a b u w x => by
      by_cases c8 : r = 128
      · rw [c8, k8, if_neg (by omega)]
      · by_cases c9 : r = 129
        · rw [c9, k9, if_neg (by omega)]
        · rw [kc r i c8 c9 b u]; exact f1.2.2 r a i
    refine ⟨hS2, hn, ⟨(gr _ _).trans r7, (gr _ _).trans r8, (gr _ _).trans r9, (gr _ _).trans r10⟩, q.pP (by omega) g1 (fun i => gr _ _) (fun r i x => kk r i (by omega) (by omega) (by omega) (by omega) (by omega)), q.pE (by rw [g_same, gG_sG, if_neg (by omega), f2a.2.2 0 (by omega), gG_sG, if_neg (by omega), g_same]) (fun r i x => kk r i (by omega) (by omega) (by omega) (by omega) (by omega)), q.pT hS2 (fun r i x => kk r i (by omega) (by omega) (by omega) (by omega) (by omega)), q.pX hS2 (fun r i x => kk r i (by omega) (by omega) (by omega) (by omega) (by omega)), q.pF (fun r i x => kk r i (by omega) (by omega) (by omega) (by omega) (by omega)), q.pL (fun r i x => kk r i (by omega) (by omega) (by omega) (by omega) (by omega)), q.pW (fun r i x => kk r i (by omega) (by omega) (by omega) (by omega) (by omega)), m + 1, ⟨?_, ?_, by omega, by omega⟩, fun i a b => ?_⟩
    · rw [gG_sG, if_neg (by omega), f2a.2.2 0 (by omega), gG_sG, if_neg (by omega), g_ne (by omega), g_same]
    · rw [g_ne (by omega), f2a.2.2 127 (by omega), g_same]
    · by_cases ei : i = m
      · refine ⟨A, ?_⟩
        rw [ei]
        have hTm := (q.1.mk.2 m m3 c).2.2.2.1
        have hVm : Vr K (sG h2 127 2 0) (mv m) A := hV1.eq (show (sG h2 127 2 0).1 = h1.1 from f2a.1) (fun i => (gr _ _).trans (gr1 _ _).symm) (VAt_fr f1 hTm) (fun r i x y => kc r i (by omega) (by omega) (by omega) (by omega))
        refine (hP.cp hVm (fun j x y => ?_) (fun j x y => ?_) (fun i x y => ?_) ⟨?_, ?_⟩ (fun j x y i a b => ?_)).K (by omega)
        · rw [k8, if_pos (by omega), show 458 * 0 + (458 * (m + 1) + j - 458 * (m + 1)) = 0 + j by omega]
        · rw [k9, if_pos (by omega), show 6 * 0 + (6 * (m + 1) + j - 6 * (m + 1)) = 0 + j by omega]
        · rw [kc _ _ (by omega) (by omega) (by omega) (by omega)]; exact nm1 i x y
        · rw [kc _ _ (by omega) (by omega) (by omega) (by omega)]; exact sc1.1.1
        · rw [kc _ _ (by omega) (by omega) (by omega) (by omega)]; exact sc1.1.2.2
        · rw [kc _ _ (by omega) (by omega) (by omega) (by omega)]; exact sc1.2 j x y i a b
      · obtain ⟨B, hB⟩ := hM i a (by omega)
        have mi2 := mvC2 a (by omega : i < 3)
        have hTi := (q.1.mk.2 i a (by omega)).2.2.2.1
        exact ⟨B, hB.f hTi (by omega) g1 (fun j => gr _ _) (fun r j x y => kk r j (by omega) (by omega) (by omega) (by omega) (by omega)) (fun r j x y => kk r j (by omega) (by omega) (by omega) (by omega) (by omega)) (fun j x y => kk _ _ (by omega) (by omega) (by omega) (by omega) (by omega)) (fun j x y => kk _ _ (by omega) (by omega) (by omega) (by omega) (by omega))⟩
theorem t_undo {X : Int → Int} {XL : Int} {d : Nat} {K : Int} {h : Mem} (hd : 30 ≤ d) (hI : Inv K h) (hK : 0 ≤ K ∧ K + 25000 ≤ 30000000) : TwoI X XL d K h 173 350 [] := by
  obtain ⟨n, s, st, sp, A, q⟩ := hI
  have hn := q.2.1
  obtain ⟨r7, r8, r9, r10⟩ := q.2.2.1
  obtain ⟨m, ⟨m1, m2, m3, m4⟩, hM⟩ := q.2.2.2.2.2.2.2.2.2.2
  have hP := q.2.2.2.1
  intro Q1 hq
  by_cases c : m = 0
  · refine c_undo (B := A) (T := fun j i => 0) (by omega) q.cls (by omega) q.1.mk r9 (by omega) (by omega) q.so.1 m1 ⟨m3, m4⟩ (fun c2 => absurd c2 (by omega)) (fun c2 => absurd c2 (by omega)) (fun c2 => absurd c2 (by omega)) (fun _ => ?_) (fun c2 => absurd c2 (by omega))
    refine hq _ _ rfl (fun Q2 hq2 => m_undo (m := m) (by omega) q.1.x.2.1 q.1.ra.1 q.1.ra.2.1 q.1.ra.2.2 q.1.rm.1 q.1.rm.2.1 q.1.rm.2.2 (by rw [gG_sG, if_neg (by omega)]; exact m2) ⟨m3, m4⟩ (fun _ => hq2 _ rfl ⟨n, s, st, sp, A, q.st (by omega)⟩) (fun c2 => absurd c2 (by omega)))
  · obtain ⟨B, hB⟩ := hM (m - 1) (by omega) (by omega)
    have mc := mvC2 (m := m - 1) (by omega) (by omega)
    refine c_undo (B := B) (T := fun j i => gG h (ms (m - 1) + j) i) (by omega) q.cls (by omega) q.1.mk r9 (by omega) (by omega) q.so.1 m1 ⟨m3, m4⟩ (fun _ => hB.1) (fun _ => ⟨⟨rfl, rfl, rfl⟩, fun j _ _ i _ _ => rfl⟩) (fun _ => hB.t0) (fun c2 => absurd c2 c) (fun _ h1 hV1 nm1 sc1 f1 => ?_)
    have gr1 : ∀ r i, gR h1 r i = gR h r i := fun r i => by unfold gR; rw [f1.2.1]; rfl
    have hS1 : Shp h1 := q.1.f f1.1 (fun r i _ => gr1 r i)
    refine hq _ _ f1.1 (fun Q2 hq2 => m_undo (m := m) (by omega) hS1.x.2.1 hS1.ra.1 hS1.ra.2.1 hS1.ra.2.2 hS1.rm.1 hS1.rm.2.1 hS1.rm.2.2 (by rw [gG_sG, if_neg (by omega), f1.2.2 127 (by unfold VQ SP; omega), gG_sG, if_neg (by omega)]; exact m2) ⟨m3, m4⟩ (fun c2 => absurd c2 c) (fun _ h2 f2 => hq2 _ (f2.1.1.trans f1.1) ⟨n, s, st, sp, B, ?_⟩))
    obtain ⟨f2a, f28, f29⟩ := f2
    have g1 : (sG (sG h2 127 38 (m - 1)) 127 2 0).1 = h.1 := f2a.1.trans f1.1
    have gr : ∀ r i, gR (sG (sG h2 127 38 (m - 1)) 127 2 0) r i = gR h r i := fun r i => by
      rw [← gr1]
      show gR h2 r i = gR h1 r i
      unfold gR; rw [f2a.2.1]; rfl
    have hS2 := q.1.f g1 (fun r i _ => gr r i)
    have kc : ∀ r i, ¬ r = 128 → ¬ r = 129 → ¬ (r = 0 ∧ i = 0) → ¬ (r = 127 ∧ (i = 2 ∨ i = 38)) → gG (sG (sG h2 127 38 (m - 1)) 127 2 0) r i = gG h1 r i := fun r i a b u w => by
      rw [gG_sG, if_neg (by omega), gG_sG, if_neg (by omega), f2a.2.2 r (by omega), gG_sG, if_neg (by omega)]
    have z8 : ∀ x, gG (sG h1 0 0 0) 128 x = gG h 128 x := fun x => by rw [gG_sG, if_neg (by omega), f1.2.2 128 (by unfold VQ SP; omega), gG_sG, if_neg (by omega)]
    have z9 : ∀ x, gG (sG h1 0 0 0) 129 x = gG h 129 x := fun x => by rw [gG_sG, if_neg (by omega), f1.2.2 129 (by unfold VQ SP; omega), gG_sG, if_neg (by omega)]
    have k8 : ∀ j, gG (sG (sG h2 127 38 (m - 1)) 127 2 0) 128 j = if 458 * 0 ≤ j ∧ j < 458 * 0 + 458 then gG h 128 (458 * m + (j - 458 * 0)) else gG h 128 j := fun j => by
      rw [gG_sG, if_neg (by omega), gG_sG, if_neg (by omega), f28, z8, z8]
    have k9 : ∀ j, gG (sG (sG h2 127 38 (m - 1)) 127 2 0) 129 j = if 6 * 0 ≤ j ∧ j < 6 * 0 + 6 then gG h 129 (6 * m + (j - 6 * 0)) else gG h 129 j := fun j => by
      rw [gG_sG, if_neg (by omega), gG_sG, if_neg (by omega), f29, z9, z9]
    have kk : ∀ r i, ¬ (n ≤ r ∧ r ≤ n + 12) → ¬ (st ≤ r ∧ r ≤ st + 6) → ¬ (r = 0 ∧ (i = 0 ∨ i = 13)) → ¬ (r = 127 ∧ (i = 2 ∨ i = 38)) → ¬ (r = 128 ∧ 0 ≤ i ∧ i < 458) → ¬ (r = 129 ∧ 0 ≤ i ∧ i < 6) → gG (sG (sG h2 127 38 (m - 1)) 127 2 0) r i = gG h r i := fun r i a b u w x y => by
      by_cases c8 : r = 128
      · rw [c8, k8, if_neg (by omega)]
      · by_cases c9 : r = 129
        · rw [c9, k9, if_neg (by omega)]
        · rw [kc r i c8 c9 (by omega) w, f1.2.2 r (by unfold VQ SP; omega), gG_sG, if_neg (by omega)]
    have hV2 : Vr K (sG (sG h2 127 38 (m - 1)) 127 2 0) n B := hV1.eq (show (sG (sG h2 127 38 (m - 1)) 127 2 0).1 = h1.1 from f2a.1) (fun i => (gr _ _).trans (gr1 _ _).symm) (q.cls.1.2.2.eq (fun i => gr1 _ _)) (fun r i x y => kc r i (by omega) (by omega) (by omega) (by omega))
    have hP2 : PI (K + 25000) (sG (sG h2 127 38 (m - 1)) 127 2 0) n st 0 0 B := by
      refine (hB.cp hV2 (fun j x y => ?_) (fun j x y => ?_) (fun i x y => ?_) ⟨?_, ?_⟩ (fun j x y i a b => ?_)).K (by omega)
      · rw [k8, if_pos (by omega), show 458 * m + (0 + j - 458 * 0) = 458 * (m - 1 + 1) + j by omega]
      · rw [k9, if_pos (by omega), show 6 * m + (0 + j - 6 * 0) = 6 * (m - 1 + 1) + j by omega]
      · rw [kc _ _ (by omega) (by omega) (by omega) (by omega)]; exact nm1 i x y
      · rw [kc _ _ (by omega) (by omega) (by omega) (by omega)]; exact sc1.1.1
      · rw [kc _ _ (by omega) (by omega) (by omega) (by omega)]; exact sc1.1.2.2
      · rw [kc _ _ (by omega) (by omega) (by omega) (by omega)]; exact sc1.2 j x y i a b
    refine ⟨hS2, hn, ⟨(gr _ _).trans r7, (gr _ _).trans r8, (gr _ _).trans r9, (gr _ _).trans r10⟩, hP2, q.pE (by rw [g_same, gG_sG, if_neg (by omega), gG_sG, if_neg (by omega), f2a.2.2 0 (by omega), g_same]) (fun r i x => kk r i (by omega) (by omega) (by omega) (by omega) (by omega) (by omega)), q.pT hS2 (fun r i x => kk r i (by omega) (by omega) (by omega) (by omega) (by omega) (by omega)), q.pX hS2 (fun r i x => kk r i (by omega) (by omega) (by omega) (by omega) (by omega) (by omega)), q.pF (fun r i x => kk r i (by omega) (by omega) (by omega) (by omega) (by omega) (by omega)), q.pL (fun r i x => kk r i (by omega) (by omega) (by omega) (by omega) (by omega) (by omega)), q.pW (fun r i x => kk r i (by omega) (by omega) (by omega) (by omega) (by omega) (by omega)), m - 1, ⟨?_, ?_, by omega, by omega⟩, fun i a b => ?_⟩
    · rw [kc _ _ (by omega) (by omega) (by omega) (by omega), f1.2.2 0 (by unfold VQ SP; omega), g_same]
    · rw [g_ne (by omega), g_same]
    · obtain ⟨B2, hB2⟩ := hM i a (by omega)
      have mi2 := mvC2 a (by omega : i < 3)
      have hTi := (q.1.mk.2 i a (by omega)).2.2.2.1
      exact ⟨B2, hB2.f hTi (by omega) g1 (fun j => gr _ _) (fun r j x y => kk r j (by omega) (by omega) (by omega) (by omega) (by omega) (by omega)) (fun r j x y => kk r j (by omega) (by omega) (by omega) (by omega) (by omega) (by omega)) (fun j x y => kk _ _ (by omega) (by omega) (by omega) (by omega) (by omega) (by omega)) (fun j x y => kk _ _ (by omega) (by omega) (by omega) (by omega) (by omega) (by omega))⟩
