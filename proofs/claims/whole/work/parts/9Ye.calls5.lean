/-! LEVEL 3: lives and texts -/
theorem ds_lo2 {A : Int → Int} {x w f s j : Int} (hv : okW A w f s) (hj : j = 0 ∨ j = 1 ∨ j = 7) : (dsR A x w f s).1 j = A j := by
  obtain ⟨v14, v17, v15, v16, v18, v1⟩ := hv
  have rn : ∀ p, 0 ≤ p → (rnR A p).1 j = A j := fun p hp => by unfold rnR; split; exact rr_lo hp hp (by omega) (by omega); rfl
  have hm : ∀ p, 0 ≤ p → (hmR A p).1 j = A j := fun p hp => by unfold hmR; split; rfl; exact pu_n (by omega)
  unfold dsR
  split
  · rename_i e; exact rn f (v14 e).1
  · split
    · rename_i e
      have := v15 e
      show (rpR A f s).1 j = A j
      unfold rpR; split
      · exact rr_lo this.1.1 this.2.1 (by omega) (by omega)
      · rfl
    · split
      · rename_i e
        have := v16 e
        show (jmR A f).1 j = A j
        unfold jmR; split
        · show jmpA A f j = A j
          unfold jmpA; rw [pu_n (by omega), pu_n (by omega), pu_n (by omega)]
        · rfl
      · split
        · rename_i e; exact hm f (v17 e).1
        · split
          · show (dyR A f).1 j = A j
            unfold dyR; split
            · show dayA A f j = A j
              unfold dayA; rw [if_neg (by omega), if_neg (by omega), if_neg (by omega)]
            · rfl
          · split
            · show (fgR A f).1 j = A j
              unfold fgR; split
              · rfl
              · show fogA A f j = A j
                exact pu_n (by omega)
            · split
              · unfold anR
                split
                · rfl
                · have hp := pkD_b (x := drw x) (n := A 1) (by omega)
                  split
                  · exact rn _ hp.1
                  · exact hm _ hp.1
              · rfl
theorem ds_62 {A : Int → Int} {x w f s : Int} (hv : okW A w f s) (h6 : A 6 ≤ 9999) : (dsR A x w f s).1 6 ≤ 9999 := by
  obtain ⟨v14, v17, v15, v16, v18, v1⟩ := hv
  have rn : ∀ p, 0 ≤ p → (rnR A p).1 6 ≤ 9999 := fun p hp => by
    unfold rnR; split
    · show rrA A p p 6 ≤ 9999
      rw [rr_lo hp hp (by omega) (by omega)]; exact h6
    · exact h6
  have hm : ∀ p, 0 ≤ p → (hmR A p).1 6 ≤ 9999 := fun p hp => by
    unfold hmR; split
    · exact h6
    · show homA A p 6 ≤ 9999
      unfold homA; rw [pu_n (by omega)]; exact h6
  unfold dsR
  split
  · rename_i e; exact rn f (v14 e).1
  · split
    · rename_i e
      have := v15 e
      show (rpR A f s).1 6 ≤ 9999
      unfold rpR; split
      · show rrA A f s 6 ≤ 9999
        rw [rr_lo this.1.1 this.2.1 (by omega) (by omega)]; exact h6
      · exact h6
    · split
      · rename_i e
        have := v16 e
        show (jmR A f).1 6 ≤ 9999
        unfold jmR; split
        · show jmpA A f 6 ≤ 9999
          unfold jmpA; rw [pu_n (by omega), pu_n (by omega), pu_n (by omega)]; exact h6
        · exact h6
      · split
        · rename_i e; exact hm f (v17 e).1
        · split
          · show (dyR A f).1 6 ≤ 9999
            unfold dyR; split
            · rename_i c
              show dayA A f 6 ≤ 9999
              unfold dayA; rw [if_neg (by omega), if_pos rfl]; exact c
            · exact h6
          · split
            · show (fgR A f).1 6 ≤ 9999
              unfold fgR; split
              · exact h6
              · show fogA A f 6 ≤ 9999
                unfold fogA; rw [pu_n (by omega)]; exact h6
            · split
              · unfold anR
                split
                · exact h6
                · have hp := pkD_b (x := drw x) (n := A 1) (by omega)
                  split
                  · exact rn _ hp.1
                  · exact hm _ hp.1
              · exact h6
theorem rw_lo {R : Int → Int → Int} {N : Int} (hN : 0 ≤ N) : ∀ (f : Nat) (A : Int → Int) (x : Int) (L : Int → Int) (k dn mi : Int), 0 ≤ k → (∀ k, 0 ≤ k → k < N → VRow A R N k) → A 6 ≤ 9999 → (∀ j, j = 0 ∨ j = 1 ∨ j = 7 → (rwN R N f A x L k dn mi).1 j = A j) ∧ (rwN R N f A x L k dn mi).1 6 ≤ 9999 := by
  intro f; induction f with
  | zero => intro A x L k dn mi h0 hV h6; exact ⟨fun j _ => rfl, h6⟩
  | succ f ih =>
    intro A x L k dn mi h0 hV h6
    rw [rw_s]
    split
    · exact ⟨fun j _ => rfl, h6⟩
    · rename_i hk
      have hv := hV k h0 (by omega)
      split
      · rename_i e
        have v6 := hv.2.2.2.2.2 e
        refine ih A x _ _ dn mi ?_ hV h6
        unfold eK
        split <;> omega
      · split
        · exact ⟨fun j _ => rfl, h6⟩
        · have lo := fun j hj => ds_lo2 (x := x) (j := j) hv.2.1 hj
          have h62 := ds_62 (x := x) hv.2.1 h6
          have i := ih (dsR A x (R k 0) (R k 1) (R k 2)).1 (dsR A x (R k 0) (R k 1) (R k 2)).2.1 (lL R L k) (nK R N (dsR A x (R k 0) (R k 1) (R k 2)).1 k) (dn + 1) (mi + (1 - b01 (dsR A x (R k 0) (R k 1) (R k 2)).2.2)) (by
            unfold nK
            split
            · exact hN
            · split
              · rename_i c20
                have := hv.2.2.2.2.1 (Or.inr c20)
                split <;> omega
              · omega) (fun k' a b => (hV k' a b).m (by rw [lo 0 (by omega)]; exact Int.le_refl _) (by rw [lo 1 (by omega)]; exact Int.le_refl _)) h62
          exact ⟨fun j hj => (i.1 j hj).trans (lo j hj), i.2⟩
theorem t_live {X : Int → Int} {XL : Int} {d : Nat} {K : Int} {h : Mem} {sd : Int} (hd : 30 ≤ d) (hI : Inv K h) (hK : 0 ≤ K ∧ K + 25000 ≤ 30000000) : TwoI X XL d K h 169 345 [vI sd] := by
  obtain ⟨n, s, st, sp, A, q⟩ := hI
  have hn := q.2.1
  obtain ⟨r7, r8, r9, r10⟩ := q.2.2.1
  have hP := q.2.2.2.1
  obtain ⟨L, l1, l2⟩ := q.2.2.2.2.2.2.2.2.1
  intro Q1 hq
  rcases hP.2.2.2.2 with ⟨x, y⟩ | ⟨R, N, D, ⟨x1, x2, x3, x4, x5⟩, y1, y2, y3, y4⟩
  · exact c_liveN (by omega) q.cls r9 q.so.1.1 (Or.inr x) (hq _ _ rfl (fun Q2 hq2 => m_liveN (by omega) (q.rr.gp Fr.refl) (Or.inr y) (hq2 _ rfl ⟨n, s, st, sp, A, q.st (by omega)⟩)))
  · by_cases c : 0 ≤ sd ∧ sd ≤ 9999
    · refine c_live (by omega) q.cls hK.2 q.dc ⟨x1, x2, y1⟩ ⟨x4, x5⟩ y4 l1 c (fun h1 hV1 f1 l11 ty1 e18 => ?_)
      have gr1 : ∀ r i, ¬ vol r i → gR h1 r i = gR h r i := fun r i v => f1.2.1 r i (fun e => v (Or.inr (Or.inr (Or.inr e))))
      have hS1 : Shp h1 := q.1.f f1.1 gr1
      have k1 : ∀ r i, ¬ VP n r → ¬ r = 124 → ¬ r = 125 → ¬ r = 126 → ¬ (r = 0 ∧ i = 18) → ¬ (r = 0 ∧ i = 0) → gG (sG h1 0 0 0) r i = gG h r i := fun r i a b c e f g => by rw [gG_sG, if_neg g]; exact f1.2.2 r i a b c e f
      have k8 : ∀ i, gG (sG h1 0 0 0) 128 i = gG h 128 i := fun i => k1 _ _ (by unfold VP; omega) (by omega) (by omega) (by omega) (by omega) (by omega)
      refine hq _ _ f1.1 (fun Q2 hq2 => m_live (R := R) (N := N) (D := D) (L := L) (by omega) (q.rr.c0 (show (sG h1 0 0 0).1 = h.1 from f1.1) (fun i => gr1 127 i (by unfold vol; omega)) (fun i _ _ => k8 i)) hK.2 (hS1.s (r := 0) (i := 0) (z := 0)).rk ⟨?_, fun k j a b a' b' => ?_⟩ ⟨x4, x5⟩ y3 y4 (l2.g (fun i => k1 _ _ (by unfold VP; omega) (by omega) (by omega) (by omega) (by omega) (by omega))) c (fun h2 hR2 f2 l22 rs2 ty2 e37 => hq2 _ (f2.1.trans f1.1) ⟨n, s, st, sp, (rwN R N 10000 A sd L 0 0 0).1, ?_⟩))
      · rw [k8]
        have := hP.2.1 7 (by omega) (by omega)
        rw [show (0 : Int) + 7 = 7 by omega] at this
        rw [this]; exact x3
      · rw [k8, ← y2 k j a b a' b', show (0 : Int) + 90 + 6 * k + j = 90 + 6 * k + j by omega]
      · have lo := rw_lo x4 10000 A sd L 0 0 0 (by omega) y4 q.h6
        generalize rwN R N 10000 A sd L 0 0 0 = rr at *
        have g1 : (sG h2 127 2 0).1 = h.1 := f2.1.trans f1.1
        have gr : ∀ r i, gR (sG h2 127 2 0) r i = gR h1 r i := fun r i => by
          show gR h2 r i = gR h1 r i
          unfold gR; rw [f2.2.1]; rfl
        have kr : ∀ r i, ¬ (r = 128 ∧ 0 ≤ i ∧ i < 90) → ¬ (r = 127 ∧ (i = 2 ∨ i = 32 ∨ i = 33 ∨ i = 37)) → ¬ r = 143 → ¬ r = 144 → ¬ r = 145 → gG (sG h2 127 2 0) r i = gG (sG h1 0 0 0) r i := fun r i a b c e f => by rw [gG_sG, if_neg (by omega)]; exact f2.2.2 r i a (by omega) c e f
        have kk : ∀ r i, ¬ VP n r → ¬ (124 ≤ r ∧ r ≤ 126) → ¬ (r = 0 ∧ (i = 0 ∨ i = 18)) → ¬ (r = 128 ∧ 0 ≤ i ∧ i < 90) → ¬ (r = 127 ∧ (i = 2 ∨ i = 32 ∨ i = 33 ∨ i = 37)) → ¬ (143 ≤ r ∧ r ≤ 145) → gG (sG h2 127 2 0) r i = gG h r i := fun r i a b c e f g => by rw [kr r i e f (by omega) (by omega) (by omega)]; exact k1 r i a (by omega) (by omega) (by omega) (by omega) (by omega)
        have hS2 : Shp (sG h2 127 2 0) := q.1.f g1 (fun r i v => (gr r i).trans (gr1 r i v))
        have g7 : ∀ i, 7 ≤ i → i ≤ 10 → gR (sG h2 127 2 0) 0 i = gR h 0 i := fun i _ _ => (gr 0 i).trans (f1.2.1 0 i (by omega))
        have hV2 : Vr (K + 25000) (sG h2 127 2 0) n rr.1 := hV1.eq (show (sG h2 127 2 0).1 = h1.1 from f2.1) (fun i => gr _ _) (q.cls.1.2.2.eq (fun i => f1.2.1 n i (by omega))) (fun r i x y => by rw [kr r i (by omega) (by omega) (by omega) (by omega) (by omega), gG_sG, if_neg (by omega)])
        refine ⟨hS2, hn, ⟨(g7 _ (by omega) (by omega)).trans r7, (g7 _ (by omega) (by omega)).trans r8, (g7 _ (by omega) (by omega)).trans r9, (g7 _ (by omega) (by omega)).trans r10⟩, ?_, q.pE ?_ (fun r i x => kk r i (by unfold VP; omega) (by omega) (by omega) (by omega) (by omega) (by omega)), q.pT hS2 (fun r i x => kk r i (by unfold VP; omega) (by omega) (by omega) (by omega) (by omega) (by omega)), q.pX hS2 (fun r i x => kk r i (by unfold VP; omega) (by omega) (by omega) (by omega) (by omega) (by omega)), q.pF (fun r i x => kk r i (by unfold VP; omega) (by omega) (by omega) (by omega) (by omega) (by omega)), ⟨rr.2.2.1, l11.g (fun i => by rw [kr _ _ (by omega) (by omega) (by omega) (by omega) (by omega), gG_sG, if_neg (by omega)]), l22.g (fun i => by rw [gG_sG, if_neg (by omega)])⟩, ⟨?_, fun j a b => ?_⟩, q.pM (by omega) g1 (fun r i x y => (gr r i).trans (f1.2.1 r i (by omega))) (fun r i x => kk r i (by unfold VP; omega) (by omega) (by omega) (by omega) (by omega) (by omega))⟩
        · refine hP.u hV2 (fun j a b => ?_) lo.2 (lo.1 7 (by omega)) (by rw [lo.1 0 (by omega)]; exact Int.le_refl _) (by rw [lo.1 1 (by omega)]; exact Int.le_refl _) (fun i a b => ?_) (fun r i x y => kk r i (by unfold VP; omega) (by omega) (by omega) (by omega) (by omega) (by omega)) (fun j a b => kk _ _ (by unfold VP; omega) (by omega) (by omega) (by omega) (by omega) (by omega))
          · rw [show (0 : Int) + j = j by omega, gG_sG, if_neg (by omega)]; exact hR2.2.1 j a b
          · rw [lo.1 1 (by omega)] at b
            rw [kk _ _ (by unfold VP; omega) (by omega) (by omega) (by omega) (by omega) (by omega), kk 129 _ (by unfold VP; omega) (by omega) (by omega) (by omega) (by omega) (by omega)]
            exact hP.2.2.2.1 i a b
        · rw [g_same, kr 0 0 (by omega) (by omega) (by omega) (by omega) (by omega), g_same]
        · rw [kr 0 18 (by omega) (by omega) (by omega) (by omega) (by omega), gG_sG, if_neg (by omega), e18, g_ne (by omega), e37]
        · rw [kr 126 j (by omega) (by omega) (by omega) (by omega) (by omega), gG_sG, if_neg (by omega), ty1 j a b, gG_sG, if_neg (by omega), ty2 j a b]
    · exact c_liveN (by omega) q.cls r9 q.so.1.1 (Or.inl c) (hq _ _ rfl (fun Q2 hq2 => m_liveN (by omega) (q.rr.gp Fr.refl) (Or.inl c) (hq2 _ rfl ⟨n, s, st, sp, A, q.st (by omega)⟩)))
theorem t_mean {X : Int → Int} {XL : Int} {d : Nat} {K : Int} {h : Mem} {sd my : Int} (hd : 30 ≤ d) (hI : Inv K h) (hK : 0 ≤ K ∧ K + 25000 ≤ 30000000) (hi : inI sd ∧ inI my) : TwoI X XL d K h 171 347 [vI sd, vI my] := by
  obtain ⟨n, s, st, sp, A, q⟩ := hI
  have hn := q.2.1
  obtain ⟨r7, r8, r9, r10⟩ := q.2.2.1
  have hP := q.2.2.2.1
  obtain ⟨L, l1, l2⟩ := q.2.2.2.2.2.2.2.2.1
  intro Q1 hq
  rcases hP.2.2.2.2 with ⟨x, y⟩ | ⟨R, N, D, ⟨x1, x2, x3, x4, x5⟩, y1, y2, y3, y4⟩
  · exact c_meanN (by omega) q.cls r9 q.so.1.1 hi (Or.inr x) (hq _ _ rfl (fun Q2 hq2 => m_meanN (by omega) (q.rr.gp Fr.refl) hi (Or.inr y) (hq2 _ rfl ⟨n, s, st, sp, A, q.st (by omega)⟩)))
  · by_cases c : (0 ≤ sd ∧ sd ≤ 9999) ∧ (1 ≤ my ∧ my ≤ 20) ∧ sd + my - 1 ≤ 9999
    · refine c_mean (by omega) q.cls hK.2 q.dc q.sv (by omega) ⟨x1, x2, y1⟩ ⟨x4, x5⟩ y4 l1 c (fun h1 f1 _ l11 => ?_)
      obtain ⟨mn, hmn⟩ : ∃ mn, mn = mnF R N A sd my.toNat 0 L 0 := ⟨_, rfl⟩
      rw [← hmn] at l11 ⊢
      obtain ⟨fa, hfa⟩ : ∃ fa, fa = ldvZ mn.1 (gE mn.1 my) := ⟨_, rfl⟩
      obtain ⟨fb, hfb⟩ : ∃ fb, fb = ldvZ my (gE mn.1 my) := ⟨_, rfl⟩
      rw [← hfa, ← hfb]
      have gr1 : ∀ r i, ¬ vol r i → gR h1 r i = gR h r i := fun r i v => f1.2.1 r i (fun e => v (Or.inr (Or.inr (Or.inr e))))
      have hS1 : Shp h1 := q.1.f f1.1 gr1
      have k1 : ∀ r i, ¬ VQ s r → ¬ r = 124 → ¬ r = 125 → ¬ (r = 0 ∧ 0 ≤ i ∧ i ≤ 2) → gG (sG (sG (sG h1 0 1 fa) 0 2 fb) 0 0 0) r i = gG h r i := fun r i a b c e => by rw [gG_sG, if_neg (by omega), gG_sG, if_neg (by omega), gG_sG, if_neg (by omega)]; exact f1.2.2 r i a b c
      have k8 : ∀ i, gG (sG (sG (sG h1 0 1 fa) 0 2 fb) 0 0 0) 128 i = gG h 128 i := fun i => k1 _ _ (by unfold VQ; omega) (by omega) (by omega) (by omega)
      have hS1s : Shp (sG (sG (sG h1 0 1 fa) 0 2 fb) 0 0 0) := hS1.s.s.s
      refine hq _ _ f1.1 (fun Q2 hq2 => m_mean (R := R) (N := N) (D := D) (L := L) (by omega) (q.rr.c0 (show (sG (sG (sG h1 0 1 fa) 0 2 fb) 0 0 0).1 = h.1 from f1.1) (fun i => gr1 127 i (by unfold vol; omega)) (fun i _ _ => k8 i)) hK.2 hS1s.rk ⟨?_, fun k j a b a' b' => ?_⟩ ⟨x4, x5⟩ y3 y4 (l2.g (fun i => k1 _ _ (by unfold VQ; omega) (by omega) (by omega) (by omega))) c (fun h2 hR2 f2 l22 => ?_))
      · rw [k8]
        have := hP.2.1 7 (by omega) (by omega)
        rw [show (0 : Int) + 7 = 7 by omega] at this
        rw [this]; exact x3
      · rw [k8, ← y2 k j a b a' b', show (0 : Int) + 90 + 6 * k + j = 90 + 6 * k + j by omega]
      · rw [← hmn] at l22 ⊢
        rw [← hfa, ← hfb]
        have gr : ∀ r i, gR (sG (sG (sG h2 127 3 fa) 127 4 fb) 127 2 0) r i = gR h1 r i := fun r i => by
          show gR h2 r i = gR h1 r i
          unfold gR; rw [f2.2.1]; rfl
        have kf : ∀ r i, ¬ (r = 127 ∧ 2 ≤ i ∧ i ≤ 4) → gG (sG (sG (sG h2 127 3 fa) 127 4 fb) 127 2 0) r i = gG h2 r i := fun r i a => by rw [gG_sG, if_neg (by omega), gG_sG, if_neg (by omega), gG_sG, if_neg (by omega)]
        have k0 : ∀ i, gG (sG (sG (sG h2 127 3 fa) 127 4 fb) 127 2 0) 0 i = gG (sG (sG (sG h1 0 1 fa) 0 2 fb) 0 0 0) 0 i := fun i => by rw [kf _ _ (by omega)]; exact f2.2.2 0 i (by omega) (by omega) (by omega) (by omega) (by omega)
        refine hq2 _ (f2.1.trans f1.1) ⟨n, s, st, sp, A, LI_sc3 q (by omega) (f2.1.trans f1.1) (fun r i v => (gr r i).trans (gr1 r i v)) (fun i _ _ => (gr 0 i).trans (f1.2.1 0 i (by omega))) (fun r i a b c e => ?_) ⟨?_, ?_, ?_⟩ ⟨mn.2, l11.g (fun i => ?_), l22.g (fun i => kf _ _ (by omega))⟩⟩
        · unfold scr at a
          rw [kf r i c]
          by_cases c8 : r = 128 ∧ i < 90
          · rw [c8.1, hR2.2.1 i (by omega) c8.2]
            exact (q.rr.2.1 i (by omega) c8.2).symm
          · rw [f2.2.2 r i (by omega) (by omega) (by omega) (by omega) (by omega)]
            exact k1 r i (by unfold VQ; omega) (by omega) (by omega) b
        · rw [k0, g_same, g_same]
        · rw [k0, g_ne (by omega), g_ne (by omega), g_same, g_ne (by omega), g_ne (by omega), g_same]
        · rw [k0, g_ne (by omega), g_same, g_ne (by omega), g_same]
        · rw [kf _ _ (by omega), f2.2.2 125 i (by omega) (by omega) (by omega) (by omega) (by omega), gG_sG, if_neg (by omega), gG_sG, if_neg (by omega), gG_sG, if_neg (by omega)]
    · exact c_meanN (by omega) q.cls r9 q.so.1.1 hi (Or.inl c) (hq _ _ rfl (fun Q2 hq2 => m_meanN (by omega) (q.rr.gp Fr.refl) hi (Or.inl c) (hq2 _ rfl ⟨n, s, st, sp, A, q.st (by omega)⟩)))
