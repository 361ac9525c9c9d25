/-! LEVEL 2: decades as they are lived: the class goes through, on -/
theorem ds_x {A : Int → Int} {x w f s : Int} (hx : 0 ≤ x ∧ x < 65536) : 0 ≤ (dsR A x w f s).2.1 ∧ (dsR A x w f s).2.1 < 65536 := by
  have h2 := drw_b (x := drw x)
  unfold dsR anR
  repeat' split
  all_goals first | exact hx | exact h2
theorem wd_of {w : Int} (h : w = 1 ∨ (14 ≤ w ∧ w ≤ 19) ∨ (21 ≤ w ∧ w ≤ 23) ∨ w = 2007 ∨ w = 2012 ∨ w = 2024) (h22 : ¬ w = 22) : wdR (cwd w) w := by
  unfold wdR cwd
  split
  · omega
  · split <;> omega
set_option maxHeartbeats 4000000 in
theorem th_step {X : Int → Int} {XL : Int} {d : Nat} {h : Mem} {Q : RetP} {h1 : Mem} {v st : Nat} {R : Int → Int → Int} {N K x dn mi k i sd : Int} {A L : Int → Int} (hd : 10 ≤ d) (hS : ThS h h1 v st R N K A L x dn mi) (hk : 0 ≤ k ∧ k < N) (hN : N ≤ 60) (hi : 0 ≤ i ∧ i < 10000) (hw : ¬ R k 0 = 22) (hdn3 : dn < 300) (next : ∀ h2, ThS h h2 v st R N (K + 83) (dsR A x (R k 0) (R k 1) (R k 2)).1 L (dsR A x (R k 0) (R k 1) (R k 2)).2.1 (dn + 1) (mi + (1 - b01 (dsR A x (R k 0) (R k 1) (R k 2)).2.2)) → Ex (WP X XL (d - 1)) KX2_goThrough h.1 Q 128 [some (vR 124), some (vR v), some (vR st), some (vI sd), some (vI k), some (vI i)] [] h2) : Ex (WP X XL (d - 1)) KX2_goThrough h.1 Q 98 [some (vR 124), some (vR v), some (vR st), some (vI sd), some (vI k), some (vI i)] [] h1 := by
  obtain ⟨hV, hTh, fW, hLr, ⟨ex, hx0⟩, ⟨ed, em, el⟩, hdn, hmi, hK, hVR⟩ := id hS; obtain ⟨⟨c1, c2, c3⟩, hT, hLf, r5, hSo, eN, hCR⟩ := id hTh; obtain ⟨kl, r6, r3, k125, l125⟩ := id hLf; have ks := hSo.1; have gj := fW.1
  have hc := hCR k hk.1 hk.2
  have hv := hVR k hk.1 hk.2
  have hA := hV.2.2
  have f1 : FrW v h1 (sG h1 124 0 (dn + 1)) := FrW.refl.s (Or.inl rfl)
  have hTh1 := hTh.w f1
  obtain ⟨-, hT1, hLf1, r51, hSo1, eN1, hCR1⟩ := id hTh1
  have hc1 := hCR1 k hk.1 hk.2
  have hV1 : Vr K (sG h1 124 0 (dn + 1)) v A := hV.eq (by exact rfl) (fun _ => by exact rfl) hT (fun r i h0 h1 => by rw [gG_sG, if_neg (by omega)])
  have l0 := ds_lo (x := x) hA hv.2.1 (Or.inl rfl)
  have l1 := ds_lo (x := x) hA hv.2.1 (Or.inr (Or.inl rfl))
  have hxx := ds_x (A := A) (w := R k 0) (f := R k 1) (s := R k 2) hx0
  have np : ¬ VP v 124 := by unfold VP; omega
  have np5 : ¬ VP v 125 := by unfold VP; omega
  have ex1 : gG (sG h1 124 0 (dn + 1)) 124 4 = x := by rw [g_ne (by omega)]; exact ex
  have fin : ∀ h2 z, Vr (K + 83) h2 v (dsR A x (R k 0) (R k 1) (R k 2)).1 → FrV v (sG h1 124 0 (dn + 1)) h2 → gG h2 124 4 = (dsR A x (R k 0) (R k 1) (R k 2)).2.1 → (z = -1 ↔ (dsR A x (R k 0) (R k 1) (R k 2)).2.2 = false) → (gG h2 124 1 = mi) ∧ (¬ z = -1 → Ex (WP X XL (d - 1)) KX2_goThrough h.1 Q 128 [some (vR 124), some (vR v), some (vR st), some (vI sd), some (vI k), some (vI i)] [] h2) ∧ (z = -1 → Ex (WP X XL (d - 1)) KX2_goThrough h.1 Q 128 [some (vR 124), some (vR v), some (vR st), some (vI sd), some (vI k), some (vI i)] [] (sG h2 124 1 (mi + 1))) := by
    intro h2 z hV2 f2 e4 hz
    have m2 : gG h2 124 1 = mi := by rw [f2.2.2 124 1 np (by omega), g_ne (by omega)]; exact em
    have d2 : gG h2 124 0 = dn + 1 := by rw [f2.2.2 124 0 np (by omega), g_same]
    have z2 : gG h2 124 2 = 0 := by rw [f2.2.2 124 2 np (by omega), g_ne (by omega)]; exact el
    have L2 : LRel h2 L := hLr.c (fun i => by rw [f2.2.2 125 i np5 (by omega), gG_sG, if_neg (by omega)])
    have fW2 := (fW.trans f1).trans f2.W
    have hTh2 := hTh1.w f2.W
    have VR2 : ∀ k', 0 ≤ k' → k' < N → VRow (dsR A x (R k 0) (R k 1) (R k 2)).1 R N k' := fun k' a b => (hVR k' a b).c l0 l1
    have hb := b01_b (b := (dsR A x (R k 0) (R k 1) (R k 2)).2.2)
    refine ⟨m2, fun q => next h2 ⟨hV2, hTh2, fW2, L2, ⟨e4, hxx⟩, ⟨d2, ?_, z2⟩, by omega, ?_, by omega, VR2⟩, fun q => next _ ⟨hV2.eq (by exact rfl) (fun _ => by exact rfl) hTh2.2.1 (fun r i h0 h1 => by rw [gG_sG, if_neg (by omega)]), hTh2.w (FrW.refl.s (Or.inl rfl)), fW2.s (Or.inl rfl), L2.c (fun i => by rw [gG_sG, if_neg (by omega)]), ⟨by rw [g_ne (by omega)]; exact e4, hxx⟩, ⟨by rw [g_ne (by omega)]; exact d2, ?_, by rw [g_ne (by omega)]; exact z2⟩, by omega, ?_, by omega, VR2⟩⟩
    · rcases hb with ⟨b1, b2⟩ | ⟨b1, b2⟩
      · rw [b2, m2]; omega
      · exact absurd (hz.mpr b1) q
    · rcases hb with ⟨b1, b2⟩ | ⟨b1, b2⟩ <;> omega
    · rcases hb with ⟨b1, b2⟩ | ⟨b1, b2⟩
      · rw [hz.mp q] at b1; cases b1
      · rw [b2, g_same]; omega
    · rcases hb with ⟨b1, b2⟩ | ⟨b1, b2⟩ <;> omega
  (repeat' (first | (rw [ed]) | (rw [(fin h2 z hV2 f2 e4 hz).1]) | (exact (fin h2 z hV2 f2 e4 hz).2.1 (by assumption)) | (exact (fin h2 z hV2 f2 e4 hz).2.2 (by assumption)) | (refine w_doStep (by omega) hV1 hT1 (by omega) (by omega) kl r51 ex1 hx0 hLf1.2.1 hSo1 (by omega) hc1.1 (wd_of hv.1 hw) (fun q => hc1.2.1 (by omega)) (fun q => hc1.2.2.1 (by omega)) hv.2.1 (fun h2 z hV2 f2 e4 hz => ?_); have kl2 : kd h2 124 = 2 := by unfold kd at *; rw [f2.1]; exact kl) | (refine Ex_step ?_; conv => whnf) | (refine ⟨?_, trivial⟩) | (refine (show den _ _ _ _ _ _ _ _ from ?_); conv => whnf) | (refine ⟨fun c => False.elim (by omega), fun c => ?_⟩) | (refine ⟨fun c => ?_, fun c => False.elim (by omega)⟩) | (refine ⟨by (first | assumption | rfl | (exact Nat.le_of_ble_eq_true rfl) | (exact ⟨fun h01 => absurd h01 (by decide), by first | rfl | assumption⟩) | (exact ⟨fun _ => by decide, by first | rfl | assumption⟩) | (exact ⟨by assumption, by omega, by omega⟩) | (unfold inI; omega) | omega), ?_⟩; conv => whnf) | (refine ⟨fun c => ?_, fun c => ?_⟩) | (intro c) | fail))
