/-! LEVEL 2: decades as they are lived: the reference, whole -/
theorem totA_b {K : Int} {A : Int → Int} {w B : Int} (hA : AOk K A) (hB : 0 ≤ B) (hw : ∀ p, 0 ≤ p → p < A 1 → 0 ≤ pA A p w ∧ pA A p w ≤ B) : 0 ≤ totA A w ∧ totA A w ≤ 6 * B := by
  have b1 := hA.2.1
  have loop : ∀ (k : Nat) (i s : Int), (A 1 - i).toNat = k → 0 ≤ i → i ≤ 6 → 0 ≤ s → s ≤ B * i → 0 ≤ foN (A 1) (fun p s => s + pA A p w) i s ∧ foN (A 1) (fun p s => s + pA A p w) i s ≤ B * 6 := by
    intro k; induction k with
    | zero =>
      intro i s hk h0 h6 hs0 hs1
      rw [foN_end (by omega)]
      exact ⟨hs0, Int.le_trans hs1 (Int.mul_le_mul_of_nonneg_left h6 hB)⟩
    | succ k ih =>
      intro i s hk h0 h6 hs0 hs1
      rw [foN_go (by omega)]
      have := hw i h0 (by omega)
      refine ih (i + 1) _ (by omega) (by omega) (by omega) (by omega) ?_
      rw [Int.mul_add]
      omega
  have := loop _ 0 0 rfl (by omega) (by omega) (by omega) (by omega)
  unfold totA
  omega
theorem tot_45 {K : Int} {A : Int → Int} {w : Int} (hA : AOk K A) (hw : w = 4 ∨ w = 5) : 0 ≤ totA A w ∧ totA A w ≤ 180000000 := by
  have bK := hA.2.2.2.2.2.2.2.2.1
  have := totA_b (w := w) (B := K) hA (by omega) (fun p h0 h1 => by
    obtain ⟨f0, f1, f2, f3, f4, f5⟩ := hA.2.2.2.2.2.2.2.2.2.2.1 p h0 h1
    rcases hw with e | e
    · rw [e]; exact f4
    · rw [e]; exact f5)
  omega
theorem ds_6 {K : Int} {A : Int → Int} {x w f s : Int} (hA : AOk K A) (hv : okW A w f s) : A 6 ≤ (dsR A x w f s).1 6 := by
  obtain ⟨v14, v17, v15, v16, v18, v1⟩ := hv
  have b1 := hA.2.1
  unfold dsR
  split
  · rename_i e; have := rnR_6 (A := A) (v14 e).1; show A 6 ≤ (rnR A f).1 6; omega
  · split
    · rename_i e; have := rpR_6 (A := A) (v15 e).1.1 (v15 e).2.1; show A 6 ≤ (rpR A f s).1 6; omega
    · split
      · rename_i e; have := jmR_6 (A := A) (v16 e).1; show A 6 ≤ (jmR A f).1 6; omega
      · split
        · rename_i e; have := hmR_6 (A := A) (v17 e).1; show A 6 ≤ (hmR A f).1 6; omega
        · split
          · rename_i e; have := dyR_6 (A := A) (n := f); have := v18 e; show A 6 ≤ (dyR A f).1 6; split at * <;> omega
          · split
            · have := fgR_6 (A := A) (f := f); show A 6 ≤ (fgR A f).1 6; omega
            · split
              · unfold anR
                split
                · exact Int.le_refl _
                · have hp := pkD_b (x := drw x) (n := A 1) (by omega)
                  split
                  · have := rnR_6 (A := A) hp.1; show A 6 ≤ (rnR A (pkD (drw x) (A 1))).1 6; omega
                  · have := hmR_6 (A := A) hp.1; show A 6 ≤ (hmR A (pkD (drw x) (A 1))).1 6; omega
              · exact Int.le_refl _
/-- where living stands -/
def LvS (h0 h : Mem) (R : Int → Int → Int) (N K a6 : Int) (A L : Int → Int) (x dn mi lf : Int) : Prop := Rr K h A ∧ FrY h0 h ∧ RK h ∧ RSt h R N ∧ LRr h L ∧ (gG h 127 32 = x ∧ 0 ≤ x ∧ x < 65536) ∧ (gG h 127 33 = dn ∧ 0 ≤ dn ∧ dn ≤ 300) ∧ (gG h 144 0 = mi ∧ 0 ≤ mi ∧ mi ≤ dn) ∧ (gG h 144 1 = A 6 - a6 ∧ 0 ≤ a6 ∧ a6 ≤ A 6) ∧ gG h 144 4 = lf ∧ K + 83 * (300 - dn) ≤ 30000000 ∧ ∀ k, 0 ≤ k → k < N → VRow A R N k
/-- what stands when all is lived -/
def LvE (h h2 : Mem) (R : Int → Int → Int) (N K0 a6 fe pd : Int) (r : (Int → Int) × Int × (Int → Int) × Int × Int × Int) : Prop := Rr (K0 + 24900) h2 r.1 ∧ FrY h h2 ∧ LRr h2 r.2.2.1 ∧ gG h2 127 33 = r.2.2.2.1 ∧ gG h2 144 0 = r.2.2.2.2.1 ∧ gG h2 144 1 = r.1 6 - a6 ∧ gG h2 144 2 = totA r.1 5 - fe ∧ gG h2 144 3 = totA r.1 4 - pd ∧ gG h2 144 4 = r.2.2.2.2.2 ∧ RSt h2 R N
set_option maxHeartbeats 4000000 in
theorem lv_out {X : Int → Int} {XL : Int} {d : Nat} {h : Mem} {Q : RetP} {h1 : Mem} {R : Int → Int → Int} {N K K0 a6 sd fe pd k x dn mi lf : Int} {A L : Int → Int} {w5 : Option MV} (hd : 6 ≤ d) (hS : LvS h h1 R N K a6 A L x dn mi lf) (hK0 : K = K0 + 83 * dn) (hfe : 0 ≤ fe ∧ fe ≤ 180000000) (hpd : 0 ≤ pd ∧ pd ≤ 180000000) (fin : ∀ h2, LvE h h2 R N K0 a6 fe pd (A, x, L, dn, mi, lf) → Q none h2) : Ex (WP X XL (d - 1)) KX10_lives h.1 Q 223 [some (vR 127), some (vI sd), some (vI fe), some (vI pd), some (vI k), w5] [] h1 := by
  obtain ⟨hR, fY, hX, hRS, hLr, ⟨ex, hx0⟩, ⟨ed, hdn⟩, ⟨em, hmi⟩, ⟨e6, ha6⟩, el, hK, hVR⟩ := id hS; obtain ⟨⟨kq, r0, kt, lt⟩, eA, hA⟩ := id hR; obtain ⟨-, -, -, -, -, -, -, -, -, -, -, ⟨x34, xk34, xl34⟩, ⟨x35, xk35, xl35⟩, -⟩ := id hX; have gj := fY.1
  have t5 := tot_45 (w := 5) hA (Or.inr rfl)
  have t4 := tot_45 (w := 4) hA (Or.inl rfl)
  have hR2 : Rr K (sG h1 144 2 (totA A 5 - fe)) A := hR.o (by omega)
  have f2 : FrY h1 (sG (sG h1 144 2 (totA A 5 - fe)) 144 3 (totA A 4 - pd)) := (FrY.refl.s (Or.inr (Or.inr rfl))).s (Or.inr (Or.inr rfl))
  have gg : ∀ (r : Nat) (i : Int), ¬ (r = 144 ∧ (i = 2 ∨ i = 3)) → gG (sG (sG h1 144 2 (totA A 5 - fe)) 144 3 (totA A 4 - pd)) r i = gG h1 r i := fun r i q => by rw [gG_sG, if_neg (by omega), gG_sG, if_neg (by omega)]
  have e := fin (sG (sG h1 144 2 (totA A 5 - fe)) 144 3 (totA A 4 - pd)) ⟨Rr_K (hR2.o (by omega)) (by omega) (by omega), fY.trans f2, fun o a b => ⟨(gg _ _ (by omega)).trans (hLr o a b).1, (hLr o a b).2⟩, (gg _ _ (by omega)).trans ed, (gg _ _ (by omega)).trans em, (gg _ _ (by omega)).trans e6, by rw [g_ne (by omega), g_same], g_same, (gg _ _ (by omega)).trans el, hRS.y ((gg _ _ (by omega)).trans hRS.1) f2⟩
  (repeat' (first | (exact e) | (rw [x35]) | (rw [gR_sG]) | (refine r_together (by omega) hR (by omega) ?_) | (refine r_together (by omega) hR2 (by omega) ?_) | (refine ⟨⟨xk35, by omega, Int.lt_of_lt_of_le (by omega : _ < (5 : Int)) (Int.le_of_eq xl35.symm)⟩, ?_⟩; conv => whnf) | (refine Ex_step ?_; conv => whnf) | (refine ⟨?_, trivial⟩) | (refine (show den _ _ _ _ _ _ _ _ from ?_); conv => whnf) | (refine ⟨fun c => False.elim (by omega), fun c => ?_⟩) | (refine ⟨fun c => ?_, fun c => False.elim (by omega)⟩) | (refine ⟨by (first | assumption | rfl | (exact Nat.le_of_ble_eq_true rfl) | (exact ⟨fun h01 => absurd h01 (by decide), by first | rfl | assumption⟩) | (exact ⟨fun _ => by decide, by first | rfl | assumption⟩) | (exact ⟨by assumption, by omega, by omega⟩) | (unfold inI; omega) | omega), ?_⟩; conv => whnf) | (refine ⟨fun c => ?_, fun c => ?_⟩) | (intro c) | fail))
set_option maxHeartbeats 4000000 in
theorem lv_all {X : Int → Int} {XL : Int} {d : Nat} {h : Mem} {Q : RetP} {R : Int → Int → Int} {N K0 a6 sd fe pd : Int} {D : Int → Int} {r : (Int → Int) × Int × (Int → Int) × Int × Int × Int} (hd : 14 ≤ d) (hN : 0 ≤ N ∧ N ≤ 60) (hNs : Nst R N D) (hfe : 0 ≤ fe ∧ fe ≤ 180000000) (hpd : 0 ≤ pd ∧ pd ≤ 180000000) (fin : ∀ h2, LvE h h2 R N K0 a6 fe pd r → Q none h2) : ∀ (n f : Nat) (k dn mi x K : Int) (A L : Int → Int) (w5 : Option MV) (h1 : Mem), 300 - dn = n → 5 * n + 5 ≤ f → 0 ≤ k ∧ k ≤ N → ¬ (k < N ∧ R k 0 = 22) → K = K0 + 83 * dn → LvS h h1 R N K a6 A L x dn mi 0 → r = rwN R N f A x L k dn mi → Ex (WP X XL (d - 1)) KX10_lives h.1 Q 45 [some (vR 127), some (vI sd), some (vI fe), some (vI pd), some (vI k), w5] [] h1 := by
  intro n; induction n with
  | zero =>
    intro f k dn mi x K A L w5 h1 hn hf hk hne eK hS he
    have hS0 := hS
    obtain ⟨hR, fY, hX, hRS, hLr, ⟨ex, hx0⟩, ⟨ed, hdn⟩, ⟨em, hmi⟩, ⟨e6, ha6⟩, el, hK, hVR⟩ := id hS; obtain ⟨⟨kq, r0, kt, lt⟩, eA, hA⟩ := id hR; obtain ⟨-, -, -, -, -, -, -, -, -, -, -, ⟨x34, xk34, xl34⟩, ⟨x35, xk35, xl35⟩, -⟩ := id hX; have gj := fY.1
    have e7 := hRS.1
    obtain ⟨f, rfl⟩ : ∃ g, f = g + 1 := ⟨f - 1, by omega⟩
    rw [rw_s] at he
    by_cases hkN : k < N
    · rw [if_neg (fun q => q hkN), if_neg (fun q => hne ⟨hkN, q⟩), if_pos (by omega)] at he
      subst he
      have f1 : FrY h1 (sG h1 144 4 1) := FrY.refl.s (Or.inr (Or.inr rfl))
      have g1 : ∀ (r : Nat) (i : Int), ¬ (r = 144 ∧ i = 4) → gG (sG h1 144 4 1) r i = gG h1 r i := fun r i q => by rw [gG_sG, if_neg (by omega)]
      have hS1 : LvS h (sG h1 144 4 1) R N K a6 A L x dn mi 1 := ⟨hR.o (by omega), fY.trans f1, hX.eq (by exact rfl) (by exact rfl), hRS.y ((g1 _ _ (by omega)).trans hRS.1) f1, fun o a b => ⟨(g1 _ _ (by omega)).trans (hLr o a b).1, (hLr o a b).2⟩, ⟨(g1 _ _ (by omega)).trans ex, hx0⟩, ⟨(g1 _ _ (by omega)).trans ed, hdn⟩, ⟨(g1 _ _ (by omega)).trans em, hmi⟩, ⟨(g1 _ _ (by omega)).trans e6, ha6⟩, g_same, hK, hVR⟩
      have o1 := fun w5 => lv_out (X := X) (XL := XL) (d := d) (Q := Q) (sd := sd) (k := k) (w5 := w5) (by omega) hS1 eK hfe hpd fin
      have e71 : gG (sG h1 144 4 1) 128 7 = N := (g1 _ _ (by omega)).trans e7
      have el1 : gG (sG h1 144 4 1) 144 4 = 1 := g_same
      refine Ex_step ?_; conv => whnf
      (repeat' (first | (exact o1 _) | (rw [gR_sG]) | (rw [r0]) | (rw [x35]) | (rw [e71]) | (rw [e7]) | (rw [el1]) | (rw [el]) | (rw [ed]) | (refine ⟨⟨kt, by omega, Int.lt_of_lt_of_le (by omega : _ < (3198 : Int)) (Int.le_of_eq lt.symm)⟩, ?_⟩; conv => whnf) | (refine ⟨⟨xk35, by omega, Int.lt_of_lt_of_le (by omega : _ < (5 : Int)) (Int.le_of_eq xl35.symm)⟩, ?_⟩; conv => whnf) | (refine Ex_step ?_; conv => whnf) | (refine ⟨?_, trivial⟩) | (refine (show den _ _ _ _ _ _ _ _ from ?_); conv => whnf) | (refine ⟨fun c => False.elim (by omega), fun c => ?_⟩) | (refine ⟨fun c => ?_, fun c => False.elim (by omega)⟩) | (refine ⟨by (first | assumption | rfl | (exact Nat.le_of_ble_eq_true rfl) | (exact ⟨fun h01 => absurd h01 (by decide), by first | rfl | assumption⟩) | (exact ⟨fun _ => by decide, by first | rfl | assumption⟩) | (exact ⟨by assumption, by omega, by omega⟩) | (unfold inI; omega) | omega), ?_⟩; conv => whnf) | (refine ⟨fun c => ?_, fun c => ?_⟩) | (intro c) | fail))
    · rw [if_pos hkN] at he
      subst he
      have o1 := fun w5 => lv_out (X := X) (XL := XL) (d := d) (Q := Q) (sd := sd) (k := k) (w5 := w5) (by omega) hS0 eK hfe hpd fin
      (repeat' (first | (exact o1 _) | (rw [r0]) | (rw [e7]) | (refine ⟨⟨kt, by omega, Int.lt_of_lt_of_le (by omega : _ < (3198 : Int)) (Int.le_of_eq lt.symm)⟩, ?_⟩; conv => whnf) | (refine Ex_step ?_; conv => whnf) | (refine ⟨?_, trivial⟩) | (refine (show den _ _ _ _ _ _ _ _ from ?_); conv => whnf) | (refine ⟨fun c => False.elim (by omega), fun c => ?_⟩) | (refine ⟨fun c => ?_, fun c => False.elim (by omega)⟩) | (refine ⟨by (first | assumption | rfl | (exact Nat.le_of_ble_eq_true rfl) | (exact ⟨fun h01 => absurd h01 (by decide), by first | rfl | assumption⟩) | (exact ⟨fun _ => by decide, by first | rfl | assumption⟩) | (exact ⟨by assumption, by omega, by omega⟩) | (unfold inI; omega) | omega), ?_⟩; conv => whnf) | (refine ⟨fun c => ?_, fun c => ?_⟩) | (intro c) | fail))
  | succ n ih =>
    intro f k dn mi x K A L w5 h1 hn hf hk hne eK hS he
    have hS0 := hS
    obtain ⟨hR, fY, hX, hRS, hLr, ⟨ex, hx0⟩, ⟨ed, hdn⟩, ⟨em, hmi⟩, ⟨e6, ha6⟩, el, hK, hVR⟩ := id hS; obtain ⟨⟨kq, r0, kt, lt⟩, eA, hA⟩ := id hR; obtain ⟨-, -, -, -, -, -, -, -, -, -, -, ⟨x34, xk34, xl34⟩, ⟨x35, xk35, xl35⟩, -⟩ := id hX; have gj := fY.1
    have e7 := hRS.1
    obtain ⟨f, rfl⟩ : ∃ g, f = g + 1 := ⟨f - 1, by omega⟩
    rw [rw_s] at he
    by_cases hkN : k < N
    · have hw22 : ¬ R k 0 = 22 := fun q => hne ⟨hkN, q⟩
      have hv := hVR k hk.1 hkN
      rw [if_neg (fun q => q hkN), if_neg hw22, if_neg (by omega)] at he
      have e0 : gG h1 128 (90 + 6 * k) = R k 0 := by
        have := hRS.2 k 0 hk.1 hkN (by omega) (by omega)
        rw [Int.add_zero] at this
        exact this
      by_cases h23 : R k 0 = 23
      · obtain ⟨g, rfl⟩ : ∃ g, f = g + 1 := ⟨f - 1, by omega⟩
        have eD : dsR A x (R k 0) (R k 1) (R k 2) = (A, x, true) := by unfold dsR; rw [if_neg (by omega), if_neg (by omega), if_neg (by omega), if_neg (by omega), if_neg (by omega), if_neg (by omega), if_neg (by omega)]
        rw [eD, show lL R L k = L by unfold lL; exact if_neg (by omega), show nK R N A k = N by unfold nK; exact if_pos h23, rw_s, if_pos (by omega), show mi + (1 - b01 true) = mi by unfold b01; rw [if_pos rfl]; omega] at he
        subst he
        have f1 : FrY h1 (sG h1 127 33 (dn + 1)) := FrY.refl.s (Or.inl ⟨rfl, Or.inr rfl⟩)
        have g1 : ∀ (r : Nat) (i : Int), ¬ (r = 127 ∧ i = 33) → gG (sG h1 127 33 (dn + 1)) r i = gG h1 r i := fun r i q => by rw [gG_sG, if_neg (by omega)]
        have hS1 : LvS h (sG h1 127 33 (dn + 1)) R N (K + 83) a6 A L x (dn + 1) mi 0 := ⟨Rr_K (hR.o (by omega)) (by omega) (by omega), fY.trans f1, hX.eq (by exact rfl) (by exact rfl), hRS.y ((g1 _ _ (by omega)).trans hRS.1) f1, fun o a b => ⟨(g1 _ _ (by omega)).trans (hLr o a b).1, (hLr o a b).2⟩, ⟨(g1 _ _ (by omega)).trans ex, hx0⟩, ⟨g_same, by omega⟩, ⟨(g1 _ _ (by omega)).trans em, by omega⟩, ⟨(g1 _ _ (by omega)).trans e6, ha6⟩, (g1 _ _ (by omega)).trans el, by omega, hVR⟩
        have o1 := fun w5 => lv_out (X := X) (XL := XL) (d := d) (Q := Q) (sd := sd) (k := k) (w5 := w5) (by omega) hS1 (by omega) hfe hpd fin
        have e01 : gG (sG h1 127 33 (dn + 1)) 128 (90 + 6 * k) = 23 := (g1 _ _ (by omega)).trans (e0.trans h23)
        refine Ex_step ?_; conv => whnf
        (repeat' (first | (exact o1 _) | (rw [gR_sG]) | (rw [r0]) | (rw [x35]) | (rw [e7]) | (rw [el]) | (rw [ed]) | (rw [e01]) | (refine ⟨⟨kt, by omega, Int.lt_of_lt_of_le (by omega : _ < (3198 : Int)) (Int.le_of_eq lt.symm)⟩, ?_⟩; conv => whnf) | (refine ⟨⟨xk35, by omega, Int.lt_of_lt_of_le (by omega : _ < (5 : Int)) (Int.le_of_eq xl35.symm)⟩, ?_⟩; conv => whnf) | (refine Ex_step ?_; conv => whnf) | (refine ⟨?_, trivial⟩) | (refine (show den _ _ _ _ _ _ _ _ from ?_); conv => whnf) | (refine ⟨fun c => False.elim (by omega), fun c => ?_⟩) | (refine ⟨fun c => ?_, fun c => False.elim (by omega)⟩) | (refine ⟨by (first | assumption | rfl | (exact Nat.le_of_ble_eq_true rfl) | (exact ⟨fun h01 => absurd h01 (by decide), by first | rfl | assumption⟩) | (exact ⟨fun _ => by decide, by first | rfl | assumption⟩) | (exact ⟨by assumption, by omega, by omega⟩) | (unfold inI; omega) | omega), ?_⟩; conv => whnf) | (refine ⟨fun c => ?_, fun c => ?_⟩) | (intro c) | fail))
      · have l0 := ds_lo (x := x) hA hv.2.1 (Or.inl rfl)
        have l1 := ds_lo (x := x) hA hv.2.1 (Or.inr (Or.inl rfl))
        have l7 := ds_lo (x := x) hA hv.2.1 (Or.inr (Or.inr rfl))
        have l6 := ds_6 (x := x) hA hv.2.1
        have hxx := ds_x (A := A) (w := R k 0) (f := R k 1) (s := R k 2) hx0
        have hb := b01_b (b := (dsR A x (R k 0) (R k 1) (R k 2)).2.2)
        have deed := lv_deed (h := h) (X := X) (XL := XL) (d := d) (Q := Q) (sd := sd) (fe := fe) (pd := pd) (by omega) hR (by omega) gj hX hRS hN ⟨hk.1, hkN⟩ hv h23 ex hx0 ed (by omega) em (by omega) (by have := hA.2.2.2.2.2.2.1; omega) hLr (fun h4 hR4 f4 q32 q33 q0 q1 q4 lr4 => by
          have hRS4 : RSt h4 R N := hRS.y (by rw [hR4.2.1 7 (by omega) (by omega), l7, ← eA 7 (by omega) (by omega)]; exact e7) f4
          have hX4 : RK h4 := hX.eq f4.1 f4.2.1
          have hVR4 : ∀ k', 0 ≤ k' → k' < N → VRow (dsR A x (R k 0) (R k 1) (R k 2)).1 R N k' := fun k' a b => (hVR k' a b).c l0 l1
          refine lv_next (by omega) hR4 (f4.1.trans gj) hX4 hRS4 hN hNs ⟨hk.1, hkN⟩ hVR4 lr4 hw22 h23 (L := L) (fun k1 hor => ?_) (fun h5 lr5 f5 => ?_)
          · by_cases c : R k 0 = 21
            · rw [if_pos c]
              rcases hor with e | e
              · rw [e]; exact sk_loop hNs ⟨hk.1, hkN⟩ c (hv.2.2.2.1 c) (hv.2.2.2.2.1 (Or.inl c))
              · omega
            · rw [if_neg c, show lL R L k = L by unfold lL; exact if_neg c]
              exact ⟨4, rfl⟩
          · have hnk := nK_b (B := (dsR A x (R k 0) (R k 1) (R k 2)).1) hv ⟨hk.1, hkN⟩
            have hor : nK R N (dsR A x (R k 0) (R k 1) (R k 2)).1 k = k + 1 ∨ (2000 ≤ R k 0 ∧ nK R N (dsR A x (R k 0) (R k 1) (R k 2)).1 k = R k 4 + 1) := by
              unfold nK
              rw [if_neg h23]
              by_cases w : 2000 ≤ R k 0
              · rw [if_pos w]
                by_cases q : hlI (dsR A x (R k 0) (R k 1) (R k 2)).1 (R k 0) (R k 1) (R k 2) (R k 5) = 1
                · rw [if_pos q]; exact Or.inl rfl
                · rw [if_neg q]; exact Or.inr ⟨w, rfl⟩
              · rw [if_neg w]; exact Or.inl rfl
            have hend := sk_end hNs 3 _ (lL R L k) (hNs.1 _ hnk.1 hnk.2).2 hnk.1 hnk.2 (lL_ne hNs ⟨hk.1, hkN⟩ hor)
            obtain ⟨c, hc4, hcf⟩ := rw_sk (R := R) (N := N) 4 (nK R N (dsR A x (R k 0) (R k 1) (R k 2)).1 k) (lL R L k)
            have hff := hcf (f - c) (dsR A x (R k 0) (R k 1) (R k 2)).1 (dsR A x (R k 0) (R k 1) (R k 2)).2.1 (dn + 1) (mi + (1 - b01 (dsR A x (R k 0) (R k 1) (R k 2)).2.2))
            rw [show f - c + c = f by omega] at hff
            rw [hff] at he
            have f15 : FrY h1 h5 := f4.trans (FrY.f f5 (fun r q => q))
            have g5 : ∀ (r : Nat) (i : Int), ¬ r = 143 → gG h5 r i = gG h4 r i := fun r i q => f5.2.2 r q i
            refine ih (f - c) _ (dn + 1) _ _ (K + 83) _ _ _ h5 (by omega) (by omega) hend.2 hend.1 (by omega) ⟨⟨⟨(kd_fr f5 127).trans hR4.1.1, (gR_fr f5 127 0).trans hR4.1.2.1, (kd_fr f5 128).trans hR4.1.2.2.1, (ln_fr f5 128).trans hR4.1.2.2.2⟩, fun j a b => (g5 _ _ (by omega)).trans (hR4.2.1 j a b), hR4.2.2⟩, fY.trans f15, hX.eq f15.1 f15.2.1, hRS.y ((g5 _ _ (by omega)).trans hRS4.1) f15, lr5, ⟨(g5 _ _ (by omega)).trans q32, hxx⟩, ⟨(g5 _ _ (by omega)).trans q33, by omega⟩, ⟨(g5 _ _ (by omega)).trans q0, by omega⟩, ⟨(g5 _ _ (by omega)).trans (q1.trans (by omega)), by omega⟩, (g5 _ _ (by omega)).trans (q4.trans el), by omega, hVR4⟩ he)
        refine Ex_step ?_; conv => whnf
        (repeat' (first | (exact deed) | (rw [r0]) | (rw [x35]) | (rw [e7]) | (rw [el]) | (rw [ed]) | (refine ⟨⟨kt, by omega, Int.lt_of_lt_of_le (by omega : _ < (3198 : Int)) (Int.le_of_eq lt.symm)⟩, ?_⟩; conv => whnf) | (refine ⟨⟨xk35, by omega, Int.lt_of_lt_of_le (by omega : _ < (5 : Int)) (Int.le_of_eq xl35.symm)⟩, ?_⟩; conv => whnf) | (refine Ex_step ?_; conv => whnf) | (refine ⟨?_, trivial⟩) | (refine (show den _ _ _ _ _ _ _ _ from ?_); conv => whnf) | (refine ⟨fun c => False.elim (by omega), fun c => ?_⟩) | (refine ⟨fun c => ?_, fun c => False.elim (by omega)⟩) | (refine ⟨by (first | assumption | rfl | (exact Nat.le_of_ble_eq_true rfl) | (exact ⟨fun h01 => absurd h01 (by decide), by first | rfl | assumption⟩) | (exact ⟨fun _ => by decide, by first | rfl | assumption⟩) | (exact ⟨by assumption, by omega, by omega⟩) | (unfold inI; omega) | omega), ?_⟩; conv => whnf) | (refine ⟨fun c => ?_, fun c => ?_⟩) | (intro c) | fail))
    · rw [if_pos hkN] at he
      subst he
      have o1 := fun w5 => lv_out (X := X) (XL := XL) (d := d) (Q := Q) (sd := sd) (k := k) (w5 := w5) (by omega) hS0 eK hfe hpd fin
      (repeat' (first | (exact o1 _) | (rw [r0]) | (rw [e7]) | (refine ⟨⟨kt, by omega, Int.lt_of_lt_of_le (by omega : _ < (3198 : Int)) (Int.le_of_eq lt.symm)⟩, ?_⟩; conv => whnf) | (refine Ex_step ?_; conv => whnf) | (refine ⟨?_, trivial⟩) | (refine (show den _ _ _ _ _ _ _ _ from ?_); conv => whnf) | (refine ⟨fun c => False.elim (by omega), fun c => ?_⟩) | (refine ⟨fun c => ?_, fun c => False.elim (by omega)⟩) | (refine ⟨by (first | assumption | rfl | (exact Nat.le_of_ble_eq_true rfl) | (exact ⟨fun h01 => absurd h01 (by decide), by first | rfl | assumption⟩) | (exact ⟨fun _ => by decide, by first | rfl | assumption⟩) | (exact ⟨by assumption, by omega, by omega⟩) | (unfold inI; omega) | omega), ?_⟩; conv => whnf) | (refine ⟨fun c => ?_, fun c => ?_⟩) | (intro c) | fail))
