/-! LEVEL 2: decades, the reference -/
def FVd (h h' : Mem) : Prop := h'.1 = h.1 ∧ h'.2.2 = h.2.2 ∧ ∀ r i, ¬ (r = 127 ∧ (i = 2 ∨ (10 ≤ i ∧ i ≤ 20) ∨ i = 22 ∨ i = 23)) → ¬ r = 134 → ¬ r = 135 → ¬ (r = 128 ∧ (i = 7 ∨ (90 ≤ i ∧ i < 450) ∨ (1832 ≤ i ∧ i < 2290))) → ¬ (r = 129 ∧ 24 ≤ i ∧ i < 30) → gG h' r i = gG h r i
theorem FVf.w {h h' : Mem} (a : FVf h h') : FVd h h' := ⟨a.1, a.2.1, fun r i p q t u v => a.2.2 r i p q t (by omega) v⟩
set_option maxHeartbeats 4000000 in
theorem m_decadesN {X : Int → Int} {XL : Int} {d : Nat} {h : Mem} {Q : RetP} {c n : Int} {P : Int → Int} (hd : 3 ≤ d) (hT : TxU h c P) (hn : ¬ (0 ≤ n ∧ n ≤ c ∧ n ≤ 300)) (hq : Q (some (vI (-1))) (sG h 127 2 1)) : WP X XL d 243 [vR 127, vI n] h Q := by
  have kq := hT.1.1
  refine eX10_decades (by omega) ?_
  (repeat' (first | (exact hq) | (refine r_beginsN (by omega) hT (by omega) ?_) | (refine r_refuse (by omega) kq ?_) | (refine Ex_step ?_; conv => whnf) | (refine ⟨?_, trivial⟩) | (refine (show den _ _ _ _ _ _ _ _ from ?_); conv => whnf) | (refine ⟨fun c => False.elim (by omega), fun c => ?_⟩) | (refine ⟨fun c => ?_, fun c => False.elim (by omega)⟩) | (refine ⟨by (first | assumption | rfl | (exact Nat.le_of_ble_eq_true rfl) | (exact ⟨fun h01 => absurd h01 (by decide), by first | rfl | assumption⟩) | (exact ⟨fun _ => by decide, by first | rfl | assumption⟩) | (exact ⟨by assumption, by omega, by omega⟩) | (unfold inI; omega) | omega), ?_⟩; conv => whnf) | (refine ⟨fun c => ?_, fun c => ?_⟩) | (intro c) | fail))
set_option maxHeartbeats 4000000 in
theorem m_decades {X : Int → Int} {XL : Int} {d : Nat} {h : Mem} {Q : RetP} {c n : Int} {P A Nm : Int → Int} {r : (Int × Int) ⊕ DS} (hd : 16 ≤ d) (hTx : TxU h c P) (hX : RA h) (hY : RM h) (hZ : RO h) (e0 : gG h 128 0 = A 0) (h0 : 0 ≤ A 0 ∧ A 0 ≤ 9) (e1 : gG h 128 1 = A 1) (hm : 0 ≤ A 1 ∧ A 1 ≤ 6) (hT : ∀ i, 0 ≤ i → i < A 1 → nmP (Nm i) (gG h 129 i)) (hn : 0 ≤ n ∧ n ≤ c ∧ n ≤ 300) (hr : dRd P n A Nm 301 0 S00 = r) (hq0 : ∀ x h', r = .inl x → FVf h h' → gG h' 127 10 = 0 → gG h' 127 17 = x.2 → Q (some (vI (-1))) (sG (sG h' 127 16 x.1) 127 2 9)) (hq1 : ∀ S h', r = .inr S → FVd h h' → gG h' 127 10 = 0 → gG h' 127 17 = -1 → RSt h' S.1 S.2.1 → Q (some (vI S.2.2.1)) (sG (sG h' 127 16 0) 127 2 0)) : WP X XL d 243 [vR 127, vI n] h Q := by
  have kq := hTx.1.1
  have hc := hTx.2.2.2.1
  refine eX10_decades (by omega) ?_
  (repeat' (first | (refine Ex_step ?_; conv => whnf) | (refine ⟨?_, trivial⟩) | (refine (show den _ _ _ _ _ _ _ _ from ?_); conv => whnf) | (refine ⟨fun c => False.elim (by omega), fun c => ?_⟩) | (refine ⟨fun c => ?_, fun c => False.elim (by omega)⟩) | (refine ⟨by (first | assumption | rfl | (exact Nat.le_of_ble_eq_true rfl) | (exact ⟨fun h01 => absurd h01 (by decide), by first | rfl | assumption⟩) | (exact ⟨fun _ => by decide, by first | rfl | assumption⟩) | (exact ⟨by assumption, by omega, by omega⟩) | (unfold inI; omega) | omega), ?_⟩; conv => whnf) | (refine ⟨fun c => ?_, fun c => ?_⟩) | fail))
  refine r_begins (by omega) hTx hn (fun h1 hA1 f1 => ?_)
  have kq1 := hA1.1.1.1
  obtain ⟨x10, xk1, xl1⟩ := hX.z f1.1 f1.2.1
  have l102 : ∀ (k : Nat) (i : Int) (w2 : Int) (hj : Mem) (S : DS), (450 - i).toNat = k → 90 ≤ i → i ≤ 450 → r = .inr S → FVd h hj → gG hj 127 10 = 0 → gG hj 127 17 = -1 → gG hj 127 18 = 0 → gG hj 127 23 = S.2.2.1 → gG hj 128 7 = S.2.1 → (S.2.1 ≤ 60) → (∀ j, 90 ≤ j → j < i → gG hj 128 j = gG hj 128 (1832 + j)) → (∀ k j, 0 ≤ k → k < S.2.1 → 0 ≤ j → j ≤ 5 → gG hj 128 (1922 + 6 * k + j) = S.1 k j) → Ex (WP X XL (d - 1)) KX10_decades h.1 Q 102 [some (vR 127), some (vI n), some (vI w2), some (vI i)] [] hj := by
    intro k; induction k with
    | zero =>
      intro i w2 hj S hk i0 i1 er fj e10 e17 e18 e23 e7 hN eA eR
      have kqj : kd hj 127 = 10 := by unfold kd; rw [fj.1]; exact kq
      have gj := fj.1
      have q := hq1 S hj er fj e10 e17 ⟨e7, fun k j k0 k1 j0 j1 => by
        rw [eA (90 + 6 * k + j) (by omega) (by omega), show 1832 + (90 + 6 * k + j) = 1922 + 6 * k + j by omega]
        exact eR k j k0 k1 j0 j1⟩
      (repeat' (first | (exact q) | (rw [e23]) | (refine r_takenY (by omega) kqj e18 ?_) | (refine Ex_step ?_; conv => whnf) | (refine ⟨?_, trivial⟩) | (refine (show den _ _ _ _ _ _ _ _ from ?_); conv => whnf) | (refine ⟨fun c => False.elim (by omega), fun c => ?_⟩) | (refine ⟨fun c => ?_, fun c => False.elim (by omega)⟩) | (refine ⟨by (first | assumption | rfl | (exact Nat.le_of_ble_eq_true rfl) | (exact ⟨fun h01 => absurd h01 (by decide), by first | rfl | assumption⟩) | (exact ⟨fun _ => by decide, by first | rfl | assumption⟩) | (exact ⟨by assumption, by omega, by omega⟩) | (unfold inI; omega) | omega), ?_⟩; conv => whnf) | (refine ⟨fun c => ?_, fun c => ?_⟩) | (intro c) | fail))
    | succ k ih =>
      intro i w2 hj S hk i0 i1 er fj e10 e17 e18 e23 e7 hN eA eR
      obtain ⟨y0, yk, yl⟩ := hX.z fj.1 fj.2.1
      have kqj : kd hj 127 = 10 := by unfold kd; rw [fj.1]; exact kq
      have nx := ih (i + 1) w2 (sG hj 128 i (gG hj 128 (1832 + i))) S (by omega) (by omega) (by omega) er ⟨fj.1, fj.2.1, fun r j p q t u v => by rw [gG_sG, if_neg (by omega)]; exact fj.2.2 r j p q t u v⟩ (by rw [gG_sG, if_neg (by omega)]; exact e10) (by rw [gG_sG, if_neg (by omega)]; exact e17) (by rw [gG_sG, if_neg (by omega)]; exact e18) (by rw [gG_sG, if_neg (by omega)]; exact e23) (by rw [g_ne (by omega)]; exact e7) hN (fun j x y => by
        by_cases ej : j = i
        · rw [ej, g_same, g_ne (by omega)]
        · rw [g_ne ej, g_ne (by omega)]; exact eA j x (by omega)) (fun k j k0 k1 j0 j1 => by rw [g_ne (by omega)]; exact eR k j k0 k1 j0 j1)
      refine Ex_step ?_; conv => whnf
      (repeat' (first | (exact nx) | (rw [y0]) | (refine ⟨⟨yk, by omega, Int.lt_of_lt_of_le (by omega : _ < (3198 : Int)) (Int.le_of_eq yl.symm)⟩, ?_⟩; conv => whnf) | (refine Ex_step ?_; conv => whnf) | (refine ⟨?_, trivial⟩) | (refine (show den _ _ _ _ _ _ _ _ from ?_); conv => whnf) | (refine ⟨fun c => False.elim (by omega), fun c => ?_⟩) | (refine ⟨fun c => ?_, fun c => False.elim (by omega)⟩) | (refine ⟨by (first | assumption | rfl | (exact Nat.le_of_ble_eq_true rfl) | (exact ⟨fun h01 => absurd h01 (by decide), by first | rfl | assumption⟩) | (exact ⟨fun _ => by decide, by first | rfl | assumption⟩) | (exact ⟨by assumption, by omega, by omega⟩) | (unfold inI; omega) | omega), ?_⟩; conv => whnf) | (refine ⟨fun c => ?_, fun c => ?_⟩) | (intro c) | fail))
  have loop : ∀ (f : Nat) (e : Int) (S : DS) (w3 : Option MV) (hj : Mem), n < e + f → dRd P n A Nm f e S = r → Aq hj P n e → RS hj S.1 S.2.1 S.2.2.1 S.2.2.2.1 S.2.2.2.2 → DI A S.1 S.2.1 S.2.2.1 S.2.2.2.1 S.2.2.2.2 → FVf h hj → gG hj 127 10 = 0 → gG hj 127 17 = -1 → Ex (WP X XL (d - 1)) KX10_decades h.1 Q 38 [some (vR 127), some (vI n), some (vI 1), w3] [] hj := by
    intro f; induction f with
    | zero =>
      intro e S w3 hj hf her hAj hRj hIj fj e10 e17
      have := hAj.2.1
      omega
    | succ f ih =>
      intro e S w3 hj hf her hAj hRj hIj fj e10 e17
      rw [dRd_s] at her
      have kqj := hAj.1.1.1
      have e12 := hAj.2.2.2.1
      have e18 := hAj.2.2.1
      have rt := rTk_c (tC P n e)
      have tb := tC_b (P := P) (n := n) (e := e)
      obtain ⟨⟨p1, p2, p3⟩, p4, p5⟩ := id hRj
      obtain ⟨y0, yk, yl⟩ := hX.z fj.1 fj.2.1
      have gj := fj.1
      have hI1 := hIj.1
      by_cases c32 : tC P n e = 32
      · rw [if_pos c32] at her
        by_cases cD : S.2.2.2.1 = 0
        · rw [if_pos cD] at her
          have l := fun w2 => l102 360 90 w2 (sG hj 128 7 S.2.1) S (by omega) (by omega) (by omega) her.symm ⟨fj.1, fj.2.1, fun r i p q t u v => by rw [gG_sG, if_neg (by omega)]; exact fj.2.2 r i p q t (by omega) v⟩ (by rw [gG_sG, if_neg (by omega)]; exact e10) (by rw [gG_sG, if_neg (by omega)]; exact e17) (by rw [gG_sG, if_neg (by omega)]; exact e18) (by rw [gG_sG, if_neg (by omega)]; exact p3) g_same (by omega) (fun j x y => by omega) (fun k j k0 k1 j0 j1 => by rw [g_ne (by omega)]; exact p5 k j k0 k1 j0 j1)
          (repeat' (first | (exact l _) | (rw [e12]) | (rw [e18]) | (rw [p2]) | (rw [y0]) | (rw [p1]) | (refine ⟨⟨yk, by omega, Int.lt_of_lt_of_le (by omega : _ < (3198 : Int)) (Int.le_of_eq yl.symm)⟩, ?_⟩; conv => whnf) | (refine Ex_step ?_; conv => whnf) | (refine ⟨?_, trivial⟩) | (refine (show den _ _ _ _ _ _ _ _ from ?_); conv => whnf) | (refine ⟨fun c => False.elim (by omega), fun c => ?_⟩) | (refine ⟨fun c => ?_, fun c => False.elim (by omega)⟩) | (refine ⟨by (first | assumption | rfl | (exact Nat.le_of_ble_eq_true rfl) | (exact ⟨fun h01 => absurd h01 (by decide), by first | rfl | assumption⟩) | (exact ⟨fun _ => by decide, by first | rfl | assumption⟩) | (exact ⟨by assumption, by omega, by omega⟩) | (unfold inI; omega) | omega), ?_⟩; conv => whnf) | (refine ⟨fun c => ?_, fun c => ?_⟩) | (intro c) | fail))
        · rw [if_neg cD] at her
          have go : ∀ (d' : Nat) (Q' : RetP), 1 ≤ d' → (∀ (h2 : Mem) (x : Int × Int), h2.1 = h.1 → gG h2 127 18 = x.1 → 1 ≤ x.1 → Q (some (vI (-1))) (sG (sG h2 127 16 x.1) 127 2 9) → Q' (some (vI 0)) h2) → WP X XL d' 217 [vR 127, vI 2] hj Q' := fun d' Q' a b => q_fails a hAj (by omega) her (fun x h2 er ff => b h2 x (ff.1.trans gj) ff.2.2.2.1 ff.2.2.2.2.2 (hq0 x h2 er (fj.trans ff.v) ((ff.2.2.1 _ _ (by unfold qP; omega) (by omega)).trans e10) ff.2.2.2.2.1))
          (repeat' (first | (rw [e12]) | (rw [e18]) | (rw [p2]) | (refine Ex_step ?_; conv => whnf) | (refine ⟨?_, trivial⟩) | (refine (show den _ _ _ _ _ _ _ _ from ?_); conv => whnf) | (refine ⟨fun c => False.elim (by omega), fun c => ?_⟩) | (refine ⟨fun c => ?_, fun c => False.elim (by omega)⟩) | (refine ⟨by (first | assumption | rfl | (exact Nat.le_of_ble_eq_true rfl) | (exact ⟨fun h01 => absurd h01 (by decide), by first | rfl | assumption⟩) | (exact ⟨fun _ => by decide, by first | rfl | assumption⟩) | (exact ⟨by assumption, by omega, by omega⟩) | (unfold inI; omega) | omega), ?_⟩; conv => whnf) | (refine ⟨fun c => ?_, fun c => ?_⟩) | fail))
          refine go _ _ (by omega) (fun h2 x g2 g18 x1 q => ?_)
          have kq2 : kd h2 127 = 10 := by unfold kd; rw [g2]; exact kq
          have tk : ∀ (v : Int) (d' : Nat) (Q' : RetP), 2 ≤ d' → Q' (some (vI (-1))) (sG (sG h2 127 16 x.1) 127 2 9) → WP X XL d' 226 [vR 127, vI v] h2 Q' := fun v d' Q' a b => r_takenN a kq2 g18 x1 b
          (repeat' (first | (exact q) | (rw [g18]) | (refine tk _ _ _ (by omega) ?_) | (refine Ex_step ?_; conv => whnf) | (refine ⟨?_, trivial⟩) | (refine (show den _ _ _ _ _ _ _ _ from ?_); conv => whnf) | (refine ⟨fun c => False.elim (by omega), fun c => ?_⟩) | (refine ⟨fun c => ?_, fun c => False.elim (by omega)⟩) | (refine ⟨by (first | assumption | rfl | (exact Nat.le_of_ble_eq_true rfl) | (exact ⟨fun h01 => absurd h01 (by decide), by first | rfl | assumption⟩) | (exact ⟨fun _ => by decide, by first | rfl | assumption⟩) | (exact ⟨by assumption, by omega, by omega⟩) | (unfold inI; omega) | omega), ?_⟩; conv => whnf) | (refine ⟨fun c => ?_, fun c => ?_⟩) | (intro c) | fail))
      · rw [if_neg c32] at her
        refine Ex_step ?_; conv => whnf
        (repeat' (first | (rw [e12]) | (refine Ex_step ?_; conv => whnf) | (refine ⟨?_, trivial⟩) | (refine (show den _ _ _ _ _ _ _ _ from ?_); conv => whnf) | (refine ⟨fun c => False.elim (by omega), fun c => ?_⟩) | (refine ⟨fun c => ?_, fun c => False.elim (by omega)⟩) | (refine ⟨by (first | assumption | rfl | (exact Nat.le_of_ble_eq_true rfl) | (exact ⟨fun h01 => absurd h01 (by decide), by first | rfl | assumption⟩) | (exact ⟨fun _ => by decide, by first | rfl | assumption⟩) | (exact ⟨by assumption, by omega, by omega⟩) | (unfold inI; omega) | omega), ?_⟩; conv => whnf) | (refine ⟨fun c => ?_, fun c => ?_⟩) | fail))
        refine q_step (by omega) hAj (hX.z fj.1 fj.2.1) (hY.z fj.1 fj.2.1) (hZ.z fj.1 fj.2.1) (by rw [fj.2.2 _ _ (by omega) (by omega) (by omega) (by omega) (by omega)]; exact e0) h0 (by rw [fj.2.2 _ _ (by omega) (by omega) (by omega) (by omega) (by omega)]; exact e1) hm (fun i i0 i1 => by rw [fj.2.2 _ _ (by omega) (by omega) (by omega) (by omega) (by omega)]; exact hT i i0 i1) hIj hRj rfl (fun x h2 er ff => ?_) (fun S2 e2 h2 er hA2 hR2 f2 => ?_)
        · rw [er] at her
          have v2 := fj.trans ff.v
          have kq2 : kd h2 127 = 10 := by unfold kd; rw [v2.1]; exact kq
          have q := hq0 x h2 her.symm v2 ((ff.2.2.1 _ _ (by unfold qP; omega) (by omega)).trans e10) ff.2.2.2.2.1
          have g2 := v2.1
          have g18 := ff.2.2.2.1
          have x1 := ff.2.2.2.2.2
          have tk : ∀ (v : Int) (d' : Nat) (Q' : RetP), 2 ≤ d' → Q' (some (vI (-1))) (sG (sG h2 127 16 x.1) 127 2 9) → WP X XL d' 226 [vR 127, vI v] h2 Q' := fun v d' Q' a b => r_takenN a kq2 g18 x1 b
          (repeat' (first | (exact q) | (rw [g18]) | (refine tk _ _ _ (by omega) ?_) | (refine Ex_step ?_; conv => whnf) | (refine ⟨?_, trivial⟩) | (refine (show den _ _ _ _ _ _ _ _ from ?_); conv => whnf) | (refine ⟨fun c => False.elim (by omega), fun c => ?_⟩) | (refine ⟨fun c => ?_, fun c => False.elim (by omega)⟩) | (refine ⟨by (first | assumption | rfl | (exact Nat.le_of_ble_eq_true rfl) | (exact ⟨fun h01 => absurd h01 (by decide), by first | rfl | assumption⟩) | (exact ⟨fun _ => by decide, by first | rfl | assumption⟩) | (exact ⟨by assumption, by omega, by omega⟩) | (unfold inI; omega) | omega), ?_⟩; conv => whnf) | (refine ⟨fun c => ?_, fun c => ?_⟩) | (intro c) | fail))
        · have lt := dStep_lt hAj.2.1.2 c32 er
          have hI2 := dStep_i hm.1 hIj er
          rw [er] at her
          have v2 := fj.trans f2.v
          have nx := fun w3 => ih e2 S2 w3 h2 (by have : e < e2 := lt.1; omega) her hA2 hR2 hI2 v2 ((f2.2.2 _ _ (by unfold qP; omega)).trans e10) ((f2.2.2 _ _ (by unfold qP; omega)).trans e17)
          (repeat' (first | (exact nx _) | (refine Ex_step ?_; conv => whnf) | (refine ⟨?_, trivial⟩) | (refine (show den _ _ _ _ _ _ _ _ from ?_); conv => whnf) | (refine ⟨fun c => False.elim (by omega), fun c => ?_⟩) | (refine ⟨fun c => ?_, fun c => False.elim (by omega)⟩) | (refine ⟨by (first | assumption | rfl | (exact Nat.le_of_ble_eq_true rfl) | (exact ⟨fun h01 => absurd h01 (by decide), by first | rfl | assumption⟩) | (exact ⟨fun _ => by decide, by first | rfl | assumption⟩) | (exact ⟨by assumption, by omega, by omega⟩) | (unfold inI; omega) | omega), ?_⟩; conv => whnf) | (refine ⟨fun c => ?_, fun c => ?_⟩) | (intro c) | fail))
  have l0 : ∀ w3, Ex (WP X XL (d - 1)) KX10_decades h.1 Q 38 [some (vR 127), some (vI n), some (vI 1), w3] [] (sG (sG (sG h1 128 1839 0) 127 22 0) 127 23 0) := by
    intro w3
    have gg : ∀ r i, ¬ (r = 128 ∧ i = 1839) → ¬ (r = 127 ∧ (i = 22 ∨ i = 23)) → gG (sG (sG (sG h1 128 1839 0) 127 22 0) 127 23 0) r i = gG h1 r i := fun r i x y => by rw [gG_sG, if_neg (by omega), gG_sG, if_neg (by omega), gG_sG, if_neg (by omega)]
    refine loop 301 0 S00 w3 _ (by omega) hr (hA1.o rfl rfl (fun r i q => gg r i (by omega) (by omega))) ⟨⟨?_, ?_, ?_⟩, fun j a b => absurd b (by show ¬ j < 0; omega), fun k j a b => absurd b (by show ¬ k < 0; omega)⟩ DI_0 (f1.v.trans ⟨rfl, rfl, fun r i p q t u v => gg r i (by omega) (by omega)⟩) ?_ ?_
    · rw [gG_sG, if_neg (by omega), gG_sG, if_neg (by omega), g_same]; rfl
    · rw [g_ne (by omega), g_same]; rfl
    · rw [g_same]; rfl
    · rw [gg _ _ (by omega) (by omega)]; exact f1.2.2.2.1
    · rw [gg _ _ (by omega) (by omega)]; exact f1.2.2.2.2
  (repeat' (first | (exact l0 _) | (rw [x10]) | (refine ⟨⟨xk1, by omega, Int.lt_of_lt_of_le (by omega : _ < (3198 : Int)) (Int.le_of_eq xl1.symm)⟩, ?_⟩; conv => whnf) | (refine Ex_step ?_; conv => whnf) | (refine ⟨?_, trivial⟩) | (refine (show den _ _ _ _ _ _ _ _ from ?_); conv => whnf) | (refine ⟨fun c => False.elim (by omega), fun c => ?_⟩) | (refine ⟨fun c => ?_, fun c => False.elim (by omega)⟩) | (refine ⟨by (first | assumption | rfl | (exact Nat.le_of_ble_eq_true rfl) | (exact ⟨fun h01 => absurd h01 (by decide), by first | rfl | assumption⟩) | (exact ⟨fun _ => by decide, by first | rfl | assumption⟩) | (exact ⟨by assumption, by omega, by omega⟩) | (unfold inI; omega) | omega), ?_⟩; conv => whnf) | (refine ⟨fun c => ?_, fun c => ?_⟩) | (intro c) | fail))
