/-! LEVEL 2: live -/
/-- five places emptied -/
def Z5 (h h' : Mem) (i : Int) : Prop := h'.1 = h.1 ∧ h'.2.2 = h.2.2 ∧ (∀ r j, ¬ r = 144 → gG h' r j = gG h r j) ∧ ∀ j, 0 ≤ j → j < i → gG h' 144 j = 0
set_option maxHeartbeats 4000000 in
theorem r_lives {X : Int → Int} {XL : Int} {d : Nat} {h : Mem} {Q : RetP} {K : Int} {A : Int → Int} {R : Int → Int → Int} {N sd : Int} {D L : Int → Int} (hd : 15 ≤ d) (hR : Rr K h A) (hK : K + 24900 ≤ 30000000) (hX : RK h) (hRS : RSt h R N) (hN : 0 ≤ N ∧ N ≤ 60) (hNs : Nst R N D) (hVR : ∀ k, 0 ≤ k → k < N → VRow A R N k) (hL : LRr h L) (hsd : 0 ≤ sd ∧ sd < 65536) (fin : ∀ h2, LvE h h2 R N K (A 6) (totA A 5) (totA A 4) (rwN R N 10000 A sd L 0 0 0) → Q none h2) : WP X XL d 344 [vR 127, vI sd] h Q := by
  obtain ⟨⟨kq, r0, kt, lt⟩, eA, hA⟩ := id hR
  obtain ⟨-, -, -, -, -, -, -, -, -, -, -, -, ⟨x35, xk35, xl35⟩, -⟩ := id hX
  have t5 := tot_45 (w := 5) hA (Or.inr rfl)
  have t4 := tot_45 (w := 4) hA (Or.inl rfl)
  have b6 := hA.2.2.2.2.2.2.1
  have hne : ¬ ((0 : Int) < N ∧ R 0 0 = 22) := fun q => by have := (hNs.2.1 0 (by omega) q.1 q.2).2; omega
  have fy1 : FrY h (sG (sG h 127 32 sd) 127 33 0) := (FrY.refl.s (Or.inl ⟨rfl, Or.inl rfl⟩)).s (Or.inl ⟨rfl, Or.inr rfl⟩)
  have fin2 : ∀ (h1 : Mem) (w5 : Option MV), Z5 (sG (sG h 127 32 sd) 127 33 0) h1 5 → Ex (WP X XL (d - 1)) KX10_lives h.1 Q 45 [some (vR 127), some (vI sd), some (vI (totA A 5)), some (vI (totA A 4)), some (vI 0), w5] [] h1 := fun h1 w5 z => by
    have fz : FrY h h1 := fy1.trans ⟨z.1, z.2.1, fun r i _ _ _ h3 => z.2.2.1 r i h3⟩
    have gg : ∀ (r : Nat) (i : Int), ¬ r = 144 → ¬ r = 127 → gG h1 r i = gG h r i := fun r i a b => by rw [z.2.2.1 r i a, gG_sG, if_neg (by omega), gG_sG, if_neg (by omega)]
    refine lv_all (by omega) hN hNs t5 t4 fin 300 10000 0 0 0 sd K A L w5 h1 (by omega) (by omega) (by omega) hne (by omega) ⟨⟨⟨?_, ?_, ?_, ?_⟩, fun j a b => (gg _ _ (by omega) (by omega)).trans (eA j a b), hA⟩, fz, hX.eq fz.1 fz.2.1, hRS.y ((gg _ _ (by omega) (by omega)).trans hRS.1) fz, fun o a b => ⟨(gg _ _ (by omega) (by omega)).trans (hL o a b).1, (hL o a b).2⟩, ⟨by rw [z.2.2.1 _ _ (by omega), g_ne (by omega), g_same], hsd⟩, ⟨by rw [z.2.2.1 _ _ (by omega), g_same], by omega⟩, ⟨z.2.2.2 0 (by omega) (by omega), by omega⟩, ⟨by rw [z.2.2.2 1 (by omega) (by omega)]; omega, by omega⟩, z.2.2.2 4 (by omega) (by omega), by omega, hVR⟩ rfl
    · unfold kd; rw [z.1]; exact kq
    · unfold gR; rw [z.2.1]; exact r0
    · unfold kd; rw [z.1]; exact kt
    · unfold ln; rw [z.1]; exact lt
  have at30 : ∀ (h1 : Mem) (w2 : Int), Z5 (sG (sG h 127 32 sd) 127 33 0) h1 5 → Ex (WP X XL (d - 1)) KX10_lives h.1 Q 30 [some (vR 127), some (vI sd), some (vI w2), none, none, none] [] h1 := fun h1 w2 z => by
    have hR1 : Rr K h1 A := by
      refine ⟨⟨?_, ?_, ?_, ?_⟩, fun j a b => ?_, hA⟩
      · unfold kd; rw [z.1]; exact kq
      · unfold gR; rw [z.2.1]; exact r0
      · unfold kd; rw [z.1]; exact kt
      · unfold ln; rw [z.1]; exact lt
      · rw [z.2.2.1 _ _ (by omega), gG_sG, if_neg (by omega), gG_sG, if_neg (by omega)]; exact eA j a b
    have kq1 := hR1.1.1
    have f2 := fun w5 => fin2 h1 w5 z
    (repeat' (first | (exact f2 _) | (refine r_together (by omega) hR1 (by omega) ?_) | (refine Ex_step ?_; conv => whnf) | (refine ⟨?_, trivial⟩) | (refine (show den _ _ _ _ _ _ _ _ from ?_); conv => whnf) | (refine ⟨fun c => False.elim (by omega), fun c => ?_⟩) | (refine ⟨fun c => ?_, fun c => False.elim (by omega)⟩) | (refine ⟨by (first | assumption | rfl | (exact Nat.le_of_ble_eq_true rfl) | (exact ⟨fun h01 => absurd h01 (by decide), by first | rfl | assumption⟩) | (exact ⟨fun _ => by decide, by first | rfl | assumption⟩) | (exact ⟨by assumption, by omega, by omega⟩) | (unfold inI; omega) | omega), ?_⟩; conv => whnf) | (refine ⟨fun c => ?_, fun c => ?_⟩) | (intro c) | fail))
  have loop : ∀ (k : Nat) (i : Int) (h1 : Mem), 5 - i = k → 0 ≤ i → Z5 (sG (sG h 127 32 sd) 127 33 0) h1 i → Ex (WP X XL (d - 1)) KX10_lives h.1 Q 12 [some (vR 127), some (vI sd), some (vI i), none, none, none] [] h1 := by
    intro k; induction k with
    | zero =>
      intro i h1 hk hi z
      have e5 : i = 5 := by omega
      subst e5
      have a3 := fun w => at30 h1 w z
      refine Ex_step ?_; conv => whnf
      (repeat' (first | (exact a3 _) | (refine Ex_step ?_; conv => whnf) | (refine ⟨?_, trivial⟩) | (refine (show den _ _ _ _ _ _ _ _ from ?_); conv => whnf) | (refine ⟨fun c => False.elim (by omega), fun c => ?_⟩) | (refine ⟨fun c => ?_, fun c => False.elim (by omega)⟩) | (refine ⟨by (first | assumption | rfl | (exact Nat.le_of_ble_eq_true rfl) | (exact ⟨fun h01 => absurd h01 (by decide), by first | rfl | assumption⟩) | (exact ⟨fun _ => by decide, by first | rfl | assumption⟩) | (exact ⟨by assumption, by omega, by omega⟩) | (unfold inI; omega) | omega), ?_⟩; conv => whnf) | (refine ⟨fun c => ?_, fun c => ?_⟩) | (intro c) | fail))
    | succ k ih =>
      intro i h1 hk hi z
      have n := ih (i + 1) (sG h1 144 i 0) (by omega) (by omega) ⟨z.1, z.2.1, fun r j q => by rw [gG_sG, if_neg (by omega)]; exact z.2.2.1 r j q, fun j a b => by
        by_cases e : j = i
        · rw [e]; exact g_same
        · rw [g_ne e]; exact z.2.2.2 j a (by omega)⟩
      have x35b : gR h1 127 35 = 144 := by unfold gR; rw [z.2.1]; exact x35
      have kqb : kd h1 127 = 10 := by unfold kd; rw [z.1]; exact kq
      have xkb : kd h1 144 = 100 := by unfold kd; rw [z.1]; exact xk35
      have xlb : ln h1 144 = 5 := by unfold ln; rw [z.1]; exact xl35
      refine Ex_step ?_; conv => whnf
      (repeat' (first | (exact n) | (rw [x35b]) | (refine ⟨⟨xkb, by omega, Int.lt_of_lt_of_le (by omega : _ < (5 : Int)) (Int.le_of_eq xlb.symm)⟩, ?_⟩; conv => whnf) | (refine Ex_step ?_; conv => whnf) | (refine ⟨?_, trivial⟩) | (refine (show den _ _ _ _ _ _ _ _ from ?_); conv => whnf) | (refine ⟨fun c => False.elim (by omega), fun c => ?_⟩) | (refine ⟨fun c => ?_, fun c => False.elim (by omega)⟩) | (refine ⟨by (first | assumption | rfl | (exact Nat.le_of_ble_eq_true rfl) | (exact ⟨fun h01 => absurd h01 (by decide), by first | rfl | assumption⟩) | (exact ⟨fun _ => by decide, by first | rfl | assumption⟩) | (exact ⟨by assumption, by omega, by omega⟩) | (unfold inI; omega) | omega), ?_⟩; conv => whnf) | (refine ⟨fun c => ?_, fun c => ?_⟩) | (intro c) | fail))
  have l0 := loop 5 0 _ (by omega) (by omega) ⟨rfl, rfl, fun _ _ _ => rfl, fun j a b => by omega⟩
  refine eX10_lives (by omega) ?_
  (repeat' (first | (exact l0) | (refine Ex_step ?_; conv => whnf) | (refine ⟨?_, trivial⟩) | (refine (show den _ _ _ _ _ _ _ _ from ?_); conv => whnf) | (refine ⟨fun c => False.elim (by omega), fun c => ?_⟩) | (refine ⟨fun c => ?_, fun c => False.elim (by omega)⟩) | (refine ⟨by (first | assumption | rfl | (exact Nat.le_of_ble_eq_true rfl) | (exact ⟨fun h01 => absurd h01 (by decide), by first | rfl | assumption⟩) | (exact ⟨fun _ => by decide, by first | rfl | assumption⟩) | (exact ⟨by assumption, by omega, by omega⟩) | (unfold inI; omega) | omega), ?_⟩; conv => whnf) | (refine ⟨fun c => ?_, fun c => ?_⟩) | (intro c) | fail))
/-- what is told of a life: missed, days, falls, tolls, left -/
def tlV (A : Int → Int) (r : (Int → Int) × Int × (Int → Int) × Int × Int × Int) (j : Int) : Int := if j = 0 then r.2.2.2.2.1 else if j = 1 then r.1 6 - A 6 else if j = 2 then totA r.1 5 - totA A 5 else if j = 3 then totA r.1 4 - totA A 4 else r.2.2.2.2.2
def FrYt (h h' : Mem) : Prop := h'.1 = h.1 ∧ h'.2.2 = h.2.2 ∧ ∀ r i, ¬ (r = 128 ∧ 0 ≤ i ∧ i < 90) → ¬ (r = 127 ∧ (i = 32 ∨ i = 33 ∨ i = 37)) → ¬ r = 143 → ¬ r = 144 → ¬ r = 145 → gG h' r i = gG h r i
set_option maxHeartbeats 4000000 in
theorem m_live {X : Int → Int} {XL : Int} {d : Nat} {h : Mem} {Q : RetP} {K : Int} {A : Int → Int} {R : Int → Int → Int} {N sd : Int} {D L : Int → Int} (hd : 16 ≤ d) (hR : Rr K h A) (hK : K + 25000 ≤ 30000000) (hX : RK h) (hRS : RSt h R N) (hN : 0 ≤ N ∧ N ≤ 60) (hNs : Nst R N D) (hVR : ∀ k, 0 ≤ k → k < N → VRow A R N k) (hL : LRr h L) (hsd : 0 ≤ sd ∧ sd ≤ 9999) (fin : ∀ h2, Rr (K + 25000) h2 (rwN R N 10000 A sd L 0 0 0).1 → FrYt h h2 → LRr h2 (rwN R N 10000 A sd L 0 0 0).2.2.1 → RSt h2 R N → (∀ j, 0 ≤ j → j < 5 → gG h2 145 j = tlV A (rwN R N 10000 A sd L 0 0 0) j) → gG h2 127 37 = 1 → Q (some (vI (rwN R N 10000 A sd L 0 0 0).2.2.2.1)) (sG h2 127 2 0)) : WP X XL d 345 [vR 127, vI sd] h Q := by
  obtain ⟨⟨kq, r0, kt, lt⟩, eA, hA⟩ := id hR
  have e7 := hRS.1
  have lv : ∀ (d' : Nat) (Q' : RetP), 15 ≤ d' → (∀ h2, LvE h h2 R N K (A 6) (totA A 5) (totA A 4) (rwN R N 10000 A sd L 0 0 0) → Q' none h2) → WP X XL d' 344 [vR 127, vI sd] h Q' := fun d' Q' a b => r_lives a hR (by omega) hX hRS hN hNs hVR hL (by omega) b
  generalize rwN R N 10000 A sd L 0 0 0 = r at fin lv
  have loop : ∀ (h1 : Mem), LvE h h1 R N K (A 6) (totA A 5) (totA A 4) r → ∀ (k : Nat) (i : Int) (h2 : Mem), 5 - i = k → 0 ≤ i → h2.1 = h1.1 → h2.2.2 = h1.2.2 → (∀ q j, ¬ q = 145 → gG h2 q j = gG h1 q j) → (∀ j, 0 ≤ j → j < i → gG h2 145 j = gG h1 144 j) → Ex (WP X XL (d - 1)) KX10_live h.1 Q 43 [some (vR 127), some (vI sd), some (vI i)] [] h2 := by
    intro h1 hE
    obtain ⟨hR1, fy, hL1, d33, m0, m1, m2, m3, m4, hRS1⟩ := hE
    have hX1 := hX.eq fy.1 fy.2.1
    obtain ⟨-, -, -, -, -, -, -, -, -, -, -, -, ⟨x35, xk35, xl35⟩, ⟨x36, xk36, xl36⟩⟩ := id hX1
    intro k; induction k with
    | zero =>
      intro i h2 hk hi g1 g2 gg gt
      have e5 : i = 5 := by omega
      subst e5
      have kq2 : kd h2 127 = 10 := by unfold kd; rw [g1]; exact hR1.1.1
      have d2 : gG (sG h2 127 37 1) 127 33 = r.2.2.2.1 := by rw [g_ne (by omega), gg _ _ (by omega)]; exact d33
      have hs1 := g1.trans fy.1
      have e := fin (sG h2 127 37 1) (Rr_K ⟨⟨kq2, by (show gR h2 127 0 = 128); unfold gR; rw [g2]; exact hR1.1.2.1, by (show kd h2 128 = 100); unfold kd; rw [g1]; exact hR1.1.2.2.1, by (show ln h2 128 = 3198); unfold ln; rw [g1]; exact hR1.1.2.2.2⟩, fun j a b => by rw [gG_sG, if_neg (by omega), gg _ _ (by omega)]; exact hR1.2.1 j a b, hR1.2.2⟩ (by omega) (by omega)) ⟨g1.trans fy.1, g2.trans fy.2.1, fun q i a b c d e => by rw [gG_sG, if_neg (by omega), gg _ _ e]; exact fy.2.2 q i a (by omega) c d⟩ (fun o a b => ⟨by rw [gG_sG, if_neg (by omega), gg _ _ (by omega)]; exact (hL1 o a b).1, (hL1 o a b).2⟩) ⟨by rw [gG_sG, if_neg (by omega), gg _ _ (by omega)]; exact hRS1.1, fun k j a b c d => by rw [gG_sG, if_neg (by omega), gg _ _ (by omega)]; exact hRS1.2 k j a b c d⟩ (fun j a b => by
        rw [gG_sG, if_neg (by omega), gt j a b]
        unfold tlV
        rcases (show j = 0 ∨ j = 1 ∨ j = 2 ∨ j = 3 ∨ j = 4 by omega) with e | e | e | e | e <;> subst e
        · rw [if_pos rfl]; exact m0
        · rw [if_neg (by omega), if_pos rfl]; exact m1
        · rw [if_neg (by omega), if_neg (by omega), if_pos rfl]; exact m2
        · rw [if_neg (by omega), if_neg (by omega), if_neg (by omega), if_pos rfl]; exact m3
        · rw [if_neg (by omega), if_neg (by omega), if_neg (by omega), if_neg (by omega)]; exact m4) g_same
      refine Ex_step ?_; conv => whnf
      (repeat' (first | (exact e) | (rw [d2]) | (refine r_gives (by omega) kq2 ?_) | (refine Ex_step ?_; conv => whnf) | (refine ⟨?_, trivial⟩) | (refine (show den _ _ _ _ _ _ _ _ from ?_); conv => whnf) | (refine ⟨fun c => False.elim (by omega), fun c => ?_⟩) | (refine ⟨fun c => ?_, fun c => False.elim (by omega)⟩) | (refine ⟨by (first | assumption | rfl | (exact Nat.le_of_ble_eq_true rfl) | (exact ⟨fun h01 => absurd h01 (by decide), by first | rfl | assumption⟩) | (exact ⟨fun _ => by decide, by first | rfl | assumption⟩) | (exact ⟨by assumption, by omega, by omega⟩) | (unfold inI; omega) | omega), ?_⟩; conv => whnf) | (refine ⟨fun c => ?_, fun c => ?_⟩) | (intro c) | fail))
    | succ k ih =>
      intro i h2 hk hi g1 g2 gg gt
      have x35b : gR h2 127 35 = 144 := by unfold gR; rw [g2]; exact x35
      have x36b : gR h2 127 36 = 145 := by unfold gR; rw [g2]; exact x36
      have kqb : kd h2 127 = 10 := by unfold kd; rw [g1]; exact hR1.1.1
      have xkb : kd h2 144 = 100 := by unfold kd; rw [g1]; exact xk35
      have xlb : ln h2 144 = 5 := by unfold ln; rw [g1]; exact xl35
      have ykb : kd h2 145 = 100 := by unfold kd; rw [g1]; exact xk36
      have ylb : ln h2 145 = 5 := by unfold ln; rw [g1]; exact xl36
      have n := ih (i + 1) (sG h2 145 i (gG h2 144 i)) (by omega) (by omega) g1 g2 (fun q j a => by rw [gG_sG, if_neg (by omega)]; exact gg q j a) (fun j a b => by
        by_cases e : j = i
        · rw [e, g_same]; exact gg 144 i (by omega)
        · rw [g_ne e]; exact gt j a (by omega))
      refine Ex_step ?_; conv => whnf
      (repeat' (first | (exact n) | (rw [x35b]) | (rw [x36b]) | (refine ⟨⟨xkb, by omega, Int.lt_of_lt_of_le (by omega : _ < (5 : Int)) (Int.le_of_eq xlb.symm)⟩, ?_⟩; conv => whnf) | (refine ⟨⟨ykb, by omega, Int.lt_of_lt_of_le (by omega : _ < (5 : Int)) (Int.le_of_eq ylb.symm)⟩, ?_⟩; conv => whnf) | (refine Ex_step ?_; conv => whnf) | (refine ⟨?_, trivial⟩) | (refine (show den _ _ _ _ _ _ _ _ from ?_); conv => whnf) | (refine ⟨fun c => False.elim (by omega), fun c => ?_⟩) | (refine ⟨fun c => ?_, fun c => False.elim (by omega)⟩) | (refine ⟨by (first | assumption | rfl | (exact Nat.le_of_ble_eq_true rfl) | (exact ⟨fun h01 => absurd h01 (by decide), by first | rfl | assumption⟩) | (exact ⟨fun _ => by decide, by first | rfl | assumption⟩) | (exact ⟨by assumption, by omega, by omega⟩) | (unfold inI; omega) | omega), ?_⟩; conv => whnf) | (refine ⟨fun c => ?_, fun c => ?_⟩) | (intro c) | fail))
  refine eX10_live (by omega) ?_
  (repeat' (first | (rw [r0]) | (rw [e7]) | (refine r_isFrom (by omega) (fun c => ?_) (fun c => False.elim (by omega))) | (refine r_isFrom (by omega) (fun c => False.elim (by omega)) (fun c => ?_)) | (refine r_isFrom (by omega) (fun c => ?_) (fun c => ?_)) | (refine lv _ _ (by omega) (fun h2 hE => ?_)) | (exact loop h2 hE 5 0 h2 (by omega) (by omega) rfl rfl (fun _ _ _ => rfl) (fun j a b => by omega)) | (refine ⟨⟨kt, by omega, Int.lt_of_lt_of_le (by omega : _ < (3198 : Int)) (Int.le_of_eq lt.symm)⟩, ?_⟩; conv => whnf) | (refine Ex_step ?_; conv => whnf) | (refine ⟨?_, trivial⟩) | (refine (show den _ _ _ _ _ _ _ _ from ?_); conv => whnf) | (refine ⟨fun c => False.elim (by omega), fun c => ?_⟩) | (refine ⟨fun c => ?_, fun c => False.elim (by omega)⟩) | (refine ⟨by (first | assumption | rfl | (exact Nat.le_of_ble_eq_true rfl) | (exact ⟨fun h01 => absurd h01 (by decide), by first | rfl | assumption⟩) | (exact ⟨fun _ => by decide, by first | rfl | assumption⟩) | (exact ⟨by assumption, by omega, by omega⟩) | (unfold inI; omega) | omega), ?_⟩; conv => whnf) | (refine ⟨fun c => ?_, fun c => ?_⟩) | (intro c) | fail))
