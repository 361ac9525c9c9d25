/-! LEVEL 2: decades as they are lived: a step -/
def anR (A : Int → Int) (x : Int) : (Int → Int) × Int × Bool := if A 1 ≤ 0 then (A, x, false) else if pkD (drw (drw x)) 16 < A 5 then ((rnR A (pkD (drw x) (A 1))).1, drw (drw x), (rnR A (pkD (drw x) (A 1))).2) else ((hmR A (pkD (drw x) (A 1))).1, drw (drw x), (hmR A (pkD (drw x) (A 1))).2)
def dsR (A : Int → Int) (x w f s : Int) : (Int → Int) × Int × Bool := if w = 14 then ((rnR A f).1, x, (rnR A f).2) else if w = 15 then ((rpR A f s).1, x, (rpR A f s).2) else if w = 16 then ((jmR A f).1, x, (jmR A f).2) else if w = 17 then ((hmR A f).1, x, (hmR A f).2) else if w = 18 then ((dyR A f).1, x, (dyR A f).2) else if w = 1 then ((fgR A f).1, x, (fgR A f).2) else if w = 19 then anR A x else (A, x, true)
/-- a row's numbers are good ones -/
def okW (A : Int → Int) (w f s : Int) : Prop := (w = 14 → 0 ≤ f ∧ f < A 1) ∧ (w = 17 → 0 ≤ f ∧ f < A 1) ∧ (w = 15 → (0 ≤ f ∧ f < A 1) ∧ 0 ≤ s ∧ s < A 1) ∧ (w = 16 → 0 ≤ f ∧ f < A 0) ∧ (w = 18 → 1 ≤ f ∧ f ≤ 40) ∧ (w = 1 → 0 ≤ f ∧ f ≤ 5)
theorem rr_6 {A : Int → Int} {p o : Int} (hp0 : 0 ≤ p) (ho0 : 0 ≤ o) : rrA A p o 6 = A 6 := by
  unfold rrA
  split
  · unfold runA; rw [lan_0 hp0 (by omega)]; exact (foF_0 hp0 _ _ _ rfl).1 6 (by omega) (by omega)
  · unfold ropA; rw [lan_0 ho0 (by omega), lan_0 hp0 (by omega)]; exact (foF_0 hp0 _ _ _ rfl).1 6 (by omega) (by omega)
theorem rnR_6 {A : Int → Int} {p : Int} (hp0 : 0 ≤ p) : (rnR A p).1 6 = A 6 := by unfold rnR; split; exact rr_6 hp0 hp0; rfl
theorem rpR_6 {A : Int → Int} {p o : Int} (hp0 : 0 ≤ p) (ho0 : 0 ≤ o) : (rpR A p o).1 6 = A 6 := by unfold rpR; split; exact rr_6 hp0 ho0; rfl
theorem jmR_6 {A : Int → Int} {a : Int} (ha0 : 0 ≤ a) : (jmR A a).1 6 = A 6 := by
  unfold jmR; split
  · show jmpA A a 6 = A 6
    unfold jmpA; rw [pu_n (by omega), pu_n (by omega), pu_n (by omega)]
  · rfl
theorem hmR_6 {A : Int → Int} {p : Int} (hp0 : 0 ≤ p) : (hmR A p).1 6 = A 6 := by
  unfold hmR; split
  · rfl
  · exact pu_n (by omega)
theorem fgR_6 {A : Int → Int} {f : Int} : (fgR A f).1 6 = A 6 := by
  unfold fgR; split
  · rfl
  · show fogA A f 6 = A 6
    exact pu_n (by omega)
theorem dyR_6 {A : Int → Int} {n : Int} : (dyR A n).1 6 = A 6 + (if A 6 + n ≤ 9999 then n else 0) := by
  unfold dyR; split
  · show dayA A n 6 = _
    unfold dayA; rw [if_neg (by omega), if_pos rfl]
  · show A 6 = _
    omega
set_option maxHeartbeats 4000000 in
theorem r_doesAny {X : Int → Int} {XL : Int} {d : Nat} {h : Mem} {Q : RetP} {K : Int} {A : Int → Int} {x : Int} (hd : 9 ≤ d) (hR : Rr K h A) (hK : K + 83 ≤ 30000000) (hx : gG h 127 32 = x) (hx0 : 0 ≤ x ∧ x < 65536) (hq : ∀ h', Rr (K + 83) h' (anR A x).1 → FrD h h' → gG h' 127 32 = (anR A x).2.1 → gG h' 144 1 = gG h 144 1 → (anR A x).1 6 = A 6 → Q (some (vI (b01 (anR A x).2.2))) h') : WP X XL d 340 [vR 127] h Q := by
  have hA := hR.2.2
  have b1 := hA.2.1
  have b5 := hA.2.2.2.2.2.1
  obtain ⟨⟨kq, r0, kt, lt⟩, eA, -⟩ := id hR
  refine eX10_doesAny (by omega) ?_
  by_cases h0 : A 1 ≤ 0
  · rw [show anR A x = (A, x, false) from if_pos h0] at hq
    (repeat' (first | (refine Ex_step ?_; conv => whnf) | (refine ⟨?_, trivial⟩) | (refine (show den _ _ _ _ _ _ _ _ from ?_); conv => whnf) | (refine ⟨fun c => False.elim (by omega), fun c => ?_⟩) | (refine ⟨fun c => ?_, fun c => False.elim (by omega)⟩) | (refine ⟨by (first | assumption | rfl | (exact Nat.le_of_ble_eq_true rfl) | (exact ⟨fun h01 => absurd h01 (by decide), by first | rfl | assumption | trivial⟩) | (exact ⟨fun _ => by decide, by first | rfl | assumption | trivial⟩) | (exact ⟨kt, by omega, Int.lt_of_lt_of_le (by omega : _ < (3198 : Int)) (Int.le_of_eq lt.symm)⟩) | (unfold inI; omega) | omega), ?_⟩; conv => whnf; try simp (disch := omega) only [r0, gR_sG, g_same, g_ne, eA]) | (refine ⟨fun c => ?_, fun c => ?_⟩) | (intro c) | fail))
    exact hq h (Rr_K hR (by omega) hK) FrD.refl hx rfl rfl
  · have hb1 := drw_b (x := x)
    have hb2 := drw_b (x := drw x)
    have hp := pkD_b (x := drw x) (n := A 1) (by omega)
    have hRa : Rr K (sG (sG h 127 32 (drw x)) 127 32 (drw (drw x))) A := hR.f.f
    have fD : FrD h (sG (sG h 127 32 (drw x)) 127 32 (drw (drw x))) := ⟨rfl, rfl, fun r i _ h1 _ => by rw [gG_sG, if_neg h1, gG_sG, if_neg h1]⟩
    have e32 : gG (sG (sG h 127 32 (drw x)) 127 32 (drw (drw x))) 127 32 = drw (drw x) := g_same
    have e144 : gG (sG (sG h 127 32 (drw x)) 127 32 (drw (drw x))) 144 1 = gG h 144 1 := by rw [gG_sG, if_neg (by omega), gG_sG, if_neg (by omega)]
    have e1 : gG (sG h 127 32 (drw x)) 128 1 = A 1 := by rw [gG_sG, if_neg (by omega)]; exact eA 1 (by omega) (by omega)
    have e5 : gG (sG (sG h 127 32 (drw x)) 127 32 (drw (drw x))) 128 5 = A 5 := by rw [gG_sG, if_neg (by omega), gG_sG, if_neg (by omega)]; exact eA 5 (by omega) (by omega)
    by_cases hc : pkD (drw (drw x)) 16 < A 5
    · rw [show anR A x = ((rnR A (pkD (drw x) (A 1))).1, drw (drw x), (rnR A (pkD (drw x) (A 1))).2) by unfold anR; rw [if_neg h0, if_pos hc]] at hq
      (repeat' (first | (rw [e1]) | (rw [e5]) | (refine r_draw (by omega) kq hx hx0.1 hx0.2 (by omega) (by omega) ?_) | (refine r_draw (by omega) kq g_same hb1.1 hb1.2 (by omega) (by omega) ?_) | (refine r_runsBy (by omega) hRa hK hp.1 hp.2 (fun h1 hR1 f1 => ?_); have g1 : h1.1 = h.1 := f1.1.1) | (refine ⟨⟨fun _ => by unfold b01; split <;> omega, g1⟩, ?_⟩) | (refine Ex_step ?_; conv => whnf) | (refine ⟨?_, trivial⟩) | (refine (show den _ _ _ _ _ _ _ _ from ?_); conv => whnf) | (refine ⟨fun c => False.elim (by omega), fun c => ?_⟩) | (refine ⟨fun c => ?_, fun c => False.elim (by omega)⟩) | (refine ⟨by (first | assumption | rfl | (exact Nat.le_of_ble_eq_true rfl) | (exact ⟨fun h01 => absurd h01 (by decide), by first | rfl | assumption | trivial⟩) | (exact ⟨fun _ => by decide, by first | rfl | assumption | trivial⟩) | (exact ⟨kt, by omega, Int.lt_of_lt_of_le (by omega : _ < (3198 : Int)) (Int.le_of_eq lt.symm)⟩) | (unfold inI; omega) | omega), ?_⟩; conv => whnf; try simp (disch := omega) only [r0, gR_sG, g_same, g_ne, eA]) | (refine ⟨fun c => ?_, fun c => ?_⟩) | (intro c) | fail))
      exact hq h1 hR1 (fD.trans f1.D) ((f1.1.2.2 127 (by omega) 32).trans e32) ((f1.1.2.2 144 (by omega) 1).trans e144) (rnR_6 hp.1)
    · rw [show anR A x = ((hmR A (pkD (drw x) (A 1))).1, drw (drw x), (hmR A (pkD (drw x) (A 1))).2) by unfold anR; rw [if_neg h0, if_neg hc]] at hq
      (repeat' (first | (rw [e1]) | (rw [e5]) | (refine r_draw (by omega) kq hx hx0.1 hx0.2 (by omega) (by omega) ?_) | (refine r_draw (by omega) kq g_same hb1.1 hb1.2 (by omega) (by omega) ?_) | (refine r_homesBy (by omega) hRa hK hp.1 hp.2 (fun h1 hR1 f1 => ?_); have g1 : h1.1 = h.1 := f1.1.1) | (refine ⟨⟨fun _ => by unfold b01; split <;> omega, g1⟩, ?_⟩) | (refine Ex_step ?_; conv => whnf) | (refine ⟨?_, trivial⟩) | (refine (show den _ _ _ _ _ _ _ _ from ?_); conv => whnf) | (refine ⟨fun c => False.elim (by omega), fun c => ?_⟩) | (refine ⟨fun c => ?_, fun c => False.elim (by omega)⟩) | (refine ⟨by (first | assumption | rfl | (exact Nat.le_of_ble_eq_true rfl) | (exact ⟨fun h01 => absurd h01 (by decide), by first | rfl | assumption | trivial⟩) | (exact ⟨fun _ => by decide, by first | rfl | assumption | trivial⟩) | (exact ⟨kt, by omega, Int.lt_of_lt_of_le (by omega : _ < (3198 : Int)) (Int.le_of_eq lt.symm)⟩) | (unfold inI; omega) | omega), ?_⟩; conv => whnf; try simp (disch := omega) only [r0, gR_sG, g_same, g_ne, eA]) | (refine ⟨fun c => ?_, fun c => ?_⟩) | (intro c) | fail))
      exact hq h1 hR1 (fD.trans f1.D) ((f1.1.2.2 127 (by omega) 32).trans e32) ((f1.1.2.2 144 (by omega) 1).trans e144) (hmR_6 hp.1)
set_option maxHeartbeats 4000000 in
theorem r_does {X : Int → Int} {XL : Int} {d : Nat} {h : Mem} {Q : RetP} {K : Int} {A : Int → Int} {r x w f s : Int} (hd : 11 ≤ d) (hR : Rr K h A) (hK : K + 83 ≤ 30000000) (hX : RK h) (hr : 90 ≤ r ∧ r ≤ 460) (ew : gG h 128 r = w) (ef : gG h 128 (r + 1) = f) (es : gG h 128 (r + 2) = s) (hx : gG h 127 32 = x) (hx0 : 0 ≤ x ∧ x < 65536) (hv : okW A w f s) (ht : 0 ≤ gG h 144 1 ∧ gG h 144 1 ≤ 1000000) (hq : ∀ h', Rr (K + 83) h' (dsR A x w f s).1 → FrD h h' → gG h' 127 32 = (dsR A x w f s).2.1 → gG h' 144 1 = gG h 144 1 + ((dsR A x w f s).1 6 - A 6) → Q (some (vI (b01 (dsR A x w f s).2.2))) h') : WP X XL d 341 [vR 127, vI r] h Q := by
  obtain ⟨⟨kq, r0, kt, lt⟩, eA, hA⟩ := id hR
  obtain ⟨v14, v17, v15, v16, v18, v1⟩ := hv
  have hret : ∀ (b : Bool) (h1 : Mem), h1.1 = h.1 → ((1 = 1 → b01 b = 0 ∨ b01 b = 1) ∧ h1.1 = h.1) := fun b h1 e => ⟨fun _ => by cases b; exact Or.inl rfl; exact Or.inr rfl, e⟩
  refine eX10_does (by omega) ?_
  by_cases w14 : w = 14
  · subst w14
    have hv := v14 rfl
    clear v14 v17 v15 v16 v18 v1
    rw [show dsR A x 14 f s = ((rnR A f).1, x, (rnR A f).2) by unfold dsR; rw [if_pos rfl]] at hq
    try dsimp only at hq
    have h6 := (show (rnR A f).1 6 = A 6 from rnR_6 (by omega))
    (repeat' (first | (rw [r0]) | (rw [ew]) | (rw [ef]) | (rw [es]) | (refine ⟨⟨kt, by omega, Int.lt_of_lt_of_le (by omega : _ < (3198 : Int)) (Int.le_of_eq lt.symm)⟩, ?_⟩; conv => whnf) | (refine r_runsBy (by omega) hR hK (by omega) (by omega) (fun h1 hR1 f1 => ?_); have g1 := f1.1.1) | (refine ⟨hret _ h1 g1, ?_⟩) | (refine Ex_step ?_; conv => whnf) | (refine ⟨?_, trivial⟩) | (refine (show den _ _ _ _ _ _ _ _ from ?_); conv => whnf) | (refine ⟨fun c => False.elim (by omega), fun c => ?_⟩) | (refine ⟨fun c => ?_, fun c => False.elim (by omega)⟩) | (refine ⟨by (first | assumption | rfl | (exact Nat.le_of_ble_eq_true rfl) | (exact ⟨fun h01 => absurd h01 (by decide), by first | rfl | assumption⟩) | (exact ⟨fun _ => by decide, by first | rfl | assumption⟩) | (exact ⟨by assumption, by omega, by omega⟩) | (unfold inI; omega) | omega), ?_⟩; conv => whnf) | (refine ⟨fun c => ?_, fun c => ?_⟩) | (intro c) | fail))
    exact hq h1 hR1 f1.D ((f1.1.2.2 127 (by omega) 32).trans hx) ((f1.1.2.2 144 (by omega) 1).trans (by omega))
  by_cases w15 : w = 15
  · subst w15
    have hv := v15 rfl
    clear v14 v17 v15 v16 v18 v1
    rw [show dsR A x 15 f s = ((rpR A f s).1, x, (rpR A f s).2) by unfold dsR; rw [if_neg (by omega), if_pos rfl]] at hq
    try dsimp only at hq
    have h6 := (show (rpR A f s).1 6 = A 6 from rpR_6 (by omega) (by omega))
    (repeat' (first | (rw [r0]) | (rw [ew]) | (rw [ef]) | (rw [es]) | (refine ⟨⟨kt, by omega, Int.lt_of_lt_of_le (by omega : _ < (3198 : Int)) (Int.le_of_eq lt.symm)⟩, ?_⟩; conv => whnf) | (refine r_ropesBy (by omega) hR hK (by omega) (by omega) (by omega) (by omega) (fun h1 hR1 f1 => ?_); have g1 := f1.1.1) | (refine ⟨hret _ h1 g1, ?_⟩) | (refine Ex_step ?_; conv => whnf) | (refine ⟨?_, trivial⟩) | (refine (show den _ _ _ _ _ _ _ _ from ?_); conv => whnf) | (refine ⟨fun c => False.elim (by omega), fun c => ?_⟩) | (refine ⟨fun c => ?_, fun c => False.elim (by omega)⟩) | (refine ⟨by (first | assumption | rfl | (exact Nat.le_of_ble_eq_true rfl) | (exact ⟨fun h01 => absurd h01 (by decide), by first | rfl | assumption⟩) | (exact ⟨fun _ => by decide, by first | rfl | assumption⟩) | (exact ⟨by assumption, by omega, by omega⟩) | (unfold inI; omega) | omega), ?_⟩; conv => whnf) | (refine ⟨fun c => ?_, fun c => ?_⟩) | (intro c) | fail))
    exact hq h1 hR1 f1.D ((f1.1.2.2 127 (by omega) 32).trans hx) ((f1.1.2.2 144 (by omega) 1).trans (by omega))
  by_cases w16 : w = 16
  · subst w16
    have hv := v16 rfl
    clear v14 v17 v15 v16 v18 v1
    rw [show dsR A x 16 f s = ((jmR A f).1, x, (jmR A f).2) by unfold dsR; rw [if_neg (by omega), if_neg (by omega), if_pos rfl]] at hq
    try dsimp only at hq
    have h6 := (show (jmR A f).1 6 = A 6 from jmR_6 (by omega))
    (repeat' (first | (rw [r0]) | (rw [ew]) | (rw [ef]) | (rw [es]) | (refine ⟨⟨kt, by omega, Int.lt_of_lt_of_le (by omega : _ < (3198 : Int)) (Int.le_of_eq lt.symm)⟩, ?_⟩; conv => whnf) | (refine r_jumpsBy (by omega) hR hK (by omega) (by omega) (fun h1 hR1 f1 => ?_); have g1 := f1.1.1) | (refine ⟨hret _ h1 g1, ?_⟩) | (refine Ex_step ?_; conv => whnf) | (refine ⟨?_, trivial⟩) | (refine (show den _ _ _ _ _ _ _ _ from ?_); conv => whnf) | (refine ⟨fun c => False.elim (by omega), fun c => ?_⟩) | (refine ⟨fun c => ?_, fun c => False.elim (by omega)⟩) | (refine ⟨by (first | assumption | rfl | (exact Nat.le_of_ble_eq_true rfl) | (exact ⟨fun h01 => absurd h01 (by decide), by first | rfl | assumption⟩) | (exact ⟨fun _ => by decide, by first | rfl | assumption⟩) | (exact ⟨by assumption, by omega, by omega⟩) | (unfold inI; omega) | omega), ?_⟩; conv => whnf) | (refine ⟨fun c => ?_, fun c => ?_⟩) | (intro c) | fail))
    exact hq h1 hR1 f1.D ((f1.1.2.2 127 (by omega) 32).trans hx) ((f1.1.2.2 144 (by omega) 1).trans (by omega))
  by_cases w17 : w = 17
  · subst w17
    have hv := v17 rfl
    clear v14 v17 v15 v16 v18 v1
    rw [show dsR A x 17 f s = ((hmR A f).1, x, (hmR A f).2) by unfold dsR; rw [if_neg (by omega), if_neg (by omega), if_neg (by omega), if_pos rfl]] at hq
    try dsimp only at hq
    have h6 := (show (hmR A f).1 6 = A 6 from hmR_6 (by omega))
    (repeat' (first | (rw [r0]) | (rw [ew]) | (rw [ef]) | (rw [es]) | (refine ⟨⟨kt, by omega, Int.lt_of_lt_of_le (by omega : _ < (3198 : Int)) (Int.le_of_eq lt.symm)⟩, ?_⟩; conv => whnf) | (refine r_homesBy (by omega) hR hK (by omega) (by omega) (fun h1 hR1 f1 => ?_); have g1 := f1.1.1) | (refine ⟨hret _ h1 g1, ?_⟩) | (refine Ex_step ?_; conv => whnf) | (refine ⟨?_, trivial⟩) | (refine (show den _ _ _ _ _ _ _ _ from ?_); conv => whnf) | (refine ⟨fun c => False.elim (by omega), fun c => ?_⟩) | (refine ⟨fun c => ?_, fun c => False.elim (by omega)⟩) | (refine ⟨by (first | assumption | rfl | (exact Nat.le_of_ble_eq_true rfl) | (exact ⟨fun h01 => absurd h01 (by decide), by first | rfl | assumption⟩) | (exact ⟨fun _ => by decide, by first | rfl | assumption⟩) | (exact ⟨by assumption, by omega, by omega⟩) | (unfold inI; omega) | omega), ?_⟩; conv => whnf) | (refine ⟨fun c => ?_, fun c => ?_⟩) | (intro c) | fail))
    exact hq h1 hR1 f1.D ((f1.1.2.2 127 (by omega) 32).trans hx) ((f1.1.2.2 144 (by omega) 1).trans (by omega))
  by_cases w1 : w = 1
  · subst w1
    have hv := v1 rfl
    clear v14 v17 v15 v16 v18 v1
    rw [show dsR A x 1 f s = ((fgR A f).1, x, (fgR A f).2) by unfold dsR; rw [if_neg (by omega), if_neg (by omega), if_neg (by omega), if_neg (by omega), if_neg (by omega), if_pos rfl]] at hq
    try dsimp only at hq
    have h6 := (show (fgR A f).1 6 = A 6 from fgR_6)
    (repeat' (first | (rw [r0]) | (rw [ew]) | (rw [ef]) | (rw [es]) | (refine ⟨⟨kt, by omega, Int.lt_of_lt_of_le (by omega : _ < (3198 : Int)) (Int.le_of_eq lt.symm)⟩, ?_⟩; conv => whnf) | (refine r_fogsTo (by omega) hR hK (by omega) (fun h1 hR1 f1 => ?_); have g1 := f1.1.1) | (refine ⟨hret _ h1 g1, ?_⟩) | (refine Ex_step ?_; conv => whnf) | (refine ⟨?_, trivial⟩) | (refine (show den _ _ _ _ _ _ _ _ from ?_); conv => whnf) | (refine ⟨fun c => False.elim (by omega), fun c => ?_⟩) | (refine ⟨fun c => ?_, fun c => False.elim (by omega)⟩) | (refine ⟨by (first | assumption | rfl | (exact Nat.le_of_ble_eq_true rfl) | (exact ⟨fun h01 => absurd h01 (by decide), by first | rfl | assumption⟩) | (exact ⟨fun _ => by decide, by first | rfl | assumption⟩) | (exact ⟨by assumption, by omega, by omega⟩) | (unfold inI; omega) | omega), ?_⟩; conv => whnf) | (refine ⟨fun c => ?_, fun c => ?_⟩) | (intro c) | fail))
    exact hq h1 hR1 f1.D ((f1.1.2.2 127 (by omega) 32).trans hx) ((f1.1.2.2 144 (by omega) 1).trans (by omega))
  by_cases w18 : w = 18
  · subst w18
    have hv := v18 rfl
    clear v14 v17 v15 v16 v18 v1
    rw [show dsR A x 18 f s = ((dyR A f).1, x, (dyR A f).2) by unfold dsR; rw [if_neg (by omega), if_neg (by omega), if_neg (by omega), if_neg (by omega), if_pos rfl]] at hq
    try dsimp only at hq
    have h6 := dyR_6 (A := A) (n := f)
    (repeat' (first | (rw [r0]) | (rw [ew]) | (rw [ef]) | (rw [es]) | (refine ⟨⟨kt, by omega, Int.lt_of_lt_of_le (by omega : _ < (3198 : Int)) (Int.le_of_eq lt.symm)⟩, ?_⟩; conv => whnf) | (refine r_daysBy (by omega) hR hK hX hv rfl ht (fun h1 hR1 f1 q32 q144 => ?_); have g1 := f1.1) | (refine ⟨hret _ h1 g1, ?_⟩) | (refine Ex_step ?_; conv => whnf) | (refine ⟨?_, trivial⟩) | (refine (show den _ _ _ _ _ _ _ _ from ?_); conv => whnf) | (refine ⟨fun c => False.elim (by omega), fun c => ?_⟩) | (refine ⟨fun c => ?_, fun c => False.elim (by omega)⟩) | (refine ⟨by (first | assumption | rfl | (exact Nat.le_of_ble_eq_true rfl) | (exact ⟨fun h01 => absurd h01 (by decide), by first | rfl | assumption⟩) | (exact ⟨fun _ => by decide, by first | rfl | assumption⟩) | (exact ⟨by assumption, by omega, by omega⟩) | (unfold inI; omega) | omega), ?_⟩; conv => whnf) | (refine ⟨fun c => ?_, fun c => ?_⟩) | (intro c) | fail))
    exact hq h1 hR1 f1 (q32.trans hx) (by rw [q144, h6]; omega)
  by_cases w19 : w = 19
  · subst w19
    clear v14 v17 v15 v16 v18 v1
    rw [show dsR A x 19 f s = anR A x by unfold dsR; rw [if_neg (by omega), if_neg (by omega), if_neg (by omega), if_neg (by omega), if_neg (by omega), if_neg (by omega), if_pos rfl]] at hq
    try dsimp only at hq
    (repeat' (first | (rw [r0]) | (rw [ew]) | (rw [ef]) | (rw [es]) | (refine ⟨⟨kt, by omega, Int.lt_of_lt_of_le (by omega : _ < (3198 : Int)) (Int.le_of_eq lt.symm)⟩, ?_⟩; conv => whnf) | (refine r_doesAny (by omega) hR hK hx hx0 (fun h1 hR1 f1 q32 q144 h6 => ?_); have g1 := f1.1) | (refine ⟨hret _ h1 g1, ?_⟩) | (refine Ex_step ?_; conv => whnf) | (refine ⟨?_, trivial⟩) | (refine (show den _ _ _ _ _ _ _ _ from ?_); conv => whnf) | (refine ⟨fun c => False.elim (by omega), fun c => ?_⟩) | (refine ⟨fun c => ?_, fun c => False.elim (by omega)⟩) | (refine ⟨by (first | assumption | rfl | (exact Nat.le_of_ble_eq_true rfl) | (exact ⟨fun h01 => absurd h01 (by decide), by first | rfl | assumption⟩) | (exact ⟨fun _ => by decide, by first | rfl | assumption⟩) | (exact ⟨by assumption, by omega, by omega⟩) | (unfold inI; omega) | omega), ?_⟩; conv => whnf) | (refine ⟨fun c => ?_, fun c => ?_⟩) | (intro c) | fail))
    exact hq h1 hR1 f1 q32 (by omega)
  clear v14 v17 v15 v16 v18 v1
  rw [show dsR A x w f s = (A, x, true) by unfold dsR; rw [if_neg w14, if_neg w15, if_neg w16, if_neg w17, if_neg w18, if_neg w1, if_neg w19]] at hq
  try dsimp only at hq
  (repeat' (first | (rw [r0]) | (rw [ew]) | (rw [ef]) | (rw [es]) | (refine ⟨⟨kt, by omega, Int.lt_of_lt_of_le (by omega : _ < (3198 : Int)) (Int.le_of_eq lt.symm)⟩, ?_⟩; conv => whnf) | (refine Ex_step ?_; conv => whnf) | (refine ⟨?_, trivial⟩) | (refine (show den _ _ _ _ _ _ _ _ from ?_); conv => whnf) | (refine ⟨fun c => False.elim (by omega), fun c => ?_⟩) | (refine ⟨fun c => ?_, fun c => False.elim (by omega)⟩) | (refine ⟨by (first | assumption | rfl | (exact Nat.le_of_ble_eq_true rfl) | (exact ⟨fun h01 => absurd h01 (by decide), by first | rfl | assumption⟩) | (exact ⟨fun _ => by decide, by first | rfl | assumption⟩) | (exact ⟨by assumption, by omega, by omega⟩) | (unfold inI; omega) | omega), ?_⟩; conv => whnf) | (refine ⟨fun c => ?_, fun c => ?_⟩) | (intro c) | fail))
  all_goals exact hq h (Rr_K hR (by omega) hK) FrD.refl hx (by omega)
