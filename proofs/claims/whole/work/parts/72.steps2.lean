/-! LEVEL 2: decades as they are lived: a step of the class -/
/-- nothing but a Viaduct and what is drawn has changed -/
def FrV (v : Nat) (h h' : Mem) : Prop := h'.1 = h.1 ∧ h'.2.2 = h.2.2 ∧ ∀ r i, ¬ VP v r → ¬ (r = 124 ∧ i = 4) → gG h' r i = gG h r i
theorem FrV.refl {v : Nat} {h : Mem} : FrV v h h := ⟨rfl, rfl, fun _ _ _ _ => rfl⟩
theorem FrV.trans {v : Nat} {h h' h'' : Mem} (a : FrV v h h') (b : FrV v h' h'') : FrV v h h'' := ⟨b.1.trans a.1, b.2.1.trans a.2.1, fun r i h0 h1 => (b.2.2 r i h0 h1).trans (a.2.2 r i h0 h1)⟩
theorem Fr.V {v : Nat} {h h' : Mem} (a : Fr (VP v) h h') : FrV v h h' := ⟨a.1, a.2.1, fun r i h0 _ => a.2.2 r h0 i⟩
theorem w_runBy {X : Int → Int} {XL : Int} {d : Nat} {h : Mem} {Q : RetP} {K : Int} {A : Int → Int} {v : Nat} {p : Int} (hd : 5 ≤ d) (hV : Vr K h v A) (hT : VAt h v) (hK : K + 83 ≤ 30000000) (hp0 : 0 ≤ p) (hp1 : p < A 1) (hq : ∀ h' z, Vr (K + 83) h' v (rnR A p).1 → Fr (VP v) h h' → (z = -1 ↔ (rnR A p).2 = false) → Q (some (vI z)) h') : WP X XL d 40 [vR v, vI p] h Q := by
  have hA := hV.2.2
  have b0 := hA.1
  have b3 := hA.2.2.2.1
  have hb := bp_of hA hp0 hp1
  refine w_letRun (by omega) hV hT hp0 hp1 (by omega) (fun c => ?_) (fun c h1 hV1 f1 => ?_)
  · rw [show rnR A p = (A, false) from if_neg (by omega)] at hq
    exact hq h (-1) (Vr_K hV (by omega) hK) Fr.refl ⟨fun _ => rfl, fun _ => rfl⟩
  · rw [show rnR A p = (rrA A p p, true) from if_pos c, show rrA A p p = runA A p from if_pos rfl] at hq
    have hs := stN_rng (n := A 0) (ok := okBy A p (pA A p 1) (A 4)) _ (pA A p 3) rfl (by omega)
    have ha := aft_b (A := A) (s := runS A p) (db := pA A p 1) b3.1 (by unfold runS; omega) (by unfold runS; omega)
    exact hq h1 _ (Vr_K hV1 (by omega) hK) f1 ⟨fun q => by omega, fun q => by cases q⟩
theorem w_ropeBy {X : Int → Int} {XL : Int} {d : Nat} {h : Mem} {Q : RetP} {K : Int} {A : Int → Int} {v : Nat} {p o : Int} (hd : 5 ≤ d) (hV : Vr K h v A) (hT : VAt h v) (hK : K + 83 ≤ 30000000) (hp0 : 0 ≤ p) (hp1 : p < A 1) (ho0 : 0 ≤ o) (ho1 : o < A 1) (hq : ∀ h' z, Vr (K + 83) h' v (rpR A p o).1 → Fr (VP v) h h' → (z = -1 ↔ (rpR A p o).2 = false) → Q (some (vI z)) h') : WP X XL d 41 [vR v, vI p, vI o] h Q := by
  have hA := hV.2.2
  have hs := rrS_b hA (o := o) hp0 hp1
  refine w_letRope (by omega) hV hT hp0 hp1 ho0 ho1 hK (fun c => ?_) (fun c c2 c3 h1 hV1 f1 => ?_)
  · rw [show rpR A p o = (A, false) from if_neg (by omega)] at hq
    exact hq h (-1) (Vr_K hV (by omega) hK) Fr.refl ⟨fun _ => rfl, fun _ => rfl⟩
  · rw [show rpR A p o = (rrA A p o, true) from if_pos ⟨c, c2, c3⟩, show rrA A p o = ropA A p o from if_neg c] at hq
    rw [rrS_2 c] at hs
    exact hq h1 _ hV1 f1 ⟨fun q => by omega, fun q => by cases q⟩
theorem w_jumpBy {X : Int → Int} {XL : Int} {d : Nat} {h : Mem} {Q : RetP} {K : Int} {A : Int → Int} {v : Nat} {a : Int} (hd : 5 ≤ d) (hV : Vr K h v A) (hT : VAt h v) (hK : K + 83 ≤ 30000000) (ha0 : 0 ≤ a) (ha1 : a < A 0) (hq : ∀ h' z, Vr (K + 83) h' v (jmR A a).1 → Fr (VP v) h h' → (z = -1 ↔ (jmR A a).2 = false) → Q (some (vI z)) h') : WP X XL d 45 [vR v, vI a] h Q := by
  have hb := hV.2.2.2.2.2.2.2.2.2.2.2.1 a ha0 ha1
  refine w_jumpOn (by omega) hV hT ha0 ha1 (fun c => ?_) (fun c h1 hV1 f1 => ?_)
  · rw [show jmR A a = (A, false) from if_neg c] at hq
    exact hq h (-1) (Vr_K hV (by omega) hK) Fr.refl ⟨fun _ => rfl, fun _ => rfl⟩
  · rw [show jmR A a = (jmpA A a, true) from if_pos c] at hq
    exact hq h1 _ (Vr_K hV1 (by omega) hK) f1 ⟨fun q => by omega, fun q => by cases q⟩
theorem w_homeBy {X : Int → Int} {XL : Int} {d : Nat} {h : Mem} {Q : RetP} {K : Int} {A : Int → Int} {v : Nat} {p : Int} (hd : 5 ≤ d) (hV : Vr K h v A) (hT : VAt h v) (hK : K + 83 ≤ 30000000) (hp0 : 0 ≤ p) (hp1 : p < A 1) (hq : ∀ h' z, Vr (K + 83) h' v (hmR A p).1 → Fr (VP v) h h' → (z = -1 ↔ (hmR A p).2 = false) → Q (some (vI z)) h') : WP X XL d 46 [vR v, vI p] h Q := by
  have hb := bp_of hV.2.2 hp0 hp1
  refine w_sendHome (by omega) hV hT hp0 hp1 (fun c => ?_) (fun c h1 hV1 f1 => ?_)
  · rw [show hmR A p = (A, false) from if_pos c] at hq
    exact hq h (-1) (Vr_K hV (by omega) hK) Fr.refl ⟨fun _ => rfl, fun _ => rfl⟩
  · rw [show hmR A p = (homA A p, true) from if_neg c] at hq
    exact hq h1 _ (Vr_K hV1 (by omega) hK) f1 ⟨fun q => by omega, fun q => by cases q⟩
theorem w_dayBy {X : Int → Int} {XL : Int} {d : Nat} {h : Mem} {Q : RetP} {K : Int} {A : Int → Int} {v : Nat} {n : Int} (hd : 5 ≤ d) (hV : Vr K h v A) (hT : VAt h v) (hK : K + 83 ≤ 30000000) (hn : 1 ≤ n ∧ n ≤ 40) (hq : ∀ h' z, Vr (K + 83) h' v (dyR A n).1 → Fr (VP v) h h' → (z = -1 ↔ (dyR A n).2 = false) → Q (some (vI z)) h') : WP X XL d 48 [vR v, vI n] h Q := by
  have hs := dyS_b hV.2.2 (m := n) _ 0 0 rfl (by omega) (by omega)
  refine w_passDays (by omega) hV hT (by omega) (by omega) (fun c => ?_) (fun c h1 hV1 f1 => ?_)
  · rw [show dyR A n = (A, false) from if_neg (by omega)] at hq
    exact hq h (-1) (Vr_K hV (by omega) hK) Fr.refl ⟨fun _ => rfl, fun _ => rfl⟩
  · rw [show dyR A n = (dayA A n, true) from if_pos c] at hq
    exact hq h1 _ (Vr_K hV1 (by omega) hK) f1 ⟨fun q => by omega, fun q => by cases q⟩
theorem w_fogBy {X : Int → Int} {XL : Int} {d : Nat} {h : Mem} {Q : RetP} {K : Int} {A : Int → Int} {v : Nat} {f : Int} (hd : 5 ≤ d) (hV : Vr K h v A) (hT : VAt h v) (hK : K + 83 ≤ 30000000) (hf : 0 ≤ f ∧ f ≤ 5) (hq : ∀ h' z, Vr (K + 83) h' v (fgR A f).1 → Fr (VP v) h h' → (z = -1 ↔ (fgR A f).2 = false) → Q (some (vI z)) h') : WP X XL d 47 [vR v, vI f] h Q := by
  refine w_changeFog (by omega) hV hT hf.1 hf.2 (fun c => ?_) (fun c h1 hV1 f1 => ?_)
  · rw [show fgR A f = (A, false) from if_pos c] at hq
    exact hq h (-1) (Vr_K hV (by omega) hK) Fr.refl ⟨fun _ => rfl, fun _ => rfl⟩
  · rw [show fgR A f = (fogA A f, true) from if_neg c] at hq
    exact hq h1 _ (Vr_K hV1 (by omega) hK) f1 ⟨fun q => by omega, fun q => by cases q⟩
set_option maxHeartbeats 4000000 in
theorem w_doAny {X : Int → Int} {XL : Int} {d : Nat} {h : Mem} {Q : RetP} {K : Int} {A : Int → Int} {v : Nat} {x : Int} (hd : 6 ≤ d) (hV : Vr K h v A) (hT : VAt h v) (hK : K + 83 ≤ 30000000) (hv : v + 12 < 120) (kl : kd h 124 = 2) (r5 : gR h 124 5 = v) (hx : gG h 124 4 = x) (hx0 : 0 ≤ x ∧ x < 65536) (hq : ∀ h' z, Vr (K + 83) h' v (anR A x).1 → FrV v h h' → gG h' 124 4 = (anR A x).2.1 → (z = -1 ↔ (anR A x).2.2 = false) → Q (some (vI z)) h') : WP X XL d 115 [vR 124] h Q := by
  have hA := hV.2.2
  have b1 := hA.2.1
  have kv := hV.1.1
  have g5 := hV.2.1.1.2.1
  refine eX2_doAny (by omega) ?_
  by_cases h0 : A 1 ≤ 0
  · rw [show anR A x = (A, x, false) from if_pos h0] at hq
    (repeat' (first | (rw [r5]) | (rw [g5]) | (refine Ex_step ?_; conv => whnf) | (refine ⟨?_, trivial⟩) | (refine (show den _ _ _ _ _ _ _ _ from ?_); conv => whnf) | (refine ⟨fun c => False.elim (by omega), fun c => ?_⟩) | (refine ⟨fun c => ?_, fun c => False.elim (by omega)⟩) | (refine ⟨by (first | assumption | rfl | (exact Nat.le_of_ble_eq_true rfl) | (exact ⟨fun h01 => absurd h01 (by decide), by first | rfl | assumption⟩) | (exact ⟨fun _ => by decide, by first | rfl | assumption⟩) | (exact ⟨by assumption, by omega, by omega⟩) | (unfold inI; omega) | omega), ?_⟩; conv => whnf) | (refine ⟨fun c => ?_, fun c => ?_⟩) | (intro c) | fail))
    exact hq h (-1) (Vr_K hV (by omega) hK) FrV.refl hx ⟨fun _ => rfl, fun _ => rfl⟩
  · have hb1 := drw_b (x := x)
    have hb2 := drw_b (x := drw x)
    have hp := pkD_b (x := drw x) (n := A 1) (by omega)
    have fa : Fr (fun r => r = 124) h (sG (sG h 124 4 (drw x)) 124 4 (drw (drw x))) := ⟨rfl, rfl, fun r hr i => by rw [gG_sG, if_neg (fun q => hr q.1), gG_sG, if_neg (fun q => hr q.1)]⟩
    have hVa := hV.fr fa hT (fun r h0 h1 => by omega)
    have hTa := VAt_fr fa hT
    have fV : FrV v h (sG (sG h 124 4 (drw x)) 124 4 (drw (drw x))) := ⟨rfl, rfl, fun r i _ h1 => by rw [gG_sG, if_neg h1, gG_sG, if_neg h1]⟩
    have e4 : gG (sG (sG h 124 4 (drw x)) 124 4 (drw (drw x))) 124 4 = drw (drw x) := g_same
    have e18 := hVa.2.1.1.2.2.2.2.2.1
    have np : ¬ VP v 124 := by unfold VP; omega
    by_cases hc : pkD (drw (drw x)) 16 < A 5
    · rw [show anR A x = ((rnR A (pkD (drw x) (A 1))).1, drw (drw x), (rnR A (pkD (drw x) (A 1))).2) by unfold anR; rw [if_neg h0, if_pos hc]] at hq
      (repeat' (first | (rw [gR_sG]) | (rw [r5]) | (rw [g5]) | (rw [e18]) | (refine w_draw (by omega) kl hx hx0.1 hx0.2 (by omega) (by omega) ?_) | (refine w_draw (by omega) kl g_same hb1.1 hb1.2 (by omega) (by omega) ?_) | (refine w_runBy (by omega) hVa hTa hK hp.1 hp.2 (fun h1 z hV1 f1 hz => ?_); have g1 : h1.1 = h.1 := f1.1) | (refine Ex_step ?_; conv => whnf) | (refine ⟨?_, trivial⟩) | (refine (show den _ _ _ _ _ _ _ _ from ?_); conv => whnf) | (refine ⟨fun c => False.elim (by omega), fun c => ?_⟩) | (refine ⟨fun c => ?_, fun c => False.elim (by omega)⟩) | (refine ⟨by (first | assumption | rfl | (exact Nat.le_of_ble_eq_true rfl) | (exact ⟨fun h01 => absurd h01 (by decide), by first | rfl | assumption⟩) | (exact ⟨fun _ => by decide, by first | rfl | assumption⟩) | (exact ⟨by assumption, by omega, by omega⟩) | (unfold inI; omega) | omega), ?_⟩; conv => whnf) | (refine ⟨fun c => ?_, fun c => ?_⟩) | (intro c) | fail))
      exact hq h1 z hV1 (fV.trans f1.V) ((f1.2.2 124 np 4).trans e4) hz
    · rw [show anR A x = ((hmR A (pkD (drw x) (A 1))).1, drw (drw x), (hmR A (pkD (drw x) (A 1))).2) by unfold anR; rw [if_neg h0, if_neg hc]] at hq
      (repeat' (first | (rw [gR_sG]) | (rw [r5]) | (rw [g5]) | (rw [e18]) | (refine w_draw (by omega) kl hx hx0.1 hx0.2 (by omega) (by omega) ?_) | (refine w_draw (by omega) kl g_same hb1.1 hb1.2 (by omega) (by omega) ?_) | (refine w_homeBy (by omega) hVa hTa hK hp.1 hp.2 (fun h1 z hV1 f1 hz => ?_); have g1 : h1.1 = h.1 := f1.1) | (refine Ex_step ?_; conv => whnf) | (refine ⟨?_, trivial⟩) | (refine (show den _ _ _ _ _ _ _ _ from ?_); conv => whnf) | (refine ⟨fun c => False.elim (by omega), fun c => ?_⟩) | (refine ⟨fun c => ?_, fun c => False.elim (by omega)⟩) | (refine ⟨by (first | assumption | rfl | (exact Nat.le_of_ble_eq_true rfl) | (exact ⟨fun h01 => absurd h01 (by decide), by first | rfl | assumption⟩) | (exact ⟨fun _ => by decide, by first | rfl | assumption⟩) | (exact ⟨by assumption, by omega, by omega⟩) | (unfold inI; omega) | omega), ?_⟩; conv => whnf) | (refine ⟨fun c => ?_, fun c => ?_⟩) | (intro c) | fail))
      exact hq h1 z hV1 (fV.trans f1.V) ((f1.2.2 124 np 4).trans e4) hz
/-- words of the class and of the reference -/
def wdR (wc w : Int) : Prop := (wc = w ∧ (w = 1 ∨ (14 ≤ w ∧ w ≤ 19))) ∨ (20 ≤ wc ∧ ¬ (w = 1 ∨ (14 ≤ w ∧ w ≤ 19)))
set_option maxHeartbeats 4000000 in
theorem w_doStep {X : Int → Int} {XL : Int} {d : Nat} {h : Mem} {Q : RetP} {K : Int} {A : Int → Int} {v : Nat} {x row wc w f s : Int} {st : Nat} (hd : 7 ≤ d) (hV : Vr K h v A) (hT : VAt h v) (hK : K + 83 ≤ 30000000) (hv : v + 12 < 120) (kl : kd h 124 = 2) (r5 : gR h 124 5 = v) (hx : gG h 124 4 = x) (hx0 : 0 ≤ x ∧ x < 65536) (r6 : gR h 124 6 = st) (hS : SOk h st) (hrow : 0 ≤ row ∧ row < 60) (ew : gG h (st + 1) row = wc) (hwc : wdR wc w) (ef : w = 1 ∨ (14 ≤ w ∧ w ≤ 18) → gG h (st + 2) row = f) (es : w = 15 → gG h (st + 3) row = s) (hok : okW A w f s) (hq : ∀ h' z, Vr (K + 83) h' v (dsR A x w f s).1 → FrV v h h' → gG h' 124 4 = (dsR A x w f s).2.1 → (z = -1 ↔ (dsR A x w f s).2.2 = false) → Q (some (vI z)) h') : WP X XL d 114 [vR 124, vI row] h Q := by
  have hA := hV.2.2
  have kv := hV.1.1
  obtain ⟨ks, ⟨sr1, sk1, sl1⟩, ⟨sr2, sk2, sl2⟩, ⟨sr3, sk3, sl3⟩, -⟩ := id hS
  obtain ⟨v14, v17, v15, v16, v18, v1⟩ := hok
  have np : ¬ VP v 124 := by unfold VP; omega
  unfold wdR at hwc
  refine eX2_doStep (by omega) ?_
  by_cases w14 : w = 14
  · subst w14
    have hv := v14 rfl
    have ef := ef (by omega)
    obtain rfl : wc = 14 := by omega
    clear v14 v17 v15 v16 v18 v1
    rw [show dsR A x 14 f s = ((rnR A f).1, x, (rnR A f).2) by unfold dsR; rw [if_pos rfl]] at hq
    (repeat' (first | (rw [r6]) | (rw [sr1]) | (rw [sr2]) | (rw [sr3]) | (rw [ew]) | (rw [r5]) | (rw [ef]) | (refine w_runBy (by omega) hV hT hK (by omega) (by omega) (fun h1 z hV1 f1 hz => ?_); have g1 := f1.1) | (refine Ex_step ?_; conv => whnf) | (refine ⟨?_, trivial⟩) | (refine (show den _ _ _ _ _ _ _ _ from ?_); conv => whnf) | (refine ⟨fun c => False.elim (by omega), fun c => ?_⟩) | (refine ⟨fun c => ?_, fun c => False.elim (by omega)⟩) | (refine ⟨by (first | assumption | rfl | (exact Nat.le_of_ble_eq_true rfl) | (exact ⟨fun h01 => absurd h01 (by decide), by first | rfl | assumption⟩) | (exact ⟨fun _ => by decide, by first | rfl | assumption⟩) | (exact ⟨by assumption, by omega, by omega⟩) | (unfold inI; omega) | omega), ?_⟩; conv => whnf) | (refine ⟨fun c => ?_, fun c => ?_⟩) | (intro c) | fail))
    exact hq h1 z hV1 f1.V ((f1.2.2 124 np 4).trans hx) hz
  by_cases w15 : w = 15
  · subst w15
    have hv := v15 rfl
    have ef := ef (by omega)
    obtain rfl : wc = 15 := by omega
    clear v14 v17 v15 v16 v18 v1
    rw [show dsR A x 15 f s = ((rpR A f s).1, x, (rpR A f s).2) by unfold dsR; rw [if_neg (by omega), if_pos rfl]] at hq
    have es := es rfl
    (repeat' (first | (rw [r6]) | (rw [sr1]) | (rw [sr2]) | (rw [sr3]) | (rw [ew]) | (rw [r5]) | (rw [ef]) | (rw [es]) | (refine w_ropeBy (by omega) hV hT hK (by omega) (by omega) (by omega) (by omega) (fun h1 z hV1 f1 hz => ?_); have g1 := f1.1) | (refine Ex_step ?_; conv => whnf) | (refine ⟨?_, trivial⟩) | (refine (show den _ _ _ _ _ _ _ _ from ?_); conv => whnf) | (refine ⟨fun c => False.elim (by omega), fun c => ?_⟩) | (refine ⟨fun c => ?_, fun c => False.elim (by omega)⟩) | (refine ⟨by (first | assumption | rfl | (exact Nat.le_of_ble_eq_true rfl) | (exact ⟨fun h01 => absurd h01 (by decide), by first | rfl | assumption⟩) | (exact ⟨fun _ => by decide, by first | rfl | assumption⟩) | (exact ⟨by assumption, by omega, by omega⟩) | (unfold inI; omega) | omega), ?_⟩; conv => whnf) | (refine ⟨fun c => ?_, fun c => ?_⟩) | (intro c) | fail))
    exact hq h1 z hV1 f1.V ((f1.2.2 124 np 4).trans hx) hz
  by_cases w16 : w = 16
  · subst w16
    have hv := v16 rfl
    have ef := ef (by omega)
    obtain rfl : wc = 16 := by omega
    clear v14 v17 v15 v16 v18 v1
    rw [show dsR A x 16 f s = ((jmR A f).1, x, (jmR A f).2) by unfold dsR; rw [if_neg (by omega), if_neg (by omega), if_pos rfl]] at hq
    (repeat' (first | (rw [r6]) | (rw [sr1]) | (rw [sr2]) | (rw [sr3]) | (rw [ew]) | (rw [r5]) | (rw [ef]) | (refine w_jumpBy (by omega) hV hT hK (by omega) (by omega) (fun h1 z hV1 f1 hz => ?_); have g1 := f1.1) | (refine Ex_step ?_; conv => whnf) | (refine ⟨?_, trivial⟩) | (refine (show den _ _ _ _ _ _ _ _ from ?_); conv => whnf) | (refine ⟨fun c => False.elim (by omega), fun c => ?_⟩) | (refine ⟨fun c => ?_, fun c => False.elim (by omega)⟩) | (refine ⟨by (first | assumption | rfl | (exact Nat.le_of_ble_eq_true rfl) | (exact ⟨fun h01 => absurd h01 (by decide), by first | rfl | assumption⟩) | (exact ⟨fun _ => by decide, by first | rfl | assumption⟩) | (exact ⟨by assumption, by omega, by omega⟩) | (unfold inI; omega) | omega), ?_⟩; conv => whnf) | (refine ⟨fun c => ?_, fun c => ?_⟩) | (intro c) | fail))
    exact hq h1 z hV1 f1.V ((f1.2.2 124 np 4).trans hx) hz
  by_cases w17 : w = 17
  · subst w17
    have hv := v17 rfl
    have ef := ef (by omega)
    obtain rfl : wc = 17 := by omega
    clear v14 v17 v15 v16 v18 v1
    rw [show dsR A x 17 f s = ((hmR A f).1, x, (hmR A f).2) by unfold dsR; rw [if_neg (by omega), if_neg (by omega), if_neg (by omega), if_pos rfl]] at hq
    (repeat' (first | (rw [r6]) | (rw [sr1]) | (rw [sr2]) | (rw [sr3]) | (rw [ew]) | (rw [r5]) | (rw [ef]) | (refine w_homeBy (by omega) hV hT hK (by omega) (by omega) (fun h1 z hV1 f1 hz => ?_); have g1 := f1.1) | (refine Ex_step ?_; conv => whnf) | (refine ⟨?_, trivial⟩) | (refine (show den _ _ _ _ _ _ _ _ from ?_); conv => whnf) | (refine ⟨fun c => False.elim (by omega), fun c => ?_⟩) | (refine ⟨fun c => ?_, fun c => False.elim (by omega)⟩) | (refine ⟨by (first | assumption | rfl | (exact Nat.le_of_ble_eq_true rfl) | (exact ⟨fun h01 => absurd h01 (by decide), by first | rfl | assumption⟩) | (exact ⟨fun _ => by decide, by first | rfl | assumption⟩) | (exact ⟨by assumption, by omega, by omega⟩) | (unfold inI; omega) | omega), ?_⟩; conv => whnf) | (refine ⟨fun c => ?_, fun c => ?_⟩) | (intro c) | fail))
    exact hq h1 z hV1 f1.V ((f1.2.2 124 np 4).trans hx) hz
  by_cases w18 : w = 18
  · subst w18
    have hv := v18 rfl
    have ef := ef (by omega)
    obtain rfl : wc = 18 := by omega
    clear v14 v17 v15 v16 v18 v1
    rw [show dsR A x 18 f s = ((dyR A f).1, x, (dyR A f).2) by unfold dsR; rw [if_neg (by omega), if_neg (by omega), if_neg (by omega), if_neg (by omega), if_pos rfl]] at hq
    (repeat' (first | (rw [r6]) | (rw [sr1]) | (rw [sr2]) | (rw [sr3]) | (rw [ew]) | (rw [r5]) | (rw [ef]) | (refine w_dayBy (by omega) hV hT hK (by omega) (fun h1 z hV1 f1 hz => ?_); have g1 := f1.1) | (refine Ex_step ?_; conv => whnf) | (refine ⟨?_, trivial⟩) | (refine (show den _ _ _ _ _ _ _ _ from ?_); conv => whnf) | (refine ⟨fun c => False.elim (by omega), fun c => ?_⟩) | (refine ⟨fun c => ?_, fun c => False.elim (by omega)⟩) | (refine ⟨by (first | assumption | rfl | (exact Nat.le_of_ble_eq_true rfl) | (exact ⟨fun h01 => absurd h01 (by decide), by first | rfl | assumption⟩) | (exact ⟨fun _ => by decide, by first | rfl | assumption⟩) | (exact ⟨by assumption, by omega, by omega⟩) | (unfold inI; omega) | omega), ?_⟩; conv => whnf) | (refine ⟨fun c => ?_, fun c => ?_⟩) | (intro c) | fail))
    exact hq h1 z hV1 f1.V ((f1.2.2 124 np 4).trans hx) hz
  by_cases w1 : w = 1
  · subst w1
    have hv := v1 rfl
    have ef := ef (by omega)
    obtain rfl : wc = 1 := by omega
    clear v14 v17 v15 v16 v18 v1
    rw [show dsR A x 1 f s = ((fgR A f).1, x, (fgR A f).2) by unfold dsR; rw [if_neg (by omega), if_neg (by omega), if_neg (by omega), if_neg (by omega), if_neg (by omega), if_pos rfl]] at hq
    (repeat' (first | (rw [r6]) | (rw [sr1]) | (rw [sr2]) | (rw [sr3]) | (rw [ew]) | (rw [r5]) | (rw [ef]) | (refine w_fogBy (by omega) hV hT hK (by omega) (fun h1 z hV1 f1 hz => ?_); have g1 := f1.1) | (refine Ex_step ?_; conv => whnf) | (refine ⟨?_, trivial⟩) | (refine (show den _ _ _ _ _ _ _ _ from ?_); conv => whnf) | (refine ⟨fun c => False.elim (by omega), fun c => ?_⟩) | (refine ⟨fun c => ?_, fun c => False.elim (by omega)⟩) | (refine ⟨by (first | assumption | rfl | (exact Nat.le_of_ble_eq_true rfl) | (exact ⟨fun h01 => absurd h01 (by decide), by first | rfl | assumption⟩) | (exact ⟨fun _ => by decide, by first | rfl | assumption⟩) | (exact ⟨by assumption, by omega, by omega⟩) | (unfold inI; omega) | omega), ?_⟩; conv => whnf) | (refine ⟨fun c => ?_, fun c => ?_⟩) | (intro c) | fail))
    exact hq h1 z hV1 f1.V ((f1.2.2 124 np 4).trans hx) hz
  by_cases w19 : w = 19
  · subst w19
    obtain rfl : wc = 19 := by omega
    clear v14 v17 v15 v16 v18 v1
    rw [show dsR A x 19 f s = anR A x by unfold dsR; rw [if_neg (by omega), if_neg (by omega), if_neg (by omega), if_neg (by omega), if_neg (by omega), if_neg (by omega), if_pos rfl]] at hq
    (repeat' (first | (rw [r6]) | (rw [sr1]) | (rw [sr2]) | (rw [sr3]) | (rw [ew]) | (rw [r5]) | (refine w_doAny (by omega) hV hT hK hv kl r5 hx hx0 (fun h1 z hV1 f1 q4 hz => ?_); have g1 := f1.1) | (refine Ex_step ?_; conv => whnf) | (refine ⟨?_, trivial⟩) | (refine (show den _ _ _ _ _ _ _ _ from ?_); conv => whnf) | (refine ⟨fun c => False.elim (by omega), fun c => ?_⟩) | (refine ⟨fun c => ?_, fun c => False.elim (by omega)⟩) | (refine ⟨by (first | assumption | rfl | (exact Nat.le_of_ble_eq_true rfl) | (exact ⟨fun h01 => absurd h01 (by decide), by first | rfl | assumption⟩) | (exact ⟨fun _ => by decide, by first | rfl | assumption⟩) | (exact ⟨by assumption, by omega, by omega⟩) | (unfold inI; omega) | omega), ?_⟩; conv => whnf) | (refine ⟨fun c => ?_, fun c => ?_⟩) | (intro c) | fail))
    exact hq h1 z hV1 f1 q4 hz
  clear v14 v17 v15 v16 v18 v1
  rw [show dsR A x w f s = (A, x, true) by unfold dsR; rw [if_neg w14, if_neg w15, if_neg w16, if_neg w17, if_neg w18, if_neg w1, if_neg w19]] at hq
  (repeat' (first | (rw [r6]) | (rw [sr1]) | (rw [sr2]) | (rw [sr3]) | (rw [ew]) | (rw [r5]) | (refine Ex_step ?_; conv => whnf) | (refine ⟨?_, trivial⟩) | (refine (show den _ _ _ _ _ _ _ _ from ?_); conv => whnf) | (refine ⟨fun c => False.elim (by omega), fun c => ?_⟩) | (refine ⟨fun c => ?_, fun c => False.elim (by omega)⟩) | (refine ⟨by (first | assumption | rfl | (exact Nat.le_of_ble_eq_true rfl) | (exact ⟨fun h01 => absurd h01 (by decide), by first | rfl | assumption⟩) | (exact ⟨fun _ => by decide, by first | rfl | assumption⟩) | (exact ⟨by assumption, by omega, by omega⟩) | (unfold inI; omega) | omega), ?_⟩; conv => whnf) | (refine ⟨fun c => ?_, fun c => ?_⟩) | (intro c) | fail))
  all_goals exact hq h row (Vr_K hV (by omega) hK) FrV.refl hx ⟨fun q => by omega, fun q => by cases q⟩
