/-! LEVEL 2: texts: what the reference's readers take -/
/-- what reading may change in the reference, faults apart -/
def qP (r : Nat) (i : Int) : Prop := (r = 127 ∧ ((12 ≤ i ∧ i ≤ 15) ∨ i = 20 ∨ i = 22 ∨ i = 23)) ∨ (r = 128 ∧ 1832 ≤ i ∧ i < 2290) ∨ (r = 129 ∧ 24 ≤ i ∧ i < 30) ∨ r = 135
def FR (h h' : Mem) : Prop := h'.1 = h.1 ∧ h'.2.2 = h.2.2 ∧ ∀ r i, ¬ qP r i → gG h' r i = gG h r i
def FRf (h h' : Mem) (x : Int × Int) : Prop := h'.1 = h.1 ∧ h'.2.2 = h.2.2 ∧ (∀ r i, ¬ qP r i → ¬ (r = 127 ∧ (i = 17 ∨ i = 18)) → gG h' r i = gG h r i) ∧ gG h' 127 18 = x.1 ∧ gG h' 127 17 = x.2 ∧ 1 ≤ x.1
theorem FR.refl {h : Mem} : FR h h := ⟨rfl, rfl, fun _ _ _ => rfl⟩
theorem FR.trans {h h' h'' : Mem} (a : FR h h') (b : FR h' h'') : FR h h'' := ⟨b.1.trans a.1, b.2.1.trans a.2.1, fun r i p => (b.2.2 r i p).trans (a.2.2 r i p)⟩
theorem FR.s {h h' : Mem} {r : Nat} {i z : Int} (a : FR h h') (q : qP r i) : FR h (sG h' r i z) := ⟨a.1, a.2.1, fun r' i' p => by rw [gG_sG, if_neg (fun e => p (by rw [e.1, e.2]; exact q))]; exact a.2.2 r' i' p⟩
theorem Fq.R {h h' : Mem} (a : Fq h h') : FR h h' := ⟨a.1, a.2.1, fun r i p => a.2.2 r i (fun e => p (Or.inl ⟨e.1, Or.inl e.2⟩))⟩
theorem FR.f {h h' h'' : Mem} {x : Int × Int} (a : FR h h') (b : FRf h' h'' x) : FRf h h'' x := ⟨b.1.trans a.1, b.2.1.trans a.2.1, fun r i p q => (b.2.2.1 r i p q).trans (a.2.2 r i p), b.2.2.2⟩
theorem Fq.trans {h h' h'' : Mem} (a : Fq h h') (b : Fq h' h'') : Fq h h'' := ⟨b.1.trans a.1, b.2.1.trans a.2.1, fun r i p => (b.2.2 r i p).trans (a.2.2 r i p)⟩
theorem Fq.l {h h' : Mem} {i z : Int} (a : Fq h h') : Fq (sG h 128 i z) (sG h' 128 i z) := ⟨a.1, a.2.1, fun r j p => by
  rw [gG_sG, gG_sG]
  split
  · rfl
  · exact a.2.2 r j p⟩
theorem Fq.g {h h' : Mem} {i z : Int} (a : Fq (sG h 128 i z) h') (j : Int) : gG h' 128 j = if j = i then z else gG h 128 j := by
  rw [a.2.2 128 j (by omega), gG_sG]
  by_cases e : j = i
  · rw [if_pos ⟨rfl, e⟩, if_pos e]
  · rw [if_neg (fun q => e q.2), if_neg e]
theorem Fq.w {h h' : Mem} {i z : Int} (a : Fq (sG h 128 i z) h') (q : 1832 ≤ i ∧ i < 2290) : FR h h' := (FR.refl.s (Or.inr (Or.inl ⟨rfl, q⟩))).trans a.R
theorem Aq.o {h h' : Mem} {P : Int → Int} {n e : Int} (a : Aq h P n e) (e1 : h'.1 = h.1) (e2 : h'.2.2 = h.2.2) (e3 : ∀ r i, (r = 127 ∧ (11 ≤ i ∧ i ≤ 15 ∨ i = 18)) ∨ r = 134 → gG h' r i = gG h r i) : Aq h' P n e := by
  obtain ⟨a1, a2, a3, a4, a5, a6, a7, a8⟩ := a
  refine ⟨a1.c e1 e2 (e3 _ _ (by omega)) (fun i => e3 _ _ (by omega)), a2, (e3 _ _ (by omega)).trans a3, (e3 _ _ (by omega)).trans a4, (e3 _ _ (by omega)).trans a5, (e3 _ _ (by omega)).trans a6, fun q => (e3 _ _ (by omega)).trans (a7 q), fun q p => (e3 _ _ (by omega)).trans (a8 q p)⟩
theorem Aq.a {h : Mem} {P : Int → Int} {n e i z : Int} (a : Aq h P n e) : Aq (sG h 128 i z) P n e := a.o rfl rfl (fun r j q => by rw [gG_sG, if_neg (by omega)])
theorem Aq.te {h : Mem} {P : Int → Int} {n e : Int} (a : Aq h P n e) : 0 ≤ tE P n e ∧ tE P n e ≤ n := by
  have := a.2.1
  have := tF_b (P := P) a.2.1.2
  have := tE_b (P := P) a.2.1.2
  omega
theorem q_ahead {X : Int → Int} {XL : Int} {d : Nat} {h : Mem} {Q : RetP} {P : Int → Int} {n e : Int} (hd : 2 ≤ d) (hA : Aq h P n e) (hq : ∀ h', Aq h' P n (tE P n e) → Fq h h' → Q none h') : WP X XL d 214 [vR 127] h Q := r_ahead hd hA.1 hA.2.2.2.2.2.1 hA.te hA.2.2.1 hq
theorem fltK_1 {P : Int → Int} {n e k : Int} (hk : 1 ≤ k) : 1 ≤ fltK P n e k := by unfold fltK; split <;> omega
set_option maxHeartbeats 4000000 in
theorem q_fails {X : Int → Int} {XL : Int} {d : Nat} {h : Mem} {Q : RetP} {P : Int → Int} {n e k : Int} {β : Type} {r : (Int × Int) ⊕ β} (hd : 1 ≤ d) (hA : Aq h P n e) (hk : 1 ≤ k) (hr : .inl (fltK P n e k, tF P n e) = r) (hq : ∀ x h', r = .inl x → FRf h h' x → Q (some (vI 0)) h') : WP X XL d 217 [vR 127, vI k] h Q := by
  obtain ⟨hM, -, e18, e12, e13, -⟩ := id hA
  have kq := hM.1.1
  have q := hq _ (sG (sG h 127 18 (fltK P n e k)) 127 17 (tF P n e)) hr.symm ⟨rfl, rfl, fun r i _ q => by rw [gG_sG, if_neg (by omega), gG_sG, if_neg (by omega)], by rw [g_ne (by omega), g_same], g_same, fltK_1 hk⟩
  have a13 : ∀ z, gG (sG h 127 18 z) 127 13 = tF P n e := fun z => by rw [g_ne (by omega)]; exact e13
  have rt := rTk_c (tC P n e)
  have tb := tC_b (P := P) (n := n) (e := e)
  unfold fltK at q
  refine eX10_fails (by omega) ?_
  by_cases c3 : tC P n e = 33
  · rw [if_pos c3] at q
    (repeat' (first | (exact q) | (rw [e18]) | (rw [e12]) | (rw [a13]) | (refine Ex_step ?_; conv => whnf) | (refine ⟨?_, trivial⟩) | (refine (show den _ _ _ _ _ _ _ _ from ?_); conv => whnf) | (refine ⟨fun c => False.elim (by omega), fun c => ?_⟩) | (refine ⟨fun c => ?_, fun c => False.elim (by omega)⟩) | (refine ⟨by (first | assumption | rfl | (exact Nat.le_of_ble_eq_true rfl) | (exact ⟨fun h01 => absurd h01 (by decide), by first | rfl | assumption⟩) | (exact ⟨fun _ => by decide, by first | rfl | assumption⟩) | (exact ⟨by assumption, by omega, by omega⟩) | (unfold inI; omega) | omega), ?_⟩; conv => whnf) | (refine ⟨fun c => ?_, fun c => ?_⟩) | (intro c) | fail))
  · rw [if_neg c3] at q
    (repeat' (first | (exact q) | (rw [e18]) | (rw [e12]) | (rw [a13]) | (refine Ex_step ?_; conv => whnf) | (refine ⟨?_, trivial⟩) | (refine (show den _ _ _ _ _ _ _ _ from ?_); conv => whnf) | (refine ⟨fun c => False.elim (by omega), fun c => ?_⟩) | (refine ⟨fun c => ?_, fun c => False.elim (by omega)⟩) | (refine ⟨by (first | assumption | rfl | (exact Nat.le_of_ble_eq_true rfl) | (exact ⟨fun h01 => absurd h01 (by decide), by first | rfl | assumption⟩) | (exact ⟨fun _ => by decide, by first | rfl | assumption⟩) | (exact ⟨by assumption, by omega, by omega⟩) | (unfold inI; omega) | omega), ?_⟩; conv => whnf) | (refine ⟨fun c => ?_, fun c => ?_⟩) | (intro c) | fail))
set_option maxHeartbeats 4000000 in
theorem r_isSign {X : Int → Int} {XL : Int} {d : Nat} {h : Mem} {Q : RetP} {P : Int → Int} {n e w c : Int} (hd : 1 ≤ d) (hA : Aq h P n e) (hw : 28 ≤ w ∧ w ≤ 31) (hc : sgV w = c) (hq1 : tC P n e = w → Q (some (vI 1)) h) (hq0 : ¬ tC P n e = w → Q (some (vI 0)) h) : WP X XL d 215 [vR 127, vI c] h Q := by
  obtain ⟨hM, -, -, e12, -, -, -, e15⟩ := id hA
  have kq := hM.1.1
  have rt := rTk_c (tC P n e)
  have tb := tC_b (P := P) (n := n) (e := e)
  have s1 := sgV_c w
  have s2 := sgV_c (tC P n e)
  refine eX10_isSign (by omega) ?_
  by_cases c0 : 28 ≤ tC P n e ∧ tC P n e ≤ 31
  · have e15 := e15 c0.1 c0.2
    by_cases cw : tC P n e = w
    · have q := hq1 cw
      (repeat' (first | (exact q) | (rw [e12]) | (rw [e15]) | (refine Ex_step ?_; conv => whnf) | (refine ⟨?_, trivial⟩) | (refine (show den _ _ _ _ _ _ _ _ from ?_); conv => whnf) | (refine ⟨fun c => False.elim (by omega), fun c => ?_⟩) | (refine ⟨fun c => ?_, fun c => False.elim (by omega)⟩) | (refine ⟨by (first | assumption | rfl | (exact Nat.le_of_ble_eq_true rfl) | (exact ⟨fun h01 => absurd h01 (by decide), by first | rfl | assumption⟩) | (exact ⟨fun _ => by decide, by first | rfl | assumption⟩) | (exact ⟨by assumption, by omega, by omega⟩) | (unfold inI; omega) | omega), ?_⟩; conv => whnf) | (refine ⟨fun c => ?_, fun c => ?_⟩) | (intro c) | fail))
    · have q := hq0 cw
      (repeat' (first | (exact q) | (rw [e12]) | (rw [e15]) | (refine Ex_step ?_; conv => whnf) | (refine ⟨?_, trivial⟩) | (refine (show den _ _ _ _ _ _ _ _ from ?_); conv => whnf) | (refine ⟨fun c => False.elim (by omega), fun c => ?_⟩) | (refine ⟨fun c => ?_, fun c => False.elim (by omega)⟩) | (refine ⟨by (first | assumption | rfl | (exact Nat.le_of_ble_eq_true rfl) | (exact ⟨fun h01 => absurd h01 (by decide), by first | rfl | assumption⟩) | (exact ⟨fun _ => by decide, by first | rfl | assumption⟩) | (exact ⟨by assumption, by omega, by omega⟩) | (unfold inI; omega) | omega), ?_⟩; conv => whnf) | (refine ⟨fun c => ?_, fun c => ?_⟩) | (intro c) | fail))
  · have q := hq0 (by omega)
    (repeat' (first | (exact q) | (rw [e12]) | (refine Ex_step ?_; conv => whnf) | (refine ⟨?_, trivial⟩) | (refine (show den _ _ _ _ _ _ _ _ from ?_); conv => whnf) | (refine ⟨fun c => False.elim (by omega), fun c => ?_⟩) | (refine ⟨fun c => ?_, fun c => False.elim (by omega)⟩) | (refine ⟨by (first | assumption | rfl | (exact Nat.le_of_ble_eq_true rfl) | (exact ⟨fun h01 => absurd h01 (by decide), by first | rfl | assumption⟩) | (exact ⟨fun _ => by decide, by first | rfl | assumption⟩) | (exact ⟨by assumption, by omega, by omega⟩) | (unfold inI; omega) | omega), ?_⟩; conv => whnf) | (refine ⟨fun c => ?_, fun c => ?_⟩) | (intro c) | fail))
set_option maxHeartbeats 4000000 in
theorem q_semi {X : Int → Int} {XL : Int} {d : Nat} {h : Mem} {Q : RetP} {P : Int → Int} {n e : Int} {β : Type} {f : Int → (Int × Int) ⊕ β} {r : (Int × Int) ⊕ β} (hd : 3 ≤ d) (hA : Aq h P n e) (hr : bd (pTok P n e 28) f = r) (hq0 : ∀ x h', r = .inl x → FRf h h' x → Q (some (vI 0)) h') (hq1 : ∀ e' h', f e' = r → Aq h' P n e' → Fq h h' → Q (some (vI 1)) h') : WP X XL d 219 [vR 127, vI 59] h Q := by
  have kq := hA.1.1.1
  unfold pTok at hr
  refine eX10_wantSign (by omega) ?_
  by_cases cw : tC P n e = 28
  · rw [if_pos cw] at hr
    (repeat' (first | (exact q) | (refine r_isSign (w := 28) (by omega) hA (by omega) (by decide) (fun _ => ?_) (fun x => absurd cw x)) | (refine q_ahead (by omega) hA (fun h' hA' f' => ?_); have q := hq1 _ h' hr hA' f'; have g' := f'.1) | (refine Ex_step ?_; conv => whnf) | (refine ⟨?_, trivial⟩) | (refine (show den _ _ _ _ _ _ _ _ from ?_); conv => whnf) | (refine ⟨fun c => False.elim (by omega), fun c => ?_⟩) | (refine ⟨fun c => ?_, fun c => False.elim (by omega)⟩) | (refine ⟨by (first | assumption | rfl | (exact Nat.le_of_ble_eq_true rfl) | (exact ⟨fun h01 => absurd h01 (by decide), by first | rfl | assumption⟩) | (exact ⟨fun _ => by decide, by first | rfl | assumption⟩) | (exact ⟨by assumption, by omega, by omega⟩) | (unfold inI; omega) | omega), ?_⟩; conv => whnf) | (refine ⟨fun c => ?_, fun c => ?_⟩) | (intro c) | fail))
  · rw [if_neg cw] at hr
    (repeat' (first | (exact q) | (refine r_isSign (w := 28) (by omega) hA (by omega) (by decide) (fun x => absurd x cw) (fun _ => ?_)) | (refine q_fails (by omega) hA (by omega) hr (fun x h' er ff => ?_); have q := hq0 x h' er ff; have g' := ff.1) | (refine Ex_step ?_; conv => whnf) | (refine ⟨?_, trivial⟩) | (refine (show den _ _ _ _ _ _ _ _ from ?_); conv => whnf) | (refine ⟨fun c => False.elim (by omega), fun c => ?_⟩) | (refine ⟨fun c => ?_, fun c => False.elim (by omega)⟩) | (refine ⟨by (first | assumption | rfl | (exact Nat.le_of_ble_eq_true rfl) | (exact ⟨fun h01 => absurd h01 (by decide), by first | rfl | assumption⟩) | (exact ⟨fun _ => by decide, by first | rfl | assumption⟩) | (exact ⟨by assumption, by omega, by omega⟩) | (unfold inI; omega) | omega), ?_⟩; conv => whnf) | (refine ⟨fun c => ?_, fun c => ?_⟩) | (intro c) | fail))
set_option maxHeartbeats 4000000 in
theorem q_word {X : Int → Int} {XL : Int} {d : Nat} {h : Mem} {Q : RetP} {P : Int → Int} {n e w k : Int} {β : Type} {f : Int → (Int × Int) ⊕ β} {r : (Int × Int) ⊕ β} (hd : 8 ≤ d) (hA : Aq h P n e) (hw : 0 ≤ w ∧ w ≤ 24) (hk : wR w = k) (hr : bd (pTok P n e w) f = r) (hq0 : ∀ x h', r = .inl x → FRf h h' x → Q (some (vI 0)) h') (hq1 : ∀ e' h', f e' = r → Aq h' P n e' → Fq h h' → Q (some (vI 1)) h') : WP X XL d 220 [vR 127, vR 900002, vI k] h Q := by
  have kq := hA.1.1.1
  have wi := wQ_i (c := tC P n e) tC_b.1 hw
  have ie := iw_e (P := P) (n := n) (e := e)
  unfold pTok at hr
  refine eX10_wantWord (by omega) ?_
  by_cases cw : tC P n e = w
  · rw [if_pos cw] at hr
    have ik : iw P n e = k := by rw [ie, wi.mpr cw, hk]
    (repeat' (first | (exact q) | (refine r_inWords (by omega) hA ?_) | (refine q_ahead (by omega) hA (fun h' hA' f' => ?_); have q := hq1 _ h' hr hA' f'; have g' := f'.1) | (refine Ex_step ?_; conv => whnf) | (refine ⟨?_, trivial⟩) | (refine (show den _ _ _ _ _ _ _ _ from ?_); conv => whnf) | (refine ⟨fun c => False.elim (by omega), fun c => ?_⟩) | (refine ⟨fun c => ?_, fun c => False.elim (by omega)⟩) | (refine ⟨by (first | assumption | rfl | (exact Nat.le_of_ble_eq_true rfl) | (exact ⟨fun h01 => absurd h01 (by decide), by first | rfl | assumption⟩) | (exact ⟨fun _ => by decide, by first | rfl | assumption⟩) | (exact ⟨by assumption, by omega, by omega⟩) | (unfold inI; omega) | omega), ?_⟩; conv => whnf) | (refine ⟨fun c => ?_, fun c => ?_⟩) | (intro c) | fail))
  · rw [if_neg cw] at hr
    have ik : ¬ iw P n e = k := fun q => cw (wi.mp (by rw [← ie, q, hk]))
    (repeat' (first | (exact q) | (refine r_inWords (by omega) hA ?_) | (refine q_fails (by omega) hA (by omega) hr (fun x h' er ff => ?_); have q := hq0 x h' er ff; have g' := ff.1) | (refine Ex_step ?_; conv => whnf) | (refine ⟨?_, trivial⟩) | (refine (show den _ _ _ _ _ _ _ _ from ?_); conv => whnf) | (refine ⟨fun c => False.elim (by omega), fun c => ?_⟩) | (refine ⟨fun c => ?_, fun c => False.elim (by omega)⟩) | (refine ⟨by (first | assumption | rfl | (exact Nat.le_of_ble_eq_true rfl) | (exact ⟨fun h01 => absurd h01 (by decide), by first | rfl | assumption⟩) | (exact ⟨fun _ => by decide, by first | rfl | assumption⟩) | (exact ⟨by assumption, by omega, by omega⟩) | (unfold inI; omega) | omega), ?_⟩; conv => whnf) | (refine ⟨fun c => ?_, fun c => ?_⟩) | (intro c) | fail))
/-- the reference's array -/
def RA (h : Mem) : Prop := gR h 127 0 = 128 ∧ kd h 128 = 100 ∧ ln h 128 = 3198
theorem RA.z {h h' : Mem} (q : RA h) (e1 : h'.1 = h.1) (e2 : h'.2.2 = h.2.2) : RA h' := by unfold RA kd ln gR at *; rw [e1, e2]; exact q
set_option maxHeartbeats 4000000 in
theorem q_num {X : Int → Int} {XL : Int} {d : Nat} {h : Mem} {Q : RetP} {P : Int → Int} {n e lo hi to : Int} {β : Type} {f : Int × Int → (Int × Int) ⊕ β} {r : (Int × Int) ⊕ β} (hd : 3 ≤ d) (hA : Aq h P n e) (hX : RA h) (hto : 0 ≤ to ∧ to < 3198) (hr : bd (pNum P n e lo hi) f = r) (hq0 : ∀ x h', r = .inl x → FRf h h' x → Q (some (vI 0)) h') (hq1 : ∀ m e' h', 0 ≤ m → lo ≤ m → m ≤ hi → f (m, e') = r → Aq h' P n e' → Fq (sG h 128 to m) h' → Q (some (vI 1)) h') : WP X XL d 221 [vR 127, vI to, vI lo, vI hi] h Q := by
  obtain ⟨hM, he, -, e12, -, -, e15, -⟩ := id hA
  obtain ⟨x0, xk, xl⟩ := id hX
  have kq := hM.1.1
  have rt := rTk_c (tC P n e)
  have tb := tC_b (P := P) (n := n) (e := e)
  unfold pNum at hr
  refine eX10_number (by omega) ?_
  by_cases c27 : tC P n e = 27
  · have e15 := e15 c27
    obtain ⟨-, -, -, -, v0, v1⟩ := tC_27 he.2 c27
    rw [if_neg (fun q => q c27)] at hr
    by_cases cc : tNb P n e < lo ∨ hi < tNb P n e
    · rw [if_pos cc] at hr
      by_cases cl : tNb P n e < lo
      · (repeat' (first | (exact q) | (rw [e12]) | (rw [e15]) | (refine q_fails (by omega) hA (by omega) hr (fun x h' er ff => ?_); have q := hq0 x h' er ff; have g' := ff.1) | (refine Ex_step ?_; conv => whnf) | (refine ⟨?_, trivial⟩) | (refine (show den _ _ _ _ _ _ _ _ from ?_); conv => whnf) | (refine ⟨fun c => False.elim (by omega), fun c => ?_⟩) | (refine ⟨fun c => ?_, fun c => False.elim (by omega)⟩) | (refine ⟨by (first | assumption | rfl | (exact Nat.le_of_ble_eq_true rfl) | (exact ⟨fun h01 => absurd h01 (by decide), by first | rfl | assumption⟩) | (exact ⟨fun _ => by decide, by first | rfl | assumption⟩) | (exact ⟨by assumption, by omega, by omega⟩) | (unfold inI; omega) | omega), ?_⟩; conv => whnf) | (refine ⟨fun c => ?_, fun c => ?_⟩) | (intro c) | fail))
      · (repeat' (first | (exact q) | (rw [e12]) | (rw [e15]) | (refine q_fails (by omega) hA (by omega) hr (fun x h' er ff => ?_); have q := hq0 x h' er ff; have g' := ff.1) | (refine Ex_step ?_; conv => whnf) | (refine ⟨?_, trivial⟩) | (refine (show den _ _ _ _ _ _ _ _ from ?_); conv => whnf) | (refine ⟨fun c => False.elim (by omega), fun c => ?_⟩) | (refine ⟨fun c => ?_, fun c => False.elim (by omega)⟩) | (refine ⟨by (first | assumption | rfl | (exact Nat.le_of_ble_eq_true rfl) | (exact ⟨fun h01 => absurd h01 (by decide), by first | rfl | assumption⟩) | (exact ⟨fun _ => by decide, by first | rfl | assumption⟩) | (exact ⟨by assumption, by omega, by omega⟩) | (unfold inI; omega) | omega), ?_⟩; conv => whnf) | (refine ⟨fun c => ?_, fun c => ?_⟩) | (intro c) | fail))
    · rw [if_neg cc] at hr
      have hA2 : Aq (sG h 128 to (tNb P n e)) P n e := hA.a
      (repeat' (first | (exact q) | (rw [e12]) | (rw [e15]) | (rw [x0]) | (refine ⟨⟨xk, by omega, Int.lt_of_lt_of_le (by omega : _ < (3198 : Int)) (Int.le_of_eq xl.symm)⟩, ?_⟩; conv => whnf) | (refine q_ahead (by omega) hA2 (fun h' hA' f' => ?_); have q := hq1 _ _ h' v0 (by omega) (by omega) hr hA' f'; have g' : h'.1 = h.1 := f'.1) | (refine Ex_step ?_; conv => whnf) | (refine ⟨?_, trivial⟩) | (refine (show den _ _ _ _ _ _ _ _ from ?_); conv => whnf) | (refine ⟨fun c => False.elim (by omega), fun c => ?_⟩) | (refine ⟨fun c => ?_, fun c => False.elim (by omega)⟩) | (refine ⟨by (first | assumption | rfl | (exact Nat.le_of_ble_eq_true rfl) | (exact ⟨fun h01 => absurd h01 (by decide), by first | rfl | assumption⟩) | (exact ⟨fun _ => by decide, by first | rfl | assumption⟩) | (exact ⟨by assumption, by omega, by omega⟩) | (unfold inI; omega) | omega), ?_⟩; conv => whnf) | (refine ⟨fun c => ?_, fun c => ?_⟩) | (intro c) | fail))
  · rw [if_pos c27] at hr
    (repeat' (first | (exact q) | (rw [e12]) | (refine q_fails (by omega) hA (by omega) hr (fun x h' er ff => ?_); have q := hq0 x h' er ff; have g' := ff.1) | (refine Ex_step ?_; conv => whnf) | (refine ⟨?_, trivial⟩) | (refine (show den _ _ _ _ _ _ _ _ from ?_); conv => whnf) | (refine ⟨fun c => False.elim (by omega), fun c => ?_⟩) | (refine ⟨fun c => ?_, fun c => False.elim (by omega)⟩) | (refine ⟨by (first | assumption | rfl | (exact Nat.le_of_ble_eq_true rfl) | (exact ⟨fun h01 => absurd h01 (by decide), by first | rfl | assumption⟩) | (exact ⟨fun _ => by decide, by first | rfl | assumption⟩) | (exact ⟨by assumption, by omega, by omega⟩) | (unfold inI; omega) | omega), ?_⟩; conv => whnf) | (refine ⟨fun c => ?_, fun c => ?_⟩) | (intro c) | fail))
set_option maxHeartbeats 4000000 in
theorem r_isThere {X : Int → Int} {XL : Int} {d : Nat} {h : Mem} {Q : RetP} {P : Int → Int} {n e w k : Int} (hd : 8 ≤ d) (hA : Aq h P n e) (hw : 0 ≤ w ∧ w ≤ 24) (hk : wR w = k) (hq0 : ¬ tC P n e = w → Q (some (vI 0)) h) (hq1 : tC P n e = w → ∀ h', Aq h' P n (tE P n e) → Fq h h' → Q (some (vI 1)) h') : WP X XL d 230 [vR 127, vI k] h Q := by
  have kq := hA.1.1.1
  have wi := wQ_i (c := tC P n e) tC_b.1 hw
  have ie := iw_e (P := P) (n := n) (e := e)
  refine eX10_isThere (by omega) ?_
  by_cases cw : tC P n e = w
  · have ik : iw P n e = k := by rw [ie, wi.mpr cw, hk]
    (repeat' (first | (exact q) | (refine r_inWords (by omega) hA ?_) | (refine q_ahead (by omega) hA (fun h' hA' f' => ?_); have q := hq1 cw h' hA' f'; have g' := f'.1) | (refine Ex_step ?_; conv => whnf) | (refine ⟨?_, trivial⟩) | (refine (show den _ _ _ _ _ _ _ _ from ?_); conv => whnf) | (refine ⟨fun c => False.elim (by omega), fun c => ?_⟩) | (refine ⟨fun c => ?_, fun c => False.elim (by omega)⟩) | (refine ⟨by (first | assumption | rfl | (exact Nat.le_of_ble_eq_true rfl) | (exact ⟨fun h01 => absurd h01 (by decide), by first | rfl | assumption⟩) | (exact ⟨fun _ => by decide, by first | rfl | assumption⟩) | (exact ⟨by assumption, by omega, by omega⟩) | (unfold inI; omega) | omega), ?_⟩; conv => whnf) | (refine ⟨fun c => ?_, fun c => ?_⟩) | (intro c) | fail))
  · have ik : ¬ iw P n e = k := fun q => cw (wi.mp (by rw [← ie, q, hk]))
    have q := hq0 cw
    (repeat' (first | (exact q) | (refine r_inWords (by omega) hA ?_) | (refine Ex_step ?_; conv => whnf) | (refine ⟨?_, trivial⟩) | (refine (show den _ _ _ _ _ _ _ _ from ?_); conv => whnf) | (refine ⟨fun c => False.elim (by omega), fun c => ?_⟩) | (refine ⟨fun c => ?_, fun c => False.elim (by omega)⟩) | (refine ⟨by (first | assumption | rfl | (exact Nat.le_of_ble_eq_true rfl) | (exact ⟨fun h01 => absurd h01 (by decide), by first | rfl | assumption⟩) | (exact ⟨fun _ => by decide, by first | rfl | assumption⟩) | (exact ⟨by assumption, by omega, by omega⟩) | (unfold inI; omega) | omega), ?_⟩; conv => whnf) | (refine ⟨fun c => ?_, fun c => ?_⟩) | (intro c) | fail))
set_option maxHeartbeats 4000000 in
theorem q_perh {X : Int → Int} {XL : Int} {d : Nat} {h : Mem} {Q : RetP} {P : Int → Int} {n e w k hi to wo idx : Int} {A : Int → Int} {g : Int → Int → Int} {β : Type} {f : (Int → Int) × Int → (Int × Int) ⊕ β} {r : (Int × Int) ⊕ β} (hd : 9 ≤ d) (hA : Aq h P n e) (hX : RA h) (hto : 0 ≤ to ∧ to < 3198) (hw : 0 ≤ w ∧ w ≤ 24) (hk : wR w = k) (hg : ∀ m, g m = pu A idx m) (hwo : A idx = wo) (hr : bd (pOpt P n e w hi A g) f = r) (hq0 : ∀ x h', r = .inl x → FRf h h' x → Q (some (vI 0)) h') (hq1 : ∀ v e' h', (0 ≤ v ∧ v ≤ hi) ∨ v = wo → f (pu A idx v, e') = r → Aq h' P n e' → Fq (sG h 128 to v) h' → Q (some (vI 1)) h') : WP X XL d 231 [vR 127, vI k, vI to, vI 0, vI hi, vI wo] h Q := by
  have kq := hA.1.1.1
  obtain ⟨x0, xk, xl⟩ := id hX
  unfold pOpt at hr
  refine eX10_perhaps (by omega) ?_
  by_cases cw : tC P n e = w
  · rw [if_pos cw] at hr
    have hr2 : bd (pNum P n (tE P n e) 0 hi) (fun q => f (g q.1, q.2)) = r := by
      rw [← hr]
      cases pNum P n (tE P n e) 0 hi with
      | inl x => rfl
      | inr a => rfl
    (repeat' (first | (refine r_isThere (by omega) hA hw hk (fun x => absurd cw x) (fun _ h1 hA1 f1 => ?_)) | (refine Ex_step ?_; conv => whnf) | (refine ⟨?_, trivial⟩) | (refine (show den _ _ _ _ _ _ _ _ from ?_); conv => whnf) | (refine ⟨fun c => False.elim (by omega), fun c => ?_⟩) | (refine ⟨fun c => ?_, fun c => False.elim (by omega)⟩) | (refine ⟨by (first | assumption | rfl | (exact Nat.le_of_ble_eq_true rfl) | (exact ⟨fun h01 => absurd h01 (by decide), by first | rfl | assumption⟩) | (exact ⟨fun _ => by decide, by first | rfl | assumption⟩) | (exact ⟨by assumption, by omega, by omega⟩) | (unfold inI; omega) | omega), ?_⟩; conv => whnf) | (refine ⟨fun c => ?_, fun c => ?_⟩) | fail))
    have kq1 := hA1.1.1.1
    (repeat' (first | (refine Ex_step ?_; conv => whnf) | (refine ⟨?_, trivial⟩) | (refine (show den _ _ _ _ _ _ _ _ from ?_); conv => whnf) | (refine ⟨fun c => False.elim (by omega), fun c => ?_⟩) | (refine ⟨fun c => ?_, fun c => False.elim (by omega)⟩) | (refine ⟨by (first | assumption | rfl | (exact Nat.le_of_ble_eq_true rfl) | (exact ⟨fun h01 => absurd h01 (by decide), by first | rfl | assumption⟩) | (exact ⟨fun _ => by decide, by first | rfl | assumption⟩) | (exact ⟨by assumption, by omega, by omega⟩) | (unfold inI; omega) | omega), ?_⟩; conv => whnf) | (refine ⟨fun c => ?_, fun c => ?_⟩) | fail))
    refine q_num (by omega) hA1 (hX.z f1.1 f1.2.1) hto hr2 (fun x h2 er ff => ?_) (fun m e2 h2 m0 m0' m1 hr3 hA2 f2 => ?_)
    · have q := hq0 x h2 er (f1.R.f ff)
      have g2 := ff.1.trans f1.1
      (repeat' (first | (exact q) | (refine Ex_step ?_; conv => whnf) | (refine ⟨?_, trivial⟩) | (refine (show den _ _ _ _ _ _ _ _ from ?_); conv => whnf) | (refine ⟨fun c => False.elim (by omega), fun c => ?_⟩) | (refine ⟨fun c => ?_, fun c => False.elim (by omega)⟩) | (refine ⟨by (first | assumption | rfl | (exact Nat.le_of_ble_eq_true rfl) | (exact ⟨fun h01 => absurd h01 (by decide), by first | rfl | assumption⟩) | (exact ⟨fun _ => by decide, by first | rfl | assumption⟩) | (exact ⟨by assumption, by omega, by omega⟩) | (unfold inI; omega) | omega), ?_⟩; conv => whnf) | (refine ⟨fun c => ?_, fun c => ?_⟩) | (intro c) | fail))
    · have q := hq1 m e2 h2 (Or.inl ⟨m0, m1⟩) (by rw [← hg]; exact hr3) hA2 (f1.l.trans f2)
      have g2 : h2.1 = h.1 := f2.1.trans f1.1
      (repeat' (first | (exact q) | (refine Ex_step ?_; conv => whnf) | (refine ⟨?_, trivial⟩) | (refine (show den _ _ _ _ _ _ _ _ from ?_); conv => whnf) | (refine ⟨fun c => False.elim (by omega), fun c => ?_⟩) | (refine ⟨fun c => ?_, fun c => False.elim (by omega)⟩) | (refine ⟨by (first | assumption | rfl | (exact Nat.le_of_ble_eq_true rfl) | (exact ⟨fun h01 => absurd h01 (by decide), by first | rfl | assumption⟩) | (exact ⟨fun _ => by decide, by first | rfl | assumption⟩) | (exact ⟨by assumption, by omega, by omega⟩) | (unfold inI; omega) | omega), ?_⟩; conv => whnf) | (refine ⟨fun c => ?_, fun c => ?_⟩) | (intro c) | fail))
  · rw [if_neg cw] at hr
    have q := hq1 wo e (sG h 128 to wo) (Or.inr rfl) (by rw [pu_id hwo]; exact hr) hA.a Fq.refl
    (repeat' (first | (exact q) | (refine r_isThere (by omega) hA hw hk (fun _ => ?_) (fun x => absurd x cw)) | (rw [x0]) | (refine ⟨⟨xk, by omega, Int.lt_of_lt_of_le (by omega : _ < (3198 : Int)) (Int.le_of_eq xl.symm)⟩, ?_⟩; conv => whnf) | (refine Ex_step ?_; conv => whnf) | (refine ⟨?_, trivial⟩) | (refine (show den _ _ _ _ _ _ _ _ from ?_); conv => whnf) | (refine ⟨fun c => False.elim (by omega), fun c => ?_⟩) | (refine ⟨fun c => ?_, fun c => False.elim (by omega)⟩) | (refine ⟨by (first | assumption | rfl | (exact Nat.le_of_ble_eq_true rfl) | (exact ⟨fun h01 => absurd h01 (by decide), by first | rfl | assumption⟩) | (exact ⟨fun _ => by decide, by first | rfl | assumption⟩) | (exact ⟨by assumption, by omega, by omega⟩) | (unfold inI; omega) | omega), ?_⟩; conv => whnf) | (refine ⟨fun c => ?_, fun c => ?_⟩) | (intro c) | fail))
set_option maxHeartbeats 4000000 in
theorem r_isFull {X : Int → Int} {XL : Int} {d : Nat} {h : Mem} {Q : RetP} {i m a : Int} (hd : 1 ≤ d) (kq : kd h 127 = 10) (hX : RA h) (hi : 0 ≤ i ∧ i ≤ 2) (ha : gG h 128 (1832 + i) = a) (hq1 : a = m → Q (some (vI 1)) h) (hq0 : ¬ a = m → Q (some (vI 0)) h) : WP X XL d 232 [vR 127, vI i, vI m] h Q := by
  obtain ⟨x0, xk, xl⟩ := id hX
  refine eX10_isFull (by omega) ?_
  by_cases c : a = m
  · have q := hq1 c
    (repeat' (first | (exact q) | (rw [x0]) | (rw [ha]) | (refine ⟨⟨xk, by omega, Int.lt_of_lt_of_le (by omega : _ < (3198 : Int)) (Int.le_of_eq xl.symm)⟩, ?_⟩; conv => whnf) | (refine Ex_step ?_; conv => whnf) | (refine ⟨?_, trivial⟩) | (refine (show den _ _ _ _ _ _ _ _ from ?_); conv => whnf) | (refine ⟨fun c => False.elim (by omega), fun c => ?_⟩) | (refine ⟨fun c => ?_, fun c => False.elim (by omega)⟩) | (refine ⟨by (first | assumption | rfl | (exact Nat.le_of_ble_eq_true rfl) | (exact ⟨fun h01 => absurd h01 (by decide), by first | rfl | assumption⟩) | (exact ⟨fun _ => by decide, by first | rfl | assumption⟩) | (exact ⟨by assumption, by omega, by omega⟩) | (unfold inI; omega) | omega), ?_⟩; conv => whnf) | (refine ⟨fun c => ?_, fun c => ?_⟩) | (intro c) | fail))
  · have q := hq0 c
    (repeat' (first | (exact q) | (rw [x0]) | (rw [ha]) | (refine ⟨⟨xk, by omega, Int.lt_of_lt_of_le (by omega : _ < (3198 : Int)) (Int.le_of_eq xl.symm)⟩, ?_⟩; conv => whnf) | (refine Ex_step ?_; conv => whnf) | (refine ⟨?_, trivial⟩) | (refine (show den _ _ _ _ _ _ _ _ from ?_); conv => whnf) | (refine ⟨fun c => False.elim (by omega), fun c => ?_⟩) | (refine ⟨fun c => ?_, fun c => False.elim (by omega)⟩) | (refine ⟨by (first | assumption | rfl | (exact Nat.le_of_ble_eq_true rfl) | (exact ⟨fun h01 => absurd h01 (by decide), by first | rfl | assumption⟩) | (exact ⟨fun _ => by decide, by first | rfl | assumption⟩) | (exact ⟨by assumption, by omega, by omega⟩) | (unfold inI; omega) | omega), ?_⟩; conv => whnf) | (refine ⟨fun c => ?_, fun c => ?_⟩) | (intro c) | fail))
theorem tC_len {P : Int → Int} {n e : Int} (h : tC P n e ≤ 26) : 8 < tE P n e - tF P n e ↔ tC P n e = 26 := by
  obtain ⟨c, l, -⟩ := tC_w h
  have eC : tC P n e = (if 8 < tE P n e - tF P n e then 26 else if kx CKW (tW P n e) 0 = -1 then 25 else kx CKW (tW P n e) 0) := by unfold tC; rw [if_neg (fun q => q c), if_pos l]
  have := kx_b CKW (tW P n e) 0
  have hl : (CKW.length : Int) = 25 := by decide
  constructor
  · intro q; rw [if_pos q] at eC; exact eC
  · intro q
    by_cases c8 : 8 < tE P n e - tF P n e
    · exact c8
    · rw [if_neg c8] at eC
      split at eC <;> omega
set_option maxHeartbeats 4000000 in
theorem r_isName {X : Int → Int} {XL : Int} {d : Nat} {h : Mem} {Q : RetP} {P : Int → Int} {n e : Int} (hd : 7 ≤ d) (hA : Aq h P n e) (hq1 : tC P n e = 25 → Q (some (vI 1)) h) (hq0 : ¬ tC P n e = 25 → Q (some (vI 0)) h) : WP X XL d 222 [vR 127, vR 900002] h Q := by
  obtain ⟨hM, he, -, e12, e13, e14, -, -⟩ := id hA
  have kq := hM.1.1
  have rt := rTk_c (tC P n e)
  have tb := tC_b (P := P) (n := n) (e := e)
  have hb := tF_b (P := P) he.2
  have hb2 := tE_b (P := P) he.2
  have hn := hM.2.2.1
  have ie := iw_e (P := P) (n := n) (e := e)
  unfold wQ at ie
  refine eX10_isName (by omega) ?_
  by_cases c26 : tC P n e ≤ 26
  · have tl := tC_len c26
    by_cases c25 : tC P n e = 25
    · have q := hq1 c25
      rw [if_neg (by omega)] at ie
      (repeat' (first | (exact q) | (rw [e12]) | (rw [e13]) | (rw [e14]) | (refine r_inWords (by omega) hA ?_) | (refine Ex_step ?_; conv => whnf) | (refine ⟨?_, trivial⟩) | (refine (show den _ _ _ _ _ _ _ _ from ?_); conv => whnf) | (refine ⟨fun c => False.elim (by omega), fun c => ?_⟩) | (refine ⟨fun c => ?_, fun c => False.elim (by omega)⟩) | (refine ⟨by (first | assumption | rfl | (exact Nat.le_of_ble_eq_true rfl) | (exact ⟨fun h01 => absurd h01 (by decide), by first | rfl | assumption⟩) | (exact ⟨fun _ => by decide, by first | rfl | assumption⟩) | (exact ⟨by assumption, by omega, by omega⟩) | (unfold inI; omega) | omega), ?_⟩; conv => whnf) | (refine ⟨fun c => ?_, fun c => ?_⟩) | (intro c) | fail))
    · have q := hq0 c25
      by_cases c6 : tC P n e = 26
      · (repeat' (first | (exact q) | (rw [e12]) | (rw [e13]) | (rw [e14]) | (refine Ex_step ?_; conv => whnf) | (refine ⟨?_, trivial⟩) | (refine (show den _ _ _ _ _ _ _ _ from ?_); conv => whnf) | (refine ⟨fun c => False.elim (by omega), fun c => ?_⟩) | (refine ⟨fun c => ?_, fun c => False.elim (by omega)⟩) | (refine ⟨by (first | assumption | rfl | (exact Nat.le_of_ble_eq_true rfl) | (exact ⟨fun h01 => absurd h01 (by decide), by first | rfl | assumption⟩) | (exact ⟨fun _ => by decide, by first | rfl | assumption⟩) | (exact ⟨by assumption, by omega, by omega⟩) | (unfold inI; omega) | omega), ?_⟩; conv => whnf) | (refine ⟨fun c => ?_, fun c => ?_⟩) | (intro c) | fail))
      · rw [if_pos (by omega)] at ie
        have := wR_n (c := tC P n e) (by omega) (by omega)
        (repeat' (first | (exact q) | (rw [e12]) | (rw [e13]) | (rw [e14]) | (refine r_inWords (by omega) hA ?_) | (refine Ex_step ?_; conv => whnf) | (refine ⟨?_, trivial⟩) | (refine (show den _ _ _ _ _ _ _ _ from ?_); conv => whnf) | (refine ⟨fun c => False.elim (by omega), fun c => ?_⟩) | (refine ⟨fun c => ?_, fun c => False.elim (by omega)⟩) | (refine ⟨by (first | assumption | rfl | (exact Nat.le_of_ble_eq_true rfl) | (exact ⟨fun h01 => absurd h01 (by decide), by first | rfl | assumption⟩) | (exact ⟨fun _ => by decide, by first | rfl | assumption⟩) | (exact ⟨by assumption, by omega, by omega⟩) | (unfold inI; omega) | omega), ?_⟩; conv => whnf) | (refine ⟨fun c => ?_, fun c => ?_⟩) | (intro c) | fail))
  · have q := hq0 (by omega)
    (repeat' (first | (exact q) | (rw [e12]) | (refine Ex_step ?_; conv => whnf) | (refine ⟨?_, trivial⟩) | (refine (show den _ _ _ _ _ _ _ _ from ?_); conv => whnf) | (refine ⟨fun c => False.elim (by omega), fun c => ?_⟩) | (refine ⟨fun c => ?_, fun c => False.elim (by omega)⟩) | (refine ⟨by (first | assumption | rfl | (exact Nat.le_of_ble_eq_true rfl) | (exact ⟨fun h01 => absurd h01 (by decide), by first | rfl | assumption⟩) | (exact ⟨fun _ => by decide, by first | rfl | assumption⟩) | (exact ⟨by assumption, by omega, by omega⟩) | (unfold inI; omega) | omega), ?_⟩; conv => whnf) | (refine ⟨fun c => ?_, fun c => ?_⟩) | (intro c) | fail))
