/-! LEVEL 2: decades as they are lived: draws, what a step does -/
theorem zrem_pos {a b : Int} (ha : 0 ≤ a) (ha2 : a ≤ 2147483647) (hb : 0 < b) (hb2 : b ≤ 2147483647) : zrem a b = a % b := by
  obtain ⟨m, rfl⟩ := Int.eq_ofNat_of_zero_le ha
  obtain ⟨n, rfl⟩ := Int.eq_ofNat_of_zero_le (Int.le_of_lt hb)
  unfold zrem
  have h1 : Int32.ofInt (m : Int) = nI m := rfl
  have h2 : Int32.ofInt (n : Int) = nI n := rfl
  rw [h1, h2, pk_rem (by omega) (by omega) (by omega), nI_toInt (Nat.lt_of_lt_of_le (Nat.mod_lt m (by omega)) (by omega))]
  exact (Int.natCast_emod m n)
def drw (x : Int) : Int := (x * 3217 + 11447) % 65536
def pkD (x n : Int) : Int := x / 8 % n
theorem drw_b {x : Int} : 0 ≤ drw x ∧ drw x < 65536 := by unfold drw; omega
theorem drw_z {x : Int} (h0 : 0 ≤ x) (h1 : x < 65536) : zrem (x * 3217 + 11447) 65536 = drw x := zrem_pos (by omega) (by omega) (by omega) (by omega)
theorem pkD_z {x n : Int} (h0 : 0 ≤ x) (h1 : x < 65536) (hn0 : 0 < n) (hn1 : n ≤ 100) : zrem (zdiv x 8) n = pkD x n := by
  rw [zdiv_pos h0 (by omega) (by omega) (by omega)]
  exact zrem_pos (by omega) (by omega) hn0 (by omega)
theorem pkD_b {x n : Int} (hn0 : 0 < n) : 0 ≤ pkD x n ∧ pkD x n < n := ⟨Int.emod_nonneg _ (by omega), Int.emod_lt_of_pos _ hn0⟩
set_option maxHeartbeats 4000000 in
theorem w_draw {X : Int → Int} {XL : Int} {d : Nat} {h : Mem} {Q : RetP} {x n : Int} (hd : 1 ≤ d) (kl : kd h 124 = 2) (hx : gG h 124 4 = x) (h0 : 0 ≤ x) (h1 : x < 65536) (hn0 : 0 < n) (hn1 : n ≤ 100) (hq : Q (some (vI (pkD (drw x) n))) (sG h 124 4 (drw x))) : WP X XL d 116 [vR 124, vI n] h Q := by
  have hb := drw_b (x := x)
  have z1 := drw_z h0 h1
  have z2 := pkD_z hb.1 hb.2 hn0 hn1
  refine eX2_draw (by omega) ?_
  (repeat' (first | (rw [hx]) | (rw [g_same]) | (rw [z1]) | (rw [z2]) | (refine Ex_step ?_; conv => whnf) | (refine ⟨?_, trivial⟩) | (refine (show den _ _ _ _ _ _ _ _ from ?_); conv => whnf) | (refine ⟨fun c => False.elim (by omega), fun c => ?_⟩) | (refine ⟨fun c => ?_, fun c => False.elim (by omega)⟩) | (refine ⟨by (first | assumption | rfl | (exact Nat.le_of_ble_eq_true rfl) | (exact ⟨fun h01 => absurd h01 (by decide), by first | rfl | assumption⟩) | (exact ⟨fun _ => by decide, by first | rfl | assumption⟩) | (exact ⟨by assumption, by omega, by omega⟩) | (unfold inI; omega) | omega), ?_⟩; conv => whnf) | (refine ⟨fun c => ?_, fun c => ?_⟩) | (intro c) | fail))
  exact hq
set_option maxHeartbeats 4000000 in
theorem r_draw {X : Int → Int} {XL : Int} {d : Nat} {h : Mem} {Q : RetP} {x n : Int} (hd : 1 ≤ d) (kq : kd h 127 = 10) (hx : gG h 127 32 = x) (h0 : 0 ≤ x) (h1 : x < 65536) (hn0 : 0 < n) (hn1 : n ≤ 100) (hq : Q (some (vI (pkD (drw x) n))) (sG h 127 32 (drw x))) : WP X XL d 335 [vR 127, vI n] h Q := by
  have hb := drw_b (x := x)
  have z1 := drw_z h0 h1
  have z2 := pkD_z hb.1 hb.2 hn0 hn1
  refine eX10_draw (by omega) ?_
  (repeat' (first | (rw [hx]) | (rw [g_same]) | (rw [z1]) | (rw [z2]) | (refine Ex_step ?_; conv => whnf) | (refine ⟨?_, trivial⟩) | (refine (show den _ _ _ _ _ _ _ _ from ?_); conv => whnf) | (refine ⟨fun c => False.elim (by omega), fun c => ?_⟩) | (refine ⟨fun c => ?_, fun c => False.elim (by omega)⟩) | (refine ⟨by (first | assumption | rfl | (exact Nat.le_of_ble_eq_true rfl) | (exact ⟨fun h01 => absurd h01 (by decide), by first | rfl | assumption⟩) | (exact ⟨fun _ => by decide, by first | rfl | assumption⟩) | (exact ⟨by assumption, by omega, by omega⟩) | (unfold inI; omega) | omega), ?_⟩; conv => whnf) | (refine ⟨fun c => ?_, fun c => ?_⟩) | (intro c) | fail))
  exact hq
-- what single deeds do, with whether they could be
def rnR (A : Int → Int) (p : Int) : (Int → Int) × Bool := if pA A p 3 < A 0 then (rrA A p p, true) else (A, false)
def rpR (A : Int → Int) (p o : Int) : (Int → Int) × Bool := if ¬ p = o ∧ pA A p 3 = pA A o 3 ∧ pA A p 3 < A 0 then (rrA A p o, true) else (A, false)
def jmR (A : Int → Int) (a : Int) : (Int → Int) × Bool := if hoA A a < 60 ∨ 0 < moA A a then (jmpA A a, true) else (A, false)
def hmR (A : Int → Int) (p : Int) : (Int → Int) × Bool := if pA A p 3 = 0 then (A, false) else (homA A p, true)
def dyR (A : Int → Int) (n : Int) : (Int → Int) × Bool := if A 6 + n ≤ 9999 then (dayA A n, true) else (A, false)
def fgR (A : Int → Int) (f : Int) : (Int → Int) × Bool := if A 4 = f then (A, false) else (fogA A f, true)
def b01 (b : Bool) : Int := if b = true then 1 else 0
/-- nothing but the array below 90, what is drawn and the days of a run has changed -/
def FrD (h h' : Mem) : Prop := h'.1 = h.1 ∧ h'.2.2 = h.2.2 ∧ ∀ r i, ¬ (r = 128 ∧ 0 ≤ i ∧ i < 90) → ¬ (r = 127 ∧ i = 32) → ¬ (r = 144 ∧ i = 1) → gG h' r i = gG h r i
theorem FrD.refl {h : Mem} : FrD h h := ⟨rfl, rfl, fun _ _ _ _ _ => rfl⟩
theorem FrD.trans {h h' h'' : Mem} (a : FrD h h') (b : FrD h' h'') : FrD h h'' := ⟨b.1.trans a.1, b.2.1.trans a.2.1, fun r i h0 h1 h2 => (b.2.2 r i h0 h1 h2).trans (a.2.2 r i h0 h1 h2)⟩
theorem FrA.D {h h' : Mem} (a : FrA h h') : FrD h h' := ⟨a.1.1, a.1.2.1, fun r i h0 _ _ => by
  by_cases e : r = 128
  · subst e; exact a.2 i (by omega)
  · exact a.1.2.2 r e i⟩
set_option maxHeartbeats 4000000 in
theorem r_runsBy {X : Int → Int} {XL : Int} {d : Nat} {h : Mem} {Q : RetP} {K : Int} {A : Int → Int} {p : Int} (hd : 8 ≤ d) (hR : Rr K h A) (hK : K + 83 ≤ 30000000) (hp0 : 0 ≤ p) (hp1 : p < A 1) (hq : ∀ h', Rr (K + 83) h' (rnR A p).1 → FrA h h' → Q (some (vI (b01 (rnR A p).2))) h') : WP X XL d 336 [vR 127, vI p] h Q := by
  have kq := hR.1.1
  refine eX10_runsBy (by omega) ?_
  by_cases hc : pA A p 3 < A 0
  · rw [show rnR A p = (rrA A p p, true) from if_pos hc] at hq
    (repeat' (first | (refine r_isOver (by omega) hR hp0 hp1 (fun c => absurd c (by omega)) (fun c => ?_)) | (refine r_runs (by omega) hR hK hp0 hp1 hp0 hp1 rfl (fun h1 hR1 f1 => ?_); have g1 := f1.1.1) | (refine Ex_step ?_; conv => whnf) | (refine ⟨?_, trivial⟩) | (refine (show den _ _ _ _ _ _ _ _ from ?_); conv => whnf) | (refine ⟨fun c => False.elim (by omega), fun c => ?_⟩) | (refine ⟨fun c => ?_, fun c => False.elim (by omega)⟩) | (refine ⟨by (first | assumption | rfl | (exact Nat.le_of_ble_eq_true rfl) | (exact ⟨fun h01 => absurd h01 (by decide), by first | rfl | assumption⟩) | (exact ⟨fun _ => by decide, by first | rfl | assumption⟩) | (exact ⟨by assumption, by omega, by omega⟩) | (unfold inI; omega) | omega), ?_⟩; conv => whnf) | (refine ⟨fun c => ?_, fun c => ?_⟩) | (intro c) | fail))
    exact hq h1 hR1 f1
  · rw [show rnR A p = (A, false) from if_neg hc] at hq
    (repeat' (first | (refine r_isOver (by omega) hR hp0 hp1 (fun c => ?_) (fun c => absurd c hc)) | (refine Ex_step ?_; conv => whnf) | (refine ⟨?_, trivial⟩) | (refine (show den _ _ _ _ _ _ _ _ from ?_); conv => whnf) | (refine ⟨fun c => False.elim (by omega), fun c => ?_⟩) | (refine ⟨fun c => ?_, fun c => False.elim (by omega)⟩) | (refine ⟨by (first | assumption | rfl | (exact Nat.le_of_ble_eq_true rfl) | (exact ⟨fun h01 => absurd h01 (by decide), by first | rfl | assumption⟩) | (exact ⟨fun _ => by decide, by first | rfl | assumption⟩) | (exact ⟨by assumption, by omega, by omega⟩) | (unfold inI; omega) | omega), ?_⟩; conv => whnf) | (refine ⟨fun c => ?_, fun c => ?_⟩) | (intro c) | fail))
    exact hq h (Rr_K hR (by omega) hK) FrA.refl
set_option maxHeartbeats 4000000 in
theorem r_ropesBy {X : Int → Int} {XL : Int} {d : Nat} {h : Mem} {Q : RetP} {K : Int} {A : Int → Int} {p o : Int} (hd : 8 ≤ d) (hR : Rr K h A) (hK : K + 83 ≤ 30000000) (hp0 : 0 ≤ p) (hp1 : p < A 1) (ho0 : 0 ≤ o) (ho1 : o < A 1) (hq : ∀ h', Rr (K + 83) h' (rpR A p o).1 → FrA h h' → Q (some (vI (b01 (rpR A p o).2))) h') : WP X XL d 337 [vR 127, vI p, vI o] h Q := by
  have kq := hR.1.1
  refine eX10_ropesBy (by omega) ?_
  by_cases hc : ¬ p = o ∧ pA A p 3 = pA A o 3 ∧ pA A p 3 < A 0
  · rw [show rpR A p o = (rrA A p o, true) from if_pos hc] at hq
    (repeat' (first | (refine r_canRope (by omega) hR hp0 hp1 ho0 ho1 (fun _ _ _ => ?_) (fun c => absurd c (by omega))) | (refine r_runs (by omega) hR hK hp0 hp1 ho0 ho1 hc.2.1.symm (fun h1 hR1 f1 => ?_); have g1 := f1.1.1) | (refine Ex_step ?_; conv => whnf) | (refine ⟨?_, trivial⟩) | (refine (show den _ _ _ _ _ _ _ _ from ?_); conv => whnf) | (refine ⟨fun c => False.elim (by omega), fun c => ?_⟩) | (refine ⟨fun c => ?_, fun c => False.elim (by omega)⟩) | (refine ⟨by (first | assumption | rfl | (exact Nat.le_of_ble_eq_true rfl) | (exact ⟨fun h01 => absurd h01 (by decide), by first | rfl | assumption⟩) | (exact ⟨fun _ => by decide, by first | rfl | assumption⟩) | (exact ⟨by assumption, by omega, by omega⟩) | (unfold inI; omega) | omega), ?_⟩; conv => whnf) | (refine ⟨fun c => ?_, fun c => ?_⟩) | (intro c) | fail))
    exact hq h1 hR1 f1
  · rw [show rpR A p o = (A, false) from if_neg hc] at hq
    (repeat' (first | (refine r_canRope (by omega) hR hp0 hp1 ho0 ho1 (fun c1 c2 c3 => absurd ⟨c1, c2, c3⟩ hc) (fun c => ?_)) | (refine Ex_step ?_; conv => whnf) | (refine ⟨?_, trivial⟩) | (refine (show den _ _ _ _ _ _ _ _ from ?_); conv => whnf) | (refine ⟨fun c => False.elim (by omega), fun c => ?_⟩) | (refine ⟨fun c => ?_, fun c => False.elim (by omega)⟩) | (refine ⟨by (first | assumption | rfl | (exact Nat.le_of_ble_eq_true rfl) | (exact ⟨fun h01 => absurd h01 (by decide), by first | rfl | assumption⟩) | (exact ⟨fun _ => by decide, by first | rfl | assumption⟩) | (exact ⟨by assumption, by omega, by omega⟩) | (unfold inI; omega) | omega), ?_⟩; conv => whnf) | (refine ⟨fun c => ?_, fun c => ?_⟩) | (intro c) | fail))
    exact hq h (Rr_K hR (by omega) hK) FrA.refl
theorem b01_t : b01 true = 1 := rfl
theorem b01_f : b01 false = 0 := rfl
set_option maxHeartbeats 4000000 in
theorem r_jumpsBy {X : Int → Int} {XL : Int} {d : Nat} {h : Mem} {Q : RetP} {K : Int} {A : Int → Int} {a : Int} (hd : 8 ≤ d) (hR : Rr K h A) (hK : K + 83 ≤ 30000000) (ha0 : 0 ≤ a) (ha1 : a < A 0) (hq : ∀ h', Rr (K + 83) h' (jmR A a).1 → FrA h h' → Q (some (vI (b01 (jmR A a).2))) h') : WP X XL d 271 [vR 127, vI a] h Q := by
  refine r_jumps (by omega) hR ha0 ha1 (fun c => ?_) (fun c h1 hR1 f1 => ?_)
  · rw [show jmR A a = (A, false) from if_neg c] at hq
    exact hq h (Rr_K hR (by omega) hK) FrA.refl
  · rw [show jmR A a = (jmpA A a, true) from if_pos c] at hq
    exact hq h1 (Rr_K hR1 (by omega) hK) f1
set_option maxHeartbeats 4000000 in
theorem r_homesBy {X : Int → Int} {XL : Int} {d : Nat} {h : Mem} {Q : RetP} {K : Int} {A : Int → Int} {p : Int} (hd : 8 ≤ d) (hR : Rr K h A) (hK : K + 83 ≤ 30000000) (hp0 : 0 ≤ p) (hp1 : p < A 1) (hq : ∀ h', Rr (K + 83) h' (hmR A p).1 → FrA h h' → Q (some (vI (b01 (hmR A p).2))) h') : WP X XL d 273 [vR 127, vI p] h Q := by
  refine r_homes (by omega) hR hp0 hp1 (fun c h1 hR1 f1 => ?_) (fun c h1 hR1 f1 => ?_)
  · rw [show hmR A p = (A, false) from if_pos c] at hq
    rw [hom_0 c] at hR1
    exact hq h1 (Rr_K hR1 (by omega) hK) f1
  · rw [show hmR A p = (homA A p, true) from if_neg c] at hq
    exact hq h1 (Rr_K hR1 (by omega) hK) f1
set_option maxHeartbeats 4000000 in
theorem r_fogsTo {X : Int → Int} {XL : Int} {d : Nat} {h : Mem} {Q : RetP} {K : Int} {A : Int → Int} {f : Int} (hd : 8 ≤ d) (hR : Rr K h A) (hK : K + 83 ≤ 30000000) (hf : 0 ≤ f ∧ f ≤ 5) (hq : ∀ h', Rr (K + 83) h' (fgR A f).1 → FrA h h' → Q (some (vI (b01 (fgR A f).2))) h') : WP X XL d 339 [vR 127, vI f] h Q := by
  have hA := hR.2.2
  have hR1 : Rr K (sG h 128 4 f) (fogA A f) := hR.z.put.ok rfl (fog_ok hA hf.1 hf.2)
  have f1 : FrA h (sG h 128 4 f) := FrA.refl.sG (by omega)
  obtain ⟨⟨kq, r0, kt, lt⟩, eA, -⟩ := id hR
  refine eX10_fogsTo (by omega) ?_
  by_cases hc : A 4 = f
  · rw [show fgR A f = (A, false) from if_pos hc] at hq
    rw [show fogA A f = A from pu_id hc] at hR1
    (repeat' (first | (refine Ex_step ?_; conv => whnf) | (refine ⟨?_, trivial⟩) | (refine (show den _ _ _ _ _ _ _ _ from ?_); conv => whnf) | (refine ⟨fun c => False.elim (by omega), fun c => ?_⟩) | (refine ⟨fun c => ?_, fun c => False.elim (by omega)⟩) | (refine ⟨by (first | assumption | rfl | (exact Nat.le_of_ble_eq_true rfl) | (exact ⟨fun h01 => absurd h01 (by decide), by first | rfl | assumption | trivial⟩) | (exact ⟨fun _ => by decide, by first | rfl | assumption | trivial⟩) | (exact ⟨kt, by omega, Int.lt_of_lt_of_le (by omega : _ < (3198 : Int)) (Int.le_of_eq lt.symm)⟩) | (unfold inI; omega) | omega), ?_⟩; conv => whnf; try simp (disch := omega) only [r0, gR_sG, g_same, g_ne, eA]) | (refine ⟨fun c => ?_, fun c => ?_⟩) | (intro c) | fail))
    exact hq _ (Rr_K hR1 (by omega) hK) f1
  · rw [show fgR A f = (fogA A f, true) from if_neg hc] at hq
    (repeat' (first | (refine Ex_step ?_; conv => whnf) | (refine ⟨?_, trivial⟩) | (refine (show den _ _ _ _ _ _ _ _ from ?_); conv => whnf) | (refine ⟨fun c => False.elim (by omega), fun c => ?_⟩) | (refine ⟨fun c => ?_, fun c => False.elim (by omega)⟩) | (refine ⟨by (first | assumption | rfl | (exact Nat.le_of_ble_eq_true rfl) | (exact ⟨fun h01 => absurd h01 (by decide), by first | rfl | assumption | trivial⟩) | (exact ⟨fun _ => by decide, by first | rfl | assumption | trivial⟩) | (exact ⟨kt, by omega, Int.lt_of_lt_of_le (by omega : _ < (3198 : Int)) (Int.le_of_eq lt.symm)⟩) | (unfold inI; omega) | omega), ?_⟩; conv => whnf; try simp (disch := omega) only [r0, gR_sG, g_same, g_ne, eA]) | (refine ⟨fun c => ?_, fun c => ?_⟩) | (intro c) | fail))
    exact hq _ (Rr_K hR1 (by omega) hK) f1
set_option maxHeartbeats 4000000 in
theorem r_daysBy {X : Int → Int} {XL : Int} {d : Nat} {h : Mem} {Q : RetP} {K : Int} {A : Int → Int} {n t : Int} (hd : 8 ≤ d) (hR : Rr K h A) (hK : K + 83 ≤ 30000000) (hX : RK h) (hn : 1 ≤ n ∧ n ≤ 40) (ht : gG h 144 1 = t) (htb : 0 ≤ t ∧ t ≤ 1000000) (hq : ∀ h', Rr (K + 83) h' (dyR A n).1 → FrD h h' → gG h' 127 32 = gG h 127 32 → gG h' 144 1 = t + (if A 6 + n ≤ 9999 then n else 0) → Q (some (vI (b01 (dyR A n).2))) h') : WP X XL d 338 [vR 127, vI n] h Q := by
  have hA := hR.2.2
  have b6 := hA.2.2.2.2.2.2.1
  obtain ⟨⟨kq, r0, kt, lt⟩, eA, -⟩ := id hR
  obtain ⟨⟨x1, xk1, xl1⟩, ⟨x8, xk8, xl8⟩, ⟨x9, xk9, xl9⟩, ⟨x21, xk21, xl21⟩, ⟨x25, xk25, xl25⟩, ⟨x26, xk26, xl26⟩, ⟨x27, xk27, xl27⟩, ⟨x28, xk28, xl28⟩, ⟨x29, xk29, xl29⟩, ⟨x30, xk30, xl30⟩, ⟨x31, xk31, xl31⟩, ⟨x34, xk34, xl34⟩, ⟨x35, xk35, xl35⟩, ⟨x36, xk36, xl36⟩⟩ := id hX
  refine eX10_daysBy (by omega) ?_
  by_cases hc : A 6 + n ≤ 9999
  · rw [show dyR A n = (dayA A n, true) from if_pos hc, if_pos hc] at hq
    have ed : dyN A n = dayA A n := if_neg (by omega)
    (repeat' (first | (rw [y35]) | (rw [et]) | (refine r_daysGo (by omega) hR (by omega) (by omega) (by omega) (fun h1 hR1 f1 => ?_); have kq1 := hR1.1.1; have g1 : h1.1 = h.1 := f1.1.1; have y35 := (gR_fr f1.1 127 35).trans x35; have yk := (kd_fr f1.1 144).trans xk35; have yl := (ln_fr f1.1 144).trans xl35; have et := (f1.1.2.2 144 (by omega) 1).trans ht) | (refine ⟨⟨yk, by omega, Int.lt_of_lt_of_le (by omega : _ < (5 : Int)) (Int.le_of_eq yl.symm)⟩, ?_⟩; conv => whnf) | (refine Ex_step ?_; conv => whnf) | (refine ⟨?_, trivial⟩) | (refine (show den _ _ _ _ _ _ _ _ from ?_); conv => whnf) | (refine ⟨fun c => False.elim (by omega), fun c => ?_⟩) | (refine ⟨fun c => ?_, fun c => False.elim (by omega)⟩) | (refine ⟨by (first | assumption | rfl | (exact Nat.le_of_ble_eq_true rfl) | (exact ⟨fun h01 => absurd h01 (by decide), by first | rfl | assumption | trivial⟩) | (exact ⟨fun _ => by decide, by first | rfl | assumption | trivial⟩) | (exact ⟨kt, by omega, Int.lt_of_lt_of_le (by omega : _ < (3198 : Int)) (Int.le_of_eq lt.symm)⟩) | (unfold inI; omega) | omega), ?_⟩; conv => whnf; try simp (disch := omega) only [r0, gR_sG, g_same, g_ne, eA]) | (refine ⟨fun c => ?_, fun c => ?_⟩) | (intro c) | fail))
    rw [ed] at hR1
    refine hq _ (Rr_K (hR1.o (by omega)) (by omega) hK) ⟨f1.1.1, f1.1.2.1, fun r i h0 h1 h2 => ?_⟩ ?_ g_same
    · rw [gG_sG, if_neg h2]; exact f1.D.2.2 r i h0 h1 h2
    · rw [gG_sG, if_neg (by omega)]; exact f1.1.2.2 127 (by omega) 32
  · rw [show dyR A n = (A, false) from if_neg hc, if_neg hc] at hq
    (repeat' (first | (refine Ex_step ?_; conv => whnf) | (refine ⟨?_, trivial⟩) | (refine (show den _ _ _ _ _ _ _ _ from ?_); conv => whnf) | (refine ⟨fun c => False.elim (by omega), fun c => ?_⟩) | (refine ⟨fun c => ?_, fun c => False.elim (by omega)⟩) | (refine ⟨by (first | assumption | rfl | (exact Nat.le_of_ble_eq_true rfl) | (exact ⟨fun h01 => absurd h01 (by decide), by first | rfl | assumption | trivial⟩) | (exact ⟨fun _ => by decide, by first | rfl | assumption | trivial⟩) | (exact ⟨kt, by omega, Int.lt_of_lt_of_le (by omega : _ < (3198 : Int)) (Int.le_of_eq lt.symm)⟩) | (unfold inI; omega) | omega), ?_⟩; conv => whnf; try simp (disch := omega) only [r0, gR_sG, g_same, g_ne, eA]) | (refine ⟨fun c => ?_, fun c => ?_⟩) | (intro c) | fail))
    exact hq h (Rr_K hR (by omega) hK) FrD.refl rfl (by omega)
