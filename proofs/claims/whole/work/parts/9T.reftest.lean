/-! LEVEL 2: texts: steps of decades, the reference -/
set_option maxHeartbeats 4000000 in
theorem q_pers {X : Int → Int} {XL : Int} {d : Nat} {h : Mem} {Q : RetP} {P A Nm : Int → Int} {n e to : Int} {β : Type} {f : Int × Int → (Int × Int) ⊕ β} {r : (Int × Int) ⊕ β} (hd : 8 ≤ d) (hA : Aq h P n e) (hX : RA h) (hY : RM h) (e1 : gG h 128 1 = A 1) (hm : 0 ≤ A 1 ∧ A 1 ≤ 6) (hT : ∀ i, 0 ≤ i → i < A 1 → nmP (Nm i) (gG h 129 i)) (hto : 1832 ≤ to ∧ to < 2290) (hr : bd (pName P n e (A 1) Nm) f = r) (hq0 : ∀ x h', r = .inl x → FRf h h' x → Q (some (vI 0)) h') (hq1 : ∀ p e' h', 0 ≤ p → p < A 1 → f (p, e') = r → Aq h' P n e' → Fq (sG h 128 to p) h' → Q (some (vI 1)) h') : WP X XL d 238 [vR 127, vI to] h Q := by
  have kq := hA.1.1.1
  obtain ⟨x0, xk, xl⟩ := id hX
  unfold pName at hr
  refine eX10_personTo (by omega) ?_
  by_cases c25 : tC P n e = 25
  · rw [if_neg (fun q => q c25)] at hr
    have hw := tW_ok hA.2.1.2 c25
    have nt : nmI (A 1) (fun i => gG h 129 (0 + i)) (c256 (tW P n e)) = nmI (A 1) Nm (c32 (tW P n e)) := nmI_t (fun i i0 i1 => by rw [show (0 : Int) + i = i by omega]; exact hT i i0 i1) hw
    by_cases cn : nmI (A 1) Nm (c32 (tW P n e)) = -1
    · rw [if_pos cn] at hr
      rw [cn] at nt
      have hA2 : Aq (sG h 128 to (-1)) P n e := hA.a
      have u1 : gG (sG h 128 to (-1)) 128 to = -1 := g_same
      have s1 : FR h (sG h 128 to (-1)) := FR.refl.s (Or.inr (Or.inl ⟨rfl, hto⟩))
      (repeat' (first | (refine r_isName (by omega) hA (fun _ => ?_) (fun q => absurd c25 q)) | (rw [gR_sG]) | (rw [x0]) | (rw [e1]) | (refine r_findHere (by omega) hA c25 hY (by omega) (by omega) ?_) | (rw [nt]) | (rw [u1]) | (refine ⟨⟨xk, by omega, Int.lt_of_lt_of_le (by omega : _ < (3198 : Int)) (Int.le_of_eq xl.symm)⟩, ?_⟩; conv => whnf) | (refine Ex_step ?_; conv => whnf) | (refine ⟨?_, trivial⟩) | (refine (show den _ _ _ _ _ _ _ _ from ?_); conv => whnf) | (refine ⟨fun c => False.elim (by omega), fun c => ?_⟩) | (refine ⟨fun c => ?_, fun c => False.elim (by omega)⟩) | (refine ⟨by (first | assumption | rfl | (exact Nat.le_of_ble_eq_true rfl) | (exact ⟨fun h01 => absurd h01 (by decide), by first | rfl | assumption⟩) | (exact ⟨fun _ => by decide, by first | rfl | assumption⟩) | (exact ⟨by assumption, by omega, by omega⟩) | (unfold inI; omega) | omega), ?_⟩; conv => whnf) | (refine ⟨fun c => ?_, fun c => ?_⟩) | fail))
      refine q_fails (by omega) hA2 (by omega) hr (fun x h1 er ff => ?_)
      have q := hq0 x h1 er (s1.f ff)
      have g1 : h1.1 = h.1 := ff.1
      (repeat' (first | (exact q) | (refine Ex_step ?_; conv => whnf) | (refine ⟨?_, trivial⟩) | (refine (show den _ _ _ _ _ _ _ _ from ?_); conv => whnf) | (refine ⟨fun c => False.elim (by omega), fun c => ?_⟩) | (refine ⟨fun c => ?_, fun c => False.elim (by omega)⟩) | (refine ⟨by (first | assumption | rfl | (exact Nat.le_of_ble_eq_true rfl) | (exact ⟨fun h01 => absurd h01 (by decide), by first | rfl | assumption⟩) | (exact ⟨fun _ => by decide, by first | rfl | assumption⟩) | (exact ⟨by assumption, by omega, by omega⟩) | (unfold inI; omega) | omega), ?_⟩; conv => whnf) | (refine ⟨fun c => ?_, fun c => ?_⟩) | (intro c) | fail))
    · rw [if_neg cn] at hr
      have nb := nmI_b hm.1 cn
      have hA2 : Aq (sG h 128 to (nmI (A 1) Nm (c32 (tW P n e)))) P n e := hA.a
      have u1 : gG (sG h 128 to (nmI (A 1) Nm (c32 (tW P n e)))) 128 to = nmI (A 1) Nm (c32 (tW P n e)) := g_same
      (repeat' (first | (refine r_isName (by omega) hA (fun _ => ?_) (fun q => absurd c25 q)) | (rw [gR_sG]) | (rw [x0]) | (rw [e1]) | (refine r_findHere (by omega) hA c25 hY (by omega) (by omega) ?_) | (rw [nt]) | (rw [u1]) | (refine ⟨⟨xk, by omega, Int.lt_of_lt_of_le (by omega : _ < (3198 : Int)) (Int.le_of_eq xl.symm)⟩, ?_⟩; conv => whnf) | (refine Ex_step ?_; conv => whnf) | (refine ⟨?_, trivial⟩) | (refine (show den _ _ _ _ _ _ _ _ from ?_); conv => whnf) | (refine ⟨fun c => False.elim (by omega), fun c => ?_⟩) | (refine ⟨fun c => ?_, fun c => False.elim (by omega)⟩) | (refine ⟨by (first | assumption | rfl | (exact Nat.le_of_ble_eq_true rfl) | (exact ⟨fun h01 => absurd h01 (by decide), by first | rfl | assumption⟩) | (exact ⟨fun _ => by decide, by first | rfl | assumption⟩) | (exact ⟨by assumption, by omega, by omega⟩) | (unfold inI; omega) | omega), ?_⟩; conv => whnf) | (refine ⟨fun c => ?_, fun c => ?_⟩) | fail))
      refine q_ahead (by omega) hA2 (fun h1 hA1 f1 => ?_)
      have q := hq1 _ _ h1 nb.1 nb.2 hr hA1 f1
      have g1 : h1.1 = h.1 := f1.1
      (repeat' (first | (exact q) | (refine Ex_step ?_; conv => whnf) | (refine ⟨?_, trivial⟩) | (refine (show den _ _ _ _ _ _ _ _ from ?_); conv => whnf) | (refine ⟨fun c => False.elim (by omega), fun c => ?_⟩) | (refine ⟨fun c => ?_, fun c => False.elim (by omega)⟩) | (refine ⟨by (first | assumption | rfl | (exact Nat.le_of_ble_eq_true rfl) | (exact ⟨fun h01 => absurd h01 (by decide), by first | rfl | assumption⟩) | (exact ⟨fun _ => by decide, by first | rfl | assumption⟩) | (exact ⟨by assumption, by omega, by omega⟩) | (unfold inI; omega) | omega), ?_⟩; conv => whnf) | (refine ⟨fun c => ?_, fun c => ?_⟩) | (intro c) | fail))
  · rw [if_pos c25] at hr
    (repeat' (first | (refine r_isName (by omega) hA (fun q => absurd q c25) (fun _ => ?_)) | (refine Ex_step ?_; conv => whnf) | (refine ⟨?_, trivial⟩) | (refine (show den _ _ _ _ _ _ _ _ from ?_); conv => whnf) | (refine ⟨fun c => False.elim (by omega), fun c => ?_⟩) | (refine ⟨fun c => ?_, fun c => False.elim (by omega)⟩) | (refine ⟨by (first | assumption | rfl | (exact Nat.le_of_ble_eq_true rfl) | (exact ⟨fun h01 => absurd h01 (by decide), by first | rfl | assumption⟩) | (exact ⟨fun _ => by decide, by first | rfl | assumption⟩) | (exact ⟨by assumption, by omega, by omega⟩) | (unfold inI; omega) | omega), ?_⟩; conv => whnf) | (refine ⟨fun c => ?_, fun c => ?_⟩) | fail))
    refine q_fails (by omega) hA (by omega) hr (fun x h1 er ff => ?_)
    have q := hq0 x h1 er ff
    have g1 := ff.1
    (repeat' (first | (exact q) | (refine Ex_step ?_; conv => whnf) | (refine ⟨?_, trivial⟩) | (refine (show den _ _ _ _ _ _ _ _ from ?_); conv => whnf) | (refine ⟨fun c => False.elim (by omega), fun c => ?_⟩) | (refine ⟨fun c => ?_, fun c => False.elim (by omega)⟩) | (refine ⟨by (first | assumption | rfl | (exact Nat.le_of_ble_eq_true rfl) | (exact ⟨fun h01 => absurd h01 (by decide), by first | rfl | assumption⟩) | (exact ⟨fun _ => by decide, by first | rfl | assumption⟩) | (exact ⟨by assumption, by omega, by omega⟩) | (unfold inI; omega) | omega), ?_⟩; conv => whnf) | (refine ⟨fun c => ?_, fun c => ?_⟩) | (intro c) | fail))
set_option maxHeartbeats 4000000 in
theorem q_arch {X : Int → Int} {XL : Int} {d : Nat} {h : Mem} {Q : RetP} {P A : Int → Int} {n e to : Int} {β : Type} {f : Int × Int → (Int × Int) ⊕ β} {r : (Int × Int) ⊕ β} (hd : 4 ≤ d) (hA : Aq h P n e) (hX : RA h) (e0 : gG h 128 0 = A 0) (h0 : 0 ≤ A 0 ∧ A 0 ≤ 9) (hto : 1832 ≤ to ∧ to < 2290) (hr : bd (pNum P n e 0 (A 0 - 1)) f = r) (hq0 : ∀ x h', r = .inl x → FRf h h' x → Q (some (vI 0)) h') (hq1 : ∀ m e' h', 0 ≤ m → m ≤ A 0 - 1 → f (m, e') = r → Aq h' P n e' → Fq (sG h 128 to m) h' → Q (some (vI 1)) h') : WP X XL d 239 [vR 127, vI to] h Q := by
  have kq := hA.1.1.1
  obtain ⟨x0, xk, xl⟩ := id hX
  have go : ∀ (d' : Nat) (Q' : RetP), 3 ≤ d' → (∀ h' b, h'.1 = h.1 → (b = 0 ∨ b = 1) → Q (some (vI b)) h' → Q' (some (vI b)) h') → WP X XL d' 221 [vR 127, vI to, vI 0, vI (A 0 - 1)] h Q' := fun d' Q' x y => q_num x hA hX (by omega) hr (fun x h1 er ff => y h1 0 ff.1 (Or.inl rfl) (hq0 x h1 er ff)) (fun m e1 h1 m0 _ m1 er hA1 f1 => y h1 1 f1.1 (Or.inr rfl) (hq1 m e1 h1 m0 m1 er hA1 f1))
  refine eX10_archTo (by omega) ?_
  (repeat' (first | (exact q') | (rw [x0]) | (rw [e0]) | (refine ⟨⟨xk, by omega, Int.lt_of_lt_of_le (by omega : _ < (3198 : Int)) (Int.le_of_eq xl.symm)⟩, ?_⟩; conv => whnf) | (refine go _ _ (by omega) (fun h' b g' hb' q' => ?_)) | (refine ⟨⟨fun _ => hb', g'⟩, ?_⟩) | (refine Ex_step ?_; conv => whnf) | (refine ⟨?_, trivial⟩) | (refine (show den _ _ _ _ _ _ _ _ from ?_); conv => whnf) | (refine ⟨fun c => False.elim (by omega), fun c => ?_⟩) | (refine ⟨fun c => ?_, fun c => False.elim (by omega)⟩) | (refine ⟨by (first | assumption | rfl | (exact Nat.le_of_ble_eq_true rfl) | (exact ⟨fun h01 => absurd h01 (by decide), by first | rfl | assumption⟩) | (exact ⟨fun _ => by decide, by first | rfl | assumption⟩) | (exact ⟨by assumption, by omega, by omega⟩) | (unfold inI; omega) | omega), ?_⟩; conv => whnf) | (refine ⟨fun c => ?_, fun c => ?_⟩) | (intro c) | fail))
/-- a row was read: what it holds, nothing else of the array has changed -/
def RwR (h h' : Mem) (r0 : Int) (rw : Int → Int) : Prop := (∀ j, 0 ≤ j → j ≤ 5 → gG h' 128 (r0 + j) = rw j) ∧ (∀ i, ¬ (r0 ≤ i ∧ i ≤ r0 + 5) → gG h' 128 i = gG h 128 i) ∧ FA h h'
theorem rwQ_f {w f s g x y z u a b : Int} (h0 : x = w) (h1 : y = f) (h2 : z = s) (h3 : a = 0) (h4 : b = 0) (h5 : u = g) {F : Int → Int} (e0 : F 0 = x) (e1 : F 1 = y) (e2 : F 2 = z) (e3 : F 3 = a) (e4 : F 4 = b) (e5 : F 5 = u) : ∀ j, 0 ≤ j → j ≤ 5 → F j = rwQ w f s g j := by
  intro j j0 j1
  obtain ⟨r0, r1, r2, r3, r4, r5⟩ := rwQ_v (w := w) (f := f) (s := s) (g := g)
  rcases (show j = 0 ∨ j = 1 ∨ j = 2 ∨ j = 3 ∨ j = 4 ∨ j = 5 by omega) with e | e | e | e | e | e
  · rw [e, r0, e0, h0]
  · rw [e, r1, e1, h1]
  · rw [e, r2, e2, h2]
  · rw [e, r3, e3, h3]
  · rw [e, r4, e4, h4]
  · rw [e, r5, e5, h5]
set_option maxHeartbeats 4000000 in
theorem q_test {X : Int → Int} {XL : Int} {d : Nat} {h : Mem} {Q : RetP} {P A Nm : Int → Int} {n e r0 : Int} {β : Type} {f : (Int → Int) × Int → (Int × Int) ⊕ β} {r : (Int × Int) ⊕ β} (hd : 10 ≤ d) (hA : Aq h P n e) (hX : RA h) (hY : RM h) (e0 : gG h 128 0 = A 0) (h0 : 0 ≤ A 0 ∧ A 0 ≤ 9) (e1 : gG h 128 1 = A 1) (hm : 0 ≤ A 1 ∧ A 1 ≤ 6) (hT : ∀ i, 0 ≤ i → i < A 1 → nmP (Nm i) (gG h 129 i)) (hr0 : 1922 ≤ r0 ∧ r0 + 5 < 2290) (hz : ∀ j, 1 ≤ j → j ≤ 5 → gG h 128 (r0 + j) = 0) (hr : bd (dTest P n e A Nm) f = r) (hq0 : ∀ x h', r = .inl x → FRf h h' x → Q (some (vI 0)) h') (hq1 : ∀ rw e' h', f (rw, e') = r → Aq h' P n e' → RwR h h' r0 rw → Q (some (vI 1)) h') : WP X XL d 240 [vR 127, vI r0] h Q := by
  have kq := hA.1.1.1
  obtain ⟨x0, xk, xl⟩ := id hX
  have tb := tC_b (P := P) (n := n) (e := e)
  have ie := iw_e (P := P) (n := n) (e := e)
  obtain ⟨-, -, -, -, w11, w5, -, -, -, -, -, -, -, w21⟩ := wR_v
  have i5 := wQ_i (j := 5) tb.1 (by omega)
  have i11 := wQ_i (j := 11) tb.1 (by omega)
  have i21 := wQ_i (j := 21) tb.1 (by omega)
  rw [w5, ← ie] at i5
  rw [w11, ← ie] at i11
  rw [w21, ← ie] at i21
  unfold dTest at hr
  refine eX10_test (by omega) ?_
  by_cases ct : tC P n e = 21 ∨ tC P n e = 11 ∨ tC P n e = 5
  · rw [if_neg (fun q => q ct), bd_bd] at hr
    have hA0 : Aq (sG h 128 r0 (2000 + iw P n e)) P n e := hA.a
    have tail : ∀ (p e2 : Int) (h2 : Mem), ¬ tC P n e = 21 → Aq h2 P n e2 → FA h h2 → gG h2 128 r0 = 2000 + iw P n e → gG h2 128 (r0 + 1) = p → (∀ i, ¬ i = r0 → ¬ i = r0 + 1 → gG h2 128 i = gG h 128 i) → bd (if tC P n e = 21 then .inr (rwQ 2024 p 0 0, e2) else if ¬ (29 ≤ tC P n e2 ∧ tC P n e2 ≤ 31) then .inl (fltK P n e2 2, tF P n e2) else bd (pNum P n (tE P n e2) 0 9) (fun u => .inr (rwQ (2000 + wR (tC P n e)) p u.1 (sgV (tC P n e2)), u.2))) f = r → Ex (WP X XL (d - 1)) KX10_test h.1 Q 90 [some (vR 127), some (vI r0), some (vI (iw P n e)), some (vI 1)] [] h2 := by
      intro p e2 h2 c21 hA2 a2 m0 m1 m2 hr2
      rw [if_neg c21] at hr2
      have kq2 := hA2.1.1.1
      obtain ⟨y0, yk, yl⟩ := hX.z a2.1 a2.2.1
      have g2 := a2.1
      by_cases c29 : 29 ≤ tC P n e2 ∧ tC P n e2 ≤ 31
      · rw [if_neg (fun q => q c29), bd_bd] at hr2
        have e15 := hA2.2.2.2.2.2.2.2 (by omega) c29.2
        have hA3 : Aq (sG h2 128 (r0 + 5) (sgV (tC P n e2))) P n e2 := hA2.a
        have nx : Ex (WP X XL (d - 1)) KX10_test h.1 Q 123 [some (vR 127), some (vI r0), some (vI (iw P n e)), some (vI 1)] [] h2 := by
          (repeat' (first | (rw [y0]) | (rw [e15]) | (refine ⟨⟨yk, by omega, Int.lt_of_lt_of_le (by omega : _ < (3198 : Int)) (Int.le_of_eq yl.symm)⟩, ?_⟩; conv => whnf) | (refine Ex_step ?_; conv => whnf) | (refine ⟨?_, trivial⟩) | (refine (show den _ _ _ _ _ _ _ _ from ?_); conv => whnf) | (refine ⟨fun c => False.elim (by omega), fun c => ?_⟩) | (refine ⟨fun c => ?_, fun c => False.elim (by omega)⟩) | (refine ⟨by (first | assumption | rfl | (exact Nat.le_of_ble_eq_true rfl) | (exact ⟨fun h01 => absurd h01 (by decide), by first | rfl | assumption⟩) | (exact ⟨fun _ => by decide, by first | rfl | assumption⟩) | (exact ⟨by assumption, by omega, by omega⟩) | (unfold inI; omega) | omega), ?_⟩; conv => whnf) | (refine ⟨fun c => ?_, fun c => ?_⟩) | fail))
          refine q_ahead (by omega) hA3 (fun h4 hA4 f4 => ?_)
          have a4 := a2.trans (f4.Aw (by omega))
          have kq4 := hA4.1.1.1
          have go : ∀ (d' : Nat) (Q' : RetP), 3 ≤ d' → (∀ h' b, h'.1 = h.1 → (b = 0 ∨ b = 1) → Q (some (vI b)) h' → Q' (some (vI b)) h') → WP X XL d' 221 [vR 127, vI (r0 + 2), vI 0, vI 9] h4 Q' := fun d' Q' x y => by
            refine q_num x hA4 (hX.z a4.1 a4.2.1) (by omega) hr2 (fun x h5 er ff => y h5 0 (ff.1.trans a4.1) (Or.inl rfl) (hq0 x h5 er (a4.R.f ff))) (fun m e5 h5 m0' _ m1' er hA5 f5 => y h5 1 (f5.1.trans a4.1) (Or.inr rfl) (hq1 _ e5 h5 er hA5 ⟨?_, fun i q => ?_, a4.trans (f5.Aw (by omega))⟩))
            · have s5 := f5.g
              have s4 := f4.g
              have ew : iw P n e = wR (tC P n e) := by
                rcases (show tC P n e = 11 ∨ tC P n e = 5 by omega) with q | q
                · rw [i11.mpr q, q, w11]
                · rw [i5.mpr q, q, w5]
              refine rwQ_f (x := 2000 + iw P n e) (y := p) (z := m) (a := 0) (b := 0) (u := sgV (tC P n e2)) (by rw [ew]) rfl rfl rfl rfl rfl ?_ ?_ ?_ ?_ ?_ ?_
              · show gG h5 128 (r0 + 0) = _
                rw [show r0 + 0 = r0 by omega, s5, if_neg (by omega), s4, if_neg (by omega)]; exact m0
              · show gG h5 128 (r0 + 1) = _
                rw [s5, if_neg (by omega), s4, if_neg (by omega)]; exact m1
              · show gG h5 128 (r0 + 2) = _
                rw [s5, if_pos rfl]
              · show gG h5 128 (r0 + 3) = _
                rw [s5, if_neg (by omega), s4, if_neg (by omega), m2 _ (by omega) (by omega)]; exact hz 3 (by omega) (by omega)
              · show gG h5 128 (r0 + 4) = _
                rw [s5, if_neg (by omega), s4, if_neg (by omega), m2 _ (by omega) (by omega)]; exact hz 4 (by omega) (by omega)
              · show gG h5 128 (r0 + 5) = _
                rw [s5, if_neg (by omega), s4, if_pos rfl]
            · rw [f5.g, if_neg (by omega), f4.g, if_neg (by omega)]
              exact m2 i (by omega) (by omega)
          (repeat' (first | (exact q') | (refine go _ _ (by omega) (fun h' b g' hb' q' => ?_)) | (refine ⟨⟨fun _ => hb', g'⟩, ?_⟩) | (refine Ex_step ?_; conv => whnf) | (refine ⟨?_, trivial⟩) | (refine (show den _ _ _ _ _ _ _ _ from ?_); conv => whnf) | (refine ⟨fun c => False.elim (by omega), fun c => ?_⟩) | (refine ⟨fun c => ?_, fun c => False.elim (by omega)⟩) | (refine ⟨by (first | assumption | rfl | (exact Nat.le_of_ble_eq_true rfl) | (exact ⟨fun h01 => absurd h01 (by decide), by first | rfl | assumption⟩) | (exact ⟨fun _ => by decide, by first | rfl | assumption⟩) | (exact ⟨by assumption, by omega, by omega⟩) | (unfold inI; omega) | omega), ?_⟩; conv => whnf) | (refine ⟨fun c => ?_, fun c => ?_⟩) | (intro c) | fail))
        (repeat' (first | (exact nx) | (refine r_isSign (w := 29) (by omega) hA2 (by omega) (by decide) (fun c => ?_) (fun c => ?_)) | (refine r_isSign (w := 30) (by omega) hA2 (by omega) (by decide) (fun c => ?_) (fun c => ?_)) | (refine r_isSign (w := 31) (by omega) hA2 (by omega) (by decide) (fun c => ?_) (fun c => False.elim (by omega))) | (refine Ex_step ?_; conv => whnf) | (refine ⟨?_, trivial⟩) | (refine (show den _ _ _ _ _ _ _ _ from ?_); conv => whnf) | (refine ⟨fun c => False.elim (by omega), fun c => ?_⟩) | (refine ⟨fun c => ?_, fun c => False.elim (by omega)⟩) | (refine ⟨by (first | assumption | rfl | (exact Nat.le_of_ble_eq_true rfl) | (exact ⟨fun h01 => absurd h01 (by decide), by first | rfl | assumption⟩) | (exact ⟨fun _ => by decide, by first | rfl | assumption⟩) | (exact ⟨by assumption, by omega, by omega⟩) | (unfold inI; omega) | omega), ?_⟩; conv => whnf) | (refine ⟨fun c => ?_, fun c => ?_⟩) | (intro c) | fail))
      · rw [if_pos c29] at hr2
        (repeat' (first | (refine r_isSign (w := 29) (by omega) hA2 (by omega) (by decide) (fun c => False.elim (by omega)) (fun c => ?_)) | (refine r_isSign (w := 30) (by omega) hA2 (by omega) (by decide) (fun c => False.elim (by omega)) (fun c => ?_)) | (refine r_isSign (w := 31) (by omega) hA2 (by omega) (by decide) (fun c => False.elim (by omega)) (fun c => ?_)) | (refine Ex_step ?_; conv => whnf) | (refine ⟨?_, trivial⟩) | (refine (show den _ _ _ _ _ _ _ _ from ?_); conv => whnf) | (refine ⟨fun c => False.elim (by omega), fun c => ?_⟩) | (refine ⟨fun c => ?_, fun c => False.elim (by omega)⟩) | (refine ⟨by (first | assumption | rfl | (exact Nat.le_of_ble_eq_true rfl) | (exact ⟨fun h01 => absurd h01 (by decide), by first | rfl | assumption⟩) | (exact ⟨fun _ => by decide, by first | rfl | assumption⟩) | (exact ⟨by assumption, by omega, by omega⟩) | (unfold inI; omega) | omega), ?_⟩; conv => whnf) | (refine ⟨fun c => ?_, fun c => ?_⟩) | fail))
        refine q_fails (by omega) hA2 (by omega) hr2 (fun x h3 er ff => ?_)
        have q := hq0 x h3 er (a2.R.f ff)
        have g3 := ff.1.trans a2.1
        (repeat' (first | (exact q) | (refine Ex_step ?_; conv => whnf) | (refine ⟨?_, trivial⟩) | (refine (show den _ _ _ _ _ _ _ _ from ?_); conv => whnf) | (refine ⟨fun c => False.elim (by omega), fun c => ?_⟩) | (refine ⟨fun c => ?_, fun c => False.elim (by omega)⟩) | (refine ⟨by (first | assumption | rfl | (exact Nat.le_of_ble_eq_true rfl) | (exact ⟨fun h01 => absurd h01 (by decide), by first | rfl | assumption⟩) | (exact ⟨fun _ => by decide, by first | rfl | assumption⟩) | (exact ⟨by assumption, by omega, by omega⟩) | (unfold inI; omega) | omega), ?_⟩; conv => whnf) | (refine ⟨fun c => ?_, fun c => ?_⟩) | (intro c) | fail))
    by_cases c21 : tC P n e = 21
    · have ik : iw P n e = 24 := i21.mpr c21
      rw [if_neg (by omega)] at hr
      (repeat' (first | (refine r_inWords (by omega) hA ?_) | (rw [x0]) | (refine ⟨⟨xk, by omega, Int.lt_of_lt_of_le (by omega : _ < (3198 : Int)) (Int.le_of_eq xl.symm)⟩, ?_⟩; conv => whnf) | (refine Ex_step ?_; conv => whnf) | (refine ⟨?_, trivial⟩) | (refine (show den _ _ _ _ _ _ _ _ from ?_); conv => whnf) | (refine ⟨fun c => False.elim (by omega), fun c => ?_⟩) | (refine ⟨fun c => ?_, fun c => False.elim (by omega)⟩) | (refine ⟨by (first | assumption | rfl | (exact Nat.le_of_ble_eq_true rfl) | (exact ⟨fun h01 => absurd h01 (by decide), by first | rfl | assumption⟩) | (exact ⟨fun _ => by decide, by first | rfl | assumption⟩) | (exact ⟨by assumption, by omega, by omega⟩) | (unfold inI; omega) | omega), ?_⟩; conv => whnf) | (refine ⟨fun c => ?_, fun c => ?_⟩) | fail))
      refine q_ahead (by omega) hA0 (fun h1 hA1 f1 => ?_)
      have a1 := f1.Aw (by omega)
      have kq1 := hA1.1.1.1
      have go : ∀ (d' : Nat) (Q' : RetP), 8 ≤ d' → (∀ h' b, h'.1 = h.1 → (b = 0 ∨ b = 1) → Q (some (vI b)) h' → Q' (some (vI b)) h') → WP X XL d' 238 [vR 127, vI (r0 + 1)] h1 Q' := fun d' Q' x y => by
        refine q_pers x hA1 (hX.z a1.1 a1.2.1) (hY.z a1.1 a1.2.1) (by rw [f1.g, if_neg (by omega)]; exact e1) hm (fun i i0 i1 => by rw [a1.nm]; exact hT i i0 i1) (by omega) hr (fun x h5 er ff => y h5 0 (ff.1.trans a1.1) (Or.inl rfl) (hq0 x h5 er (a1.R.f ff))) (fun p e5 h5 p0 p1 er hA5 f5 => ?_)
        have er2 : bd (if tC P n e = 21 then .inr (rwQ 2024 p 0 0, e5) else if ¬ (29 ≤ tC P n e5 ∧ tC P n e5 ≤ 31) then .inl (fltK P n e5 2, tF P n e5) else bd (pNum P n (tE P n e5) 0 9) (fun u => .inr (rwQ (2000 + wR (tC P n e)) p u.1 (sgV (tC P n e5)), u.2))) f = r := er
        rw [if_pos c21] at er2
        have s5 := f5.g
        have s1 := f1.g
        refine y h5 1 (f5.1.trans a1.1) (Or.inr rfl) (hq1 _ e5 h5 er2 hA5 ⟨?_, fun i q => ?_, a1.trans (f5.Aw (by omega))⟩)
        · refine rwQ_f (x := 2000 + iw P n e) (y := p) (z := 0) (a := 0) (b := 0) (u := 0) (by rw [ik]; rfl) rfl rfl rfl rfl rfl ?_ ?_ ?_ ?_ ?_ ?_
          · show gG h5 128 (r0 + 0) = _
            rw [show r0 + 0 = r0 by omega, s5, if_neg (by omega), s1, if_pos rfl]
          · show gG h5 128 (r0 + 1) = _
            rw [s5, if_pos rfl]
          · show gG h5 128 (r0 + 2) = _
            rw [s5, if_neg (by omega), s1, if_neg (by omega)]; exact hz 2 (by omega) (by omega)
          · show gG h5 128 (r0 + 3) = _
            rw [s5, if_neg (by omega), s1, if_neg (by omega)]; exact hz 3 (by omega) (by omega)
          · show gG h5 128 (r0 + 4) = _
            rw [s5, if_neg (by omega), s1, if_neg (by omega)]; exact hz 4 (by omega) (by omega)
          · show gG h5 128 (r0 + 5) = _
            rw [s5, if_neg (by omega), s1, if_neg (by omega)]; exact hz 5 (by omega) (by omega)
        · rw [s5, if_neg (by omega), s1, if_neg (by omega)]
      (repeat' (first | (exact q') | (refine go _ _ (by omega) (fun h' b g' hb' q' => ?_)) | (refine ⟨⟨fun _ => hb', g'⟩, ?_⟩) | (refine Ex_step ?_; conv => whnf) | (refine ⟨?_, trivial⟩) | (refine (show den _ _ _ _ _ _ _ _ from ?_); conv => whnf) | (refine ⟨fun c => False.elim (by omega), fun c => ?_⟩) | (refine ⟨fun c => ?_, fun c => False.elim (by omega)⟩) | (refine ⟨by (first | assumption | rfl | (exact Nat.le_of_ble_eq_true rfl) | (exact ⟨fun h01 => absurd h01 (by decide), by first | rfl | assumption⟩) | (exact ⟨fun _ => by decide, by first | rfl | assumption⟩) | (exact ⟨by assumption, by omega, by omega⟩) | (unfold inI; omega) | omega), ?_⟩; conv => whnf) | (refine ⟨fun c => ?_, fun c => ?_⟩) | (intro c) | fail))
    · by_cases c5 : tC P n e = 5
      · have ik : iw P n e = 7 := i5.mpr c5
        rw [if_pos c5] at hr
        (repeat' (first | (refine r_inWords (by omega) hA ?_) | (rw [x0]) | (refine ⟨⟨xk, by omega, Int.lt_of_lt_of_le (by omega : _ < (3198 : Int)) (Int.le_of_eq xl.symm)⟩, ?_⟩; conv => whnf) | (refine Ex_step ?_; conv => whnf) | (refine ⟨?_, trivial⟩) | (refine (show den _ _ _ _ _ _ _ _ from ?_); conv => whnf) | (refine ⟨fun c => False.elim (by omega), fun c => ?_⟩) | (refine ⟨fun c => ?_, fun c => False.elim (by omega)⟩) | (refine ⟨by (first | assumption | rfl | (exact Nat.le_of_ble_eq_true rfl) | (exact ⟨fun h01 => absurd h01 (by decide), by first | rfl | assumption⟩) | (exact ⟨fun _ => by decide, by first | rfl | assumption⟩) | (exact ⟨by assumption, by omega, by omega⟩) | (unfold inI; omega) | omega), ?_⟩; conv => whnf) | (refine ⟨fun c => ?_, fun c => ?_⟩) | fail))
        refine q_ahead (by omega) hA0 (fun h1 hA1 f1 => ?_)
        have a1 := f1.Aw (by omega)
        have kq1 := hA1.1.1.1
        (repeat' (first | (refine Ex_step ?_; conv => whnf) | (refine ⟨?_, trivial⟩) | (refine (show den _ _ _ _ _ _ _ _ from ?_); conv => whnf) | (refine ⟨fun c => False.elim (by omega), fun c => ?_⟩) | (refine ⟨fun c => ?_, fun c => False.elim (by omega)⟩) | (refine ⟨by (first | assumption | rfl | (exact Nat.le_of_ble_eq_true rfl) | (exact ⟨fun h01 => absurd h01 (by decide), by first | rfl | assumption⟩) | (exact ⟨fun _ => by decide, by first | rfl | assumption⟩) | (exact ⟨by assumption, by omega, by omega⟩) | (unfold inI; omega) | omega), ?_⟩; conv => whnf) | (refine ⟨fun c => ?_, fun c => ?_⟩) | fail))
        refine q_arch (by omega) hA1 (hX.z a1.1 a1.2.1) (by rw [f1.g, if_neg (by omega)]; exact e0) h0 (by omega) hr (fun x h5 er ff => ?_) (fun p e5 h5 p0 p1 er hA5 f5 => ?_)
        · have q := hq0 x h5 er (a1.R.f ff)
          have g5 := ff.1.trans a1.1
          (repeat' (first | (exact q) | (refine Ex_step ?_; conv => whnf) | (refine ⟨?_, trivial⟩) | (refine (show den _ _ _ _ _ _ _ _ from ?_); conv => whnf) | (refine ⟨fun c => False.elim (by omega), fun c => ?_⟩) | (refine ⟨fun c => ?_, fun c => False.elim (by omega)⟩) | (refine ⟨by (first | assumption | rfl | (exact Nat.le_of_ble_eq_true rfl) | (exact ⟨fun h01 => absurd h01 (by decide), by first | rfl | assumption⟩) | (exact ⟨fun _ => by decide, by first | rfl | assumption⟩) | (exact ⟨by assumption, by omega, by omega⟩) | (unfold inI; omega) | omega), ?_⟩; conv => whnf) | (refine ⟨fun c => ?_, fun c => ?_⟩) | (intro c) | fail))
        · have s5 := f5.g
          have s1 := f1.g
          have l := tail p e5 h5 c21 hA5 (a1.trans (f5.Aw (by omega))) (by rw [s5, if_neg (by omega), s1, if_pos rfl]) (by rw [s5, if_pos rfl]) (fun i x y => by rw [s5, if_neg y, s1, if_neg x]) er
          (repeat' (first | (exact l) | (refine Ex_step ?_; conv => whnf) | (refine ⟨?_, trivial⟩) | (refine (show den _ _ _ _ _ _ _ _ from ?_); conv => whnf) | (refine ⟨fun c => False.elim (by omega), fun c => ?_⟩) | (refine ⟨fun c => ?_, fun c => False.elim (by omega)⟩) | (refine ⟨by (first | assumption | rfl | (exact Nat.le_of_ble_eq_true rfl) | (exact ⟨fun h01 => absurd h01 (by decide), by first | rfl | assumption⟩) | (exact ⟨fun _ => by decide, by first | rfl | assumption⟩) | (exact ⟨by assumption, by omega, by omega⟩) | (unfold inI; omega) | omega), ?_⟩; conv => whnf) | (refine ⟨fun c => ?_, fun c => ?_⟩) | (intro c) | fail))
      · have c11 : tC P n e = 11 := by omega
        have ik : iw P n e = 12 := i11.mpr c11
        rw [if_neg c5] at hr
        (repeat' (first | (refine r_inWords (by omega) hA ?_) | (rw [x0]) | (refine ⟨⟨xk, by omega, Int.lt_of_lt_of_le (by omega : _ < (3198 : Int)) (Int.le_of_eq xl.symm)⟩, ?_⟩; conv => whnf) | (refine Ex_step ?_; conv => whnf) | (refine ⟨?_, trivial⟩) | (refine (show den _ _ _ _ _ _ _ _ from ?_); conv => whnf) | (refine ⟨fun c => False.elim (by omega), fun c => ?_⟩) | (refine ⟨fun c => ?_, fun c => False.elim (by omega)⟩) | (refine ⟨by (first | assumption | rfl | (exact Nat.le_of_ble_eq_true rfl) | (exact ⟨fun h01 => absurd h01 (by decide), by first | rfl | assumption⟩) | (exact ⟨fun _ => by decide, by first | rfl | assumption⟩) | (exact ⟨by assumption, by omega, by omega⟩) | (unfold inI; omega) | omega), ?_⟩; conv => whnf) | (refine ⟨fun c => ?_, fun c => ?_⟩) | fail))
        refine q_ahead (by omega) hA0 (fun h1 hA1 f1 => ?_)
        have a1 := f1.Aw (by omega)
        have kq1 := hA1.1.1.1
        (repeat' (first | (refine Ex_step ?_; conv => whnf) | (refine ⟨?_, trivial⟩) | (refine (show den _ _ _ _ _ _ _ _ from ?_); conv => whnf) | (refine ⟨fun c => False.elim (by omega), fun c => ?_⟩) | (refine ⟨fun c => ?_, fun c => False.elim (by omega)⟩) | (refine ⟨by (first | assumption | rfl | (exact Nat.le_of_ble_eq_true rfl) | (exact ⟨fun h01 => absurd h01 (by decide), by first | rfl | assumption⟩) | (exact ⟨fun _ => by decide, by first | rfl | assumption⟩) | (exact ⟨by assumption, by omega, by omega⟩) | (unfold inI; omega) | omega), ?_⟩; conv => whnf) | (refine ⟨fun c => ?_, fun c => ?_⟩) | fail))
        refine q_pers (by omega) hA1 (hX.z a1.1 a1.2.1) (hY.z a1.1 a1.2.1) (by rw [f1.g, if_neg (by omega)]; exact e1) hm (fun i i0 i1 => by rw [a1.nm]; exact hT i i0 i1) (by omega) hr (fun x h5 er ff => ?_) (fun p e5 h5 p0 p1 er hA5 f5 => ?_)
        · have q := hq0 x h5 er (a1.R.f ff)
          have g5 := ff.1.trans a1.1
          (repeat' (first | (exact q) | (refine Ex_step ?_; conv => whnf) | (refine ⟨?_, trivial⟩) | (refine (show den _ _ _ _ _ _ _ _ from ?_); conv => whnf) | (refine ⟨fun c => False.elim (by omega), fun c => ?_⟩) | (refine ⟨fun c => ?_, fun c => False.elim (by omega)⟩) | (refine ⟨by (first | assumption | rfl | (exact Nat.le_of_ble_eq_true rfl) | (exact ⟨fun h01 => absurd h01 (by decide), by first | rfl | assumption⟩) | (exact ⟨fun _ => by decide, by first | rfl | assumption⟩) | (exact ⟨by assumption, by omega, by omega⟩) | (unfold inI; omega) | omega), ?_⟩; conv => whnf) | (refine ⟨fun c => ?_, fun c => ?_⟩) | (intro c) | fail))
        · have s5 := f5.g
          have s1 := f1.g
          have l := tail p e5 h5 c21 hA5 (a1.trans (f5.Aw (by omega))) (by rw [s5, if_neg (by omega), s1, if_pos rfl]) (by rw [s5, if_pos rfl]) (fun i x y => by rw [s5, if_neg y, s1, if_neg x]) er
          (repeat' (first | (exact l) | (refine Ex_step ?_; conv => whnf) | (refine ⟨?_, trivial⟩) | (refine (show den _ _ _ _ _ _ _ _ from ?_); conv => whnf) | (refine ⟨fun c => False.elim (by omega), fun c => ?_⟩) | (refine ⟨fun c => ?_, fun c => False.elim (by omega)⟩) | (refine ⟨by (first | assumption | rfl | (exact Nat.le_of_ble_eq_true rfl) | (exact ⟨fun h01 => absurd h01 (by decide), by first | rfl | assumption⟩) | (exact ⟨fun _ => by decide, by first | rfl | assumption⟩) | (exact ⟨by assumption, by omega, by omega⟩) | (unfold inI; omega) | omega), ?_⟩; conv => whnf) | (refine ⟨fun c => ?_, fun c => ?_⟩) | (intro c) | fail))
  · rw [if_pos ct] at hr
    have n5 : ¬ iw P n e = 7 := fun q => ct (Or.inr (Or.inr (i5.mp q)))
    have n11 : ¬ iw P n e = 12 := fun q => ct (Or.inr (Or.inl (i11.mp q)))
    have n21 : ¬ iw P n e = 24 := fun q => ct (Or.inl (i21.mp q))
    (repeat' (first | (refine r_inWords (by omega) hA ?_) | (refine Ex_step ?_; conv => whnf) | (refine ⟨?_, trivial⟩) | (refine (show den _ _ _ _ _ _ _ _ from ?_); conv => whnf) | (refine ⟨fun c => False.elim (by omega), fun c => ?_⟩) | (refine ⟨fun c => ?_, fun c => False.elim (by omega)⟩) | (refine ⟨by (first | assumption | rfl | (exact Nat.le_of_ble_eq_true rfl) | (exact ⟨fun h01 => absurd h01 (by decide), by first | rfl | assumption⟩) | (exact ⟨fun _ => by decide, by first | rfl | assumption⟩) | (exact ⟨by assumption, by omega, by omega⟩) | (unfold inI; omega) | omega), ?_⟩; conv => whnf) | (refine ⟨fun c => ?_, fun c => ?_⟩) | fail))
    refine q_fails (by omega) hA (by omega) hr (fun x h1 er ff => ?_)
    have q := hq0 x h1 er ff
    have g1 := ff.1
    (repeat' (first | (exact q) | (refine Ex_step ?_; conv => whnf) | (refine ⟨?_, trivial⟩) | (refine (show den _ _ _ _ _ _ _ _ from ?_); conv => whnf) | (refine ⟨fun c => False.elim (by omega), fun c => ?_⟩) | (refine ⟨fun c => ?_, fun c => False.elim (by omega)⟩) | (refine ⟨by (first | assumption | rfl | (exact Nat.le_of_ble_eq_true rfl) | (exact ⟨fun h01 => absurd h01 (by decide), by first | rfl | assumption⟩) | (exact ⟨fun _ => by decide, by first | rfl | assumption⟩) | (exact ⟨by assumption, by omega, by omega⟩) | (unfold inI; omega) | omega), ?_⟩; conv => whnf) | (refine ⟨fun c => ?_, fun c => ?_⟩) | (intro c) | fail))
