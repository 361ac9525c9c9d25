/-! LEVEL 2: texts: a row of decades, the reference -/
theorem rw1 {h h5 : Mem} {r0 w m : Int} (h0 : gG h 128 r0 = w) (hz : ∀ j, 1 ≤ j → j ≤ 5 → gG h 128 (r0 + j) = 0) (f5 : Fq (sG h 128 (r0 + 1) m) h5) (hr0 : 1922 ≤ r0 ∧ r0 + 5 < 2290) : RwR h h5 r0 (rwQ w m 0 0) := by
  have s5 := f5.g
  refine ⟨?_, fun i q => by rw [s5, if_neg (by omega)], f5.Aw (by omega)⟩
  refine rwQ_f (x := w) (y := m) (z := 0) (a := 0) (b := 0) (u := 0) rfl rfl rfl rfl rfl rfl ?_ ?_ ?_ ?_ ?_ ?_
  · show gG h5 128 (r0 + 0) = _
    rw [show r0 + 0 = r0 by omega, s5, if_neg (by omega)]; exact h0
  · show gG h5 128 (r0 + 1) = _
    rw [s5, if_pos rfl]
  · show gG h5 128 (r0 + 2) = _
    rw [s5, if_neg (by omega)]; exact hz 2 (by omega) (by omega)
  · show gG h5 128 (r0 + 3) = _
    rw [s5, if_neg (by omega)]; exact hz 3 (by omega) (by omega)
  · show gG h5 128 (r0 + 4) = _
    rw [s5, if_neg (by omega)]; exact hz 4 (by omega) (by omega)
  · show gG h5 128 (r0 + 5) = _
    rw [s5, if_neg (by omega)]; exact hz 5 (by omega) (by omega)
set_option maxHeartbeats 4000000 in
theorem r_order0 {X : Int → Int} {XL : Int} {d : Nat} {h : Mem} {Q : RetP} {r0 k : Int} (hd : 1 ≤ d) (hk : k = 19 ∨ k = 22 ∨ k = 23) (hq : Q (some (vI 1)) h) : WP X XL d 241 [vR 127, vI k, vI r0] h Q := by
  refine eX10_decadeOrder (by omega) ?_
  rcases hk with e | e | e
  all_goals ((repeat' (first | (exact hq) | (refine Ex_step ?_; conv => whnf) | (refine ⟨?_, trivial⟩) | (refine (show den _ _ _ _ _ _ _ _ from ?_); conv => whnf) | (refine ⟨fun c => False.elim (by omega), fun c => ?_⟩) | (refine ⟨fun c => ?_, fun c => False.elim (by omega)⟩) | (refine ⟨by (first | assumption | rfl | (exact Nat.le_of_ble_eq_true rfl) | (exact ⟨fun h01 => absurd h01 (by decide), by first | rfl | assumption⟩) | (exact ⟨fun _ => by decide, by first | rfl | assumption⟩) | (exact ⟨by assumption, by omega, by omega⟩) | (unfold inI; omega) | omega), ?_⟩; conv => whnf) | (refine ⟨fun c => ?_, fun c => ?_⟩) | (intro c) | fail)))
set_option maxHeartbeats 4000000 in
theorem q_order {X : Int → Int} {XL : Int} {d : Nat} {h : Mem} {Q : RetP} {P A Nm : Int → Int} {n e r0 : Int} {β : Type} {f : (Int → Int) × Int → (Int × Int) ⊕ β} {r : (Int × Int) ⊕ β} {t k : Int} (hd : 12 ≤ d) (hA : Aq h P n e) (hX : RA h) (hY : RM h) (e0 : gG h 128 0 = A 0) (h0 : 0 ≤ A 0 ∧ A 0 ≤ 9) (e1 : gG h 128 1 = A 1) (hm : 0 ≤ A 1 ∧ A 1 ≤ 6) (hT : ∀ i, 0 ≤ i → i < A 1 → nmP (Nm i) (gG h 129 i)) (hr0 : 1922 ≤ r0 ∧ r0 + 5 < 2290) (ht : t = 1 ∨ (14 ≤ t ∧ t ≤ 20) ∨ t = 22 ∨ t = 24) (hk : wR t = k) (h00 : gG h 128 r0 = k) (hz : ∀ j, 1 ≤ j → j ≤ 5 → gG h 128 (r0 + j) = 0) (hr : bd (dRest P n e A Nm t) f = r) (hq0 : ∀ x h', r = .inl x → FRf h h' x → Q (some (vI 0)) h') (hq1 : ∀ rw e' h', f (rw, e') = r → Aq h' P n e' → RwR h h' r0 rw → Q (some (vI 1)) h') : WP X XL d 241 [vR 127, vI k, vI r0] h Q := by
  have kq := hA.1.1.1
  obtain ⟨w14, w17, w19, w24, -, -, w20, w22, -, w1, w15, w16, w18, -⟩ := wR_v
  have num : ∀ (lo hi w : Int), gG h 128 r0 = w → bd (bd (pNum P n e lo hi) (fun q => .inr (rwQ w q.1 0 0, q.2))) f = r → ∀ (d' : Nat) (Q' : RetP), 3 ≤ d' → (∀ h' b, h'.1 = h.1 → (b = 0 ∨ b = 1) → Q (some (vI b)) h' → Q' (some (vI b)) h') → WP X XL d' 221 [vR 127, vI (r0 + 1), vI lo, vI hi] h Q' := fun lo hi w hw hr2 d' Q' x y => by
    rw [bd_bd] at hr2
    exact q_num x hA hX (by omega) hr2 (fun x h1 er ff => y h1 0 ff.1 (Or.inl rfl) (hq0 x h1 er ff)) (fun m e1 h1 m0 _ m1 er hA1 f1 => y h1 1 f1.1 (Or.inr rfl) (hq1 _ e1 h1 er hA1 (rw1 hw hz f1 hr0)))
  unfold dRest at hr
  rcases (show (t = 14 ∨ t = 17) ∨ t = 15 ∨ t = 16 ∨ t = 18 ∨ t = 1 ∨ t = 22 ∨ t = 20 ∨ (t = 19 ∨ t = 24) by omega) with c | c | c | c | c | c | c | c
  · rw [if_pos c, bd_bd, hk] at hr
    have go : ∀ (d' : Nat) (Q' : RetP), 8 ≤ d' → (∀ h' b, h'.1 = h.1 → (b = 0 ∨ b = 1) → Q (some (vI b)) h' → Q' (some (vI b)) h') → WP X XL d' 238 [vR 127, vI (r0 + 1)] h Q' := fun d' Q' x y => q_pers x hA hX hY e1 hm hT (by omega) hr (fun x h1 er ff => y h1 0 ff.1 (Or.inl rfl) (hq0 x h1 er ff)) (fun p p1 h1 _ _ er hA1 f1 => y h1 1 f1.1 (Or.inr rfl) (hq1 _ p1 h1 er hA1 (rw1 h00 hz f1 hr0)))
    have ek : k = 14 ∨ k = 17 := by
      rcases c with q | q
      · rw [q] at hk; omega
      · rw [q] at hk; omega
    refine eX10_decadeOrder (by omega) ?_
    rcases ek with ek | ek
    all_goals ((repeat' (first | (exact q') | (refine go _ _ (by omega) (fun h' b g' hb' q' => ?_)) | (refine ⟨⟨fun _ => hb', g'⟩, ?_⟩) | (refine Ex_step ?_; conv => whnf) | (refine ⟨?_, trivial⟩) | (refine (show den _ _ _ _ _ _ _ _ from ?_); conv => whnf) | (refine ⟨fun c => False.elim (by omega), fun c => ?_⟩) | (refine ⟨fun c => ?_, fun c => False.elim (by omega)⟩) | (refine ⟨by (first | assumption | rfl | (exact Nat.le_of_ble_eq_true rfl) | (exact ⟨fun h01 => absurd h01 (by decide), by first | rfl | assumption⟩) | (exact ⟨fun _ => by decide, by first | rfl | assumption⟩) | (exact ⟨by assumption, by omega, by omega⟩) | (unfold inI; omega) | omega), ?_⟩; conv => whnf) | (refine ⟨fun c => ?_, fun c => ?_⟩) | (intro c) | fail)))
  · rw [if_neg (by omega), if_pos c, bd_bd] at hr
    have ek : k = 15 := by rw [c] at hk; omega
    refine eX10_decadeOrder (by omega) ?_
    (repeat' (first | (refine Ex_step ?_; conv => whnf) | (refine ⟨?_, trivial⟩) | (refine (show den _ _ _ _ _ _ _ _ from ?_); conv => whnf) | (refine ⟨fun c => False.elim (by omega), fun c => ?_⟩) | (refine ⟨fun c => ?_, fun c => False.elim (by omega)⟩) | (refine ⟨by (first | assumption | rfl | (exact Nat.le_of_ble_eq_true rfl) | (exact ⟨fun h01 => absurd h01 (by decide), by first | rfl | assumption⟩) | (exact ⟨fun _ => by decide, by first | rfl | assumption⟩) | (exact ⟨by assumption, by omega, by omega⟩) | (unfold inI; omega) | omega), ?_⟩; conv => whnf) | (refine ⟨fun c => ?_, fun c => ?_⟩) | fail))
    refine q_pers (by omega) hA hX hY e1 hm hT (by omega) hr (fun x h1 er ff => ?_) (fun p e2 h1 p0 p1 er hA1 f1 => ?_)
    · have q := hq0 x h1 er ff
      have g1 := ff.1
      (repeat' (first | (exact q) | (refine Ex_step ?_; conv => whnf) | (refine ⟨?_, trivial⟩) | (refine (show den _ _ _ _ _ _ _ _ from ?_); conv => whnf) | (refine ⟨fun c => False.elim (by omega), fun c => ?_⟩) | (refine ⟨fun c => ?_, fun c => False.elim (by omega)⟩) | (refine ⟨by (first | assumption | rfl | (exact Nat.le_of_ble_eq_true rfl) | (exact ⟨fun h01 => absurd h01 (by decide), by first | rfl | assumption⟩) | (exact ⟨fun _ => by decide, by first | rfl | assumption⟩) | (exact ⟨by assumption, by omega, by omega⟩) | (unfold inI; omega) | omega), ?_⟩; conv => whnf) | (refine ⟨fun c => ?_, fun c => ?_⟩) | (intro c) | fail))
    · have er2 : bd (bd (pName P n e2 (A 1) Nm) (fun u => .inr (rwQ 15 p u.1 0, u.2))) f = r := er
      rw [bd_bd] at er2
      have a1 := f1.Aw (by omega)
      have kq1 := hA1.1.1.1
      (repeat' (first | (refine Ex_step ?_; conv => whnf) | (refine ⟨?_, trivial⟩) | (refine (show den _ _ _ _ _ _ _ _ from ?_); conv => whnf) | (refine ⟨fun c => False.elim (by omega), fun c => ?_⟩) | (refine ⟨fun c => ?_, fun c => False.elim (by omega)⟩) | (refine ⟨by (first | assumption | rfl | (exact Nat.le_of_ble_eq_true rfl) | (exact ⟨fun h01 => absurd h01 (by decide), by first | rfl | assumption⟩) | (exact ⟨fun _ => by decide, by first | rfl | assumption⟩) | (exact ⟨by assumption, by omega, by omega⟩) | (unfold inI; omega) | omega), ?_⟩; conv => whnf) | (refine ⟨fun c => ?_, fun c => ?_⟩) | fail))
      refine q_pers (by omega) hA1 (hX.z a1.1 a1.2.1) (hY.z a1.1 a1.2.1) (by rw [f1.g, if_neg (by omega)]; exact e1) hm (fun i i0 i1 => by rw [a1.nm]; exact hT i i0 i1) (by omega) er2 (fun x h2 er ff => ?_) (fun p2 e3 h2 p20 p21 er3 hA2 f2 => ?_)
      · have q := hq0 x h2 er (a1.R.f ff)
        have g2 := ff.1.trans a1.1
        (repeat' (first | (exact q) | (refine Ex_step ?_; conv => whnf) | (refine ⟨?_, trivial⟩) | (refine (show den _ _ _ _ _ _ _ _ from ?_); conv => whnf) | (refine ⟨fun c => False.elim (by omega), fun c => ?_⟩) | (refine ⟨fun c => ?_, fun c => False.elim (by omega)⟩) | (refine ⟨by (first | assumption | rfl | (exact Nat.le_of_ble_eq_true rfl) | (exact ⟨fun h01 => absurd h01 (by decide), by first | rfl | assumption⟩) | (exact ⟨fun _ => by decide, by first | rfl | assumption⟩) | (exact ⟨by assumption, by omega, by omega⟩) | (unfold inI; omega) | omega), ?_⟩; conv => whnf) | (refine ⟨fun c => ?_, fun c => ?_⟩) | (intro c) | fail))
      · have s2 := f2.g
        have s1 := f1.g
        have g2 : h2.1 = h.1 := f2.1.trans a1.1
        have q := hq1 _ e3 h2 er3 hA2 ⟨by
          refine rwQ_f (x := 15) (y := p) (z := p2) (a := 0) (b := 0) (u := 0) rfl rfl rfl rfl rfl rfl ?_ ?_ ?_ ?_ ?_ ?_
          · show gG h2 128 (r0 + 0) = _
            rw [show r0 + 0 = r0 by omega, s2, if_neg (by omega), s1, if_neg (by omega), h00]; exact ek
          · show gG h2 128 (r0 + 1) = _
            rw [s2, if_neg (by omega), s1, if_pos rfl]
          · show gG h2 128 (r0 + 2) = _
            rw [s2, if_pos rfl]
          · show gG h2 128 (r0 + 3) = _
            rw [s2, if_neg (by omega), s1, if_neg (by omega)]; exact hz 3 (by omega) (by omega)
          · show gG h2 128 (r0 + 4) = _
            rw [s2, if_neg (by omega), s1, if_neg (by omega)]; exact hz 4 (by omega) (by omega)
          · show gG h2 128 (r0 + 5) = _
            rw [s2, if_neg (by omega), s1, if_neg (by omega)]; exact hz 5 (by omega) (by omega), fun i q => by rw [s2, if_neg (by omega), s1, if_neg (by omega)], a1.trans (f2.Aw (by omega))⟩
        (repeat' (first | (exact q) | (refine Ex_step ?_; conv => whnf) | (refine ⟨?_, trivial⟩) | (refine (show den _ _ _ _ _ _ _ _ from ?_); conv => whnf) | (refine ⟨fun c => False.elim (by omega), fun c => ?_⟩) | (refine ⟨fun c => ?_, fun c => False.elim (by omega)⟩) | (refine ⟨by (first | assumption | rfl | (exact Nat.le_of_ble_eq_true rfl) | (exact ⟨fun h01 => absurd h01 (by decide), by first | rfl | assumption⟩) | (exact ⟨fun _ => by decide, by first | rfl | assumption⟩) | (exact ⟨by assumption, by omega, by omega⟩) | (unfold inI; omega) | omega), ?_⟩; conv => whnf) | (refine ⟨fun c => ?_, fun c => ?_⟩) | (intro c) | fail))
  · rw [if_neg (by omega), if_neg (by omega), if_pos c, bd_bd] at hr
    have ek : k = 16 := by rw [c] at hk; omega
    have go : ∀ (d' : Nat) (Q' : RetP), 4 ≤ d' → (∀ h' b, h'.1 = h.1 → (b = 0 ∨ b = 1) → Q (some (vI b)) h' → Q' (some (vI b)) h') → WP X XL d' 239 [vR 127, vI (r0 + 1)] h Q' := fun d' Q' x y => q_arch x hA hX e0 h0 (by omega) hr (fun x h1 er ff => y h1 0 ff.1 (Or.inl rfl) (hq0 x h1 er ff)) (fun p p1 h1 _ _ er hA1 f1 => y h1 1 f1.1 (Or.inr rfl) (hq1 _ p1 h1 er hA1 (rw1 (h00.trans ek) hz f1 hr0)))
    refine eX10_decadeOrder (by omega) ?_
    (repeat' (first | (exact q') | (refine go _ _ (by omega) (fun h' b g' hb' q' => ?_)) | (refine ⟨⟨fun _ => hb', g'⟩, ?_⟩) | (refine Ex_step ?_; conv => whnf) | (refine ⟨?_, trivial⟩) | (refine (show den _ _ _ _ _ _ _ _ from ?_); conv => whnf) | (refine ⟨fun c => False.elim (by omega), fun c => ?_⟩) | (refine ⟨fun c => ?_, fun c => False.elim (by omega)⟩) | (refine ⟨by (first | assumption | rfl | (exact Nat.le_of_ble_eq_true rfl) | (exact ⟨fun h01 => absurd h01 (by decide), by first | rfl | assumption⟩) | (exact ⟨fun _ => by decide, by first | rfl | assumption⟩) | (exact ⟨by assumption, by omega, by omega⟩) | (unfold inI; omega) | omega), ?_⟩; conv => whnf) | (refine ⟨fun c => ?_, fun c => ?_⟩) | (intro c) | fail))
  · rw [if_neg (by omega), if_neg (by omega), if_neg (by omega), if_pos c] at hr
    have ek : k = 18 := by rw [c] at hk; omega
    have go := num 1 40 18 (h00.trans ek) hr
    refine eX10_decadeOrder (by omega) ?_
    (repeat' (first | (exact q') | (refine go _ _ (by omega) (fun h' b g' hb' q' => ?_)) | (refine ⟨⟨fun _ => hb', g'⟩, ?_⟩) | (refine Ex_step ?_; conv => whnf) | (refine ⟨?_, trivial⟩) | (refine (show den _ _ _ _ _ _ _ _ from ?_); conv => whnf) | (refine ⟨fun c => False.elim (by omega), fun c => ?_⟩) | (refine ⟨fun c => ?_, fun c => False.elim (by omega)⟩) | (refine ⟨by (first | assumption | rfl | (exact Nat.le_of_ble_eq_true rfl) | (exact ⟨fun h01 => absurd h01 (by decide), by first | rfl | assumption⟩) | (exact ⟨fun _ => by decide, by first | rfl | assumption⟩) | (exact ⟨by assumption, by omega, by omega⟩) | (unfold inI; omega) | omega), ?_⟩; conv => whnf) | (refine ⟨fun c => ?_, fun c => ?_⟩) | (intro c) | fail))
  · rw [if_neg (by omega), if_neg (by omega), if_neg (by omega), if_neg (by omega), if_pos c] at hr
    have ek : k = 1 := by rw [c] at hk; omega
    have go := num 0 5 1 (h00.trans ek) hr
    refine eX10_decadeOrder (by omega) ?_
    (repeat' (first | (exact q') | (refine go _ _ (by omega) (fun h' b g' hb' q' => ?_)) | (refine ⟨⟨fun _ => hb', g'⟩, ?_⟩) | (refine Ex_step ?_; conv => whnf) | (refine ⟨?_, trivial⟩) | (refine (show den _ _ _ _ _ _ _ _ from ?_); conv => whnf) | (refine ⟨fun c => False.elim (by omega), fun c => ?_⟩) | (refine ⟨fun c => ?_, fun c => False.elim (by omega)⟩) | (refine ⟨by (first | assumption | rfl | (exact Nat.le_of_ble_eq_true rfl) | (exact ⟨fun h01 => absurd h01 (by decide), by first | rfl | assumption⟩) | (exact ⟨fun _ => by decide, by first | rfl | assumption⟩) | (exact ⟨by assumption, by omega, by omega⟩) | (unfold inI; omega) | omega), ?_⟩; conv => whnf) | (refine ⟨fun c => ?_, fun c => ?_⟩) | (intro c) | fail))
  · rw [if_neg (by omega), if_neg (by omega), if_neg (by omega), if_neg (by omega), if_neg (by omega), if_pos c] at hr
    have ek : k = 21 := by rw [c] at hk; omega
    have go := num 1 99 21 (h00.trans ek) hr
    refine eX10_decadeOrder (by omega) ?_
    (repeat' (first | (exact q') | (refine go _ _ (by omega) (fun h' b g' hb' q' => ?_)) | (refine ⟨⟨fun _ => hb', g'⟩, ?_⟩) | (refine Ex_step ?_; conv => whnf) | (refine ⟨?_, trivial⟩) | (refine (show den _ _ _ _ _ _ _ _ from ?_); conv => whnf) | (refine ⟨fun c => False.elim (by omega), fun c => ?_⟩) | (refine ⟨fun c => ?_, fun c => False.elim (by omega)⟩) | (refine ⟨by (first | assumption | rfl | (exact Nat.le_of_ble_eq_true rfl) | (exact ⟨fun h01 => absurd h01 (by decide), by first | rfl | assumption⟩) | (exact ⟨fun _ => by decide, by first | rfl | assumption⟩) | (exact ⟨by assumption, by omega, by omega⟩) | (unfold inI; omega) | omega), ?_⟩; conv => whnf) | (refine ⟨fun c => ?_, fun c => ?_⟩) | (intro c) | fail))
  · rw [if_neg (by omega), if_neg (by omega), if_neg (by omega), if_neg (by omega), if_neg (by omega), if_neg (by omega), if_pos c] at hr
    have ek : k = 20 := by rw [c] at hk; omega
    have go : ∀ (d' : Nat) (Q' : RetP), 10 ≤ d' → (∀ h' b, h'.1 = h.1 → (b = 0 ∨ b = 1) → Q (some (vI b)) h' → Q' (some (vI b)) h') → WP X XL d' 240 [vR 127, vI r0] h Q' := fun d' Q' x y => q_test x hA hX hY e0 h0 e1 hm hT hr0 hz hr (fun x h1 er ff => y h1 0 ff.1 (Or.inl rfl) (hq0 x h1 er ff)) (fun rw e2 h1 er hA1 w1 => y h1 1 w1.2.2.1 (Or.inr rfl) (hq1 rw e2 h1 er hA1 w1))
    refine eX10_decadeOrder (by omega) ?_
    (repeat' (first | (exact q') | (refine go _ _ (by omega) (fun h' b g' hb' q' => ?_)) | (refine ⟨⟨fun _ => hb', g'⟩, ?_⟩) | (refine Ex_step ?_; conv => whnf) | (refine ⟨?_, trivial⟩) | (refine (show den _ _ _ _ _ _ _ _ from ?_); conv => whnf) | (refine ⟨fun c => False.elim (by omega), fun c => ?_⟩) | (refine ⟨fun c => ?_, fun c => False.elim (by omega)⟩) | (refine ⟨by (first | assumption | rfl | (exact Nat.le_of_ble_eq_true rfl) | (exact ⟨fun h01 => absurd h01 (by decide), by first | rfl | assumption⟩) | (exact ⟨fun _ => by decide, by first | rfl | assumption⟩) | (exact ⟨by assumption, by omega, by omega⟩) | (unfold inI; omega) | omega), ?_⟩; conv => whnf) | (refine ⟨fun c => ?_, fun c => ?_⟩) | (intro c) | fail))
  · rw [if_neg (by omega), if_neg (by omega), if_neg (by omega), if_neg (by omega), if_neg (by omega), if_neg (by omega), if_neg (by omega)] at hr
    have ek : k = 19 ∨ k = 23 := by
      rcases c with q | q
      · rw [q] at hk; omega
      · rw [q] at hk; omega
    refine r_order0 (by omega) (by omega) (hq1 _ e h hr hA ⟨?_, fun _ _ => rfl, Fq.refl.A⟩)
    refine rwQ_f (x := k) (y := 0) (z := 0) (a := 0) (b := 0) (u := 0) hk.symm rfl rfl rfl rfl rfl ?_ ?_ ?_ ?_ ?_ ?_
    · show gG h 128 (r0 + 0) = _
      rw [show r0 + 0 = r0 by omega]; exact h00
    · exact hz 1 (by omega) (by omega)
    · exact hz 2 (by omega) (by omega)
    · exact hz 3 (by omega) (by omega)
    · exact hz 4 (by omega) (by omega)
    · exact hz 5 (by omega) (by omega)
/-- rows as the reference has read them so far -/
def RS (h : Mem) (R : Int → Int → Int) (N c D : Int) (O : Int → Int) : Prop := (gG h 128 1839 = N ∧ gG h 127 22 = D ∧ gG h 127 23 = c) ∧ (∀ j, 0 ≤ j → j < D → gG h 135 j = O j) ∧ (∀ k j, 0 ≤ k → k < N → 0 ≤ j → j ≤ 5 → gG h 128 (1922 + 6 * k + j) = R k j)
def RO (h : Mem) : Prop := gR h 127 21 = 135 ∧ kd h 135 = 100 ∧ ln h 135 = 3
theorem RO.z {h h' : Mem} (q : RO h) (e1 : h'.1 = h.1) (e2 : h'.2.2 = h.2.2) : RO h' := by unfold RO kd ln gR at *; rw [e1, e2]; exact q
theorem wS_tab : ∀ c : Nat, c < 25 → (c = 1 ∧ wR (c : Int) = 1) ∨ (14 ≤ c ∧ c ≤ 20 ∧ wR (c : Int) = c) ∨ (c = 22 ∧ wR (c : Int) = 21) ∨ (c = 23 ∧ wR (c : Int) = 22) ∨ (c = 24 ∧ wR (c : Int) = 23) ∨ ((¬ wR (c : Int) = 1 ∧ (wR (c : Int) < 14 ∨ 23 < wR (c : Int))) ∧ ¬ c = 1 ∧ (c < 14 ∨ c = 21)) := by decide +kernel
theorem wQ_s {c : Int} (h : 0 ≤ c) : (c = 1 ∧ wQ c = 1) ∨ (14 ≤ c ∧ c ≤ 20 ∧ wQ c = c) ∨ (c = 22 ∧ wQ c = 21) ∨ (c = 23 ∧ wQ c = 22) ∨ (c = 24 ∧ wQ c = 23) ∨ ((¬ wQ c = 1 ∧ (wQ c < 14 ∨ 23 < wQ c)) ∧ ¬ c = 1 ∧ (c < 14 ∨ c = 21 ∨ 25 ≤ c)) := by
  unfold wQ
  by_cases q : c ≤ 24
  · rw [if_pos q]
    have := wS_tab c.toNat (by omega)
    rw [show ((c.toNat : Nat) : Int) = c by omega] at this
    omega
  · rw [if_neg q]; omega
theorem FR.A {h h' : Mem} (a : FR h h') {i : Int} (q : i < 1832 ∨ 2290 ≤ i) : gG h' 128 i = gG h 128 i := a.2.2 _ _ (by unfold qP; omega)
theorem FR.n {h h' : Mem} (a : FR h h') {i : Int} (q : i < 24 ∨ 30 ≤ i) : gG h' 129 i = gG h 129 i := a.2.2 _ _ (by unfold qP; omega)
set_option maxHeartbeats 4000000 in
theorem q_step {X : Int → Int} {XL : Int} {d : Nat} {h : Mem} {Q : RetP} {P A Nm : Int → Int} {n e : Int} {R : Int → Int → Int} {N c D : Int} {O : Int → Int} {r : (Int × Int) ⊕ (DS × Int)} (hd : 14 ≤ d) (hA : Aq h P n e) (hX : RA h) (hY : RM h) (hZ : RO h) (e0 : gG h 128 0 = A 0) (h0 : 0 ≤ A 0 ∧ A 0 ≤ 9) (e1 : gG h 128 1 = A 1) (hm : 0 ≤ A 1 ∧ A 1 ≤ 6) (hT : ∀ i, 0 ≤ i → i < A 1 → nmP (Nm i) (gG h 129 i)) (hI : DI A R N c D O) (hRS : RS h R N c D O) (hr : dStep P n e A Nm R N c D O = r) (hq0 : ∀ x h', r = .inl x → FRf h h' x → Q (some (vI 0)) h') (hq1 : ∀ S e' h', r = .inr (S, e') → Aq h' P n e' → RS h' S.1 S.2.1 S.2.2.1 S.2.2.2.1 S.2.2.2.2 → FR h h' → Q (some (vI 1)) h') : WP X XL d 242 [vR 127] h Q := by
  have kq := hA.1.1.1
  obtain ⟨x0, xk, xl⟩ := id hX
  obtain ⟨z0, zk, zl⟩ := id hZ
  obtain ⟨⟨q1, q2, q3⟩, q4, q5⟩ := id hRS
  obtain ⟨⟨i1, i1b, i1c⟩, i2, i3, -⟩ := id hI
  have tb := tC_b (P := P) (n := n) (e := e)
  have ie := iw_e (P := P) (n := n) (e := e)
  have ws := wQ_s tb.1
  have bad : ∀ (k : Int) (d' : Nat) (Q' : RetP), 1 ≤ k → .inl (fltK P n e k, tF P n e) = r → 1 ≤ d' → (∀ h', h'.1 = h.1 → Q (some (vI 0)) h' → Q' (some (vI 0)) h') → WP X XL d' 217 [vR 127, vI k] h Q' := fun k d' Q' k1 hr1 x y => q_fails x hA k1 hr1 (fun x h1 er ff => y h1 ff.1 (hq0 x h1 er ff))
  -- the row is laid: c2 steps
  have lay : ∀ (c2 w4 : Int) (k : Int), k = iw P n e → N < 60 → c2 = (if k = 22 then c else c + 1) → ((w4 = 1 ∧ (k = 20 ∨ k = 21)) ∨ (w4 = 0 ∧ ¬ (k = 20 ∨ k = 21))) → (∀ (w5 : Option MV) (h1 : Mem), FR h h1 → Aq h1 P n e → (∀ i, ¬ (1922 + 6 * N ≤ i ∧ i ≤ 1922 + 6 * N + 5) → ¬ i = 1839 → gG h1 128 i = gG h 128 i) → gG h1 128 (1922 + 6 * N) = k → (∀ j, 1 ≤ j → j ≤ 5 → gG h1 128 (1922 + 6 * N + j) = 0) → gG h1 128 1839 = N → gG h1 127 23 = c2 → gG h1 127 22 = D → (∀ j, gG h1 135 j = gG h 135 j) → Ex (WP X XL (d - 1)) KX10_decadeStep h.1 Q 175 [some (vR 127), some (vI k), some (vI N), some (vI (1922 + 6 * N)), some (vI w4), w5] [] h1) → Ex (WP X XL (d - 1)) KX10_decadeStep h.1 Q 122 [some (vR 127), some (vI k), some (vI N), some (vI (1922 + 6 * N)), some (vI w4), none] [] h := by
    intro c2 w4 k ek hN hc2 hw4 nxt
    have s1 : FR h (sG h 127 23 c2) := FR.refl.s (Or.inl ⟨rfl, Or.inr (Or.inr (Or.inr rfl))⟩)
    have s2 : FR h (sG (sG h 127 23 c2) 128 (1922 + 6 * N) k) := s1.s (Or.inr (Or.inl ⟨rfl, by omega, by omega⟩))
    have zl0 : ∀ (m : Nat) (i : Int) (hj : Mem), (6 - i).toNat = m → 1 ≤ i → i ≤ 6 → FR h hj → Aq hj P n e → (∀ i, ¬ (1922 + 6 * N ≤ i ∧ i ≤ 1922 + 6 * N + 5) → ¬ i = 1839 → gG hj 128 i = gG h 128 i) → gG hj 128 (1922 + 6 * N) = k → (∀ j, 1 ≤ j → j < i → gG hj 128 (1922 + 6 * N + j) = 0) → gG hj 128 1839 = N → gG hj 127 23 = c2 → gG hj 127 22 = D → (∀ j, gG hj 135 j = gG h 135 j) → Ex (WP X XL (d - 1)) KX10_decadeStep h.1 Q 152 [some (vR 127), some (vI k), some (vI N), some (vI (1922 + 6 * N)), some (vI w4), some (vI i)] [] hj := by
      intro m; induction m with
      | zero =>
        intro i hj hm h1 h2 fj hAj u1 u2 u3 u4 u5 u6 u7
        have l := nxt (some (vI i)) hj fj hAj u1 u2 (fun j a b => u3 j a (by omega)) u4 u5 u6 u7
        refine Ex_step ?_; conv => whnf
        (repeat' (first | (exact l) | (refine Ex_step ?_; conv => whnf) | (refine ⟨?_, trivial⟩) | (refine (show den _ _ _ _ _ _ _ _ from ?_); conv => whnf) | (refine ⟨fun c => False.elim (by omega), fun c => ?_⟩) | (refine ⟨fun c => ?_, fun c => False.elim (by omega)⟩) | (refine ⟨by (first | assumption | rfl | (exact Nat.le_of_ble_eq_true rfl) | (exact ⟨fun h01 => absurd h01 (by decide), by first | rfl | assumption⟩) | (exact ⟨fun _ => by decide, by first | rfl | assumption⟩) | (exact ⟨by assumption, by omega, by omega⟩) | (unfold inI; omega) | omega), ?_⟩; conv => whnf) | (refine ⟨fun c => ?_, fun c => ?_⟩) | (intro c) | fail))
      | succ m ih =>
        intro i hj hm h1 h2 fj hAj u1 u2 u3 u4 u5 u6 u7
        obtain ⟨y0, yk, yl⟩ := hX.z fj.1 fj.2.1
        have kqj := hAj.1.1.1
        have nx := ih (i + 1) (sG hj 128 (1922 + 6 * N + i) 0) (by omega) (by omega) (by omega) (fj.s (Or.inr (Or.inl ⟨rfl, by omega, by omega⟩))) hAj.a (fun j a b => by rw [g_ne (by omega)]; exact u1 j a b) (by rw [g_ne (by omega)]; exact u2) (fun j a b => by
          by_cases ej : j = i
          · rw [ej, g_same]
          · rw [g_ne (by omega)]; exact u3 j a (by omega)) (by rw [g_ne (by omega)]; exact u4) (by rw [gG_sG, if_neg (by omega)]; exact u5) (by rw [gG_sG, if_neg (by omega)]; exact u6) (fun j => by rw [gG_sG, if_neg (by omega)]; exact u7 j)
        refine Ex_step ?_; conv => whnf
        (repeat' (first | (exact nx) | (rw [y0]) | (refine ⟨⟨yk, by omega, Int.lt_of_lt_of_le (by omega : _ < (3198 : Int)) (Int.le_of_eq yl.symm)⟩, ?_⟩; conv => whnf) | (refine Ex_step ?_; conv => whnf) | (refine ⟨?_, trivial⟩) | (refine (show den _ _ _ _ _ _ _ _ from ?_); conv => whnf) | (refine ⟨fun c => False.elim (by omega), fun c => ?_⟩) | (refine ⟨fun c => ?_, fun c => False.elim (by omega)⟩) | (refine ⟨by (first | assumption | rfl | (exact Nat.le_of_ble_eq_true rfl) | (exact ⟨fun h01 => absurd h01 (by decide), by first | rfl | assumption⟩) | (exact ⟨fun _ => by decide, by first | rfl | assumption⟩) | (exact ⟨by assumption, by omega, by omega⟩) | (unfold inI; omega) | omega), ?_⟩; conv => whnf) | (refine ⟨fun c => ?_, fun c => ?_⟩) | (intro c) | fail))
    have l0 := zl0 5 1 (sG (sG h 127 23 c2) 128 (1922 + 6 * N) k) (by omega) (by omega) (by omega) s2 (Aq.a (hA.o rfl rfl (fun r j q => by rw [gG_sG, if_neg (by omega)]))) (fun i a b => by rw [g_ne (by omega), gG_sG, if_neg (by omega)]) g_same (fun j a b => by omega) (by rw [g_ne (by omega), gG_sG, if_neg (by omega)]; exact q1) (by rw [gG_sG, if_neg (by omega), g_same]) (by rw [gG_sG, if_neg (by omega), g_ne (by omega)]; exact q2) (fun j => by rw [gG_sG, if_neg (by omega), gG_sG, if_neg (by omega)])
    by_cases c22 : k = 22
    · rw [if_pos c22] at hc2
      have ec : c + 0 = c2 := by omega
      (repeat' (first | (exact l0) | (rw [gR_sG]) | (rw [x0]) | (rw [q3]) | (rw [ec]) | (refine ⟨⟨xk, by omega, Int.lt_of_lt_of_le (by omega : _ < (3198 : Int)) (Int.le_of_eq xl.symm)⟩, ?_⟩; conv => whnf) | (refine Ex_step ?_; conv => whnf) | (refine ⟨?_, trivial⟩) | (refine (show den _ _ _ _ _ _ _ _ from ?_); conv => whnf) | (refine ⟨fun c => False.elim (by omega), fun c => ?_⟩) | (refine ⟨fun c => ?_, fun c => False.elim (by omega)⟩) | (refine ⟨by (first | assumption | rfl | (exact Nat.le_of_ble_eq_true rfl) | (exact ⟨fun h01 => absurd h01 (by decide), by first | rfl | assumption⟩) | (exact ⟨fun _ => by decide, by first | rfl | assumption⟩) | (exact ⟨by assumption, by omega, by omega⟩) | (unfold inI; omega) | omega), ?_⟩; conv => whnf) | (refine ⟨fun c => ?_, fun c => ?_⟩) | (intro c) | fail))
    · rw [if_neg c22] at hc2
      have ec : c + 1 = c2 := by omega
      (repeat' (first | (exact l0) | (rw [gR_sG]) | (rw [x0]) | (rw [q3]) | (rw [ec]) | (refine ⟨⟨xk, by omega, Int.lt_of_lt_of_le (by omega : _ < (3198 : Int)) (Int.le_of_eq xl.symm)⟩, ?_⟩; conv => whnf) | (refine Ex_step ?_; conv => whnf) | (refine ⟨?_, trivial⟩) | (refine (show den _ _ _ _ _ _ _ _ from ?_); conv => whnf) | (refine ⟨fun c => False.elim (by omega), fun c => ?_⟩) | (refine ⟨fun c => ?_, fun c => False.elim (by omega)⟩) | (refine ⟨by (first | assumption | rfl | (exact Nat.le_of_ble_eq_true rfl) | (exact ⟨fun h01 => absurd h01 (by decide), by first | rfl | assumption⟩) | (exact ⟨fun _ => by decide, by first | rfl | assumption⟩) | (exact ⟨by assumption, by omega, by omega⟩) | (unfold inI; omega) | omega), ?_⟩; conv => whnf) | (refine ⟨fun c => ?_, fun c => ?_⟩) | (intro c) | fail))
  unfold dStep at hr
  refine eX10_decadeStep (by omega) ?_
  by_cases c23 : tC P n e = 23
  · rw [if_pos c23] at hr
    have ik : iw P n e = 22 := by omega
    by_cases cD : D ≤ 0
    · rw [if_pos cD] at hr
      (repeat' (first | (exact q') | (refine r_inWords (by omega) hA ?_) | (rw [x0]) | (rw [q1]) | (rw [q2]) | (refine bad 2 _ _ (by omega) hr (by omega) (fun h' g' q' => ?_)) | (refine ⟨⟨xk, by omega, Int.lt_of_lt_of_le (by omega : _ < (3198 : Int)) (Int.le_of_eq xl.symm)⟩, ?_⟩; conv => whnf) | (refine Ex_step ?_; conv => whnf) | (refine ⟨?_, trivial⟩) | (refine (show den _ _ _ _ _ _ _ _ from ?_); conv => whnf) | (refine ⟨fun c => False.elim (by omega), fun c => ?_⟩) | (refine ⟨fun c => ?_, fun c => False.elim (by omega)⟩) | (refine ⟨by (first | assumption | rfl | (exact Nat.le_of_ble_eq_true rfl) | (exact ⟨fun h01 => absurd h01 (by decide), by first | rfl | assumption⟩) | (exact ⟨fun _ => by decide, by first | rfl | assumption⟩) | (exact ⟨by assumption, by omega, by omega⟩) | (unfold inI; omega) | omega), ?_⟩; conv => whnf) | (refine ⟨fun c => ?_, fun c => ?_⟩) | (intro c) | fail))
    · rw [if_neg cD] at hr
      obtain ⟨o0, o1, o2⟩ := i2 (D - 1) (by omega) (by omega)
      have l := lay c 0 (iw P n e) rfl (by omega) (by rw [if_pos ik]) (Or.inr ⟨rfl, by omega⟩) (by
        intro w5 h1 f1 hA1 u1 u2 u3 u4 u5 u6 u7
        obtain ⟨y0, yk, yl⟩ := hX.z f1.1 f1.2.1
        have kq1 := hA1.1.1.1
        have hA1' : Aq (sG h1 128 1839 (N + 1)) P n e := hA1.a
        have or0 : ∀ (d' : Nat) (hx : Mem) (Q' : RetP), 1 ≤ d' → Q' (some (vI 1)) hx → WP X XL d' 241 [vR 127, vI (iw P n e), vI (1922 + 6 * N)] hx Q' := fun d' hx Q' x y => r_order0 x (by omega) y
        (repeat' (first | (rw [y0]) | (rw [u4]) | (refine ⟨⟨yk, by omega, Int.lt_of_lt_of_le (by omega : _ < (3198 : Int)) (Int.le_of_eq yl.symm)⟩, ?_⟩; conv => whnf) | (refine Ex_step ?_; conv => whnf) | (refine ⟨?_, trivial⟩) | (refine (show den _ _ _ _ _ _ _ _ from ?_); conv => whnf) | (refine ⟨fun c => False.elim (by omega), fun c => ?_⟩) | (refine ⟨fun c => ?_, fun c => False.elim (by omega)⟩) | (refine ⟨by (first | assumption | rfl | (exact Nat.le_of_ble_eq_true rfl) | (exact ⟨fun h01 => absurd h01 (by decide), by first | rfl | assumption⟩) | (exact ⟨fun _ => by decide, by first | rfl | assumption⟩) | (exact ⟨by assumption, by omega, by omega⟩) | (unfold inI; omega) | omega), ?_⟩; conv => whnf) | (refine ⟨fun c => ?_, fun c => ?_⟩) | fail))
        refine q_ahead (by omega) hA1' (fun h2 hA2 f2 => ?_)
        have a2 : FR h h2 := f1.trans (f2.w (by omega))
        have kq2 := hA2.1.1.1
        obtain ⟨v0, vk, vl⟩ := hX.z a2.1 a2.2.1
        obtain ⟨t0, tk, tl⟩ := hZ.z a2.1 a2.2.1
        have p2 : gG h2 127 22 = D := by rw [f2.2.2 _ _ (by omega), gG_sG, if_neg (by omega)]; exact u6
        have p35 : ∀ j, gG h2 135 j = gG h 135 j := fun j => by rw [f2.2.2 _ _ (by omega), gG_sG, if_neg (by omega)]; exact u7 j
        have p4 : gG h2 135 (D - 1) = O (D - 1) := (p35 _).trans (q4 (D - 1) (by omega) (by omega))
        have w1 : gG (sG h2 127 22 (D - 1)) 127 22 = D - 1 := g_same
        have w2 : gG (sG h2 127 22 (D - 1)) 135 (D - 1) = O (D - 1) := by rw [gG_sG, if_neg (by omega)]; exact p4
        have w3 : ∀ y z, gG (sG (sG h2 127 22 (D - 1)) 128 y z) 127 22 = D - 1 := fun y z => by rw [gG_sG, if_neg (by omega)]; exact w1
        have w4 : ∀ y z, gG (sG (sG h2 127 22 (D - 1)) 128 y z) 135 (D - 1) = O (D - 1) := fun y z => by rw [gG_sG, if_neg (by omega)]; exact w2
        have a5 : FR h (sG (sG (sG h2 127 22 (D - 1)) 128 (1922 + 6 * N + 4) (O (D - 1))) 128 (1922 + 6 * O (D - 1) + 4) N) := ((a2.s (Or.inl ⟨rfl, Or.inr (Or.inr (Or.inl rfl))⟩)).s (Or.inr (Or.inl ⟨rfl, by omega, by omega⟩))).s (Or.inr (Or.inl ⟨rfl, by omega, by omega⟩))
        have hA5 : Aq (sG (sG (sG h2 127 22 (D - 1)) 128 (1922 + 6 * N + 4) (O (D - 1))) 128 (1922 + 6 * O (D - 1) + 4) N) P n (tE P n e) := Aq.a (Aq.a (hA2.o rfl rfl (fun r j q => by rw [gG_sG, if_neg (by omega)])))
        (repeat' (first | (refine or0 _ _ _ (by omega) ?_) | (rw [gR_sG]) | (rw [v0]) | (rw [t0]) | (rw [p2]) | (rw [w1]) | (rw [w2]) | (rw [w3]) | (rw [w4]) | (refine ⟨⟨tk, by omega, Int.lt_of_lt_of_le (by omega : _ < (3 : Int)) (Int.le_of_eq tl.symm)⟩, ?_⟩; conv => whnf) | (refine ⟨⟨vk, by omega, Int.lt_of_lt_of_le (by omega : _ < (3198 : Int)) (Int.le_of_eq vl.symm)⟩, ?_⟩; conv => whnf) | (refine Ex_step ?_; conv => whnf) | (refine ⟨?_, trivial⟩) | (refine (show den _ _ _ _ _ _ _ _ from ?_); conv => whnf) | (refine ⟨fun c => False.elim (by omega), fun c => ?_⟩) | (refine ⟨fun c => ?_, fun c => False.elim (by omega)⟩) | (refine ⟨by (first | assumption | rfl | (exact Nat.le_of_ble_eq_true rfl) | (exact ⟨fun h01 => absurd h01 (by decide), by first | rfl | assumption⟩) | (exact ⟨fun _ => by decide, by first | rfl | assumption⟩) | (exact ⟨by assumption, by omega, by omega⟩) | (unfold inI; omega) | omega), ?_⟩; conv => whnf) | (refine ⟨fun c => ?_, fun c => ?_⟩) | fail))
        refine q_semi (by omega) hA5 hr (fun x h6 er ff => ?_) (fun e6 h6 er hA6 f6 => ?_)
        · have q := hq0 x h6 er (a5.f ff)
          have g6 : h6.1 = h.1 := ff.1.trans a5.1
          (repeat' (first | (exact q) | (refine Ex_step ?_; conv => whnf) | (refine ⟨?_, trivial⟩) | (refine (show den _ _ _ _ _ _ _ _ from ?_); conv => whnf) | (refine ⟨fun c => False.elim (by omega), fun c => ?_⟩) | (refine ⟨fun c => ?_, fun c => False.elim (by omega)⟩) | (refine ⟨by (first | assumption | rfl | (exact Nat.le_of_ble_eq_true rfl) | (exact ⟨fun h01 => absurd h01 (by decide), by first | rfl | assumption⟩) | (exact ⟨fun _ => by decide, by first | rfl | assumption⟩) | (exact ⟨by assumption, by omega, by omega⟩) | (unfold inI; omega) | omega), ?_⟩; conv => whnf) | (refine ⟨fun c => ?_, fun c => ?_⟩) | (intro c) | fail))
        · have g6 : h6.1 = h.1 := f6.1.trans a5.1
          have m8 : ∀ j, gG h6 128 j = if j = 1922 + 6 * O (D - 1) + 4 then N else if j = 1922 + 6 * N + 4 then O (D - 1) else if j = 1839 then N + 1 else gG h1 128 j := fun j => by
            rw [f6.2.2 _ _ (by omega), gG_sG]
            by_cases ea : j = 1922 + 6 * O (D - 1) + 4
            · rw [if_pos ⟨rfl, ea⟩, if_pos ea]
            · rw [if_neg (fun q => ea q.2), if_neg ea, gG_sG]
              by_cases eb : j = 1922 + 6 * N + 4
              · rw [if_pos ⟨rfl, eb⟩, if_pos eb]
              · rw [if_neg (fun q => eb q.2), if_neg eb, gG_sG, if_neg (by omega), f2.g]
          have q := hq1 _ e6 h6 er.symm hA6 ⟨⟨by
            rw [m8, if_neg (by omega), if_neg (by omega), if_pos rfl]; rfl, by
            rw [f6.2.2 _ _ (by omega), gG_sG, if_neg (by omega), gG_sG, if_neg (by omega), g_same]; rfl, by
            rw [f6.2.2 _ _ (by omega), gG_sG, if_neg (by omega), gG_sG, if_neg (by omega), g_ne (by omega), f2.2.2 _ _ (by omega), gG_sG, if_neg (by omega)]; exact u5⟩, fun j a b => by
            have b2 : j < D - 1 := b
            rw [f6.2.2 _ _ (by omega), gG_sG, if_neg (by omega), gG_sG, if_neg (by omega), gG_sG, if_neg (by omega), p35]; exact q4 j a (by omega), fun k j k0 k1 j0 j1 => by
            have k2 : k < N + 1 := k1
            show gG h6 128 (1922 + 6 * k + j) = clR R N (O (D - 1)) k j
            rw [m8]
            unfold clR
            by_cases ekN : k = N
            · rw [if_pos ekN, if_neg (by omega)]
              by_cases ej4 : j = 4
              · rw [if_pos (by omega), if_neg (by omega), if_pos ej4]
              · rw [if_neg (by omega), if_neg (by omega)]
                by_cases ej0 : j = 0
                · rw [if_pos ej0, ekN, ej0, show 1922 + 6 * N + 0 = 1922 + 6 * N by omega, u2, ik]
                · rw [if_neg ej0, if_neg ej4, ekN]; exact u3 j (by omega) j1
            · rw [if_neg ekN]
              by_cases eo : k = O (D - 1) ∧ j = 4
              · rw [if_pos (by omega), if_pos eo]
              · rw [if_neg (by omega), if_neg (by omega), if_neg (by omega), if_neg eo, u1 _ (by omega) (by omega)]
                exact q5 k j k0 (by omega) j0 j1⟩ (a5.trans f6.R)
          (repeat' (first | (exact q) | (refine Ex_step ?_; conv => whnf) | (refine ⟨?_, trivial⟩) | (refine (show den _ _ _ _ _ _ _ _ from ?_); conv => whnf) | (refine ⟨fun c => False.elim (by omega), fun c => ?_⟩) | (refine ⟨fun c => ?_, fun c => False.elim (by omega)⟩) | (refine ⟨by (first | assumption | rfl | (exact Nat.le_of_ble_eq_true rfl) | (exact ⟨fun h01 => absurd h01 (by decide), by first | rfl | assumption⟩) | (exact ⟨fun _ => by decide, by first | rfl | assumption⟩) | (exact ⟨by assumption, by omega, by omega⟩) | (unfold inI; omega) | omega), ?_⟩; conv => whnf) | (refine ⟨fun c => ?_, fun c => ?_⟩) | (intro c) | fail)))
      (repeat' (first | (exact l) | (refine r_inWords (by omega) hA ?_) | (rw [x0]) | (rw [q1]) | (rw [q2]) | (refine ⟨⟨xk, by omega, Int.lt_of_lt_of_le (by omega : _ < (3198 : Int)) (Int.le_of_eq xl.symm)⟩, ?_⟩; conv => whnf) | (refine Ex_step ?_; conv => whnf) | (refine ⟨?_, trivial⟩) | (refine (show den _ _ _ _ _ _ _ _ from ?_); conv => whnf) | (refine ⟨fun c => False.elim (by omega), fun c => ?_⟩) | (refine ⟨fun c => ?_, fun c => False.elim (by omega)⟩) | (refine ⟨by (first | assumption | rfl | (exact Nat.le_of_ble_eq_true rfl) | (exact ⟨fun h01 => absurd h01 (by decide), by first | rfl | assumption⟩) | (exact ⟨fun _ => by decide, by first | rfl | assumption⟩) | (exact ⟨by assumption, by omega, by omega⟩) | (unfold inI; omega) | omega), ?_⟩; conv => whnf) | (refine ⟨fun c => ?_, fun c => ?_⟩) | (intro c) | fail))
  · rw [if_neg c23] at hr
    by_cases ct : tC P n e = 1 ∨ (14 ≤ tC P n e ∧ tC P n e ≤ 20) ∨ tC P n e = 22 ∨ tC P n e = 24
    · rw [if_neg (fun q => q ct)] at hr
      have kr : wR (tC P n e) = iw P n e := by rw [ie]; unfold wQ; rw [if_pos (by omega)]
      have k22 : ¬ iw P n e = 22 := by omega
      by_cases c30 : 30 ≤ c
      · rw [if_pos c30] at hr
        (repeat' (first | (exact q') | (refine r_inWords (by omega) hA ?_) | (rw [x0]) | (rw [q1]) | (rw [q2]) | (rw [q3]) | (refine bad 6 _ _ (by omega) hr (by omega) (fun h' g' q' => ?_)) | (refine ⟨⟨xk, by omega, Int.lt_of_lt_of_le (by omega : _ < (3198 : Int)) (Int.le_of_eq xl.symm)⟩, ?_⟩; conv => whnf) | (refine Ex_step ?_; conv => whnf) | (refine ⟨?_, trivial⟩) | (refine (show den _ _ _ _ _ _ _ _ from ?_); conv => whnf) | (refine ⟨fun c => False.elim (by omega), fun c => ?_⟩) | (refine ⟨fun c => ?_, fun c => False.elim (by omega)⟩) | (refine ⟨by (first | assumption | rfl | (exact Nat.le_of_ble_eq_true rfl) | (exact ⟨fun h01 => absurd h01 (by decide), by first | rfl | assumption⟩) | (exact ⟨fun _ => by decide, by first | rfl | assumption⟩) | (exact ⟨by assumption, by omega, by omega⟩) | (unfold inI; omega) | omega), ?_⟩; conv => whnf) | (refine ⟨fun c => ?_, fun c => ?_⟩) | (intro c) | fail))
      · rw [if_neg c30] at hr
        by_cases co : (tC P n e = 20 ∨ tC P n e = 22) ∧ 3 ≤ D
        · rw [if_pos co] at hr
          have co1 := co.1
          have co2 := co.2
          (repeat' (first | (exact q') | (refine r_inWords (by omega) hA ?_) | (rw [x0]) | (rw [q1]) | (rw [q2]) | (rw [q3]) | (refine bad 7 _ _ (by omega) hr (by omega) (fun h' g' q' => ?_)) | (refine ⟨⟨xk, by omega, Int.lt_of_lt_of_le (by omega : _ < (3198 : Int)) (Int.le_of_eq xl.symm)⟩, ?_⟩; conv => whnf) | (refine Ex_step ?_; conv => whnf) | (refine ⟨?_, trivial⟩) | (refine (show den _ _ _ _ _ _ _ _ from ?_); conv => whnf) | (refine ⟨fun c => False.elim (by omega), fun c => ?_⟩) | (refine ⟨fun c => ?_, fun c => False.elim (by omega)⟩) | (refine ⟨by (first | assumption | rfl | (exact Nat.le_of_ble_eq_true rfl) | (exact ⟨fun h01 => absurd h01 (by decide), by first | rfl | assumption⟩) | (exact ⟨fun _ => by decide, by first | rfl | assumption⟩) | (exact ⟨by assumption, by omega, by omega⟩) | (unfold inI; omega) | omega), ?_⟩; conv => whnf) | (refine ⟨fun c => ?_, fun c => ?_⟩) | (intro c) | fail))
        · rw [if_neg co] at hr
          have l := fun (w4 : Int) hw4 => lay (c + 1) w4 (iw P n e) rfl (by omega) (by rw [if_neg k22]) hw4 (by
            intro w5 h1 f1 hA1 u1 u2 u3 u4 u5 u6 u7
            obtain ⟨y0, yk, yl⟩ := hX.z f1.1 f1.2.1
            have kq1 := hA1.1.1.1
            have hA1' : Aq (sG h1 128 1839 (N + 1)) P n e := hA1.a
            (repeat' (first | (rw [y0]) | (rw [u4]) | (refine ⟨⟨yk, by omega, Int.lt_of_lt_of_le (by omega : _ < (3198 : Int)) (Int.le_of_eq yl.symm)⟩, ?_⟩; conv => whnf) | (refine Ex_step ?_; conv => whnf) | (refine ⟨?_, trivial⟩) | (refine (show den _ _ _ _ _ _ _ _ from ?_); conv => whnf) | (refine ⟨fun c => False.elim (by omega), fun c => ?_⟩) | (refine ⟨fun c => ?_, fun c => False.elim (by omega)⟩) | (refine ⟨by (first | assumption | rfl | (exact Nat.le_of_ble_eq_true rfl) | (exact ⟨fun h01 => absurd h01 (by decide), by first | rfl | assumption⟩) | (exact ⟨fun _ => by decide, by first | rfl | assumption⟩) | (exact ⟨by assumption, by omega, by omega⟩) | (unfold inI; omega) | omega), ?_⟩; conv => whnf) | (refine ⟨fun c => ?_, fun c => ?_⟩) | fail))
            refine q_ahead (by omega) hA1' (fun h2 hA2 f2 => ?_)
            have a2 : FR h h2 := f1.trans (f2.w (by omega))
            have kq2 := hA2.1.1.1
            have s2 := f2.g
            have hw4 : (w4 = 1 ∧ (iw P n e = 20 ∨ iw P n e = 21)) ∨ (w4 = 0 ∧ ¬ (iw P n e = 20 ∨ iw P n e = 21)) := hw4
            (repeat' (first | (refine Ex_step ?_; conv => whnf) | (refine ⟨?_, trivial⟩) | (refine (show den _ _ _ _ _ _ _ _ from ?_); conv => whnf) | (refine ⟨fun c => False.elim (by omega), fun c => ?_⟩) | (refine ⟨fun c => ?_, fun c => False.elim (by omega)⟩) | (refine ⟨by (first | assumption | rfl | (exact Nat.le_of_ble_eq_true rfl) | (exact ⟨fun h01 => absurd h01 (by decide), by first | rfl | assumption⟩) | (exact ⟨fun _ => by decide, by first | rfl | assumption⟩) | (exact ⟨by assumption, by omega, by omega⟩) | (unfold inI; omega) | omega), ?_⟩; conv => whnf) | (refine ⟨fun c => ?_, fun c => ?_⟩) | fail))
            refine q_order (f := Sum.inr) (t := tC P n e) (by omega) hA2 (hX.z a2.1 a2.2.1) (hY.z a2.1 a2.2.1) (by rw [a2.A (by omega)]; exact e0) h0 (by rw [a2.A (by omega)]; exact e1) hm (fun i i0 i1 => by rw [a2.n (by omega)]; exact hT i i0 i1) (by omega) ct kr (by rw [s2, if_neg (by omega)]; exact u2) (fun j a b => by rw [s2, if_neg (by omega)]; exact u3 j a b) bd_r (fun x h3 er ff => ?_) (fun rw2 e3 h3 hr2 hA3 w3 => ?_)
            · have q := hq0 x h3 (by rw [← hr, er]; rfl) (a2.f ff)
              have g3 := ff.1.trans a2.1
              (repeat' (first | (exact q) | (refine Ex_step ?_; conv => whnf) | (refine ⟨?_, trivial⟩) | (refine (show den _ _ _ _ _ _ _ _ from ?_); conv => whnf) | (refine ⟨fun c => False.elim (by omega), fun c => ?_⟩) | (refine ⟨fun c => ?_, fun c => False.elim (by omega)⟩) | (refine ⟨by (first | assumption | rfl | (exact Nat.le_of_ble_eq_true rfl) | (exact ⟨fun h01 => absurd h01 (by decide), by first | rfl | assumption⟩) | (exact ⟨fun _ => by decide, by first | rfl | assumption⟩) | (exact ⟨by assumption, by omega, by omega⟩) | (unfold inI; omega) | omega), ?_⟩; conv => whnf) | (refine ⟨fun c => ?_, fun c => ?_⟩) | (intro c) | fail))
            · rw [← hr2] at hr
              have hr3 : bd (pTok P n e3 28) (fun e5 => .inr (dPush R N c D O (tC P n e) rw2, e5)) = r := hr
              obtain ⟨m1, m2, m3⟩ := w3
              have a3 : FR h h3 := a2.trans m3.R
              have kq3 := hA3.1.1.1
              obtain ⟨t0, tk, tl⟩ := hZ.z a3.1 a3.2.1
              have p2 : gG h3 127 22 = D := by rw [m3.2.2 _ _ (by omega) (by omega), f2.2.2 _ _ (by omega), gG_sG, if_neg (by omega)]; exact u6
              have p3 : gG h3 127 23 = c + 1 := by rw [m3.2.2 _ _ (by omega) (by omega), f2.2.2 _ _ (by omega), gG_sG, if_neg (by omega)]; exact u5
              have p35 : ∀ j, gG h3 135 j = gG h 135 j := fun j => by rw [m3.2.2 _ _ (by omega) (by omega), f2.2.2 _ _ (by omega), gG_sG, if_neg (by omega)]; exact u7 j
              have m8 : ∀ k j, 0 ≤ k → k < N + 1 → 0 ≤ j → j ≤ 5 → gG h3 128 (1922 + 6 * k + j) = opR R N rw2 k j := fun k j k0 k1 j0 j1 => by
                unfold opR
                by_cases ekN : k = N
                · rw [if_pos ekN, ekN]; exact m1 j j0 j1
                · rw [if_neg ekN, m2 _ (by omega), s2, if_neg (by omega), u1 _ (by omega) (by omega)]
                  exact q5 k j k0 (by omega) j0 j1
              have m9 : gG h3 128 1839 = N + 1 := by rw [m2 _ (by omega), s2, if_pos rfl]
              rcases hw4 with ⟨cw, ew⟩ | ⟨cw, ew⟩
              · have ew2 : tC P n e = 20 ∨ tC P n e = 22 := by omega
                have cD : D < 3 := by omega
                have a4 : FR h (sG (sG h3 135 D N) 127 22 (D + 1)) := (a3.s (Or.inr (Or.inr (Or.inr rfl)))).s (Or.inl ⟨rfl, Or.inr (Or.inr (Or.inl rfl))⟩)
                have hA4 : Aq (sG (sG h3 135 D N) 127 22 (D + 1)) P n e3 := hA3.o rfl rfl (fun r j q => by rw [gG_sG, if_neg (by omega), gG_sG, if_neg (by omega)])
                have u22 : gG (sG h3 135 D N) 127 22 = D := by rw [gG_sG, if_neg (by omega)]; exact p2
                (repeat' (first | (rw [t0]) | (rw [p2]) | (rw [u22]) | (refine ⟨⟨tk, by omega, Int.lt_of_lt_of_le (by omega : _ < (3 : Int)) (Int.le_of_eq tl.symm)⟩, ?_⟩; conv => whnf) | (refine Ex_step ?_; conv => whnf) | (refine ⟨?_, trivial⟩) | (refine (show den _ _ _ _ _ _ _ _ from ?_); conv => whnf) | (refine ⟨fun c => False.elim (by omega), fun c => ?_⟩) | (refine ⟨fun c => ?_, fun c => False.elim (by omega)⟩) | (refine ⟨by (first | assumption | rfl | (exact Nat.le_of_ble_eq_true rfl) | (exact ⟨fun h01 => absurd h01 (by decide), by first | rfl | assumption⟩) | (exact ⟨fun _ => by decide, by first | rfl | assumption⟩) | (exact ⟨by assumption, by omega, by omega⟩) | (unfold inI; omega) | omega), ?_⟩; conv => whnf) | (refine ⟨fun c => ?_, fun c => ?_⟩) | fail))
                refine q_semi (by omega) hA4 hr3 (fun x h6 er ff => ?_) (fun e6 h6 er hA6 f6 => ?_)
                · have q := hq0 x h6 er (a4.f ff)
                  have g6 : h6.1 = h.1 := ff.1.trans a4.1
                  (repeat' (first | (exact q) | (refine Ex_step ?_; conv => whnf) | (refine ⟨?_, trivial⟩) | (refine (show den _ _ _ _ _ _ _ _ from ?_); conv => whnf) | (refine ⟨fun c => False.elim (by omega), fun c => ?_⟩) | (refine ⟨fun c => ?_, fun c => False.elim (by omega)⟩) | (refine ⟨by (first | assumption | rfl | (exact Nat.le_of_ble_eq_true rfl) | (exact ⟨fun h01 => absurd h01 (by decide), by first | rfl | assumption⟩) | (exact ⟨fun _ => by decide, by first | rfl | assumption⟩) | (exact ⟨by assumption, by omega, by omega⟩) | (unfold inI; omega) | omega), ?_⟩; conv => whnf) | (refine ⟨fun c => ?_, fun c => ?_⟩) | (intro c) | fail))
                · have g6 : h6.1 = h.1 := f6.1.trans a4.1
                  have q := hq1 _ e6 h6 er.symm hA6 ⟨⟨by
                    rw [f6.2.2 _ _ (by omega), gG_sG, if_neg (by omega), gG_sG, if_neg (by omega)]; exact m9, by
                    show gG h6 127 22 = if tC P n e = 20 ∨ tC P n e = 22 then D + 1 else D
                    rw [f6.2.2 _ _ (by omega), g_same, if_pos ew2], by
                    rw [f6.2.2 _ _ (by omega), g_ne (by omega), gG_sG, if_neg (by omega)]; exact p3⟩, fun j a b => by
                    show gG h6 135 j = (if tC P n e = 20 ∨ tC P n e = 22 then pu O D N else O) j
                    have b2 : j < if tC P n e = 20 ∨ tC P n e = 22 then D + 1 else D := b
                    rw [if_pos ew2] at b2 ⊢
                    rw [f6.2.2 _ _ (by omega), gG_sG, if_neg (by omega)]
                    by_cases ej : j = D
                    · rw [ej, g_same, pu_e]
                    · rw [g_ne ej, pu_n ej, p35]; exact q4 j a (by omega), fun k j k0 k1 j0 j1 => by
                    rw [f6.2.2 _ _ (by omega), gG_sG, if_neg (by omega), gG_sG, if_neg (by omega)]
                    exact m8 k j k0 k1 j0 j1⟩ (a4.trans f6.R)
                  (repeat' (first | (exact q) | (refine Ex_step ?_; conv => whnf) | (refine ⟨?_, trivial⟩) | (refine (show den _ _ _ _ _ _ _ _ from ?_); conv => whnf) | (refine ⟨fun c => False.elim (by omega), fun c => ?_⟩) | (refine ⟨fun c => ?_, fun c => False.elim (by omega)⟩) | (refine ⟨by (first | assumption | rfl | (exact Nat.le_of_ble_eq_true rfl) | (exact ⟨fun h01 => absurd h01 (by decide), by first | rfl | assumption⟩) | (exact ⟨fun _ => by decide, by first | rfl | assumption⟩) | (exact ⟨by assumption, by omega, by omega⟩) | (unfold inI; omega) | omega), ?_⟩; conv => whnf) | (refine ⟨fun c => ?_, fun c => ?_⟩) | (intro c) | fail))
              · have ew2 : ¬ (tC P n e = 20 ∨ tC P n e = 22) := by omega
                (repeat' (first | (refine Ex_step ?_; conv => whnf) | (refine ⟨?_, trivial⟩) | (refine (show den _ _ _ _ _ _ _ _ from ?_); conv => whnf) | (refine ⟨fun c => False.elim (by omega), fun c => ?_⟩) | (refine ⟨fun c => ?_, fun c => False.elim (by omega)⟩) | (refine ⟨by (first | assumption | rfl | (exact Nat.le_of_ble_eq_true rfl) | (exact ⟨fun h01 => absurd h01 (by decide), by first | rfl | assumption⟩) | (exact ⟨fun _ => by decide, by first | rfl | assumption⟩) | (exact ⟨by assumption, by omega, by omega⟩) | (unfold inI; omega) | omega), ?_⟩; conv => whnf) | (refine ⟨fun c => ?_, fun c => ?_⟩) | fail))
                refine q_semi (by omega) hA3 hr3 (fun x h6 er ff => ?_) (fun e6 h6 er hA6 f6 => ?_)
                · have q := hq0 x h6 er (a3.f ff)
                  have g6 : h6.1 = h.1 := ff.1.trans a3.1
                  (repeat' (first | (exact q) | (refine Ex_step ?_; conv => whnf) | (refine ⟨?_, trivial⟩) | (refine (show den _ _ _ _ _ _ _ _ from ?_); conv => whnf) | (refine ⟨fun c => False.elim (by omega), fun c => ?_⟩) | (refine ⟨fun c => ?_, fun c => False.elim (by omega)⟩) | (refine ⟨by (first | assumption | rfl | (exact Nat.le_of_ble_eq_true rfl) | (exact ⟨fun h01 => absurd h01 (by decide), by first | rfl | assumption⟩) | (exact ⟨fun _ => by decide, by first | rfl | assumption⟩) | (exact ⟨by assumption, by omega, by omega⟩) | (unfold inI; omega) | omega), ?_⟩; conv => whnf) | (refine ⟨fun c => ?_, fun c => ?_⟩) | (intro c) | fail))
                · have g6 : h6.1 = h.1 := f6.1.trans a3.1
                  have q := hq1 _ e6 h6 er.symm hA6 ⟨⟨by
                    rw [f6.2.2 _ _ (by omega)]; exact m9, by
                    show gG h6 127 22 = if tC P n e = 20 ∨ tC P n e = 22 then D + 1 else D
                    rw [f6.2.2 _ _ (by omega), if_neg ew2]; exact p2, by
                    rw [f6.2.2 _ _ (by omega)]; exact p3⟩, fun j a b => by
                    show gG h6 135 j = (if tC P n e = 20 ∨ tC P n e = 22 then pu O D N else O) j
                    have b2 : j < if tC P n e = 20 ∨ tC P n e = 22 then D + 1 else D := b
                    rw [if_neg ew2] at b2 ⊢
                    rw [f6.2.2 _ _ (by omega), p35]; exact q4 j a b2, fun k j k0 k1 j0 j1 => by
                    rw [f6.2.2 _ _ (by omega)]
                    exact m8 k j k0 k1 j0 j1⟩ (a3.trans f6.R)
                  (repeat' (first | (exact q) | (refine Ex_step ?_; conv => whnf) | (refine ⟨?_, trivial⟩) | (refine (show den _ _ _ _ _ _ _ _ from ?_); conv => whnf) | (refine ⟨fun c => False.elim (by omega), fun c => ?_⟩) | (refine ⟨fun c => ?_, fun c => False.elim (by omega)⟩) | (refine ⟨by (first | assumption | rfl | (exact Nat.le_of_ble_eq_true rfl) | (exact ⟨fun h01 => absurd h01 (by decide), by first | rfl | assumption⟩) | (exact ⟨fun _ => by decide, by first | rfl | assumption⟩) | (exact ⟨by assumption, by omega, by omega⟩) | (unfold inI; omega) | omega), ?_⟩; conv => whnf) | (refine ⟨fun c => ?_, fun c => ?_⟩) | (intro c) | fail)))
          (repeat' (first | (exact l 1 (Or.inl ⟨rfl, by omega⟩)) | (exact l 0 (Or.inr ⟨rfl, by omega⟩)) | (refine r_inWords (by omega) hA ?_) | (rw [x0]) | (rw [q1]) | (rw [q2]) | (rw [q3]) | (refine ⟨⟨xk, by omega, Int.lt_of_lt_of_le (by omega : _ < (3198 : Int)) (Int.le_of_eq xl.symm)⟩, ?_⟩; conv => whnf) | (refine Ex_step ?_; conv => whnf) | (refine ⟨?_, trivial⟩) | (refine (show den _ _ _ _ _ _ _ _ from ?_); conv => whnf) | (refine ⟨fun c => False.elim (by omega), fun c => ?_⟩) | (refine ⟨fun c => ?_, fun c => False.elim (by omega)⟩) | (refine ⟨by (first | assumption | rfl | (exact Nat.le_of_ble_eq_true rfl) | (exact ⟨fun h01 => absurd h01 (by decide), by first | rfl | assumption⟩) | (exact ⟨fun _ => by decide, by first | rfl | assumption⟩) | (exact ⟨by assumption, by omega, by omega⟩) | (unfold inI; omega) | omega), ?_⟩; conv => whnf) | (refine ⟨fun c => ?_, fun c => ?_⟩) | (intro c) | fail))
    · rw [if_pos ct] at hr
      have kn : ¬ iw P n e = 1 ∧ (iw P n e < 14 ∨ 23 < iw P n e) := by omega
      (repeat' (first | (exact q') | (refine r_inWords (by omega) hA ?_) | (rw [x0]) | (rw [q1]) | (refine bad 2 _ _ (by omega) hr (by omega) (fun h' g' q' => ?_)) | (refine ⟨⟨xk, by omega, Int.lt_of_lt_of_le (by omega : _ < (3198 : Int)) (Int.le_of_eq xl.symm)⟩, ?_⟩; conv => whnf) | (refine Ex_step ?_; conv => whnf) | (refine ⟨?_, trivial⟩) | (refine (show den _ _ _ _ _ _ _ _ from ?_); conv => whnf) | (refine ⟨fun c => False.elim (by omega), fun c => ?_⟩) | (refine ⟨fun c => ?_, fun c => False.elim (by omega)⟩) | (refine ⟨by (first | assumption | rfl | (exact Nat.le_of_ble_eq_true rfl) | (exact ⟨fun h01 => absurd h01 (by decide), by first | rfl | assumption⟩) | (exact ⟨fun _ => by decide, by first | rfl | assumption⟩) | (exact ⟨by assumption, by omega, by omega⟩) | (unfold inI; omega) | omega), ?_⟩; conv => whnf) | (refine ⟨fun c => ?_, fun c => ?_⟩) | (intro c) | fail))
