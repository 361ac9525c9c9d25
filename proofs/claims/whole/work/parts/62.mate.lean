/-! LEVEL 2: who with whom: the reference's mate -/
theorem gd_iff {n tl : Int} {w : Int → Int → Bool} {F C : Int → Int} {s o : Int} (ht : 0 ≤ tl) (s64 : s < 64) (hs : Rl tl s (F s) (C s)) (hc : ¬ C s = -1) (hr : Rl tl (rs s (fst6 s) o) (F (rs s (fst6 s) o)) (C (rs s (fst6 s) o))) (hr1 : 0 ≤ rs s (fst6 s) o ∧ rs s (fst6 s) o < s) (hb : bt s o = true) (hw : w (fst6 s) o = true) : (gdB w tl C s o = true ↔ F (rs s (fst6 s) o) < 1000000 ∧ tl * (F (rs s (fst6 s) o) + 1) = tl * F s) := by
  obtain ⟨h1, h2⟩ := rl_c ht hs s64
  obtain ⟨h3, h4, h5⟩ := h2 hc
  obtain ⟨g1, g2⟩ := rl_c ht hr (by omega)
  unfold gdB
  rw [decide_eq_true_eq]
  by_cases e : C (rs s (fst6 s) o) = -1
  · have hp : prC w tl C s (fst6 s) o = -1 := if_neg (fun q => q.2.2 e)
    have := g1 e
    constructor
    · intro q; exact absurd hp q.1
    · intro q; omega
  · obtain ⟨g3, g4, g5⟩ := g2 e
    have hp : prC w tl C s (fst6 s) o = tl * (F (rs s (fst6 s) o) + 1) := by
      unfold prC
      rw [if_pos ⟨hb, hw, e⟩, ← g5, Int.mul_add, Int.mul_one]
    have hm := mulP ht (show 0 ≤ F (rs s (fst6 s) o) + 1 by omega)
    rw [hp, ← h5]
    constructor
    · intro q; exact ⟨g3, q.2⟩
    · intro q; exact ⟨by omega, q.2⟩
set_option maxHeartbeats 4000000 in
theorem r_mateOf {X : Int → Int} {XL : Int} {d : Nat} {h : Mem} {Q : RetP} {K : Int} {A C : Int → Int} {s : Int} (hd : 8 ≤ d) (hR : Rr K h A) (hX : RK h) (hCB : CB A C) (hF : isF (A 1) (wl A) (gG h 137)) (s0 : 0 < s) (s1 : s < shlZ 1 (A 1)) (hc : ¬ C s = -1) (hq : Q (some (vI (lm (A 1) (wl A) (tlS A 0 (A 0)) C s))) h) : WP X XL d 307 [vR 127, vI s] h Q := by
  have kq := hR.1.1; have hA := hR.2.2; have b0 := hA.1; have b1 := hA.2.1; have h6 := sh6 b1.1 b1.2; have htl := (tlS_b hA (fr := 0) (to := A 0) (by omega) (by omega) _ 0 0 rfl (by omega) (by omega) (by omega)); have htl2 : 0 ≤ tlS A 0 (A 0) ∧ tlS A 0 (A 0) ≤ 81 := ⟨htl.1, by have := htl.2.1 (by omega); unfold tlS; omega⟩
  obtain ⟨p0, p1, h64⟩ := fst_n b1.1 b1.2 s0 s1
  obtain ⟨q0, q1, q2, q3⟩ := fst_b s0 h64
  have fc := fun s a b => fc_all b1.1 b1.2 htl2.1 hF hCB.1 _ s (Nat.lt_succ_self _) a b
  obtain ⟨⟨l1, l1b⟩, l2⟩ := lm_b hCB.1 s0 s1 hc
  have hshp := shl1 p0 (show fst6 s ≤ 20 by omega)
  have hrs : ∀ o, zand (zand s (zxor (shlZ 1 (fst6 s)) (-1))) (zxor (shlZ 1 o) (-1)) = rs s (fst6 s) o := fun o => rfl
  have fs := fc s (by omega) s1
  obtain ⟨-, f2⟩ := rl_c htl2.1 fs h64
  have f2 := f2 hc
  have hmS := mulB htl2.1 htl2.2 f2.2.1.1 (show gG h 137 s ≤ 64 by omega)
  obtain ⟨⟨-, r0, kt, lt⟩, eA, -⟩ := id hR
  obtain ⟨⟨x1, xk1, xl1⟩, ⟨x8, xk8, xl8⟩, ⟨x9, xk9, xl9⟩, ⟨x21, xk21, xl21⟩, ⟨x25, xk25, xl25⟩, ⟨x26, xk26, xl26⟩, ⟨x27, xk27, xl27⟩, ⟨x28, xk28, xl28⟩, ⟨x29, xk29, xl29⟩, ⟨x30, xk30, xl30⟩, ⟨x31, xk31, xl31⟩, ⟨x34, xk34, xl34⟩, ⟨x35, xk35, xl35⟩, ⟨x36, xk36, xl36⟩⟩ := id hX
  have loop : ∀ (k : Nat) (o : Int) (w : Option MV), (A 1 - o).toNat = k → fst6 s ≤ o → o ≤ A 1 → lm (A 1) (wl A) (tlS A 0 (A 0)) C s = stN (A 1) (fun i => !gdB (wl A) (tlS A 0 (A 0)) C s i) o → Ex (WP X XL (d - 1)) KX10_mateOf h.1 Q 16 [some (vR 127), some (vI s), some (vI (fst6 s)), some (vI (zand s (zxor (shlZ 1 (fst6 s)) (-1)))), some (vI o), w] [] h := by
    intro k; induction k with
    | zero =>
      intro o w hk h0 h1 he
      rw [stN_end (Or.inl (by omega))] at he
      omega
    | succ k ih =>
      intro o w hk h0 h1 he
      have hsho := shl1 (show 0 ≤ o by omega) (show o ≤ 20 by omega)
      obtain ⟨r1, r2, -, -⟩ := rs_b (s := s) (by omega) h64 p0 (show fst6 s < 6 by omega) (show 0 ≤ o by omega) (show o < 6 by omega)
      have r2 := r2 q2
      by_cases hb : bt s o = true
      · by_cases hw : wl A (fst6 s) o = true
        · have gi := gd_iff (n := A 1) htl2.1 h64 fs hc (fc _ r1.1 (by omega)) ⟨r1.1, r2⟩ hb hw
          by_cases hf : gG h 137 (rs s (fst6 s) o) < 1000000
          · have hrb := rl_c htl2.1 (fc _ r1.1 (by omega)) (by omega)
            have hrc : ¬ C (rs s (fst6 s) o) = -1 := fun q => by have := hrb.1 q; omega
            have hrf := (hrb.2 hrc).2.1
            have hmR := mulB htl2.1 htl2.2 (show 0 ≤ gG h 137 (rs s (fst6 s) o) + 1 by omega) (show gG h 137 (rs s (fst6 s) o) + 1 ≤ 64 by omega)
            by_cases hm : tlS A 0 (A 0) * (gG h 137 (rs s (fst6 s) o) + 1) = tlS A 0 (A 0) * gG h 137 s
            · have hg := gi.mpr ⟨hf, hm⟩
              rw [stN_end (Or.inr (by rw [hg]; rfl))] at he
              rw [he] at hq
              refine Ex_step ?_; conv => whnf
              (repeat' (first | (rw [x26]) | (rw [hrs]) | (refine r_isIn (by omega) (by omega) (fun c => ?_) (fun c => absurd (c.symm.trans hb) (by decide))) | (refine r_isWell (by omega) hR p0 p1 (by omega) (by omega) (fun c => ?_) (fun c => absurd (c.symm.trans hw) (by decide))) | (refine r_allTolls (by omega) hR ?_) | (refine ⟨⟨by omega, by omega, hsho⟩, ?_⟩; conv => whnf) | (refine ⟨fun c => absurd hm c, fun c => ?_⟩) | (refine ⟨⟨xk25, by omega, Int.lt_of_lt_of_le (by omega : _ < (64 : Int)) (Int.le_of_eq xl25.symm)⟩, ?_⟩; conv => whnf) | (refine ⟨⟨xk26, by omega, Int.lt_of_lt_of_le (by omega : _ < (64 : Int)) (Int.le_of_eq xl26.symm)⟩, ?_⟩; conv => whnf) | (refine Ex_step ?_; conv => whnf) | (refine ⟨?_, trivial⟩) | (refine (show den _ _ _ _ _ _ _ _ from ?_); conv => whnf) | (refine ⟨by (first | assumption | rfl | (exact Nat.le_of_ble_eq_true rfl) | (exact ⟨fun h01 => absurd h01 (by decide), by first | rfl | assumption | trivial⟩) | (exact ⟨fun _ => by decide, by first | rfl | assumption | trivial⟩) | (exact ⟨kt, by omega, Int.lt_of_lt_of_le (by omega : _ < (3198 : Int)) (Int.le_of_eq lt.symm)⟩) | (unfold inI; omega) | omega), ?_⟩; conv => whnf; try simp (disch := omega) only [r0, gR_sG, g_same, g_ne, eA]) | (refine ⟨fun c => False.elim (by omega), fun c => ?_⟩) | (refine ⟨fun c => ?_, fun c => False.elim (by omega)⟩) | (refine ⟨fun c => ?_, fun c => ?_⟩) | (intro c) | fail))
              exact hq
            · have hg : gdB (wl A) (tlS A 0 (A 0)) C s o = false := by
                cases hx : gdB (wl A) (tlS A 0 (A 0)) C s o
                · rfl
                · exact absurd (gi.mp hx).2 hm
              rw [stN_go (by omega) (by rw [hg]; rfl)] at he
              have ih2 := fun w => ih (o + 1) w (by omega) (by omega) (by omega) he
              refine Ex_step ?_; conv => whnf
              (repeat' (first | (refine ih2 _) | (rw [x26]) | (rw [hrs]) | (refine r_isIn (by omega) (by omega) (fun c => ?_) (fun c => absurd (c.symm.trans hb) (by decide))) | (refine r_isWell (by omega) hR p0 p1 (by omega) (by omega) (fun c => ?_) (fun c => absurd (c.symm.trans hw) (by decide))) | (refine r_allTolls (by omega) hR ?_) | (refine ⟨⟨by omega, by omega, hsho⟩, ?_⟩; conv => whnf) | (refine ⟨fun c => ?_, fun c => absurd c hm⟩) | (refine ⟨⟨xk25, by omega, Int.lt_of_lt_of_le (by omega : _ < (64 : Int)) (Int.le_of_eq xl25.symm)⟩, ?_⟩; conv => whnf) | (refine ⟨⟨xk26, by omega, Int.lt_of_lt_of_le (by omega : _ < (64 : Int)) (Int.le_of_eq xl26.symm)⟩, ?_⟩; conv => whnf) | (refine Ex_step ?_; conv => whnf) | (refine ⟨?_, trivial⟩) | (refine (show den _ _ _ _ _ _ _ _ from ?_); conv => whnf) | (refine ⟨by (first | assumption | rfl | (exact Nat.le_of_ble_eq_true rfl) | (exact ⟨fun h01 => absurd h01 (by decide), by first | rfl | assumption | trivial⟩) | (exact ⟨fun _ => by decide, by first | rfl | assumption | trivial⟩) | (exact ⟨kt, by omega, Int.lt_of_lt_of_le (by omega : _ < (3198 : Int)) (Int.le_of_eq lt.symm)⟩) | (unfold inI; omega) | omega), ?_⟩; conv => whnf; try simp (disch := omega) only [r0, gR_sG, g_same, g_ne, eA]) | (refine ⟨fun c => False.elim (by omega), fun c => ?_⟩) | (refine ⟨fun c => ?_, fun c => False.elim (by omega)⟩) | (refine ⟨fun c => ?_, fun c => ?_⟩) | (intro c) | fail))
          · have hg : gdB (wl A) (tlS A 0 (A 0)) C s o = false := by
              cases hx : gdB (wl A) (tlS A 0 (A 0)) C s o
              · rfl
              · exact absurd (gi.mp hx).1 hf
            rw [stN_go (by omega) (by rw [hg]; rfl)] at he
            have ih2 := fun w => ih (o + 1) w (by omega) (by omega) (by omega) he
            refine Ex_step ?_; conv => whnf
            (repeat' (first | (refine ih2 _) | (rw [x26]) | (rw [hrs]) | (refine r_isIn (by omega) (by omega) (fun c => ?_) (fun c => absurd (c.symm.trans hb) (by decide))) | (refine r_isWell (by omega) hR p0 p1 (by omega) (by omega) (fun c => ?_) (fun c => absurd (c.symm.trans hw) (by decide))) | (refine ⟨⟨by omega, by omega, hsho⟩, ?_⟩; conv => whnf) | (refine ⟨⟨xk25, by omega, Int.lt_of_lt_of_le (by omega : _ < (64 : Int)) (Int.le_of_eq xl25.symm)⟩, ?_⟩; conv => whnf) | (refine ⟨⟨xk26, by omega, Int.lt_of_lt_of_le (by omega : _ < (64 : Int)) (Int.le_of_eq xl26.symm)⟩, ?_⟩; conv => whnf) | (refine Ex_step ?_; conv => whnf) | (refine ⟨?_, trivial⟩) | (refine (show den _ _ _ _ _ _ _ _ from ?_); conv => whnf) | (refine ⟨by (first | assumption | rfl | (exact Nat.le_of_ble_eq_true rfl) | (exact ⟨fun h01 => absurd h01 (by decide), by first | rfl | assumption | trivial⟩) | (exact ⟨fun _ => by decide, by first | rfl | assumption | trivial⟩) | (exact ⟨kt, by omega, Int.lt_of_lt_of_le (by omega : _ < (3198 : Int)) (Int.le_of_eq lt.symm)⟩) | (unfold inI; omega) | omega), ?_⟩; conv => whnf; try simp (disch := omega) only [r0, gR_sG, g_same, g_ne, eA]) | (refine ⟨fun c => False.elim (by omega), fun c => ?_⟩) | (refine ⟨fun c => ?_, fun c => False.elim (by omega)⟩) | (refine ⟨fun c => ?_, fun c => ?_⟩) | (intro c) | fail))
        · have hg : gdB (wl A) (tlS A 0 (A 0)) C s o = false := by
            have : prC (wl A) (tlS A 0 (A 0)) C s (fst6 s) o = -1 := if_neg (fun q => hw q.2.1)
            exact decide_eq_false (fun q => q.1 this)
          rw [stN_go (by omega) (by rw [hg]; rfl)] at he
          have ih2 := fun w => ih (o + 1) w (by omega) (by omega) (by omega) he
          refine Ex_step ?_; conv => whnf
          (repeat' (first | (refine ih2 _) | (refine r_isIn (by omega) (by omega) (fun c => ?_) (fun c => absurd (c.symm.trans hb) (by decide))) | (refine r_isWell (by omega) hR p0 p1 (by omega) (by omega) (fun c => absurd c hw) (fun c => ?_)) | (refine Ex_step ?_; conv => whnf) | (refine ⟨?_, trivial⟩) | (refine (show den _ _ _ _ _ _ _ _ from ?_); conv => whnf) | (refine ⟨by (first | assumption | rfl | (exact Nat.le_of_ble_eq_true rfl) | (exact ⟨fun h01 => absurd h01 (by decide), by first | rfl | assumption | trivial⟩) | (exact ⟨fun _ => by decide, by first | rfl | assumption | trivial⟩) | (exact ⟨kt, by omega, Int.lt_of_lt_of_le (by omega : _ < (3198 : Int)) (Int.le_of_eq lt.symm)⟩) | (unfold inI; omega) | omega), ?_⟩; conv => whnf; try simp (disch := omega) only [r0, gR_sG, g_same, g_ne, eA]) | (refine ⟨fun c => False.elim (by omega), fun c => ?_⟩) | (refine ⟨fun c => ?_, fun c => False.elim (by omega)⟩) | (refine ⟨fun c => ?_, fun c => ?_⟩) | (intro c) | fail))
      · have hg : gdB (wl A) (tlS A 0 (A 0)) C s o = false := by
          have : prC (wl A) (tlS A 0 (A 0)) C s (fst6 s) o = -1 := if_neg (fun q => hb q.1)
          exact decide_eq_false (fun q => q.1 this)
        rw [stN_go (by omega) (by rw [hg]; rfl)] at he
        have ih2 := fun w => ih (o + 1) w (by omega) (by omega) (by omega) he
        refine Ex_step ?_; conv => whnf
        (repeat' (first | (refine ih2 _) | (refine r_isIn (by omega) (by omega) (fun c => absurd c hb) (fun c => ?_)) | (refine Ex_step ?_; conv => whnf) | (refine ⟨?_, trivial⟩) | (refine (show den _ _ _ _ _ _ _ _ from ?_); conv => whnf) | (refine ⟨by (first | assumption | rfl | (exact Nat.le_of_ble_eq_true rfl) | (exact ⟨fun h01 => absurd h01 (by decide), by first | rfl | assumption | trivial⟩) | (exact ⟨fun _ => by decide, by first | rfl | assumption | trivial⟩) | (exact ⟨kt, by omega, Int.lt_of_lt_of_le (by omega : _ < (3198 : Int)) (Int.le_of_eq lt.symm)⟩) | (unfold inI; omega) | omega), ?_⟩; conv => whnf; try simp (disch := omega) only [r0, gR_sG, g_same, g_ne, eA]) | (refine ⟨fun c => False.elim (by omega), fun c => ?_⟩) | (refine ⟨fun c => ?_, fun c => False.elim (by omega)⟩) | (refine ⟨fun c => ?_, fun c => ?_⟩) | (intro c) | fail))
  have l0 := loop _ (fst6 s) none rfl (by omega) (by omega) rfl
  refine eX10_mateOf (by omega) ?_
  (repeat' (first | (exact l0) | (refine r_firstOf (by omega) s0 h64 ?_) | (refine ⟨⟨by omega, by omega, hshp⟩, ?_⟩; conv => whnf) | (refine Ex_step ?_; conv => whnf) | (refine ⟨?_, trivial⟩) | (refine (show den _ _ _ _ _ _ _ _ from ?_); conv => whnf) | (refine ⟨by (first | assumption | rfl | (exact Nat.le_of_ble_eq_true rfl) | (exact ⟨fun h01 => absurd h01 (by decide), by first | rfl | assumption⟩) | (exact ⟨fun _ => by decide, by first | rfl | assumption⟩) | (exact ⟨by assumption, by omega, by omega⟩) | (unfold inI; omega) | omega), ?_⟩; conv => whnf) | (refine ⟨fun c => False.elim (by omega), fun c => ?_⟩) | (refine ⟨fun c => ?_, fun c => False.elim (by omega)⟩) | (refine ⟨fun c => ?_, fun c => ?_⟩) | (intro c) | fail))
set_option maxHeartbeats 4000000 in
theorem m_mateY {X : Int → Int} {XL : Int} {d : Nat} {h : Mem} {Q : RetP} {K : Int} {A C : Int → Int} (hd : 12 ≤ d) (hR : Rr K h A) (hX : RK h) (hCB : CB A C) {s p : Int} (hs : okM A s p) (hq : ∀ h', Rr K h' A → FrH h h' → Q (some (vI (if C s = -1 then -1 else mtN (A 1) (wl A) (tlS A 0 (A 0)) C p 64 s))) (sG h' 127 2 (if C s = -1 then 6 else 0))) : WP X XL d 308 [vR 127, vI s, vI p] h Q := by
  have kq := hR.1.1; have hA := hR.2.2; have b0 := hA.1; have b1 := hA.2.1; have h6 := sh6 b1.1 b1.2; have htl := (tlS_b hA (fr := 0) (to := A 0) (by omega) (by omega) _ 0 0 rfl (by omega) (by omega) (by omega)); have htl2 : 0 ≤ tlS A 0 (A 0) ∧ tlS A 0 (A 0) ≤ 81 := ⟨htl.1, by have := htl.2.1 (by omega); unfold tlS; omega⟩
  obtain ⟨hs1, hp, hb⟩ := hs
  have s0 := pos_bt hs1.1 hb
  refine eX10_mate (by omega) ?_
  by_cases hc : C s = -1
  · rw [if_pos hc, if_pos hc] at hq
    (repeat' (first | (refine r_laysGroups (by omega) hR hX (fun h1 hR1 f1 m1 n1 gb1 => ?_); have kq1 := hR1.1.1; have g1 := f1.1; have hX1 := hX.eq f1.1 f1.2.1; have x25 := hX1.2.2.2.2.1.1; have xk25 := hX1.2.2.2.2.1.2.1; have xl25 := hX1.2.2.2.2.1.2.2; have x26 := hX1.2.2.2.2.2.1.1; have xk26 := hX1.2.2.2.2.2.1.2.1; have xl26 := hX1.2.2.2.2.2.1.2.2; have fc := fun s a b => fc_all b1.1 b1.2 htl2.1 n1 hCB.1 _ s (Nat.lt_succ_self _) a b) | (rw [x26]) | (refine r_arePeople (by omega) hR (fun c => ?_) (fun c => absurd hs1 c)) | (refine r_isPerson (by omega) hR (fun c => ?_) (fun c => absurd hp c)) | (refine r_isIn (by omega) (by omega) (fun c => ?_) (fun c => absurd (c.symm.trans hb) (by decide))) | (refine ⟨⟨xk25, by omega, Int.lt_of_lt_of_le (by omega : _ < (64 : Int)) (Int.le_of_eq xl25.symm)⟩, ?_⟩; conv => whnf) | (refine ⟨⟨xk26, by omega, Int.lt_of_lt_of_le (by omega : _ < (64 : Int)) (Int.le_of_eq xl26.symm)⟩, ?_⟩; conv => whnf) | (refine ⟨fun c => absurd ((rl_c htl2.1 (fc s hs1.1 hs1.2) (by omega)).1 hc) (by omega), fun c => ?_⟩) | (refine r_refuse (by omega) kq1 ?_) | (refine Ex_step ?_; conv => whnf) | (refine ⟨?_, trivial⟩) | (refine (show den _ _ _ _ _ _ _ _ from ?_); conv => whnf) | (refine ⟨by (first | assumption | rfl | (exact Nat.le_of_ble_eq_true rfl) | (exact ⟨fun h01 => absurd h01 (by decide), by first | rfl | assumption⟩) | (exact ⟨fun _ => by decide, by first | rfl | assumption⟩) | (exact ⟨by assumption, by omega, by omega⟩) | (unfold inI; omega) | omega), ?_⟩; conv => whnf) | (refine ⟨fun c => False.elim (by omega), fun c => ?_⟩) | (refine ⟨fun c => ?_, fun c => False.elim (by omega)⟩) | (refine ⟨fun c => ?_, fun c => ?_⟩) | (intro c) | fail))
    exact hq h1 hR1 f1
  · rw [if_neg hc, if_neg hc] at hq
    have loop : ∀ (h1 : Mem), Rr K h1 A → FrH h h1 → isF (A 1) (wl A) (gG h1 137) → ∀ (f : Nat) (r x y : Int), r.toNat ≤ f → 0 < r → r < shlZ 1 (A 1) → ¬ C r = -1 → bt r p = true → ¬ x = p → ¬ y = p → mtN (A 1) (wl A) (tlS A 0 (A 0)) C p 64 s = mtN (A 1) (wl A) (tlS A 0 (A 0)) C p f r → Ex (WP X XL (d - 1)) KX10_mate h.1 Q 63 [some (vR 127), some (vI s), some (vI p), some (vI r), some (vI x), some (vI y)] [] h1 := by
      intro h1 hR1 f1 n1
      have kq1 := hR1.1.1
      have g1 := f1.1
      have hX1 := hX.eq f1.1 f1.2.1
      intro f; induction f with
      | zero => intro r x y hf r0; omega
      | succ f ih =>
        intro r x y hf r0 r1 rc rq nx ny he
        obtain ⟨p0, p1, h64⟩ := fst_n b1.1 b1.2 r0 r1
        obtain ⟨q0, q1, q2, q3⟩ := fst_b r0 h64
        obtain ⟨⟨l1, l1b⟩, l2⟩ := lm_b hCB.1 r0 r1 rc
        have hshp := shl1 p0 (show fst6 r ≤ 20 by omega)
        have hshl := shl1 (show 0 ≤ lm (A 1) (wl A) (tlS A 0 (A 0)) C r by omega) (show lm (A 1) (wl A) (tlS A 0 (A 0)) C r ≤ 20 by omega)
        have hr2 := (rs2 (s := r) (o := lm (A 1) (wl A) (tlS A 0 (A 0)) C r) (by omega) h64 p0 (show fst6 r < 6 by omega) (by omega) (by omega)).2
        rw [show mtN (A 1) (wl A) (tlS A 0 (A 0)) C p (f + 1) r = (if fst6 r = p then lm (A 1) (wl A) (tlS A 0 (A 0)) C r else if lm (A 1) (wl A) (tlS A 0 (A 0)) C r = p then fst6 r else mtN (A 1) (wl A) (tlS A 0 (A 0)) C p f (rs r (fst6 r) (lm (A 1) (wl A) (tlS A 0 (A 0)) C r))) from rfl] at he
        by_cases n3 : fst6 r = p
        · rw [if_pos n3] at he
          rw [he] at hq
          refine Ex_step ?_; conv => whnf
          (repeat' (first | (refine r_firstOf (by omega) r0 h64 ?_) | (refine r_mateOf (by omega) hR1 hX1 hCB n1 r0 r1 rc ?_) | (refine ⟨⟨by omega, by omega, hshp⟩, ?_⟩; conv => whnf) | (refine ⟨⟨by omega, by omega, hshl⟩, ?_⟩; conv => whnf) | (refine r_gives (by omega) kq1 ?_) | (refine Ex_step ?_; conv => whnf) | (refine ⟨?_, trivial⟩) | (refine (show den _ _ _ _ _ _ _ _ from ?_); conv => whnf) | (refine ⟨by (first | assumption | rfl | (exact Nat.le_of_ble_eq_true rfl) | (exact ⟨fun h01 => absurd h01 (by decide), by first | rfl | assumption⟩) | (exact ⟨fun _ => by decide, by first | rfl | assumption⟩) | (exact ⟨by assumption, by omega, by omega⟩) | (unfold inI; omega) | omega), ?_⟩; conv => whnf) | (refine ⟨fun c => False.elim (by omega), fun c => ?_⟩) | (refine ⟨fun c => ?_, fun c => False.elim (by omega)⟩) | (refine ⟨fun c => ?_, fun c => ?_⟩) | (intro c) | fail))
          exact hq h1 hR1 f1
        · rw [if_neg n3] at he
          by_cases n4 : lm (A 1) (wl A) (tlS A 0 (A 0)) C r = p
          · rw [if_pos n4] at he
            rw [he] at hq
            refine Ex_step ?_; conv => whnf
            (repeat' (first | (refine r_firstOf (by omega) r0 h64 ?_) | (refine r_mateOf (by omega) hR1 hX1 hCB n1 r0 r1 rc ?_) | (refine ⟨⟨by omega, by omega, hshp⟩, ?_⟩; conv => whnf) | (refine ⟨⟨by omega, by omega, hshl⟩, ?_⟩; conv => whnf) | (refine r_gives (by omega) kq1 ?_) | (refine Ex_step ?_; conv => whnf) | (refine ⟨?_, trivial⟩) | (refine (show den _ _ _ _ _ _ _ _ from ?_); conv => whnf) | (refine ⟨by (first | assumption | rfl | (exact Nat.le_of_ble_eq_true rfl) | (exact ⟨fun h01 => absurd h01 (by decide), by first | rfl | assumption⟩) | (exact ⟨fun _ => by decide, by first | rfl | assumption⟩) | (exact ⟨by assumption, by omega, by omega⟩) | (unfold inI; omega) | omega), ?_⟩; conv => whnf) | (refine ⟨fun c => False.elim (by omega), fun c => ?_⟩) | (refine ⟨fun c => ?_, fun c => False.elim (by omega)⟩) | (refine ⟨fun c => ?_, fun c => ?_⟩) | (intro c) | fail))
            exact hq h1 hR1 f1
          · rw [if_neg n4] at he
            obtain ⟨m1, m2, m3, m4⟩ := mt_next b1.1 b1.2 hCB.1 r0 r1 rc hp.1 hp.2 rq n3 n4
            have ih2 := ih _ (fst6 r) (lm (A 1) (wl A) (tlS A 0 (A 0)) C r) (by omega) m1.1 (by omega) m2 m3 n3 n4 he
            refine Ex_step ?_; conv => whnf
            (repeat' (first | (rw [hr2]; exact ih2) | (refine r_firstOf (by omega) r0 h64 ?_) | (refine r_mateOf (by omega) hR1 hX1 hCB n1 r0 r1 rc ?_) | (refine ⟨⟨by omega, by omega, hshp⟩, ?_⟩; conv => whnf) | (refine ⟨⟨by omega, by omega, hshl⟩, ?_⟩; conv => whnf) | (refine Ex_step ?_; conv => whnf) | (refine ⟨?_, trivial⟩) | (refine (show den _ _ _ _ _ _ _ _ from ?_); conv => whnf) | (refine ⟨by (first | assumption | rfl | (exact Nat.le_of_ble_eq_true rfl) | (exact ⟨fun h01 => absurd h01 (by decide), by first | rfl | assumption⟩) | (exact ⟨fun _ => by decide, by first | rfl | assumption⟩) | (exact ⟨by assumption, by omega, by omega⟩) | (unfold inI; omega) | omega), ?_⟩; conv => whnf) | (refine ⟨fun c => False.elim (by omega), fun c => ?_⟩) | (refine ⟨fun c => ?_, fun c => False.elim (by omega)⟩) | (refine ⟨fun c => ?_, fun c => ?_⟩) | (intro c) | fail))
    (repeat' (first | (refine loop h1 hR1 f1 n1 64 s (-1) (-1) (by omega) s0 hs1.2 hc hb (by omega) (by omega) rfl) | (refine r_laysGroups (by omega) hR hX (fun h1 hR1 f1 m1 n1 gb1 => ?_); have kq1 := hR1.1.1; have g1 := f1.1; have hX1 := hX.eq f1.1 f1.2.1; have x25 := hX1.2.2.2.2.1.1; have xk25 := hX1.2.2.2.2.1.2.1; have xl25 := hX1.2.2.2.2.1.2.2; have x26 := hX1.2.2.2.2.2.1.1; have xk26 := hX1.2.2.2.2.2.1.2.1; have xl26 := hX1.2.2.2.2.2.1.2.2; have fc := fun s a b => fc_all b1.1 b1.2 htl2.1 n1 hCB.1 _ s (Nat.lt_succ_self _) a b) | (rw [x26]) | (refine r_arePeople (by omega) hR (fun c => ?_) (fun c => absurd hs1 c)) | (refine r_isPerson (by omega) hR (fun c => ?_) (fun c => absurd hp c)) | (refine r_isIn (by omega) (by omega) (fun c => ?_) (fun c => absurd (c.symm.trans hb) (by decide))) | (refine ⟨⟨xk25, by omega, Int.lt_of_lt_of_le (by omega : _ < (64 : Int)) (Int.le_of_eq xl25.symm)⟩, ?_⟩; conv => whnf) | (refine ⟨⟨xk26, by omega, Int.lt_of_lt_of_le (by omega : _ < (64 : Int)) (Int.le_of_eq xl26.symm)⟩, ?_⟩; conv => whnf) | (refine ⟨fun c => ?_, fun c => absurd ((rl_c htl2.1 (fc s hs1.1 hs1.2) (by omega)).2 hc).1 (by omega)⟩) | (refine Ex_step ?_; conv => whnf) | (refine ⟨?_, trivial⟩) | (refine (show den _ _ _ _ _ _ _ _ from ?_); conv => whnf) | (refine ⟨by (first | assumption | rfl | (exact Nat.le_of_ble_eq_true rfl) | (exact ⟨fun h01 => absurd h01 (by decide), by first | rfl | assumption⟩) | (exact ⟨fun _ => by decide, by first | rfl | assumption⟩) | (exact ⟨by assumption, by omega, by omega⟩) | (unfold inI; omega) | omega), ?_⟩; conv => whnf) | (refine ⟨fun c => False.elim (by omega), fun c => ?_⟩) | (refine ⟨fun c => ?_, fun c => False.elim (by omega)⟩) | (refine ⟨fun c => ?_, fun c => ?_⟩) | (intro c) | fail))
set_option maxHeartbeats 4000000 in
theorem m_mateN {X : Int → Int} {XL : Int} {d : Nat} {h : Mem} {Q : RetP} {K : Int} {A C : Int → Int} (hd : 12 ≤ d) (hR : Rr K h A) (hX : RK h) (hCB : CB A C) {s p : Int} (hs : ¬ okM A s p) (hq : Q (some (vI (-1))) (sG h 127 2 1)) : WP X XL d 308 [vR 127, vI s, vI p] h Q := by
  have kq := hR.1.1
  have b1 := hR.2.2.2.1
  unfold okM at hs
  refine eX10_mate (by omega) ?_
  (repeat' (first | (refine r_arePeople (by omega) hR (fun c => ?_) (fun c => False.elim (by omega))) | (refine r_arePeople (by omega) hR (fun c => False.elim (by omega)) (fun c => ?_)) | (refine r_arePeople (by omega) hR (fun c => ?_) (fun c => ?_)) | (refine r_isPerson (by omega) hR (fun c => ?_) (fun c => False.elim (by omega))) | (refine r_isPerson (by omega) hR (fun c => False.elim (by omega)) (fun c => ?_)) | (refine r_isPerson (by omega) hR (fun c => ?_) (fun c => ?_)) | (refine r_isIn (by omega) (by omega) (fun c => ?_) (fun c => ?_)) | (refine r_gives (by omega) kq ?_) | (refine r_refuse (by omega) kq ?_) | (refine Ex_step ?_; conv => whnf) | (refine ⟨?_, trivial⟩) | (refine (show den _ _ _ _ _ _ _ _ from ?_); conv => whnf) | (refine ⟨by (first | assumption | rfl | (exact Nat.le_of_ble_eq_true rfl) | (exact ⟨fun h01 => absurd h01 (by decide), by first | rfl | assumption⟩) | (exact ⟨fun _ => by decide, by first | rfl | assumption⟩) | (exact ⟨by assumption, by omega, by omega⟩) | (unfold inI; omega) | omega), ?_⟩; conv => whnf) | (refine ⟨fun c => False.elim (by omega), fun c => ?_⟩) | (refine ⟨fun c => ?_, fun c => False.elim (by omega)⟩) | (refine ⟨fun c => ?_, fun c => ?_⟩) | (intro c) | fail))
  all_goals first | (exact hq) | (exact absurd ⟨by assumption, by assumption, by assumption⟩ hs)
