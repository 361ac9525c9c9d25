/-! LEVEL 2: who with whom: the reference -/
theorem bt_t {s i : Int} : (zand (shrZ s i) 1 = 0 ↔ bt s i = false) := by unfold bt; simp
set_option maxHeartbeats 4000000 in
theorem r_firstOf {X : Int → Int} {XL : Int} {d : Nat} {h : Mem} {Q : RetP} {s : Int} (hd : 1 ≤ d) (s0 : 0 < s) (s1 : s < 64) (hq : Q (some (vI (fst6 s))) h) : WP X XL d 249 [vI s] h Q := by
  obtain ⟨q0, q1, q2, q3⟩ := fst_b s0 s1
  have find : ∀ (k : Nat) (i : Int), (fst6 s - i).toNat = k → 0 ≤ i → i ≤ fst6 s → Ex (WP X XL (d - 1)) KX10_firstOf h.1 Q 2 [some (vI s), some (vI i)] [] h := by
    intro k; induction k with
    | zero =>
      intro i hk h0 h1
      obtain rfl : i = fst6 s := by omega
      (repeat' (first | (refine ⟨fun c => ?_, fun c => absurd (q2.symm.trans (bt_t.mp c)) (by decide)⟩) | (refine Ex_step ?_; conv => whnf) | (refine ⟨?_, trivial⟩) | (refine (show den _ _ _ _ _ _ _ _ from ?_); conv => whnf) | (refine ⟨by (first | assumption | rfl | (exact Nat.le_of_ble_eq_true rfl) | (exact ⟨fun h01 => absurd h01 (by decide), by first | rfl | assumption⟩) | (exact ⟨fun _ => by decide, by first | rfl | assumption⟩) | (exact ⟨by assumption, by omega, by omega⟩) | (unfold inI; omega) | omega), ?_⟩; conv => whnf) | (refine ⟨fun c => False.elim (by omega), fun c => ?_⟩) | (refine ⟨fun c => ?_, fun c => False.elim (by omega)⟩) | (refine ⟨fun c => ?_, fun c => ?_⟩) | (intro c) | fail))
      exact hq
    | succ k ih =>
      intro i hk h0 h1
      have hbi := q3 i h0 (by omega)
      have ih2 := ih (i + 1) (by omega) (by omega) (by omega)
      refine Ex_step ?_; conv => whnf
      (repeat' (first | (exact ih2) | (refine ⟨fun c => absurd (bt_t.mpr hbi) c, fun c => ?_⟩) | (refine Ex_step ?_; conv => whnf) | (refine ⟨?_, trivial⟩) | (refine (show den _ _ _ _ _ _ _ _ from ?_); conv => whnf) | (refine ⟨by (first | assumption | rfl | (exact Nat.le_of_ble_eq_true rfl) | (exact ⟨fun h01 => absurd h01 (by decide), by first | rfl | assumption⟩) | (exact ⟨fun _ => by decide, by first | rfl | assumption⟩) | (exact ⟨by assumption, by omega, by omega⟩) | (unfold inI; omega) | omega), ?_⟩; conv => whnf) | (refine ⟨fun c => False.elim (by omega), fun c => ?_⟩) | (refine ⟨fun c => ?_, fun c => False.elim (by omega)⟩) | (refine ⟨fun c => ?_, fun c => ?_⟩) | (intro c) | fail))
  have f0 := find _ 0 rfl (by omega) (by omega)
  refine eX10_firstOf (by omega) ?_
  (repeat' (first | (exact f0) | (refine Ex_step ?_; conv => whnf) | (refine ⟨?_, trivial⟩) | (refine (show den _ _ _ _ _ _ _ _ from ?_); conv => whnf) | (refine ⟨by (first | assumption | rfl | (exact Nat.le_of_ble_eq_true rfl) | (exact ⟨fun h01 => absurd h01 (by decide), by first | rfl | assumption⟩) | (exact ⟨fun _ => by decide, by first | rfl | assumption⟩) | (exact ⟨by assumption, by omega, by omega⟩) | (unfold inI; omega) | omega), ?_⟩; conv => whnf) | (refine ⟨fun c => False.elim (by omega), fun c => ?_⟩) | (refine ⟨fun c => ?_, fun c => False.elim (by omega)⟩) | (refine ⟨fun c => ?_, fun c => ?_⟩) | (intro c) | fail))
set_option maxHeartbeats 4000000 in
theorem r_isWell {X : Int → Int} {XL : Int} {d : Nat} {h : Mem} {Q : RetP} {K : Int} {A : Int → Int} {p o : Int} (hd : 7 ≤ d) (hR : Rr K h A) (hp0 : 0 ≤ p) (hp1 : p < A 1) (ho0 : 0 ≤ o) (ho1 : o < A 1) (hq1 : wl A p o = true → Q (some (vI 1)) h) (hq0 : wl A p o = false → Q (some (vI 0)) h) : WP X XL d 300 [vR 127, vI p, vI o] h Q := by
  have kq := hR.1.1
  have b0 := hR.2.2.1
  have hs := stN_rng (n := A 0) (ok := okB A p o) _ 0 rfl b0.1
  have hn := nonN_1 (n := A 0) hs.1
  refine eX10_isWell (by omega) ?_
  (repeat' (first | (refine r_stopOf (by omega) hR hp0 hp1 ho0 ho1 (by omega) (by omega) ?_) | (refine Ex_step ?_; conv => whnf) | (refine ⟨?_, trivial⟩) | (refine (show den _ _ _ _ _ _ _ _ from ?_); conv => whnf) | (refine ⟨by (first | assumption | rfl | (exact Nat.le_of_ble_eq_true rfl) | (exact ⟨fun h01 => absurd h01 (by decide), by first | rfl | assumption⟩) | (exact ⟨fun _ => by decide, by first | rfl | assumption⟩) | (exact ⟨by assumption, by omega, by omega⟩) | (unfold inI; omega) | omega), ?_⟩; conv => whnf) | (refine ⟨fun c => False.elim (by omega), fun c => ?_⟩) | (refine ⟨fun c => ?_, fun c => False.elim (by omega)⟩) | (refine ⟨fun c => ?_, fun c => ?_⟩) | (intro c) | fail))
  · refine hq0 (decide_eq_false ?_)
    intro e
    exact absurd (hn.2 e) (by assumption)
  · refine hq1 (decide_eq_true ?_)
    by_cases e : A 0 ≤ stN (A 0) (okB A p o) 0
    · exact e
    · exact absurd (by assumption) (hn.1 (by omega)).2
def GB (h : Mem) (s : Int) : Prop := ∀ x, 0 ≤ x → x < s → (0 ≤ gG h 136 x ∧ gG h 136 x ≤ 2 * x) ∧ 0 ≤ gG h 137 x ∧ gG h 137 x ≤ 1000000
set_option maxHeartbeats 4000000 in
theorem r_laysSet {X : Int → Int} {XL : Int} {d : Nat} {h : Mem} {Q : RetP} {K : Int} {A : Int → Int} {s : Int} (hd : 8 ≤ d) (hR : Rr K h A) (hX : RK h) (s0 : 0 < s) (s1 : s < shlZ 1 (A 1)) (hB : GB h s) (hq : ∀ h', Rr K h' A → FrH h h' → (∀ y, ¬ y = s → gG h' 136 y = gG h 136 y ∧ gG h' 137 y = gG h 137 y) → gG h' 136 s = foN (A 1) (maF (wl A) (gG h 136) s) (fst6 s) (gG h 136 (rs s (fst6 s) (fst6 s))) → gG h' 137 s = foN (A 1) (fwF (wl A) (gG h 137) s) (fst6 s) 1000000 → ((0 ≤ gG h' 136 s ∧ gG h' 136 s ≤ 2 * s) ∧ 0 ≤ gG h' 137 s ∧ gG h' 137 s ≤ 1000000) → Q none h') : WP X XL d 301 [vR 127, vI s] h Q := by
  have hA := hR.2.2
  have b1 := hA.2.1
  have h6 := sh6 b1.1 b1.2
  obtain ⟨p0, p1, h64⟩ := fst_n b1.1 b1.2 s0 s1
  obtain ⟨q0, q1, q2, q3⟩ := fst_b s0 h64
  have hshp := shl1 p0 (show fst6 s ≤ 20 by omega)
  have hrs : ∀ o, zand (zand s (zxor (shlZ 1 (fst6 s)) (-1))) (zxor (shlZ 1 o) (-1)) = rs s (fst6 s) o := fun o => rfl
  have rb : ∀ i, 0 ≤ i → i < 6 → 0 ≤ rs s (fst6 s) i ∧ rs s (fst6 s) i < s := fun i i0 i1 => by
    obtain ⟨r1, r2, -, -⟩ := rs_b (s := s) (by omega) h64 p0 (show fst6 s < 6 by omega) i0 i1
    exact ⟨r1.1, r2 q2⟩
  have loop : ∀ (k : Nat) (o m f : Int) (w : Option MV) (hj : Mem), (A 1 - o).toNat = k → fst6 s ≤ o → o ≤ A 1 → Rr K hj A → FrH h hj → (∀ y, ¬ y = s → gG hj 136 y = gG h 136 y ∧ gG hj 137 y = gG h 137 y) → gG hj 136 s = m → gG hj 137 s = f → (0 ≤ m ∧ m ≤ 2 * s) → (0 ≤ f ∧ f ≤ 1000000) → foN (A 1) (maF (wl A) (gG h 136) s) (fst6 s) (gG h 136 (rs s (fst6 s) (fst6 s))) = foN (A 1) (maF (wl A) (gG h 136) s) o m → foN (A 1) (fwF (wl A) (gG h 137) s) (fst6 s) 1000000 = foN (A 1) (fwF (wl A) (gG h 137) s) o f → Ex (WP X XL (d - 1)) KX10_laysSet h.1 Q 37 [some (vR 127), some (vI s), some (vI (fst6 s)), some (vI (zand s (zxor (shlZ 1 (fst6 s)) (-1)))), some (vI o), w] [] hj := by
    intro k; induction k with
    | zero =>
      intro o m f w hj hk h0 h1 hRj fj uj mj fj2 mb fb em ef
      obtain ⟨⟨kq, r0, kt, lt⟩, eA, -⟩ := id hRj
      have gj := fj.1
      rw [foN_end (n := A 1) (i := o) (by omega)] at em ef
      (repeat' (first | (refine Ex_step ?_; conv => whnf) | (refine ⟨?_, trivial⟩) | (refine (show den _ _ _ _ _ _ _ _ from ?_); conv => whnf) | (refine ⟨by (first | assumption | rfl | (exact Nat.le_of_ble_eq_true rfl) | (exact ⟨fun h01 => absurd h01 (by decide), by first | rfl | assumption | trivial⟩) | (exact ⟨fun _ => by decide, by first | rfl | assumption | trivial⟩) | (exact ⟨kt, by omega, Int.lt_of_lt_of_le (by omega : _ < (3198 : Int)) (Int.le_of_eq lt.symm)⟩) | (unfold inI; omega) | omega), ?_⟩; conv => whnf; try simp (disch := omega) only [r0, gR_sG, g_same, g_ne, eA]) | (refine ⟨fun c => False.elim (by omega), fun c => ?_⟩) | (refine ⟨fun c => ?_, fun c => False.elim (by omega)⟩) | (refine ⟨fun c => ?_, fun c => ?_⟩) | (intro c) | fail))
      exact hq hj hRj fj uj (mj.trans em.symm) (fj2.trans ef.symm) (by omega)
    | succ k ih =>
      intro o m f w hj hk h0 h1 hRj fj uj mj fj2 mb fb em ef
      obtain ⟨⟨kq, r0, kt, lt⟩, eA, -⟩ := id hRj
      obtain ⟨⟨x1, xk1, xl1⟩, ⟨x8, xk8, xl8⟩, ⟨x9, xk9, xl9⟩, ⟨x21, xk21, xl21⟩, ⟨x25, xk25, xl25⟩, ⟨x26, xk26, xl26⟩, ⟨x27, xk27, xl27⟩, ⟨x28, xk28, xl28⟩, ⟨x29, xk29, xl29⟩, ⟨x30, xk30, xl30⟩, ⟨x31, xk31, xl31⟩, ⟨x34, xk34, xl34⟩, ⟨x35, xk35, xl35⟩, ⟨x36, xk36, xl36⟩⟩ := id (hX.eq fj.1 fj.2.1)
      rw [foN_go (n := A 1) (i := o) (by omega)] at em ef
      have hr := rb o (by omega) (by omega)
      have hu := uj (rs s (fst6 s) o) (by omega)
      have hbx := hB _ hr.1 hr.2
      have hsho := shl1 (show 0 ≤ o by omega) (show o ≤ 20 by omega)
      by_cases hb : bt s o = true
      · by_cases hw : wl A (fst6 s) o = true
        · rw [show fwF (wl A) (gG h 137) s o f = min f (gG h 137 (rs s (fst6 s) o) + 1) from if_pos ⟨hb, hw⟩] at ef
          rw [show maF (wl A) (gG h 136) s o m = max m (gG h 136 (rs s (fst6 s) o) + (if o = fst6 s then 1 else 2)) from if_pos ⟨hb, hw⟩] at em
          by_cases e : o = fst6 s
          · rw [if_pos e] at em
            have ih2 := fun w => ih (o + 1) _ _ w (sG (sG hj 136 s (max m (gG h 136 (rs s (fst6 s) o) + 1))) 137 s (min f (gG h 137 (rs s (fst6 s) o) + 1))) (by omega) (by omega) (by omega) ((hRj.o (by omega)).o (by omega)) ((fj.o (by omega)).o (by omega)) (fun y hy => ⟨by rw [gG_sG, if_neg (by omega), g_ne hy]; exact (uj y hy).1, by rw [g_ne hy, gG_sG, if_neg (by omega)]; exact (uj y hy).2⟩) (by rw [gG_sG, if_neg (by omega), g_same]) g_same (by omega) (by omega) em ef
            refine Ex_step ?_; conv => whnf
            (repeat' (first | (refine ih2 _) | (rw [x25]) | (rw [gR_sG]) | (rw [x26]) | (rw [hrs]) | (rw [mj]) | (rw [hu.1]) | (rw [gG_sG, if_neg (by omega)]) | (rw [fj2]) | (rw [hu.2]) | (refine r_isIn (by omega) (by omega) (fun c => ?_) (fun c => absurd (c.symm.trans hb) (by decide))) | (refine r_isWell (by omega) hRj p0 p1 (by omega) (by omega) (fun c => ?_) (fun c => absurd (c.symm.trans hw) (by decide))) | (refine ⟨⟨by omega, by omega, hsho⟩, ?_⟩; conv => whnf) | (refine ⟨⟨xk25, by omega, Int.lt_of_lt_of_le (by omega : _ < (64 : Int)) (Int.le_of_eq xl25.symm)⟩, ?_⟩; conv => whnf) | (refine ⟨⟨xk26, by omega, Int.lt_of_lt_of_le (by omega : _ < (64 : Int)) (Int.le_of_eq xl26.symm)⟩, ?_⟩; conv => whnf) | (refine Ex_step ?_; conv => whnf) | (refine ⟨?_, trivial⟩) | (refine (show den _ _ _ _ _ _ _ _ from ?_); conv => whnf) | (refine ⟨by (first | assumption | rfl | (exact Nat.le_of_ble_eq_true rfl) | (exact ⟨fun h01 => absurd h01 (by decide), by first | rfl | assumption | trivial⟩) | (exact ⟨fun _ => by decide, by first | rfl | assumption | trivial⟩) | (exact ⟨kt, by omega, Int.lt_of_lt_of_le (by omega : _ < (3198 : Int)) (Int.le_of_eq lt.symm)⟩) | (unfold inI; omega) | omega), ?_⟩; conv => whnf; try simp (disch := omega) only [r0, gR_sG, g_same, g_ne, eA]) | (refine ⟨fun c => False.elim (by omega), fun c => ?_⟩) | (refine ⟨fun c => ?_, fun c => False.elim (by omega)⟩) | (refine ⟨fun c => ?_, fun c => ?_⟩) | (intro c) | fail))
          · rw [if_neg e] at em
            have ih2 := fun w => ih (o + 1) _ _ w (sG (sG hj 136 s (max m (gG h 136 (rs s (fst6 s) o) + 2))) 137 s (min f (gG h 137 (rs s (fst6 s) o) + 1))) (by omega) (by omega) (by omega) ((hRj.o (by omega)).o (by omega)) ((fj.o (by omega)).o (by omega)) (fun y hy => ⟨by rw [gG_sG, if_neg (by omega), g_ne hy]; exact (uj y hy).1, by rw [g_ne hy, gG_sG, if_neg (by omega)]; exact (uj y hy).2⟩) (by rw [gG_sG, if_neg (by omega), g_same]) g_same (by omega) (by omega) em ef
            refine Ex_step ?_; conv => whnf
            (repeat' (first | (refine ih2 _) | (rw [x25]) | (rw [gR_sG]) | (rw [x26]) | (rw [hrs]) | (rw [mj]) | (rw [hu.1]) | (rw [gG_sG, if_neg (by omega)]) | (rw [fj2]) | (rw [hu.2]) | (refine r_isIn (by omega) (by omega) (fun c => ?_) (fun c => absurd (c.symm.trans hb) (by decide))) | (refine r_isWell (by omega) hRj p0 p1 (by omega) (by omega) (fun c => ?_) (fun c => absurd (c.symm.trans hw) (by decide))) | (refine ⟨⟨by omega, by omega, hsho⟩, ?_⟩; conv => whnf) | (refine ⟨⟨xk25, by omega, Int.lt_of_lt_of_le (by omega : _ < (64 : Int)) (Int.le_of_eq xl25.symm)⟩, ?_⟩; conv => whnf) | (refine ⟨⟨xk26, by omega, Int.lt_of_lt_of_le (by omega : _ < (64 : Int)) (Int.le_of_eq xl26.symm)⟩, ?_⟩; conv => whnf) | (refine Ex_step ?_; conv => whnf) | (refine ⟨?_, trivial⟩) | (refine (show den _ _ _ _ _ _ _ _ from ?_); conv => whnf) | (refine ⟨by (first | assumption | rfl | (exact Nat.le_of_ble_eq_true rfl) | (exact ⟨fun h01 => absurd h01 (by decide), by first | rfl | assumption | trivial⟩) | (exact ⟨fun _ => by decide, by first | rfl | assumption | trivial⟩) | (exact ⟨kt, by omega, Int.lt_of_lt_of_le (by omega : _ < (3198 : Int)) (Int.le_of_eq lt.symm)⟩) | (unfold inI; omega) | omega), ?_⟩; conv => whnf; try simp (disch := omega) only [r0, gR_sG, g_same, g_ne, eA]) | (refine ⟨fun c => False.elim (by omega), fun c => ?_⟩) | (refine ⟨fun c => ?_, fun c => False.elim (by omega)⟩) | (refine ⟨fun c => ?_, fun c => ?_⟩) | (intro c) | fail))
        · rw [show fwF (wl A) (gG h 137) s o f = f from if_neg (fun q => hw q.2)] at ef
          rw [show maF (wl A) (gG h 136) s o m = m from if_neg (fun q => hw q.2)] at em
          have ih2 := ih (o + 1) _ _ w hj (by omega) (by omega) (by omega) hRj fj uj mj fj2 mb fb em ef
          refine Ex_step ?_; conv => whnf
          (repeat' (first | (exact ih2) | (refine r_isIn (by omega) (by omega) (fun c => ?_) (fun c => absurd (c.symm.trans hb) (by decide))) | (refine r_isWell (by omega) hRj p0 p1 (by omega) (by omega) (fun c => absurd c hw) (fun c => ?_)) | (refine Ex_step ?_; conv => whnf) | (refine ⟨?_, trivial⟩) | (refine (show den _ _ _ _ _ _ _ _ from ?_); conv => whnf) | (refine ⟨by (first | assumption | rfl | (exact Nat.le_of_ble_eq_true rfl) | (exact ⟨fun h01 => absurd h01 (by decide), by first | rfl | assumption | trivial⟩) | (exact ⟨fun _ => by decide, by first | rfl | assumption | trivial⟩) | (exact ⟨kt, by omega, Int.lt_of_lt_of_le (by omega : _ < (3198 : Int)) (Int.le_of_eq lt.symm)⟩) | (unfold inI; omega) | omega), ?_⟩; conv => whnf; try simp (disch := omega) only [r0, gR_sG, g_same, g_ne, eA]) | (refine ⟨fun c => False.elim (by omega), fun c => ?_⟩) | (refine ⟨fun c => ?_, fun c => False.elim (by omega)⟩) | (refine ⟨fun c => ?_, fun c => ?_⟩) | (intro c) | fail))
      · rw [show fwF (wl A) (gG h 137) s o f = f from if_neg (fun q => hb q.1)] at ef
        rw [show maF (wl A) (gG h 136) s o m = m from if_neg (fun q => hb q.1)] at em
        have ih2 := ih (o + 1) _ _ w hj (by omega) (by omega) (by omega) hRj fj uj mj fj2 mb fb em ef
        refine Ex_step ?_; conv => whnf
        (repeat' (first | (exact ih2) | (refine r_isIn (by omega) (by omega) (fun c => absurd c hb) (fun c => ?_)) | (refine Ex_step ?_; conv => whnf) | (refine ⟨?_, trivial⟩) | (refine (show den _ _ _ _ _ _ _ _ from ?_); conv => whnf) | (refine ⟨by (first | assumption | rfl | (exact Nat.le_of_ble_eq_true rfl) | (exact ⟨fun h01 => absurd h01 (by decide), by first | rfl | assumption | trivial⟩) | (exact ⟨fun _ => by decide, by first | rfl | assumption | trivial⟩) | (exact ⟨kt, by omega, Int.lt_of_lt_of_le (by omega : _ < (3198 : Int)) (Int.le_of_eq lt.symm)⟩) | (unfold inI; omega) | omega), ?_⟩; conv => whnf; try simp (disch := omega) only [r0, gR_sG, g_same, g_ne, eA]) | (refine ⟨fun c => False.elim (by omega), fun c => ?_⟩) | (refine ⟨fun c => ?_, fun c => False.elim (by omega)⟩) | (refine ⟨fun c => ?_, fun c => ?_⟩) | (intro c) | fail))
  have kq := hR.1.1
  obtain ⟨⟨x1, xk1, xl1⟩, ⟨x8, xk8, xl8⟩, ⟨x9, xk9, xl9⟩, ⟨x21, xk21, xl21⟩, ⟨x25, xk25, xl25⟩, ⟨x26, xk26, xl26⟩, ⟨x27, xk27, xl27⟩, ⟨x28, xk28, xl28⟩, ⟨x29, xk29, xl29⟩, ⟨x30, xk30, xl30⟩, ⟨x31, xk31, xl31⟩, ⟨x34, xk34, xl34⟩, ⟨x35, xk35, xl35⟩, ⟨x36, xk36, xl36⟩⟩ := id hX
  have hl := rb (fst6 s) p0 (by omega)
  have hlb := hB _ hl.1 hl.2
  have hle := (rs2 (s := s) (o := fst6 s) (by omega) h64 p0 (show fst6 s < 6 by omega) p0 (by omega)).1
  have l0 := loop _ (fst6 s) _ _ none (sG (sG h 136 s (gG h 136 (rs s (fst6 s) (fst6 s)))) 137 s 1000000) rfl (by omega) (by omega) ((hR.o (by omega)).o (by omega)) ((FrH.refl.o (by omega)).o (by omega)) (fun y hy => ⟨by rw [gG_sG, if_neg (by omega), g_ne hy], by rw [g_ne hy, gG_sG, if_neg (by omega)]⟩) (by rw [gG_sG, if_neg (by omega), g_same]) g_same (by omega) (by omega) rfl rfl
  rw [hle] at l0 hl
  refine eX10_laysSet (by omega) ?_
  (repeat' (first | (exact l0) | (rw [x25]) | (rw [gR_sG]) | (rw [x26]) | (refine r_firstOf (by omega) s0 h64 ?_) | (refine ⟨⟨by omega, by omega, hshp⟩, ?_⟩; conv => whnf) | (refine ⟨⟨xk25, by omega, Int.lt_of_lt_of_le (by omega : _ < (64 : Int)) (Int.le_of_eq xl25.symm)⟩, ?_⟩; conv => whnf) | (refine ⟨⟨xk26, by omega, Int.lt_of_lt_of_le (by omega : _ < (64 : Int)) (Int.le_of_eq xl26.symm)⟩, ?_⟩; conv => whnf) | (refine Ex_step ?_; conv => whnf) | (refine ⟨?_, trivial⟩) | (refine (show den _ _ _ _ _ _ _ _ from ?_); conv => whnf) | (refine ⟨by (first | assumption | rfl | (exact Nat.le_of_ble_eq_true rfl) | (exact ⟨fun h01 => absurd h01 (by decide), by first | rfl | assumption⟩) | (exact ⟨fun _ => by decide, by first | rfl | assumption⟩) | (exact ⟨by assumption, by omega, by omega⟩) | (unfold inI; omega) | omega), ?_⟩; conv => whnf) | (refine ⟨fun c => False.elim (by omega), fun c => ?_⟩) | (refine ⟨fun c => ?_, fun c => False.elim (by omega)⟩) | (refine ⟨fun c => ?_, fun c => ?_⟩) | (intro c) | fail))
set_option maxHeartbeats 4000000 in
theorem r_everybody {X : Int → Int} {XL : Int} {d : Nat} {h : Mem} {Q : RetP} {K : Int} {A : Int → Int} (hd : 1 ≤ d) (hR : Rr K h A) (hq : Q (some (vI (shlZ 1 (A 1) - 1))) h) : WP X XL d 302 [vR 127] h Q := by
  obtain ⟨⟨kq, r0, kt, lt⟩, eA, ⟨b0, b1, b2, b3, b4, b5, b6, b8, bK, ba, bp, bq⟩⟩ := id hR
  have h6 := sh6 b1.1 b1.2
  have hsh : inI (shlZ 1 (A 1)) := ⟨by omega, by omega⟩
  refine eX10_everybody (by omega) ?_
  (repeat' (first | (refine ⟨⟨by omega, by omega, hsh⟩, ?_⟩; conv => whnf) | (refine Ex_step ?_; conv => whnf) | (refine ⟨?_, trivial⟩) | (refine (show den _ _ _ _ _ _ _ _ from ?_); conv => whnf) | (refine ⟨by (first | assumption | rfl | (exact Nat.le_of_ble_eq_true rfl) | (exact ⟨fun h01 => absurd h01 (by decide), by first | rfl | assumption | trivial⟩) | (exact ⟨fun _ => by decide, by first | rfl | assumption | trivial⟩) | (exact ⟨kt, by omega, Int.lt_of_lt_of_le (by omega : _ < (3198 : Int)) (Int.le_of_eq lt.symm)⟩) | (unfold inI; omega) | omega), ?_⟩; conv => whnf; try simp (disch := omega) only [r0, gR_sG, g_same, g_ne, eA]) | (refine ⟨fun c => False.elim (by omega), fun c => ?_⟩) | (refine ⟨fun c => ?_, fun c => False.elim (by omega)⟩) | (refine ⟨fun c => ?_, fun c => ?_⟩) | (intro c) | fail))
  exact hq
theorem fw_congr {n : Int} {w : Int → Int → Bool} {C C' : Int → Int} {s : Int} (hn0 : 0 ≤ n) (hn1 : n ≤ 6) (s0 : 0 < s) (s1 : s < shlZ 1 n) (h : ∀ x, 0 ≤ x → x < s → C x = C' x) : foN n (fwF w C s) (fst6 s) 1000000 = foN n (fwF w C' s) (fst6 s) 1000000 := by
  obtain ⟨p0, p1, h64⟩ := fst_n hn0 hn1 s0 s1
  obtain ⟨q0, q1, q2, q3⟩ := fst_b s0 h64
  refine foN_congr _ _ _ rfl (fun i l i0 i1 => ?_)
  obtain ⟨r1, r2, -, -⟩ := rs_b (s := s) (by omega) h64 p0 (show fst6 s < 6 by omega) (show 0 ≤ i by omega) (show i < 6 by omega)
  unfold fwF
  rw [h _ r1.1 (r2 q2)]
theorem ma_congr {n : Int} {w : Int → Int → Bool} {C C' : Int → Int} {s : Int} (hn0 : 0 ≤ n) (hn1 : n ≤ 6) (s0 : 0 < s) (s1 : s < shlZ 1 n) (h : ∀ x, 0 ≤ x → x < s → C x = C' x) : foN n (maF w C s) (fst6 s) (C (rs s (fst6 s) (fst6 s))) = foN n (maF w C' s) (fst6 s) (C' (rs s (fst6 s) (fst6 s))) := by
  obtain ⟨p0, p1, h64⟩ := fst_n hn0 hn1 s0 s1
  obtain ⟨q0, q1, q2, q3⟩ := fst_b s0 h64
  obtain ⟨r1, r2, -, -⟩ := rs_b (s := s) (by omega) h64 p0 (show fst6 s < 6 by omega) p0 (show fst6 s < 6 by omega)
  rw [h _ r1.1 (r2 q2)]
  refine foN_congr _ _ _ rfl (fun i l i0 i1 => ?_)
  obtain ⟨r1, r2, -, -⟩ := rs_b (s := s) (by omega) h64 p0 (show fst6 s < 6 by omega) (show 0 ≤ i by omega) (show i < 6 by omega)
  unfold maF
  rw [h _ r1.1 (r2 q2)]
set_option maxHeartbeats 4000000 in
theorem r_laysGroups {X : Int → Int} {XL : Int} {d : Nat} {h : Mem} {Q : RetP} {K : Int} {A : Int → Int} (hd : 9 ≤ d) (hR : Rr K h A) (hX : RK h) (hq : ∀ h', Rr K h' A → FrH h h' → isM (A 1) (wl A) (gG h' 136) → isF (A 1) (wl A) (gG h' 137) → GB h' (shlZ 1 (A 1)) → Q none h') : WP X XL d 303 [vR 127] h Q := by
  have hA := hR.2.2
  have b1 := hA.2.1
  have h6 := sh6 b1.1 b1.2
  have loop : ∀ (k : Nat) (s : Int) (hj : Mem), (shlZ 1 (A 1) - s).toNat = k → 1 ≤ s → s ≤ shlZ 1 (A 1) → Rr K hj A → FrH h hj → GB hj s → (gG hj 136 0 = 0 ∧ ∀ x, 0 < x → x < s → gG hj 136 x = foN (A 1) (maF (wl A) (gG hj 136) x) (fst6 x) (gG hj 136 (rs x (fst6 x) (fst6 x)))) → (gG hj 137 0 = 0 ∧ ∀ x, 0 < x → x < s → gG hj 137 x = foN (A 1) (fwF (wl A) (gG hj 137) x) (fst6 x) 1000000) → Ex (WP X XL (d - 1)) KX10_laysGroups h.1 Q 16 [some (vR 127), some (vI s)] [] hj := by
    intro k; induction k with
    | zero =>
      intro s hj hk h0 h1 hRj fj gb cm cf
      obtain rfl : s = shlZ 1 (A 1) := by omega
      have kq := hRj.1.1
      have gj := fj.1
      (repeat' (first | (refine r_everybody (by omega) hRj ?_) | (refine Ex_step ?_; conv => whnf) | (refine ⟨?_, trivial⟩) | (refine (show den _ _ _ _ _ _ _ _ from ?_); conv => whnf) | (refine ⟨by (first | assumption | rfl | (exact Nat.le_of_ble_eq_true rfl) | (exact ⟨fun h01 => absurd h01 (by decide), by first | rfl | assumption⟩) | (exact ⟨fun _ => by decide, by first | rfl | assumption⟩) | (exact ⟨by assumption, by omega, by omega⟩) | (unfold inI; omega) | omega), ?_⟩; conv => whnf) | (refine ⟨fun c => False.elim (by omega), fun c => ?_⟩) | (refine ⟨fun c => ?_, fun c => False.elim (by omega)⟩) | (refine ⟨fun c => ?_, fun c => ?_⟩) | (intro c) | fail))
      exact hq hj hRj fj cm cf gb
    | succ k ih =>
      intro s hj hk h0 h1 hRj fj gb cm cf
      have kq := hRj.1.1
      have hXj := hX.eq fj.1 fj.2.1
      refine Ex_step ?_; conv => whnf
      (repeat' (first | (refine ih (s + 1) h2 (by omega) (by omega) (by omega) hR2 (fj.trans f2) (fun x x0 x1 => by
          by_cases e : x = s
          · subst e; exact bb2
          · rw [(u2 x e).1, (u2 x e).2]; exact gb x x0 (by omega)) ⟨by rw [(u2 0 (by omega)).1]; exact cm.1, fun x x0 x1 => by
          rw [ma_congr b1.1 b1.2 x0 (by omega) (C' := gG hj 136) (fun y y0 y1 => (u2 y (by omega)).1)]
          by_cases e : x = s
          · subst e; exact m2
          · rw [(u2 x e).1]; exact cm.2 x x0 (by omega)⟩ ⟨by rw [(u2 0 (by omega)).2]; exact cf.1, fun x x0 x1 => by
          rw [fw_congr b1.1 b1.2 x0 (by omega) (C' := gG hj 137) (fun y y0 y1 => (u2 y (by omega)).2)]
          by_cases e : x = s
          · subst e; exact n2
          · rw [(u2 x e).2]; exact cf.2 x x0 (by omega)⟩) | (refine r_everybody (by omega) hRj ?_) | (refine r_laysSet (by omega) hRj hXj (by omega) (by omega) gb (fun h2 hR2 f2 u2 m2 n2 bb2 => ?_)) | (refine Ex_step ?_; conv => whnf) | (refine ⟨?_, trivial⟩) | (refine (show den _ _ _ _ _ _ _ _ from ?_); conv => whnf) | (refine ⟨by (first | assumption | rfl | (exact Nat.le_of_ble_eq_true rfl) | (exact ⟨fun h01 => absurd h01 (by decide), by first | rfl | assumption⟩) | (exact ⟨fun _ => by decide, by first | rfl | assumption⟩) | (exact ⟨by assumption, by omega, by omega⟩) | (unfold inI; omega) | omega), ?_⟩; conv => whnf) | (refine ⟨fun c => False.elim (by omega), fun c => ?_⟩) | (refine ⟨fun c => ?_, fun c => False.elim (by omega)⟩) | (refine ⟨fun c => ?_, fun c => ?_⟩) | (intro c) | fail))
  have kq := hR.1.1
  obtain ⟨⟨x1, xk1, xl1⟩, ⟨x8, xk8, xl8⟩, ⟨x9, xk9, xl9⟩, ⟨x21, xk21, xl21⟩, ⟨x25, xk25, xl25⟩, ⟨x26, xk26, xl26⟩, ⟨x27, xk27, xl27⟩, ⟨x28, xk28, xl28⟩, ⟨x29, xk29, xl29⟩, ⟨x30, xk30, xl30⟩, ⟨x31, xk31, xl31⟩, ⟨x34, xk34, xl34⟩, ⟨x35, xk35, xl35⟩, ⟨x36, xk36, xl36⟩⟩ := id hX
  have l0 := loop _ 1 (sG (sG h 136 0 0) 137 0 0) rfl (by omega) (by omega) ((hR.o (by omega)).o (by omega)) ((FrH.refl.o (by omega)).o (by omega)) (fun x x0 x1 => by rw [show x = 0 by omega, g_same, gG_sG, if_neg (by omega), g_same]; omega) ⟨by rw [gG_sG, if_neg (by omega), g_same], fun x x0 x1 => by omega⟩ ⟨g_same, fun x x0 x1 => by omega⟩
  refine eX10_laysGroups (by omega) ?_
  (repeat' (first | (exact l0) | (rw [x25]) | (rw [gR_sG]) | (rw [x26]) | (refine ⟨⟨xk25, by omega, Int.lt_of_lt_of_le (by omega : _ < (64 : Int)) (Int.le_of_eq xl25.symm)⟩, ?_⟩; conv => whnf) | (refine ⟨⟨xk26, by omega, Int.lt_of_lt_of_le (by omega : _ < (64 : Int)) (Int.le_of_eq xl26.symm)⟩, ?_⟩; conv => whnf) | (refine Ex_step ?_; conv => whnf) | (refine ⟨?_, trivial⟩) | (refine (show den _ _ _ _ _ _ _ _ from ?_); conv => whnf) | (refine ⟨by (first | assumption | rfl | (exact Nat.le_of_ble_eq_true rfl) | (exact ⟨fun h01 => absurd h01 (by decide), by first | rfl | assumption⟩) | (exact ⟨fun _ => by decide, by first | rfl | assumption⟩) | (exact ⟨by assumption, by omega, by omega⟩) | (unfold inI; omega) | omega), ?_⟩; conv => whnf) | (refine ⟨fun c => False.elim (by omega), fun c => ?_⟩) | (refine ⟨fun c => ?_, fun c => False.elim (by omega)⟩) | (refine ⟨fun c => ?_, fun c => ?_⟩) | (intro c) | fail))
set_option maxHeartbeats 4000000 in
theorem m_most {X : Int → Int} {XL : Int} {d : Nat} {h : Mem} {Q : RetP} {K : Int} {A C : Int → Int} (hd : 12 ≤ d) (hR : Rr K h A) (hX : RK h) (hCB : CB A C) (hq : ∀ h', Rr K h' A → FrH h h' → Q (some (vI (foN (shlZ 1 (A 1)) (moF C) 1 0))) (sG h' 127 2 0)) : WP X XL d 304 [vR 127] h Q := by
  have kq := hR.1.1; have hA := hR.2.2; have b0 := hA.1; have b1 := hA.2.1; have h6 := sh6 b1.1 b1.2; have htl := (tlS_b hA (fr := 0) (to := A 0) (by omega) (by omega) _ 0 0 rfl (by omega) (by omega) (by omega)); have htl2 : 0 ≤ tlS A 0 (A 0) ∧ tlS A 0 (A 0) ≤ 81 := ⟨htl.1, by have := htl.2.1 (by omega); unfold tlS; omega⟩
  refine eX10_most (by omega) ?_
  (repeat' (first | (refine r_laysGroups (by omega) hR hX (fun h1 hR1 f1 m1 n1 gb1 => ?_); have kq1 := hR1.1.1; have g1 := f1.1; have hX1 := hX.eq f1.1 f1.2.1; have x25 := hX1.2.2.2.2.1.1; have xk25 := hX1.2.2.2.2.1.2.1; have xl25 := hX1.2.2.2.2.1.2.2; have x26 := hX1.2.2.2.2.2.1.1; have xk26 := hX1.2.2.2.2.2.1.2.1; have xl26 := hX1.2.2.2.2.2.1.2.2; have fc := fun s a b => fc_all b1.1 b1.2 htl2.1 n1 hCB.1 _ s (Nat.lt_succ_self _) a b) | (rw [x25]) | (refine r_everybody (by omega) hR1 ?_) | (refine ⟨⟨xk25, by omega, Int.lt_of_lt_of_le (by omega : _ < (64 : Int)) (Int.le_of_eq xl25.symm)⟩, ?_⟩; conv => whnf) | (refine ⟨⟨xk26, by omega, Int.lt_of_lt_of_le (by omega : _ < (64 : Int)) (Int.le_of_eq xl26.symm)⟩, ?_⟩; conv => whnf) | (refine r_gives (by omega) kq1 ?_) | (refine Ex_step ?_; conv => whnf) | (refine ⟨?_, trivial⟩) | (refine (show den _ _ _ _ _ _ _ _ from ?_); conv => whnf) | (refine ⟨by (first | assumption | rfl | (exact Nat.le_of_ble_eq_true rfl) | (exact ⟨fun h01 => absurd h01 (by decide), by first | rfl | assumption⟩) | (exact ⟨fun _ => by decide, by first | rfl | assumption⟩) | (exact ⟨by assumption, by omega, by omega⟩) | (unfold inI; omega) | omega), ?_⟩; conv => whnf) | (refine ⟨fun c => False.elim (by omega), fun c => ?_⟩) | (refine ⟨fun c => ?_, fun c => False.elim (by omega)⟩) | (refine ⟨fun c => ?_, fun c => ?_⟩) | (intro c) | fail))
  rw [most_eq b1.1 b1.2 htl2.1 (fun s a b => (hCB.2 s a b).1) m1 hCB.1] at hq
  exact hq h1 hR1 f1
theorem rl_c {tl s f c : Int} (ht : 0 ≤ tl) (h : Rl tl s f c) (hs : s < 64) : (c = -1 → 1000000 ≤ f) ∧ (¬ c = -1 → f < 1000000 ∧ (0 ≤ f ∧ f ≤ s) ∧ tl * f = c) := by
  rcases h with ⟨a, b⟩ | ⟨a, b⟩
  · exact ⟨fun _ => by omega, fun q => absurd b q⟩
  · have := mulP ht a.1
    exact ⟨fun q => by omega, fun _ => ⟨by omega, a, b.symm⟩⟩
set_option maxHeartbeats 4000000 in
theorem m_cheapY {X : Int → Int} {XL : Int} {d : Nat} {h : Mem} {Q : RetP} {K : Int} {A C : Int → Int} (hd : 12 ≤ d) (hR : Rr K h A) (hX : RK h) (hCB : CB A C) {s : Int} (hs : 0 ≤ s ∧ s < shlZ 1 (A 1)) (hq : ∀ h', Rr K h' A → FrH h h' → Q (some (vI (if C s = -1 then -1 else C s))) (sG h' 127 2 (if C s = -1 then 6 else 0))) : WP X XL d 306 [vR 127, vI s] h Q := by
  have kq := hR.1.1; have hA := hR.2.2; have b0 := hA.1; have b1 := hA.2.1; have h6 := sh6 b1.1 b1.2; have htl := (tlS_b hA (fr := 0) (to := A 0) (by omega) (by omega) _ 0 0 rfl (by omega) (by omega) (by omega)); have htl2 : 0 ≤ tlS A 0 (A 0) ∧ tlS A 0 (A 0) ≤ 81 := ⟨htl.1, by have := htl.2.1 (by omega); unfold tlS; omega⟩
  refine eX10_cheapest (by omega) ?_
  by_cases hc : C s = -1
  · rw [if_pos hc, if_pos hc] at hq
    (repeat' (first | (refine r_laysGroups (by omega) hR hX (fun h1 hR1 f1 m1 n1 gb1 => ?_); have kq1 := hR1.1.1; have g1 := f1.1; have hX1 := hX.eq f1.1 f1.2.1; have x25 := hX1.2.2.2.2.1.1; have xk25 := hX1.2.2.2.2.1.2.1; have xl25 := hX1.2.2.2.2.1.2.2; have x26 := hX1.2.2.2.2.2.1.1; have xk26 := hX1.2.2.2.2.2.1.2.1; have xl26 := hX1.2.2.2.2.2.1.2.2; have fc := fun s a b => fc_all b1.1 b1.2 htl2.1 n1 hCB.1 _ s (Nat.lt_succ_self _) a b) | (rw [x26]) | (refine r_arePeople (by omega) hR (fun c => ?_) (fun c => absurd hs c)) | (refine ⟨⟨xk25, by omega, Int.lt_of_lt_of_le (by omega : _ < (64 : Int)) (Int.le_of_eq xl25.symm)⟩, ?_⟩; conv => whnf) | (refine ⟨⟨xk26, by omega, Int.lt_of_lt_of_le (by omega : _ < (64 : Int)) (Int.le_of_eq xl26.symm)⟩, ?_⟩; conv => whnf) | (refine ⟨fun c => absurd ((rl_c htl2.1 (fc s hs.1 hs.2) (by omega)).1 hc) (by omega), fun c => ?_⟩) | (refine r_refuse (by omega) kq1 ?_) | (refine Ex_step ?_; conv => whnf) | (refine ⟨?_, trivial⟩) | (refine (show den _ _ _ _ _ _ _ _ from ?_); conv => whnf) | (refine ⟨by (first | assumption | rfl | (exact Nat.le_of_ble_eq_true rfl) | (exact ⟨fun h01 => absurd h01 (by decide), by first | rfl | assumption⟩) | (exact ⟨fun _ => by decide, by first | rfl | assumption⟩) | (exact ⟨by assumption, by omega, by omega⟩) | (unfold inI; omega) | omega), ?_⟩; conv => whnf) | (refine ⟨fun c => False.elim (by omega), fun c => ?_⟩) | (refine ⟨fun c => ?_, fun c => False.elim (by omega)⟩) | (refine ⟨fun c => ?_, fun c => ?_⟩) | (intro c) | fail))
    exact hq h1 hR1 f1
  · rw [if_neg hc, if_neg hc] at hq
    (repeat' (first | (refine r_laysGroups (by omega) hR hX (fun h1 hR1 f1 m1 n1 gb1 => ?_); have kq1 := hR1.1.1; have g1 := f1.1; have hX1 := hX.eq f1.1 f1.2.1; have x25 := hX1.2.2.2.2.1.1; have xk25 := hX1.2.2.2.2.1.2.1; have xl25 := hX1.2.2.2.2.1.2.2; have x26 := hX1.2.2.2.2.2.1.1; have xk26 := hX1.2.2.2.2.2.1.2.1; have xl26 := hX1.2.2.2.2.2.1.2.2; have fc := fun s a b => fc_all b1.1 b1.2 htl2.1 n1 hCB.1 _ s (Nat.lt_succ_self _) a b) | (rw [x26]) | (refine r_arePeople (by omega) hR (fun c => ?_) (fun c => absurd hs c)) | (refine ⟨⟨xk25, by omega, Int.lt_of_lt_of_le (by omega : _ < (64 : Int)) (Int.le_of_eq xl25.symm)⟩, ?_⟩; conv => whnf) | (refine ⟨⟨xk26, by omega, Int.lt_of_lt_of_le (by omega : _ < (64 : Int)) (Int.le_of_eq xl26.symm)⟩, ?_⟩; conv => whnf) | (refine ⟨fun c => ?_, fun c => absurd ((rl_c htl2.1 (fc s hs.1 hs.2) (by omega)).2 hc).1 (by omega)⟩) | (refine r_allTolls (by omega) hR1 ?_; have hx := ((rl_c htl2.1 (fc s hs.1 hs.2) (by omega)).2 hc).2; have hxm := mulB htl2.1 htl2.2 hx.1.1 (show gG h1 137 s ≤ 64 by omega)) | (rw [hx.2]) | (refine r_gives (by omega) kq1 ?_) | (refine Ex_step ?_; conv => whnf) | (refine ⟨?_, trivial⟩) | (refine (show den _ _ _ _ _ _ _ _ from ?_); conv => whnf) | (refine ⟨by (first | assumption | rfl | (exact Nat.le_of_ble_eq_true rfl) | (exact ⟨fun h01 => absurd h01 (by decide), by first | rfl | assumption⟩) | (exact ⟨fun _ => by decide, by first | rfl | assumption⟩) | (exact ⟨by assumption, by omega, by omega⟩) | (unfold inI; omega) | omega), ?_⟩; conv => whnf) | (refine ⟨fun c => False.elim (by omega), fun c => ?_⟩) | (refine ⟨fun c => ?_, fun c => False.elim (by omega)⟩) | (refine ⟨fun c => ?_, fun c => ?_⟩) | (intro c) | fail))
    exact hq h1 hR1 f1
set_option maxHeartbeats 4000000 in
theorem m_cheapN {X : Int → Int} {XL : Int} {d : Nat} {h : Mem} {Q : RetP} {K : Int} {A C : Int → Int} (hd : 12 ≤ d) (hR : Rr K h A) (hX : RK h) (hCB : CB A C) {s : Int} (hs : ¬ (0 ≤ s ∧ s < shlZ 1 (A 1))) (hq : Q (some (vI (-1))) (sG h 127 2 1)) : WP X XL d 306 [vR 127, vI s] h Q := by
  have kq := hR.1.1
  refine eX10_cheapest (by omega) ?_
  (repeat' (first | (refine r_arePeople (by omega) hR (fun c => absurd c hs) (fun c => ?_)) | (refine r_gives (by omega) kq ?_) | (refine r_refuse (by omega) kq ?_) | (refine Ex_step ?_; conv => whnf) | (refine ⟨?_, trivial⟩) | (refine (show den _ _ _ _ _ _ _ _ from ?_); conv => whnf) | (refine ⟨by (first | assumption | rfl | (exact Nat.le_of_ble_eq_true rfl) | (exact ⟨fun h01 => absurd h01 (by decide), by first | rfl | assumption⟩) | (exact ⟨fun _ => by decide, by first | rfl | assumption⟩) | (exact ⟨by assumption, by omega, by omega⟩) | (unfold inI; omega) | omega), ?_⟩; conv => whnf) | (refine ⟨fun c => False.elim (by omega), fun c => ?_⟩) | (refine ⟨fun c => ?_, fun c => False.elim (by omega)⟩) | (refine ⟨fun c => ?_, fun c => ?_⟩) | (intro c) | fail))
  exact hq
