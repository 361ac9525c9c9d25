/-! LEVEL 2: who with whom: the class's calls -/
set_option maxHeartbeats 4000000 in
theorem w_mostOver {X : Int → Int} {XL : Int} {d : Nat} {h : Mem} {Q : RetP} {n tl : Int} {w : Int → Int → Bool} (hd : 2 ≤ d) (hG : GK h) (hS : GS h n tl w) (hn0 : 0 ≤ n) (hn1 : n ≤ 6) (ht : 0 ≤ tl ∧ tl ≤ 81) (hq : Q (some (vI (foN (shlZ 1 n) (moF (gG h 122)) 1 0))) h) : WP X XL d 98 [vR 120] h Q := by
  obtain ⟨kg, rw0, rc1, kw, lw, kc, lc, r14⟩ := id hG
  obtain ⟨s2, s3, sw⟩ := id hS
  have h6 := sh6 hn0 hn1
  have hsh : inI (shlZ 1 n) := ⟨by omega, by omega⟩
  have loop : ∀ (k : Nat) (s m : Int), (shlZ 1 n - s).toNat = k → 1 ≤ s → s ≤ shlZ 1 n → foN (shlZ 1 n) (moF (gG h 122)) 1 0 = foN (shlZ 1 n) (moF (gG h 122)) s m → Ex (WP X XL (d - 1)) KX1_mostOver h.1 Q 4 [some (vR 120), some (vI m), some (vI s)] [] h := by
    intro k; induction k with
    | zero =>
      intro s m hk h0 h1 he
      rw [foN_end (n := shlZ 1 n) (i := s) (by omega)] at he
      rw [he] at hq
      (repeat' (first | (rw [s2]) | (refine ⟨⟨by omega, by omega, hsh⟩, ?_⟩; conv => whnf) | (refine Ex_step ?_; conv => whnf) | (refine ⟨?_, trivial⟩) | (refine (show den _ _ _ _ _ _ _ _ from ?_); conv => whnf) | (refine ⟨by (first | assumption | rfl | (exact Nat.le_of_ble_eq_true rfl) | (exact ⟨fun h01 => absurd h01 (by decide), by first | rfl | assumption⟩) | (exact ⟨fun _ => by decide, by first | rfl | assumption⟩) | (exact ⟨by assumption, by omega, by omega⟩) | (unfold inI; omega) | omega), ?_⟩; conv => whnf) | (refine ⟨fun c => False.elim (by omega), fun c => ?_⟩) | (refine ⟨fun c => ?_, fun c => False.elim (by omega)⟩) | (refine ⟨fun c => ?_, fun c => ?_⟩) | (intro c) | fail))
      exact hq
    | succ k ih =>
      intro s m hk h0 h1 he
      rw [foN_go (n := shlZ 1 n) (i := s) (by omega)] at he
      by_cases hc : gG h 122 s = -1
      · rw [show moF (gG h 122) s m = m from if_pos hc] at he
        have ih2 := ih (s + 1) _ (by omega) (by omega) (by omega) he
        refine Ex_step ?_; conv => whnf
        (repeat' (first | (exact ih2) | (rw [s2]) | (rw [rc1]) | (refine ⟨⟨by omega, by omega, hsh⟩, ?_⟩; conv => whnf) | (refine Ex_step ?_; conv => whnf) | (refine ⟨?_, trivial⟩) | (refine (show den _ _ _ _ _ _ _ _ from ?_); conv => whnf) | (refine ⟨by (first | assumption | rfl | (exact Nat.le_of_ble_eq_true rfl) | (exact ⟨fun h01 => absurd h01 (by decide), by first | rfl | assumption⟩) | (exact ⟨fun _ => by decide, by first | rfl | assumption⟩) | (exact ⟨by assumption, by omega, by omega⟩) | (unfold inI; omega) | omega), ?_⟩; conv => whnf) | (refine ⟨fun c => False.elim (by omega), fun c => ?_⟩) | (refine ⟨fun c => ?_, fun c => False.elim (by omega)⟩) | (refine ⟨fun c => ?_, fun c => ?_⟩) | (intro c) | fail))
      · rw [show moF (gG h 122) s m = max m (popc s) from if_neg hc] at he
        have ih2 := ih (s + 1) _ (by omega) (by omega) (by omega) he
        refine Ex_step ?_; conv => whnf
        (repeat' (first | (exact ih2) | (rw [s2]) | (rw [rc1]) | (refine w_bitCount (by omega) (by omega) ?_) | (refine ⟨⟨by omega, by omega, hsh⟩, ?_⟩; conv => whnf) | (refine Ex_step ?_; conv => whnf) | (refine ⟨?_, trivial⟩) | (refine (show den _ _ _ _ _ _ _ _ from ?_); conv => whnf) | (refine ⟨by (first | assumption | rfl | (exact Nat.le_of_ble_eq_true rfl) | (exact ⟨fun h01 => absurd h01 (by decide), by first | rfl | assumption⟩) | (exact ⟨fun _ => by decide, by first | rfl | assumption⟩) | (exact ⟨by assumption, by omega, by omega⟩) | (unfold inI; omega) | omega), ?_⟩; conv => whnf) | (refine ⟨fun c => False.elim (by omega), fun c => ?_⟩) | (refine ⟨fun c => ?_, fun c => False.elim (by omega)⟩) | (refine ⟨fun c => ?_, fun c => ?_⟩) | (intro c) | fail))
  have l0 := loop _ 1 0 rfl (by omega) (by omega) rfl
  refine eX1_mostOver (by omega) ?_
  (repeat' (first | (exact l0) | (refine Ex_step ?_; conv => whnf) | (refine ⟨?_, trivial⟩) | (refine (show den _ _ _ _ _ _ _ _ from ?_); conv => whnf) | (refine ⟨by (first | assumption | rfl | (exact Nat.le_of_ble_eq_true rfl) | (exact ⟨fun h01 => absurd h01 (by decide), by first | rfl | assumption⟩) | (exact ⟨fun _ => by decide, by first | rfl | assumption⟩) | (exact ⟨by assumption, by omega, by omega⟩) | (unfold inI; omega) | omega), ?_⟩; conv => whnf) | (refine ⟨fun c => False.elim (by omega), fun c => ?_⟩) | (refine ⟨fun c => ?_, fun c => False.elim (by omega)⟩) | (refine ⟨fun c => ?_, fun c => ?_⟩) | (intro c) | fail))
def gdB (w : Int → Int → Bool) (tl : Int) (C : Int → Int) (s : Int) (i : Int) : Bool := decide (¬ prC w tl C s (fst6 s) i = -1 ∧ prC w tl C s (fst6 s) i = C s)
/-- the mate of the least number -/
def lm (n : Int) (w : Int → Int → Bool) (tl : Int) (C : Int → Int) (s : Int) : Int := stN n (fun i => !gdB w tl C s i) (fst6 s)
theorem stN_ok {n : Int} {ok : Int → Bool} : ∀ (k : Nat) (a : Int), (n - a).toNat = k → stN n ok a < n → ok (stN n ok a) = false := by
  intro k; induction k with
  | zero => intro a hk h; rw [stN_end (Or.inl (by omega))] at h; omega
  | succ k ih =>
    intro a hk h
    by_cases e : ok a = true
    · rw [stN_go (by omega) e] at h ⊢
      exact ih (a + 1) (by omega) h
    · rw [stN_end (Or.inr (by simpa using e))]
      simpa using e
theorem lm_b {n tl : Int} {w : Int → Int → Bool} {C : Int → Int} (hC : isC n w tl C) {s : Int} (h0 : 0 < s) (h1 : s < shlZ 1 n) (hc : ¬ C s = -1) : (fst6 s ≤ lm n w tl C s ∧ lm n w tl C s < n) ∧ ¬ prC w tl C s (fst6 s) (lm n w tl C s) = -1 := by
  obtain ⟨x, x0, x1, x2, x3⟩ := mate_ex hC h0 h1 hc
  have hr := stN_rng (n := n) (ok := fun i => !gdB w tl C s i) _ (fst6 s) rfl (by omega)
  have hlt : lm n w tl C s < n := by
    by_cases e : n ≤ stN n (fun i => !gdB w tl C s i) (fst6 s)
    · have := (stN_all _ (fst6 s) rfl).mp e x x0 x1
      have hg : gdB w tl C s x = true := decide_eq_true ⟨x2, x3⟩
      simp only [hg] at this
      cases this
    · unfold lm; omega
  have hk := stN_ok _ (fst6 s) rfl hlt
  have hg : gdB w tl C s (lm n w tl C s) = true := by
    have : (!gdB w tl C s (lm n w tl C s)) = false := hk
    simpa using this
  exact ⟨⟨hr.1, hlt⟩, (of_decide_eq_true hg).1⟩
set_option maxHeartbeats 4000000 in
theorem w_leastMate {X : Int → Int} {XL : Int} {d : Nat} {h : Mem} {Q : RetP} {n tl : Int} {w : Int → Int → Bool} {s : Int} (hd : 3 ≤ d) (hG : GK h) (hS : GS h n tl w) (hn0 : 0 ≤ n) (hn1 : n ≤ 6) (ht : 0 ≤ tl ∧ tl ≤ 81) (s0 : 0 < s) (s1 : s < shlZ 1 n) (hb : ∀ x, 0 ≤ x → x < s → -1 ≤ gG h 122 x ∧ gG h 122 x ≤ 81 * x) (hlt : lm n w tl (gG h 122) s < n) (hq : Q (some (vI (lm n w tl (gG h 122) s))) h) : WP X XL d 100 [vR 120, vI s, vI (fst6 s)] h Q := by
  obtain ⟨kg, rw0, rc1, kw, lw, kc, lc, r14⟩ := id hG
  obtain ⟨s2, s3, sw⟩ := id hS
  obtain ⟨p0, p1, h64⟩ := fst_n hn0 hn1 s0 s1
  obtain ⟨q0, q1, q2, q3⟩ := fst_b s0 h64
  have rb : ∀ i, 0 ≤ i → i < n → 0 ≤ rs s (fst6 s) i ∧ rs s (fst6 s) i < s := fun i i0 i1 => by
    obtain ⟨r1, r2, -, -⟩ := rs_b (s := s) (by omega) h64 p0 (show fst6 s < 6 by omega) i0 (show i < 6 by omega)
    exact ⟨r1.1, r2 q2⟩
  have loop : ∀ (k : Nat) (i : Int) (w4 : Option MV), (n - i).toNat = k → fst6 s ≤ i → i ≤ n → lm n w tl (gG h 122) s = stN n (fun i => !gdB w tl (gG h 122) s i) i → Ex (WP X XL (d - 1)) KX1_leastMate h.1 Q 2 [some (vR 120), some (vI s), some (vI (fst6 s)), some (vI i), w4] [] h := by
    intro k; induction k with
    | zero =>
      intro i w4 hk h0 h1 he
      rw [stN_end (Or.inl (by omega))] at he
      omega
    | succ k ih =>
      intro i w4 hk h0 h1 he
      have hr := rb i (by omega) (by omega)
      have hbx := hb _ hr.1 hr.2
      by_cases hg : ¬ prC w tl (gG h 122) s (fst6 s) i = -1 ∧ prC w tl (gG h 122) s (fst6 s) i = gG h 122 s
      · have hgb : gdB w tl (gG h 122) s i = true := decide_eq_true hg
        rw [stN_end (Or.inr (by rw [hgb]; rfl))] at he
        rw [he] at hq
        refine Ex_step ?_; conv => whnf
        (repeat' (first | (rw [s2]) | (rw [rc1]) | (refine w_priceOfGroup (by omega) hG hS hn0 hn1 ht (by omega) h64 (by omega) (by omega) (fun _ _ => by omega) ?_) | (refine Ex_step ?_; conv => whnf) | (refine ⟨?_, trivial⟩) | (refine (show den _ _ _ _ _ _ _ _ from ?_); conv => whnf) | (refine ⟨by (first | assumption | rfl | (exact Nat.le_of_ble_eq_true rfl) | (exact ⟨fun h01 => absurd h01 (by decide), by first | rfl | assumption⟩) | (exact ⟨fun _ => by decide, by first | rfl | assumption⟩) | (exact ⟨by assumption, by omega, by omega⟩) | (unfold inI; omega) | omega), ?_⟩; conv => whnf) | (refine ⟨fun c => False.elim (by omega), fun c => ?_⟩) | (refine ⟨fun c => ?_, fun c => False.elim (by omega)⟩) | (refine ⟨fun c => ?_, fun c => ?_⟩) | (intro c) | fail))
        exact hq
      · have hgb : gdB w tl (gG h 122) s i = false := decide_eq_false hg
        rw [stN_go (by omega) (by rw [hgb]; rfl)] at he
        have ih2 := fun w4 => ih (i + 1) w4 (by omega) (by omega) (by omega) he
        refine Ex_step ?_; conv => whnf
        (repeat' (first | (refine ih2 _) | (rw [s2]) | (rw [rc1]) | (refine w_priceOfGroup (by omega) hG hS hn0 hn1 ht (by omega) h64 (by omega) (by omega) (fun _ _ => by omega) ?_) | (refine Ex_step ?_; conv => whnf) | (refine ⟨?_, trivial⟩) | (refine (show den _ _ _ _ _ _ _ _ from ?_); conv => whnf) | (refine ⟨by (first | assumption | rfl | (exact Nat.le_of_ble_eq_true rfl) | (exact ⟨fun h01 => absurd h01 (by decide), by first | rfl | assumption⟩) | (exact ⟨fun _ => by decide, by first | rfl | assumption⟩) | (exact ⟨by assumption, by omega, by omega⟩) | (unfold inI; omega) | omega), ?_⟩; conv => whnf) | (refine ⟨fun c => False.elim (by omega), fun c => ?_⟩) | (refine ⟨fun c => ?_, fun c => False.elim (by omega)⟩) | (refine ⟨fun c => ?_, fun c => ?_⟩) | (intro c) | fail))
        all_goals (exfalso; omega)
  have l0 := loop _ (fst6 s) none rfl (by omega) (by omega) rfl
  refine eX1_leastMate (by omega) ?_
  (repeat' (first | (exact l0) | (refine Ex_step ?_; conv => whnf) | (refine ⟨?_, trivial⟩) | (refine (show den _ _ _ _ _ _ _ _ from ?_); conv => whnf) | (refine ⟨by (first | assumption | rfl | (exact Nat.le_of_ble_eq_true rfl) | (exact ⟨fun h01 => absurd h01 (by decide), by first | rfl | assumption⟩) | (exact ⟨fun _ => by decide, by first | rfl | assumption⟩) | (exact ⟨by assumption, by omega, by omega⟩) | (unfold inI; omega) | omega), ?_⟩; conv => whnf) | (refine ⟨fun c => False.elim (by omega), fun c => ?_⟩) | (refine ⟨fun c => ?_, fun c => False.elim (by omega)⟩) | (refine ⟨fun c => ?_, fun c => ?_⟩) | (intro c) | fail))
def mtN (n : Int) (w : Int → Int → Bool) (tl : Int) (C : Int → Int) (q : Int) : Nat → Int → Int
  | 0, _ => -1
  | k + 1, r => if fst6 r = q then lm n w tl C r else if lm n w tl C r = q then fst6 r else mtN n w tl C q k (rs r (fst6 r) (lm n w tl C r))
/-- behind a group that goes, the others can still be over, and who is asked for is among them -/
theorem mt_next {n tl : Int} {w : Int → Int → Bool} {C : Int → Int} (hn0 : 0 ≤ n) (hn1 : n ≤ 6) (hC : isC n w tl C) {r q : Int} (h0 : 0 < r) (h1 : r < shlZ 1 n) (hc : ¬ C r = -1) (q0 : 0 ≤ q) (q1 : q < n) (hb : bt r q = true) (n1 : ¬ fst6 r = q) (n2 : ¬ lm n w tl C r = q) : (0 < rs r (fst6 r) (lm n w tl C r) ∧ rs r (fst6 r) (lm n w tl C r) < r) ∧ ¬ C (rs r (fst6 r) (lm n w tl C r)) = -1 ∧ bt (rs r (fst6 r) (lm n w tl C r)) q = true ∧ fst6 r < fst6 (rs r (fst6 r) (lm n w tl C r)) := by
  obtain ⟨p0, p1, h64⟩ := fst_n hn0 hn1 h0 h1
  obtain ⟨f0, f1, f2, f3⟩ := fst_b h0 h64
  obtain ⟨l1, l2⟩ := lm_b hC h0 h1 hc
  obtain ⟨r1, r2, -, -⟩ := rs_b (s := r) (by omega) h64 p0 (show fst6 r < 6 by omega) (show 0 ≤ lm n w tl C r by omega) (show lm n w tl C r < 6 by omega)
  have hx : bt r (lm n w tl C r) = true ∧ w (fst6 r) (lm n w tl C r) = true ∧ ¬ C (rs r (fst6 r) (lm n w tl C r)) = -1 := by
    by_cases e : bt r (lm n w tl C r) = true ∧ w (fst6 r) (lm n w tl C r) = true ∧ ¬ C (rs r (fst6 r) (lm n w tl C r)) = -1
    · exact e
    · exact absurd (if_neg e) l2
  have hq := (rs_f (s := r) (by omega) h64 p0 (show fst6 r < 6 by omega) (show 0 ≤ lm n w tl C r by omega) (show lm n w tl C r < 6 by omega) q0 (show q < 6 by omega)).mpr ⟨hb, fun e => n1 e.symm, fun e => n2 e.symm⟩
  have hp := pos_bt r1.1 hq
  have r2 := r2 f2
  obtain ⟨g0, g1, g2, g3⟩ := fst_b hp (by omega)
  have hg := (rs_f (s := r) (by omega) h64 p0 (show fst6 r < 6 by omega) (show 0 ≤ lm n w tl C r by omega) (show lm n w tl C r < 6 by omega) g0 g1).mp g2
  refine ⟨⟨hp, r2⟩, hx.2.2, hq, ?_⟩
  rcases Int.lt_trichotomy (fst6 (rs r (fst6 r) (lm n w tl C r))) (fst6 r) with e | e | e
  · rw [f3 _ g0 e] at hg; exact absurd hg.1 (by decide)
  · exact absurd e hg.2.1
  · exact e
set_option maxHeartbeats 4000000 in
theorem w_mateOf {X : Int → Int} {XL : Int} {d : Nat} {h : Mem} {Q : RetP} {n tl : Int} {w : Int → Int → Bool} {s q : Int} (hd : 4 ≤ d) (hG : GK h) (hS : GS h n tl w) (hn0 : 0 ≤ n) (hn1 : n ≤ 6) (ht : 0 ≤ tl ∧ tl ≤ 81) (hC : isC n w tl (gG h 122)) (s0 : 0 < s) (s1 : s < shlZ 1 n) (hb : ∀ x, 0 ≤ x → x < shlZ 1 n → -1 ≤ gG h 122 x ∧ gG h 122 x ≤ 81 * x) (q0 : 0 ≤ q) (q1 : q < n) (hbq : bt s q = true) (hq : Q (some (vI (if gG h 122 s = -1 then -1 else mtN n w tl (gG h 122) q 64 s))) h) : WP X XL d 99 [vR 120, vI s, vI q] h Q := by
  obtain ⟨kg, rw0, rc1, kw, lw, kc, lc, r14⟩ := id hG
  obtain ⟨s2, s3, sw⟩ := id hS
  have h6 := sh6 hn0 hn1
  refine eX1_mateOf (by omega) ?_
  by_cases hc : gG h 122 s = -1
  · rw [if_pos hc] at hq
    (repeat' (first | (rw [rc1]) | (rw [hc]) | (refine Ex_step ?_; conv => whnf) | (refine ⟨?_, trivial⟩) | (refine (show den _ _ _ _ _ _ _ _ from ?_); conv => whnf) | (refine ⟨by (first | assumption | rfl | (exact Nat.le_of_ble_eq_true rfl) | (exact ⟨fun h01 => absurd h01 (by decide), by first | rfl | assumption⟩) | (exact ⟨fun _ => by decide, by first | rfl | assumption⟩) | (exact ⟨by assumption, by omega, by omega⟩) | (unfold inI; omega) | omega), ?_⟩; conv => whnf) | (refine ⟨fun c => False.elim (by omega), fun c => ?_⟩) | (refine ⟨fun c => ?_, fun c => False.elim (by omega)⟩) | (refine ⟨fun c => ?_, fun c => ?_⟩) | (intro c) | fail))
    exact hq
  · rw [if_neg hc] at hq
    have loop : ∀ (f : Nat) (r : Int), r.toNat ≤ f → 0 < r → r < shlZ 1 n → ¬ gG h 122 r = -1 → bt r q = true → mtN n w tl (gG h 122) q 64 s = mtN n w tl (gG h 122) q f r → ∀ (k : Nat) (i : Int) (w5 : Option MV), (fst6 r - i).toNat = k → 0 ≤ i → i ≤ fst6 r → Ex (WP X XL (d - 1)) KX1_mateOf h.1 Q 17 [some (vR 120), some (vI s), some (vI q), some (vI r), some (vI i), w5] [] h := by
      intro f; induction f with
      | zero => intro r hf r0; omega
      | succ f ihf =>
        intro r hf r0 r1 rc rq he
        obtain ⟨p0, p1, h64⟩ := fst_n hn0 hn1 r0 r1
        obtain ⟨f0, f1, f2, f3⟩ := fst_b r0 h64
        obtain ⟨l1, l2⟩ := lm_b hC r0 r1 rc
        rw [show mtN n w tl (gG h 122) q (f + 1) r = (if fst6 r = q then lm n w tl (gG h 122) r else if lm n w tl (gG h 122) r = q then fst6 r else mtN n w tl (gG h 122) q f (rs r (fst6 r) (lm n w tl (gG h 122) r))) from rfl] at he
        intro k; induction k with
        | zero =>
          intro i w5 hk h0 h1
          obtain rfl : i = fst6 r := by omega
          by_cases n1 : fst6 r = q
          · rw [if_pos n1] at he
            rw [he] at hq
            (repeat' (first | (rw [s2]) | (refine w_contains (by omega) (by omega) (fun c => ?_) (fun c => absurd (c.symm.trans f2) (by decide))) | (refine w_leastMate (by omega) hG hS hn0 hn1 ht r0 r1 (fun x x0 x1 => hb x x0 (by omega)) l1.2 ?_) | (refine Ex_step ?_; conv => whnf) | (refine ⟨?_, trivial⟩) | (refine (show den _ _ _ _ _ _ _ _ from ?_); conv => whnf) | (refine ⟨by (first | assumption | rfl | (exact Nat.le_of_ble_eq_true rfl) | (exact ⟨fun h01 => absurd h01 (by decide), by first | rfl | assumption⟩) | (exact ⟨fun _ => by decide, by first | rfl | assumption⟩) | (exact ⟨by assumption, by omega, by omega⟩) | (unfold inI; omega) | omega), ?_⟩; conv => whnf) | (refine ⟨fun c => False.elim (by omega), fun c => ?_⟩) | (refine ⟨fun c => ?_, fun c => False.elim (by omega)⟩) | (refine ⟨fun c => ?_, fun c => ?_⟩) | (intro c) | fail))
            all_goals exact hq
          · rw [if_neg n1] at he
            by_cases n2 : lm n w tl (gG h 122) r = q
            · rw [if_pos n2] at he
              rw [he] at hq
              (repeat' (first | (rw [s2]) | (refine w_contains (by omega) (by omega) (fun c => ?_) (fun c => absurd (c.symm.trans f2) (by decide))) | (refine w_leastMate (by omega) hG hS hn0 hn1 ht r0 r1 (fun x x0 x1 => hb x x0 (by omega)) l1.2 ?_) | (refine Ex_step ?_; conv => whnf) | (refine ⟨?_, trivial⟩) | (refine (show den _ _ _ _ _ _ _ _ from ?_); conv => whnf) | (refine ⟨by (first | assumption | rfl | (exact Nat.le_of_ble_eq_true rfl) | (exact ⟨fun h01 => absurd h01 (by decide), by first | rfl | assumption⟩) | (exact ⟨fun _ => by decide, by first | rfl | assumption⟩) | (exact ⟨by assumption, by omega, by omega⟩) | (unfold inI; omega) | omega), ?_⟩; conv => whnf) | (refine ⟨fun c => False.elim (by omega), fun c => ?_⟩) | (refine ⟨fun c => ?_, fun c => False.elim (by omega)⟩) | (refine ⟨fun c => ?_, fun c => ?_⟩) | (intro c) | fail))
              all_goals first | (exact hq) | (exfalso; omega)
            · rw [if_neg n2] at he
              obtain ⟨m1, m2, m3, m4⟩ := mt_next hn0 hn1 hC r0 r1 rc q0 q1 rq n1 n2
              have nx := fun w5 => ihf _ (by omega) m1.1 (by omega) m2 m3 he _ (fst6 r + 1) w5 rfl (by omega) (by omega)
              refine Ex_step ?_; conv => whnf
              (repeat' (first | (refine nx _) | (rw [s2]) | (refine w_contains (by omega) (by omega) (fun c => ?_) (fun c => absurd (c.symm.trans f2) (by decide))) | (refine w_leastMate (by omega) hG hS hn0 hn1 ht r0 r1 (fun x x0 x1 => hb x x0 (by omega)) l1.2 ?_) | (refine w_without (by omega) (by omega) (by omega) ?_) | (refine Ex_step ?_; conv => whnf) | (refine ⟨?_, trivial⟩) | (refine (show den _ _ _ _ _ _ _ _ from ?_); conv => whnf) | (refine ⟨by (first | assumption | rfl | (exact Nat.le_of_ble_eq_true rfl) | (exact ⟨fun h01 => absurd h01 (by decide), by first | rfl | assumption⟩) | (exact ⟨fun _ => by decide, by first | rfl | assumption⟩) | (exact ⟨by assumption, by omega, by omega⟩) | (unfold inI; omega) | omega), ?_⟩; conv => whnf) | (refine ⟨fun c => False.elim (by omega), fun c => ?_⟩) | (refine ⟨fun c => ?_, fun c => False.elim (by omega)⟩) | (refine ⟨fun c => ?_, fun c => ?_⟩) | (intro c) | fail))
              all_goals (exfalso; omega)
        | succ k ih =>
          intro i w5 hk h0 h1
          have hbi := f3 i h0 (by omega)
          have ih2 := ih (i + 1) w5 (by omega) (by omega) (by omega)
          refine Ex_step ?_; conv => whnf
          (repeat' (first | (exact ih2) | (rw [s2]) | (refine w_contains (by omega) (by omega) (fun c => absurd (c.symm.trans hbi) (by decide)) (fun c => ?_)) | (refine Ex_step ?_; conv => whnf) | (refine ⟨?_, trivial⟩) | (refine (show den _ _ _ _ _ _ _ _ from ?_); conv => whnf) | (refine ⟨by (first | assumption | rfl | (exact Nat.le_of_ble_eq_true rfl) | (exact ⟨fun h01 => absurd h01 (by decide), by first | rfl | assumption⟩) | (exact ⟨fun _ => by decide, by first | rfl | assumption⟩) | (exact ⟨by assumption, by omega, by omega⟩) | (unfold inI; omega) | omega), ?_⟩; conv => whnf) | (refine ⟨fun c => False.elim (by omega), fun c => ?_⟩) | (refine ⟨fun c => ?_, fun c => False.elim (by omega)⟩) | (refine ⟨fun c => ?_, fun c => ?_⟩) | (intro c) | fail))
    obtain ⟨p0, p1, h64⟩ := fst_n hn0 hn1 s0 s1
    have l0 := loop 64 s (by omega) s0 s1 hc hbq rfl _ 0 none rfl (by omega) p0
    (repeat' (first | (exact l0) | (rw [rc1]) | (refine Ex_step ?_; conv => whnf) | (refine ⟨?_, trivial⟩) | (refine (show den _ _ _ _ _ _ _ _ from ?_); conv => whnf) | (refine ⟨by (first | assumption | rfl | (exact Nat.le_of_ble_eq_true rfl) | (exact ⟨fun h01 => absurd h01 (by decide), by first | rfl | assumption⟩) | (exact ⟨fun _ => by decide, by first | rfl | assumption⟩) | (exact ⟨by assumption, by omega, by omega⟩) | (unfold inI; omega) | omega), ?_⟩; conv => whnf) | (refine ⟨fun c => False.elim (by omega), fun c => ?_⟩) | (refine ⟨fun c => ?_, fun c => False.elim (by omega)⟩) | (refine ⟨fun c => ?_, fun c => ?_⟩) | (intro c) | fail))
def CB (A C : Int → Int) : Prop := isC (A 1) (wl A) (tlS A 0 (A 0)) C ∧ ∀ x, 0 ≤ x → x < shlZ 1 (A 1) → -1 ≤ C x ∧ C x ≤ 81 * x
set_option maxHeartbeats 4000000 in
theorem c_most {X : Int → Int} {XL : Int} {d : Nat} {h : Mem} {Q : RetP} {K : Int} {A : Int → Int} {v : Nat} (hd : 10 ≤ d) (hC : Cls K v h A) (hv : v + 12 < 120) (hv0 : 1 ≤ v) (hG : GK h) (hq : ∀ C h', CB A C → Fr GP h h' → Q (some (vI (foN (shlZ 1 (A 1)) (moF C) 1 0))) (sG h' 0 0 0)) : WP X XL d 154 [vR 0] h Q := by
  obtain ⟨⟨k00, r7, hT⟩, hV⟩ := id hC; have kn := hV.1.1; have hA := hV.2.2; have b0 := hA.1; have b1 := hA.2.1; have h6 := sh6 b1.1 b1.2; have htl := (tlS_b hA (fr := 0) (to := A 0) (by omega) (by omega) _ 0 0 rfl (by omega) (by omega) (by omega)); have htl2 : 0 ≤ tlS A 0 (A 0) ∧ tlS A 0 (A 0) ≤ 81 := ⟨htl.1, by have := htl.2.1 (by omega); unfold tlS; omega⟩; have r14 := hG.2.2.2.2.2.2.2; have kg := hG.1; have rc1 := hG.2.2.1; have kc := hG.2.2.2.2.2.1; have lc := hG.2.2.2.2.2.2.1
  refine eX9_most (by omega) ?_
  (repeat' (first | (rw [r14]) | (rw [r141]) | (rw [r7]) | (refine w_weigh (by omega) hV hT hv hG (fun h1 f1 gs1 c1 cb1 => ?_); have k1 := (kd_fr f1 0).trans k00; have g1 := f1.1; have hG1 := hG.fr f1; have r141 := hG1.2.2.2.2.2.2.2; have kg1 := hG1.1; have rc11 := hG1.2.2.1; have kc1 := hG1.2.2.2.2.2.1; have lc1 := hG1.2.2.2.2.2.2.1) | (refine w_mostOver (by omega) hG1 gs1 b1.1 b1.2 htl2 ?_) | (refine w_given (by omega) k1 ?_) | (refine Ex_step ?_; conv => whnf) | (refine ⟨?_, trivial⟩) | (refine (show den _ _ _ _ _ _ _ _ from ?_); conv => whnf) | (refine ⟨by (first | assumption | rfl | (exact Nat.le_of_ble_eq_true rfl) | (exact ⟨fun h01 => absurd h01 (by decide), by first | rfl | assumption⟩) | (exact ⟨fun _ => by decide, by first | rfl | assumption⟩) | (exact ⟨by assumption, by omega, by omega⟩) | (unfold inI; omega) | omega), ?_⟩; conv => whnf) | (refine ⟨fun c => False.elim (by omega), fun c => ?_⟩) | (refine ⟨fun c => ?_, fun c => False.elim (by omega)⟩) | (refine ⟨fun c => ?_, fun c => ?_⟩) | (intro c) | fail))
  exact hq _ h1 ⟨c1, cb1⟩ f1
set_option maxHeartbeats 4000000 in
theorem c_cheapY {X : Int → Int} {XL : Int} {d : Nat} {h : Mem} {Q : RetP} {K : Int} {A : Int → Int} {v : Nat} (hd : 10 ≤ d) (hC : Cls K v h A) (hv : v + 12 < 120) (hv0 : 1 ≤ v) (hG : GK h) {s : Int} (hs : 0 ≤ s ∧ s < shlZ 1 (A 1)) (hq : ∀ C h', CB A C → Fr GP h h' → Q (some (vI (if C s = -1 then -1 else C s))) (sG h' 0 0 (if C s = -1 then 6 else 0))) : WP X XL d 155 [vR 0, vI s] h Q := by
  obtain ⟨⟨k00, r7, hT⟩, hV⟩ := id hC; have kn := hV.1.1; have hA := hV.2.2; have b0 := hA.1; have b1 := hA.2.1; have h6 := sh6 b1.1 b1.2; have htl := (tlS_b hA (fr := 0) (to := A 0) (by omega) (by omega) _ 0 0 rfl (by omega) (by omega) (by omega)); have htl2 : 0 ≤ tlS A 0 (A 0) ∧ tlS A 0 (A 0) ≤ 81 := ⟨htl.1, by have := htl.2.1 (by omega); unfold tlS; omega⟩; have r14 := hG.2.2.2.2.2.2.2; have kg := hG.1; have rc1 := hG.2.2.1; have kc := hG.2.2.2.2.2.1; have lc := hG.2.2.2.2.2.2.1
  refine eX9_cheapest (by omega) ?_
  (repeat' (first | (rw [r14]) | (rw [r141]) | (rw [rc11]) | (rw [r7]) | (refine w_weigh (by omega) hV hT hv hG (fun h1 f1 gs1 c1 cb1 => ?_); have k1 := (kd_fr f1 0).trans k00; have g1 := f1.1; have hG1 := hG.fr f1; have r141 := hG1.2.2.2.2.2.2.2; have kg1 := hG1.1; have rc11 := hG1.2.2.1; have kc1 := hG1.2.2.2.2.2.1; have lc1 := hG1.2.2.2.2.2.2.1) | (refine w_isSetOfPeople (by omega) hC (fun c => ?_) (fun c => absurd hs c)) | (refine w_givenUnless (by omega) k1 (fun c => ?_) (fun c => ?_)) | (refine Ex_step ?_; conv => whnf) | (refine ⟨?_, trivial⟩) | (refine (show den _ _ _ _ _ _ _ _ from ?_); conv => whnf) | (refine ⟨by (first | assumption | rfl | (exact Nat.le_of_ble_eq_true rfl) | (exact ⟨fun h01 => absurd h01 (by decide), by first | rfl | assumption⟩) | (exact ⟨fun _ => by decide, by first | rfl | assumption⟩) | (exact ⟨by assumption, by omega, by omega⟩) | (unfold inI; omega) | omega), ?_⟩; conv => whnf) | (refine ⟨fun c => False.elim (by omega), fun c => ?_⟩) | (refine ⟨fun c => ?_, fun c => False.elim (by omega)⟩) | (refine ⟨fun c => ?_, fun c => ?_⟩) | (intro c) | fail))
  all_goals (have hq := hq _ h1 ⟨c1, cb1⟩ f1)
  · rw [if_pos (by assumption), if_pos (by assumption)] at hq; exact hq
  · rw [if_neg (by assumption), if_neg (by assumption)] at hq; exact hq
set_option maxHeartbeats 4000000 in
theorem c_cheapN {X : Int → Int} {XL : Int} {d : Nat} {h : Mem} {Q : RetP} {K : Int} {A : Int → Int} {v : Nat} (hd : 10 ≤ d) (hC : Cls K v h A) (hv : v + 12 < 120) (hv0 : 1 ≤ v) (hG : GK h) {s : Int} (hs : ¬ (0 ≤ s ∧ s < shlZ 1 (A 1))) (hq : Q (some (vI (-1))) (sG h 0 0 1)) : WP X XL d 155 [vR 0, vI s] h Q := by
  obtain ⟨⟨k00, r7, hT⟩, hV⟩ := id hC; have kn := hV.1.1; have hA := hV.2.2; have b0 := hA.1; have b1 := hA.2.1; have h6 := sh6 b1.1 b1.2; have htl := (tlS_b hA (fr := 0) (to := A 0) (by omega) (by omega) _ 0 0 rfl (by omega) (by omega) (by omega)); have htl2 : 0 ≤ tlS A 0 (A 0) ∧ tlS A 0 (A 0) ≤ 81 := ⟨htl.1, by have := htl.2.1 (by omega); unfold tlS; omega⟩; have r14 := hG.2.2.2.2.2.2.2; have kg := hG.1; have rc1 := hG.2.2.1; have kc := hG.2.2.2.2.2.1; have lc := hG.2.2.2.2.2.2.1
  refine eX9_cheapest (by omega) ?_
  (repeat' (first | (rw [r7]) | (refine w_isSetOfPeople (by omega) hC (fun c => absurd c hs) (fun c => ?_)) | (refine w_given (by omega) k00 ?_) | (refine w_none (by omega) k00 ?_) | (refine Ex_step ?_; conv => whnf) | (refine ⟨?_, trivial⟩) | (refine (show den _ _ _ _ _ _ _ _ from ?_); conv => whnf) | (refine ⟨by (first | assumption | rfl | (exact Nat.le_of_ble_eq_true rfl) | (exact ⟨fun h01 => absurd h01 (by decide), by first | rfl | assumption⟩) | (exact ⟨fun _ => by decide, by first | rfl | assumption⟩) | (exact ⟨by assumption, by omega, by omega⟩) | (unfold inI; omega) | omega), ?_⟩; conv => whnf) | (refine ⟨fun c => False.elim (by omega), fun c => ?_⟩) | (refine ⟨fun c => ?_, fun c => False.elim (by omega)⟩) | (refine ⟨fun c => ?_, fun c => ?_⟩) | (intro c) | fail))
  exact hq
def okM (A : Int → Int) (s p : Int) : Prop := (0 ≤ s ∧ s < shlZ 1 (A 1)) ∧ (0 ≤ p ∧ p < A 1) ∧ bt s p = true
set_option maxHeartbeats 4000000 in
theorem c_mateY {X : Int → Int} {XL : Int} {d : Nat} {h : Mem} {Q : RetP} {K : Int} {A : Int → Int} {v : Nat} (hd : 10 ≤ d) (hC : Cls K v h A) (hv : v + 12 < 120) (hv0 : 1 ≤ v) (hG : GK h) {s p : Int} (hs : okM A s p) (hq : ∀ C h', CB A C → Fr GP h h' → Q (some (vI (if C s = -1 then -1 else mtN (A 1) (wl A) (tlS A 0 (A 0)) C p 64 s))) (sG h' 0 0 (if C s = -1 then 6 else 0))) (hmt : ∀ C, CB A C → ¬ C s = -1 → ¬ mtN (A 1) (wl A) (tlS A 0 (A 0)) C p 64 s = -1) : WP X XL d 156 [vR 0, vI s, vI p] h Q := by
  obtain ⟨⟨k00, r7, hT⟩, hV⟩ := id hC; have kn := hV.1.1; have hA := hV.2.2; have b0 := hA.1; have b1 := hA.2.1; have h6 := sh6 b1.1 b1.2; have htl := (tlS_b hA (fr := 0) (to := A 0) (by omega) (by omega) _ 0 0 rfl (by omega) (by omega) (by omega)); have htl2 : 0 ≤ tlS A 0 (A 0) ∧ tlS A 0 (A 0) ≤ 81 := ⟨htl.1, by have := htl.2.1 (by omega); unfold tlS; omega⟩; have r14 := hG.2.2.2.2.2.2.2; have kg := hG.1; have rc1 := hG.2.2.1; have kc := hG.2.2.2.2.2.1; have lc := hG.2.2.2.2.2.2.1
  obtain ⟨hs1, hp, hb⟩ := hs
  refine eX9_mate (by omega) ?_
  (repeat' (first | (rw [r14]) | (rw [r141]) | (rw [r7]) | (refine w_weigh (by omega) hV hT hv hG (fun h1 f1 gs1 c1 cb1 => ?_); have k1 := (kd_fr f1 0).trans k00; have g1 := f1.1; have hG1 := hG.fr f1; have r141 := hG1.2.2.2.2.2.2.2; have kg1 := hG1.1; have rc11 := hG1.2.2.1; have kc1 := hG1.2.2.2.2.2.1; have lc1 := hG1.2.2.2.2.2.2.1) | (refine w_isSetOfPeople (by omega) hC (fun c => ?_) (fun c => absurd hs1 c)) | (refine w_hasPerson (by omega) hV (fun c => ?_) (fun c => False.elim (by omega))) | (refine w_hasPerson (by omega) hV (fun c => False.elim (by omega)) (fun c => ?_)) | (refine w_hasPerson (by omega) hV (fun c => ?_) (fun c => ?_)) | (refine w_contains (by omega) (by omega) (fun c => ?_) (fun c => absurd (c.symm.trans hb) (by decide))) | (refine w_mateOf (by omega) hG1 gs1 b1.1 b1.2 htl2 c1 (pos_bt hs1.1 hb) hs1.2 cb1 hp.1 hp.2 hb ?_) | (refine w_givenUnless (by omega) k1 (fun c => ?_) (fun c => ?_)) | (refine Ex_step ?_; conv => whnf) | (refine ⟨?_, trivial⟩) | (refine (show den _ _ _ _ _ _ _ _ from ?_); conv => whnf) | (refine ⟨by (first | assumption | rfl | (exact Nat.le_of_ble_eq_true rfl) | (exact ⟨fun h01 => absurd h01 (by decide), by first | rfl | assumption⟩) | (exact ⟨fun _ => by decide, by first | rfl | assumption⟩) | (exact ⟨by assumption, by omega, by omega⟩) | (unfold inI; omega) | omega), ?_⟩; conv => whnf) | (refine ⟨fun c => False.elim (by omega), fun c => ?_⟩) | (refine ⟨fun c => ?_, fun c => False.elim (by omega)⟩) | (refine ⟨fun c => ?_, fun c => ?_⟩) | (intro c) | fail))
  all_goals (have hq := hq _ h1 ⟨c1, cb1⟩ f1; have hmt := hmt _ ⟨c1, cb1⟩)
  all_goals (by_cases e : gG h1 122 s = -1)
  all_goals first | (rw [if_pos e, if_pos e] at hq; exact hq) | (rw [if_neg e] at *; exact absurd (by assumption) (hmt e)) | (rw [if_pos e] at *; exact absurd rfl (by assumption)) | (rw [if_neg e, if_neg e] at hq; rw [if_neg e]; exact hq)
set_option maxHeartbeats 4000000 in
theorem c_mateN {X : Int → Int} {XL : Int} {d : Nat} {h : Mem} {Q : RetP} {K : Int} {A : Int → Int} {v : Nat} (hd : 10 ≤ d) (hC : Cls K v h A) (hv : v + 12 < 120) (hv0 : 1 ≤ v) (hG : GK h) {s p : Int} (hs : ¬ okM A s p) (hq : Q (some (vI (-1))) (sG h 0 0 1)) : WP X XL d 156 [vR 0, vI s, vI p] h Q := by
  obtain ⟨⟨k00, r7, hT⟩, hV⟩ := id hC; have kn := hV.1.1; have hA := hV.2.2; have b0 := hA.1; have b1 := hA.2.1; have h6 := sh6 b1.1 b1.2; have htl := (tlS_b hA (fr := 0) (to := A 0) (by omega) (by omega) _ 0 0 rfl (by omega) (by omega) (by omega)); have htl2 : 0 ≤ tlS A 0 (A 0) ∧ tlS A 0 (A 0) ≤ 81 := ⟨htl.1, by have := htl.2.1 (by omega); unfold tlS; omega⟩; have r14 := hG.2.2.2.2.2.2.2; have kg := hG.1; have rc1 := hG.2.2.1; have kc := hG.2.2.2.2.2.1; have lc := hG.2.2.2.2.2.2.1
  unfold okM at hs
  refine eX9_mate (by omega) ?_
  (repeat' (first | (rw [r7]) | (refine w_isSetOfPeople (by omega) hC (fun c => ?_) (fun c => False.elim (by omega))) | (refine w_isSetOfPeople (by omega) hC (fun c => False.elim (by omega)) (fun c => ?_)) | (refine w_isSetOfPeople (by omega) hC (fun c => ?_) (fun c => ?_)) | (refine w_hasPerson (by omega) hV (fun c => ?_) (fun c => False.elim (by omega))) | (refine w_hasPerson (by omega) hV (fun c => False.elim (by omega)) (fun c => ?_)) | (refine w_hasPerson (by omega) hV (fun c => ?_) (fun c => ?_)) | (refine w_contains (by omega) (by omega) (fun c => ?_) (fun c => ?_)) | (refine w_given (by omega) k00 ?_) | (refine w_none (by omega) k00 ?_) | (refine Ex_step ?_; conv => whnf) | (refine ⟨?_, trivial⟩) | (refine (show den _ _ _ _ _ _ _ _ from ?_); conv => whnf) | (refine ⟨by (first | assumption | rfl | (exact Nat.le_of_ble_eq_true rfl) | (exact ⟨fun h01 => absurd h01 (by decide), by first | rfl | assumption⟩) | (exact ⟨fun _ => by decide, by first | rfl | assumption⟩) | (exact ⟨by assumption, by omega, by omega⟩) | (unfold inI; omega) | omega), ?_⟩; conv => whnf) | (refine ⟨fun c => False.elim (by omega), fun c => ?_⟩) | (refine ⟨fun c => ?_, fun c => False.elim (by omega)⟩) | (refine ⟨fun c => ?_, fun c => ?_⟩) | (intro c) | fail))
  all_goals first | (exact hq) | (exact absurd ⟨by assumption, by assumption, by assumption⟩ hs)
theorem mt_pos {n tl : Int} {w : Int → Int → Bool} {C : Int → Int} (hn0 : 0 ≤ n) (hn1 : n ≤ 6) (hC : isC n w tl C) {q : Int} (q0 : 0 ≤ q) (q1 : q < n) : ∀ (f : Nat) (r : Int), r.toNat ≤ f → 0 < r → r < shlZ 1 n → ¬ C r = -1 → bt r q = true → 0 ≤ mtN n w tl C q f r := by
  intro f; induction f with
  | zero => intro r hf r0; omega
  | succ f ih =>
    intro r hf r0 r1 rc rq
    obtain ⟨p0, p1, h64⟩ := fst_n hn0 hn1 r0 r1
    obtain ⟨l1, l2⟩ := lm_b hC r0 r1 rc
    show 0 ≤ (if fst6 r = q then lm n w tl C r else if lm n w tl C r = q then fst6 r else mtN n w tl C q f (rs r (fst6 r) (lm n w tl C r)))
    by_cases n1 : fst6 r = q
    · rw [if_pos n1]; omega
    · rw [if_neg n1]
      by_cases n2 : lm n w tl C r = q
      · rw [if_pos n2]; exact p0
      · rw [if_neg n2]
        obtain ⟨m1, m2, m3, m4⟩ := mt_next hn0 hn1 hC r0 r1 rc q0 q1 rq n1 n2
        exact ih _ (by omega) m1.1 (by omega) m2 m3
