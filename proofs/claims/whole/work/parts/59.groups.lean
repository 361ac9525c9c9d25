/-! LEVEL 2: who with whom: the class -/
def wl (A : Int → Int) (p o : Int) : Bool := decide (A 0 ≤ stN (A 0) (okB A p o) 0)
def GK (h : Mem) : Prop := kd h 120 = 1 ∧ gR h 120 0 = 121 ∧ gR h 120 1 = 122 ∧ kd h 121 = 100 ∧ ln h 121 = 6 ∧ kd h 122 = 100 ∧ ln h 122 = 64 ∧ gR h 0 14 = 120
def GP : Nat → Prop := fun r => 120 ≤ r ∧ r ≤ 122
theorem GK.fr {P : Nat → Prop} {h h' : Mem} (a : Fr P h h') (q : GK h) : GK h' := by
  unfold GK at *
  rw [kd_fr a, gR_fr a, gR_fr a, kd_fr a, ln_fr a, kd_fr a, ln_fr a, gR_fr a]
  exact q
theorem spn_wl {K : Int} {A : Int → Int} (hA : AOk K A) {p o : Int} : (wl A p o = true ↔ stN (A 0) (okB A p o) 0 = A 0) := by
  have hb := stN_rng (n := A 0) (ok := okB A p o) _ 0 rfl hA.1.1
  unfold wl
  rw [decide_eq_true_eq]
  omega
set_option maxHeartbeats 4000000 in
theorem w_wellWith {X : Int → Int} {XL : Int} {d : Nat} {h : Mem} {Q : RetP} {K : Int} {A : Int → Int} {v : Nat} {p : Int} (hd : 6 ≤ d) (hV : Vr K h v A) (hp0 : 0 ≤ p) (hp1 : p < A 1) (hq : Q (some (vI (foN (A 1) (stF (wl A p)) 0 0))) h) : WP X XL d 94 [vR v, vI p] h Q := by
  have hA := hV.2.2
  have kn := hV.1.1
  have g0 := hV.2.1.1.1
  have g5 := hV.2.1.1.2.1
  have b0 := hA.1
  have b1 := hA.2.1
  have loop : ∀ (k : Nat) (i s : Int) (w : Option MV), (A 1 - i).toNat = k → 0 ≤ i → i ≤ A 1 → foN (A 1) (stF (wl A p)) 0 0 = foN (A 1) (stF (wl A p)) i s → Ex (WP X XL (d - 1)) KX1_wellWith h.1 Q 4 [some (vR v), some (vI p), some (vI s), some (vI i), w] [] h := by
    intro k; induction k with
    | zero =>
      intro i s w hk h0 h1 he
      rw [foN_end (n := A 1) (i := i) (by omega)] at he
      rw [he] at hq
      (repeat' (first | (rw [g5]) | (refine Ex_step ?_; conv => whnf) | (refine ⟨?_, trivial⟩) | (refine (show den _ _ _ _ _ _ _ _ from ?_); conv => whnf) | (refine ⟨by (first | assumption | rfl | (exact Nat.le_of_ble_eq_true rfl) | (exact ⟨fun h01 => absurd h01 (by decide), by first | rfl | assumption⟩) | (exact ⟨fun _ => by decide, by first | rfl | assumption⟩) | (exact ⟨by assumption, by omega, by omega⟩) | (unfold inI; omega) | omega), ?_⟩; conv => whnf) | (refine ⟨fun c => False.elim (by omega), fun c => ?_⟩) | (refine ⟨fun c => ?_, fun c => False.elim (by omega)⟩) | (refine ⟨fun c => ?_, fun c => ?_⟩) | (intro c) | fail))
      exact hq
    | succ k ih =>
      intro i s w hk h0 h1 he
      rw [foN_go (n := A 1) (i := i) (by omega)] at he
      have hw := spn_wl hA (p := p) (o := i)
      have hsh := shl1 h0 (show i ≤ 20 by omega)
      by_cases e : i = p
      · have hw : wl A p i = true ↔ stN (A 0) (okBy A i (pA A i 1) (A 4)) 0 = A 0 := by rw [hw, ← e, okB_1]
        by_cases hb : wl A p i = true
        · rw [show stF (wl A p) i s = zor s (shlZ 1 i) from if_pos hb] at he
          have hw2 := hw.mp hb
          have ih2 := fun w => ih (i + 1) _ w (by omega) (by omega) (by omega) he
          refine Ex_step ?_; conv => whnf
          (repeat' (first | (refine ih2 _) | (rw [g5]) | (rw [g0]) | (refine w_spanLength (by omega) hV h0 (by omega) (by omega) (by omega) ?_) | (refine ⟨⟨by omega, by omega, hsh⟩, ?_⟩; conv => whnf) | (refine Ex_step ?_; conv => whnf) | (refine ⟨?_, trivial⟩) | (refine (show den _ _ _ _ _ _ _ _ from ?_); conv => whnf) | (refine ⟨by (first | assumption | rfl | (exact Nat.le_of_ble_eq_true rfl) | (exact ⟨fun h01 => absurd h01 (by decide), by first | rfl | assumption⟩) | (exact ⟨fun _ => by decide, by first | rfl | assumption⟩) | (exact ⟨by assumption, by omega, by omega⟩) | (unfold inI; omega) | omega), ?_⟩; conv => whnf) | (refine ⟨fun c => False.elim (by omega), fun c => ?_⟩) | (refine ⟨fun c => ?_, fun c => False.elim (by omega)⟩) | (refine ⟨fun c => ?_, fun c => ?_⟩) | (intro c) | fail))
        · rw [show stF (wl A p) i s = s from if_neg hb] at he
          have hw2 := fun q => hb (hw.mpr q)
          have ih2 := fun w => ih (i + 1) _ w (by omega) (by omega) (by omega) he
          refine Ex_step ?_; conv => whnf
          (repeat' (first | (refine ih2 _) | (rw [g5]) | (rw [g0]) | (refine w_spanLength (by omega) hV h0 (by omega) (by omega) (by omega) ?_) | (refine ⟨fun c => ?_, fun c => absurd (by omega) hw2⟩) | (refine Ex_step ?_; conv => whnf) | (refine ⟨?_, trivial⟩) | (refine (show den _ _ _ _ _ _ _ _ from ?_); conv => whnf) | (refine ⟨by (first | assumption | rfl | (exact Nat.le_of_ble_eq_true rfl) | (exact ⟨fun h01 => absurd h01 (by decide), by first | rfl | assumption⟩) | (exact ⟨fun _ => by decide, by first | rfl | assumption⟩) | (exact ⟨by assumption, by omega, by omega⟩) | (unfold inI; omega) | omega), ?_⟩; conv => whnf) | (refine ⟨fun c => False.elim (by omega), fun c => ?_⟩) | (refine ⟨fun c => ?_, fun c => False.elim (by omega)⟩) | (refine ⟨fun c => ?_, fun c => ?_⟩) | (intro c) | fail))
      · rw [okB_2 (fun q => e q.symm)] at hw
        by_cases hb : wl A p i = true
        · rw [show stF (wl A p) i s = zor s (shlZ 1 i) from if_pos hb] at he
          have hw2 := hw.mp hb
          have ih2 := fun w => ih (i + 1) _ w (by omega) (by omega) (by omega) he
          refine Ex_step ?_; conv => whnf
          (repeat' (first | (refine ih2 _) | (rw [g5]) | (rw [g0]) | (refine w_stopRoped (by omega) hV hp0 hp1 h0 (by omega) (by omega) ?_) | (refine ⟨⟨by omega, by omega, hsh⟩, ?_⟩; conv => whnf) | (refine Ex_step ?_; conv => whnf) | (refine ⟨?_, trivial⟩) | (refine (show den _ _ _ _ _ _ _ _ from ?_); conv => whnf) | (refine ⟨by (first | assumption | rfl | (exact Nat.le_of_ble_eq_true rfl) | (exact ⟨fun h01 => absurd h01 (by decide), by first | rfl | assumption⟩) | (exact ⟨fun _ => by decide, by first | rfl | assumption⟩) | (exact ⟨by assumption, by omega, by omega⟩) | (unfold inI; omega) | omega), ?_⟩; conv => whnf) | (refine ⟨fun c => False.elim (by omega), fun c => ?_⟩) | (refine ⟨fun c => ?_, fun c => False.elim (by omega)⟩) | (refine ⟨fun c => ?_, fun c => ?_⟩) | (intro c) | fail))
        · rw [show stF (wl A p) i s = s from if_neg hb] at he
          have hw2 := fun q => hb (hw.mpr q)
          have ih2 := fun w => ih (i + 1) _ w (by omega) (by omega) (by omega) he
          refine Ex_step ?_; conv => whnf
          (repeat' (first | (refine ih2 _) | (rw [g5]) | (rw [g0]) | (refine w_stopRoped (by omega) hV hp0 hp1 h0 (by omega) (by omega) ?_) | (refine ⟨fun c => ?_, fun c => absurd c hw2⟩) | (refine Ex_step ?_; conv => whnf) | (refine ⟨?_, trivial⟩) | (refine (show den _ _ _ _ _ _ _ _ from ?_); conv => whnf) | (refine ⟨by (first | assumption | rfl | (exact Nat.le_of_ble_eq_true rfl) | (exact ⟨fun h01 => absurd h01 (by decide), by first | rfl | assumption⟩) | (exact ⟨fun _ => by decide, by first | rfl | assumption⟩) | (exact ⟨by assumption, by omega, by omega⟩) | (unfold inI; omega) | omega), ?_⟩; conv => whnf) | (refine ⟨fun c => False.elim (by omega), fun c => ?_⟩) | (refine ⟨fun c => ?_, fun c => False.elim (by omega)⟩) | (refine ⟨fun c => ?_, fun c => ?_⟩) | (intro c) | fail))
  have l0 := loop _ 0 0 none rfl (by omega) (by omega) rfl
  refine eX1_wellWith (by omega) ?_
  (repeat' (first | (exact l0) | (refine Ex_step ?_; conv => whnf) | (refine ⟨?_, trivial⟩) | (refine (show den _ _ _ _ _ _ _ _ from ?_); conv => whnf) | (refine ⟨by (first | assumption | rfl | (exact Nat.le_of_ble_eq_true rfl) | (exact ⟨fun h01 => absurd h01 (by decide), by first | rfl | assumption⟩) | (exact ⟨fun _ => by decide, by first | rfl | assumption⟩) | (exact ⟨by assumption, by omega, by omega⟩) | (unfold inI; omega) | omega), ?_⟩; conv => whnf) | (refine ⟨fun c => False.elim (by omega), fun c => ?_⟩) | (refine ⟨fun c => ?_, fun c => False.elim (by omega)⟩) | (refine ⟨fun c => ?_, fun c => ?_⟩) | (intro c) | fail))
/-- what the groups' object knows: how many people, the tolls, who is well with whom -/
def GS (h : Mem) (n tl : Int) (w : Int → Int → Bool) : Prop := gG h 120 2 = n ∧ gG h 120 3 = tl ∧ ∀ p, 0 ≤ p → p < n → ∀ j, 0 ≤ j → j < n → bt (gG h 121 p) j = w p j
set_option maxHeartbeats 4000000 in
theorem w_without {X : Int → Int} {XL : Int} {d : Nat} {h : Mem} {Q : RetP} {s p o : Int} (hd : 1 ≤ d) (hp : 0 ≤ p ∧ p < 6) (ho : 0 ≤ o ∧ o < 6) (hq : Q (some (vI (rs s p o))) h) : WP X XL d 97 [vI s, vI p, vI o] h Q := by
  have h1 := shl1 hp.1 (show p ≤ 20 by omega)
  have h2 := shl1 ho.1 (show o ≤ 20 by omega)
  refine eX1_without (by omega) ?_
  (repeat' (first | (refine ⟨⟨by omega, by omega, h1⟩, ?_⟩; conv => whnf) | (refine ⟨⟨by omega, by omega, h2⟩, ?_⟩; conv => whnf) | (refine Ex_step ?_; conv => whnf) | (refine ⟨?_, trivial⟩) | (refine (show den _ _ _ _ _ _ _ _ from ?_); conv => whnf) | (refine ⟨by (first | assumption | rfl | (exact Nat.le_of_ble_eq_true rfl) | (exact ⟨fun h01 => absurd h01 (by decide), by first | rfl | assumption⟩) | (exact ⟨fun _ => by decide, by first | rfl | assumption⟩) | (exact ⟨by assumption, by omega, by omega⟩) | (unfold inI; omega) | omega), ?_⟩; conv => whnf) | (refine ⟨fun c => False.elim (by omega), fun c => ?_⟩) | (refine ⟨fun c => ?_, fun c => False.elim (by omega)⟩) | (refine ⟨fun c => ?_, fun c => ?_⟩) | (intro c) | fail))
  exact hq
set_option maxHeartbeats 4000000 in
theorem w_priceOfGroup {X : Int → Int} {XL : Int} {d : Nat} {h : Mem} {Q : RetP} {n tl : Int} {w : Int → Int → Bool} {s p i : Int} (hd : 2 ≤ d) (hG : GK h) (hS : GS h n tl w) (hn0 : 0 ≤ n) (hn1 : n ≤ 6) (ht : 0 ≤ tl ∧ tl ≤ 81) (s0 : 0 ≤ s) (s1 : s < 64) (hp : 0 ≤ p ∧ p < n) (hi : 0 ≤ i ∧ i < n) (hb : bt s i = true → w p i = true → -1 ≤ gG h 122 (rs s p i) ∧ gG h 122 (rs s p i) ≤ 10000) (hq : Q (some (vI (prC w tl (gG h 122) s p i))) h) : WP X XL d 96 [vR 120, vI s, vI p, vI i] h Q := by
  obtain ⟨kg, rw0, rc1, kw, lw, kc, lc, r14⟩ := id hG
  obtain ⟨s2, s3, sw⟩ := id hS
  have hwb := sw p hp.1 hp.2 i hi.1 hi.2
  obtain ⟨r1, -, -, -⟩ := rs_b s0 s1 hp.1 (show p < 6 by omega) hi.1 (show i < 6 by omega)
  unfold prC at hq
  refine eX1_priceOfGroup (by omega) ?_
  by_cases b1 : bt s i = true
  · by_cases b2 : w p i = true
    · have hb := hb b1 b2
      rw [b2] at hwb
      by_cases b3 : gG h 122 (rs s p i) = -1
      · rw [if_neg (fun q => q.2.2 b3)] at hq
        (repeat' (first | (rw [rw0]) | (rw [rc1]) | (rw [b3]) | (refine w_contains (by omega) (by omega) (fun c => ?_) (fun c => absurd (c.symm.trans b1) (by decide))) | (refine w_contains (by omega) (by omega) (fun c => ?_) (fun c => absurd (c.symm.trans hwb) (by decide))) | (refine w_without (by omega) (by omega) (by omega) ?_) | (refine Ex_step ?_; conv => whnf) | (refine ⟨?_, trivial⟩) | (refine (show den _ _ _ _ _ _ _ _ from ?_); conv => whnf) | (refine ⟨by (first | assumption | rfl | (exact Nat.le_of_ble_eq_true rfl) | (exact ⟨fun h01 => absurd h01 (by decide), by first | rfl | assumption⟩) | (exact ⟨fun _ => by decide, by first | rfl | assumption⟩) | (exact ⟨by assumption, by omega, by omega⟩) | (unfold inI; omega) | omega), ?_⟩; conv => whnf) | (refine ⟨fun c => False.elim (by omega), fun c => ?_⟩) | (refine ⟨fun c => ?_, fun c => False.elim (by omega)⟩) | (refine ⟨fun c => ?_, fun c => ?_⟩) | (intro c) | fail))
        exact hq
      · rw [if_pos ⟨b1, b2, b3⟩] at hq
        (repeat' (first | (rw [rw0]) | (rw [rc1]) | (rw [s3]) | (refine w_contains (by omega) (by omega) (fun c => ?_) (fun c => absurd (c.symm.trans b1) (by decide))) | (refine w_contains (by omega) (by omega) (fun c => ?_) (fun c => absurd (c.symm.trans hwb) (by decide))) | (refine w_without (by omega) (by omega) (by omega) ?_) | (refine Ex_step ?_; conv => whnf) | (refine ⟨?_, trivial⟩) | (refine (show den _ _ _ _ _ _ _ _ from ?_); conv => whnf) | (refine ⟨by (first | assumption | rfl | (exact Nat.le_of_ble_eq_true rfl) | (exact ⟨fun h01 => absurd h01 (by decide), by first | rfl | assumption⟩) | (exact ⟨fun _ => by decide, by first | rfl | assumption⟩) | (exact ⟨by assumption, by omega, by omega⟩) | (unfold inI; omega) | omega), ?_⟩; conv => whnf) | (refine ⟨fun c => False.elim (by omega), fun c => ?_⟩) | (refine ⟨fun c => ?_, fun c => False.elim (by omega)⟩) | (refine ⟨fun c => ?_, fun c => ?_⟩) | (intro c) | fail))
        exact hq
    · rw [if_neg (fun q => b2 q.2.1)] at hq
      rw [show w p i = false by simpa using b2] at hwb
      (repeat' (first | (rw [rw0]) | (refine w_contains (by omega) (by omega) (fun c => ?_) (fun c => absurd (c.symm.trans b1) (by decide))) | (refine w_contains (by omega) (by omega) (fun c => absurd (c.symm.trans hwb) (by decide)) (fun c => ?_)) | (refine Ex_step ?_; conv => whnf) | (refine ⟨?_, trivial⟩) | (refine (show den _ _ _ _ _ _ _ _ from ?_); conv => whnf) | (refine ⟨by (first | assumption | rfl | (exact Nat.le_of_ble_eq_true rfl) | (exact ⟨fun h01 => absurd h01 (by decide), by first | rfl | assumption⟩) | (exact ⟨fun _ => by decide, by first | rfl | assumption⟩) | (exact ⟨by assumption, by omega, by omega⟩) | (unfold inI; omega) | omega), ?_⟩; conv => whnf) | (refine ⟨fun c => False.elim (by omega), fun c => ?_⟩) | (refine ⟨fun c => ?_, fun c => False.elim (by omega)⟩) | (refine ⟨fun c => ?_, fun c => ?_⟩) | (intro c) | fail))
      exact hq
  · rw [if_neg (fun q => b1 q.1)] at hq
    (repeat' (first | (refine w_contains (by omega) (by omega) (fun c => absurd c b1) (fun c => ?_)) | (refine Ex_step ?_; conv => whnf) | (refine ⟨?_, trivial⟩) | (refine (show den _ _ _ _ _ _ _ _ from ?_); conv => whnf) | (refine ⟨by (first | assumption | rfl | (exact Nat.le_of_ble_eq_true rfl) | (exact ⟨fun h01 => absurd h01 (by decide), by first | rfl | assumption⟩) | (exact ⟨fun _ => by decide, by first | rfl | assumption⟩) | (exact ⟨by assumption, by omega, by omega⟩) | (unfold inI; omega) | omega), ?_⟩; conv => whnf) | (refine ⟨fun c => False.elim (by omega), fun c => ?_⟩) | (refine ⟨fun c => ?_, fun c => False.elim (by omega)⟩) | (refine ⟨fun c => ?_, fun c => ?_⟩) | (intro c) | fail))
    exact hq
theorem pr_b {w : Int → Int → Bool} {tl : Int} {C : Int → Int} {s p i b : Int} (ht : 0 ≤ tl ∧ tl ≤ 81) (hb : bt s i = true → w p i = true → -1 ≤ C (rs s p i) ∧ C (rs s p i) ≤ b) (h0 : -81 ≤ b) : -1 ≤ prC w tl C s p i ∧ prC w tl C s p i ≤ max (-1) (b + 81) := by
  unfold prC
  split
  · rename_i q
    have := hb q.1 q.2.1
    omega
  · omega
set_option maxHeartbeats 4000000 in
theorem w_cheapestOf {X : Int → Int} {XL : Int} {d : Nat} {h : Mem} {Q : RetP} {n tl : Int} {w : Int → Int → Bool} {s : Int} (hd : 3 ≤ d) (hG : GK h) (hS : GS h n tl w) (hn0 : 0 ≤ n) (hn1 : n ≤ 6) (ht : 0 ≤ tl ∧ tl ≤ 81) (s0 : 0 < s) (s1 : s < shlZ 1 n) (hb : ∀ x, 0 ≤ x → x < s → -1 ≤ gG h 122 x ∧ gG h 122 x ≤ 81 * x) (hq : (-1 ≤ foN n (chF w tl (gG h 122) s) (fst6 s) (-1) ∧ foN n (chF w tl (gG h 122) s) (fst6 s) (-1) ≤ 81 * s) → Q (some (vI (foN n (chF w tl (gG h 122) s) (fst6 s) (-1)))) h) : WP X XL d 95 [vR 120, vI s] h Q := by
  obtain ⟨kg, rw0, rc1, kw, lw, kc, lc, r14⟩ := id hG
  obtain ⟨s2, s3, sw⟩ := id hS
  obtain ⟨p0, p1, h64⟩ := fst_n hn0 hn1 s0 s1
  obtain ⟨q0, q1, q2, q3⟩ := fst_b s0 h64
  have rb : ∀ i, 0 ≤ i → i < n → 0 ≤ rs s (fst6 s) i ∧ rs s (fst6 s) i < s := fun i i0 i1 => by
    obtain ⟨r1, r2, -, -⟩ := rs_b (s := s) (by omega) h64 p0 (show fst6 s < 6 by omega) i0 (show i < 6 by omega)
    exact ⟨r1.1, r2 q2⟩
  have loop : ∀ (k : Nat) (i l : Int) (w5 : Option MV), (n - i).toNat = k → fst6 s ≤ i → i ≤ n → -1 ≤ l → l ≤ 81 * s → foN n (chF w tl (gG h 122) s) (fst6 s) (-1) = foN n (chF w tl (gG h 122) s) i l → Ex (WP X XL (d - 1)) KX1_cheapestOf h.1 Q 29 [some (vR 120), some (vI s), some (vI (fst6 s)), some (vI l), some (vI i), w5] [] h := by
    intro k; induction k with
    | zero =>
      intro i l w5 hk h0 h1 l0 l1 he
      rw [foN_end (n := n) (i := i) (by omega)] at he
      have hq := hq (by omega)
      rw [he] at hq
      (repeat' (first | (rw [s2]) | (refine Ex_step ?_; conv => whnf) | (refine ⟨?_, trivial⟩) | (refine (show den _ _ _ _ _ _ _ _ from ?_); conv => whnf) | (refine ⟨by (first | assumption | rfl | (exact Nat.le_of_ble_eq_true rfl) | (exact ⟨fun h01 => absurd h01 (by decide), by first | rfl | assumption⟩) | (exact ⟨fun _ => by decide, by first | rfl | assumption⟩) | (exact ⟨by assumption, by omega, by omega⟩) | (unfold inI; omega) | omega), ?_⟩; conv => whnf) | (refine ⟨fun c => False.elim (by omega), fun c => ?_⟩) | (refine ⟨fun c => ?_, fun c => False.elim (by omega)⟩) | (refine ⟨fun c => ?_, fun c => ?_⟩) | (intro c) | fail))
      exact hq
    | succ k ih =>
      intro i l w5 hk h0 h1 l0 l1 he
      rw [foN_go (n := n) (i := i) (by omega)] at he
      have hr := rb i (by omega) (by omega)
      have hbx := hb _ hr.1 hr.2
      have hpb := pr_b (w := w) (tl := tl) (C := gG h 122) (s := s) (p := fst6 s) (i := i) (b := 81 * s - 81) ht (fun _ _ => by omega) (by omega)
      by_cases hc : ¬ prC w tl (gG h 122) s (fst6 s) i = -1 ∧ (l = -1 ∨ prC w tl (gG h 122) s (fst6 s) i < l)
      · rw [show chF w tl (gG h 122) s i l = prC w tl (gG h 122) s (fst6 s) i from if_pos hc] at he
        have ih2 := fun w5 => ih (i + 1) _ w5 (by omega) (by omega) (by omega) (by omega) (by omega) he
        refine Ex_step ?_; conv => whnf
        (repeat' (first | (refine ih2 _) | (rw [s2]) | (refine w_priceOfGroup (by omega) hG hS hn0 hn1 ht (by omega) h64 (by omega) (by omega) (fun _ _ => by omega) ?_) | (refine Ex_step ?_; conv => whnf) | (refine ⟨?_, trivial⟩) | (refine (show den _ _ _ _ _ _ _ _ from ?_); conv => whnf) | (refine ⟨by (first | assumption | rfl | (exact Nat.le_of_ble_eq_true rfl) | (exact ⟨fun h01 => absurd h01 (by decide), by first | rfl | assumption⟩) | (exact ⟨fun _ => by decide, by first | rfl | assumption⟩) | (exact ⟨by assumption, by omega, by omega⟩) | (unfold inI; omega) | omega), ?_⟩; conv => whnf) | (refine ⟨fun c => False.elim (by omega), fun c => ?_⟩) | (refine ⟨fun c => ?_, fun c => False.elim (by omega)⟩) | (refine ⟨fun c => ?_, fun c => ?_⟩) | (intro c) | fail))
      · rw [show chF w tl (gG h 122) s i l = l from if_neg hc] at he
        have ih2 := fun w5 => ih (i + 1) _ w5 (by omega) (by omega) (by omega) (by omega) (by omega) he
        refine Ex_step ?_; conv => whnf
        (repeat' (first | (refine ih2 _) | (rw [s2]) | (refine w_priceOfGroup (by omega) hG hS hn0 hn1 ht (by omega) h64 (by omega) (by omega) (fun _ _ => by omega) ?_) | (refine Ex_step ?_; conv => whnf) | (refine ⟨?_, trivial⟩) | (refine (show den _ _ _ _ _ _ _ _ from ?_); conv => whnf) | (refine ⟨by (first | assumption | rfl | (exact Nat.le_of_ble_eq_true rfl) | (exact ⟨fun h01 => absurd h01 (by decide), by first | rfl | assumption⟩) | (exact ⟨fun _ => by decide, by first | rfl | assumption⟩) | (exact ⟨by assumption, by omega, by omega⟩) | (unfold inI; omega) | omega), ?_⟩; conv => whnf) | (refine ⟨fun c => False.elim (by omega), fun c => ?_⟩) | (refine ⟨fun c => ?_, fun c => False.elim (by omega)⟩) | (refine ⟨fun c => ?_, fun c => ?_⟩) | (intro c) | fail))
        all_goals (exfalso; omega)
  have find : ∀ (k : Nat) (i : Int), (fst6 s - i).toNat = k → 0 ≤ i → i ≤ fst6 s → Ex (WP X XL (d - 1)) KX1_cheapestOf h.1 Q 2 [some (vR 120), some (vI s), some (vI i), none, none, none] [] h := by
    intro k; induction k with
    | zero =>
      intro i hk h0 h1
      obtain rfl : i = fst6 s := by omega
      have l0 := loop _ (fst6 s) (-1) none rfl (by omega) (by omega) (by omega) (by omega) rfl
      (repeat' (first | (exact l0) | (rw [s2]) | (refine w_contains (by omega) (by omega) (fun c => ?_) (fun c => absurd (c.symm.trans q2) (by decide))) | (refine Ex_step ?_; conv => whnf) | (refine ⟨?_, trivial⟩) | (refine (show den _ _ _ _ _ _ _ _ from ?_); conv => whnf) | (refine ⟨by (first | assumption | rfl | (exact Nat.le_of_ble_eq_true rfl) | (exact ⟨fun h01 => absurd h01 (by decide), by first | rfl | assumption⟩) | (exact ⟨fun _ => by decide, by first | rfl | assumption⟩) | (exact ⟨by assumption, by omega, by omega⟩) | (unfold inI; omega) | omega), ?_⟩; conv => whnf) | (refine ⟨fun c => False.elim (by omega), fun c => ?_⟩) | (refine ⟨fun c => ?_, fun c => False.elim (by omega)⟩) | (refine ⟨fun c => ?_, fun c => ?_⟩) | (intro c) | fail))
    | succ k ih =>
      intro i hk h0 h1
      have hbi := q3 i h0 (by omega)
      have ih2 := ih (i + 1) (by omega) (by omega) (by omega)
      refine Ex_step ?_; conv => whnf
      (repeat' (first | (exact ih2) | (rw [s2]) | (refine w_contains (by omega) (by omega) (fun c => absurd (c.symm.trans hbi) (by decide)) (fun c => ?_)) | (refine Ex_step ?_; conv => whnf) | (refine ⟨?_, trivial⟩) | (refine (show den _ _ _ _ _ _ _ _ from ?_); conv => whnf) | (refine ⟨by (first | assumption | rfl | (exact Nat.le_of_ble_eq_true rfl) | (exact ⟨fun h01 => absurd h01 (by decide), by first | rfl | assumption⟩) | (exact ⟨fun _ => by decide, by first | rfl | assumption⟩) | (exact ⟨by assumption, by omega, by omega⟩) | (unfold inI; omega) | omega), ?_⟩; conv => whnf) | (refine ⟨fun c => False.elim (by omega), fun c => ?_⟩) | (refine ⟨fun c => ?_, fun c => False.elim (by omega)⟩) | (refine ⟨fun c => ?_, fun c => ?_⟩) | (intro c) | fail))
  have f0 := find _ 0 rfl (by omega) (by omega)
  refine eX1_cheapestOf (by omega) ?_
  (repeat' (first | (exact f0) | (refine Ex_step ?_; conv => whnf) | (refine ⟨?_, trivial⟩) | (refine (show den _ _ _ _ _ _ _ _ from ?_); conv => whnf) | (refine ⟨by (first | assumption | rfl | (exact Nat.le_of_ble_eq_true rfl) | (exact ⟨fun h01 => absurd h01 (by decide), by first | rfl | assumption⟩) | (exact ⟨fun _ => by decide, by first | rfl | assumption⟩) | (exact ⟨by assumption, by omega, by omega⟩) | (unfold inI; omega) | omega), ?_⟩; conv => whnf) | (refine ⟨fun c => False.elim (by omega), fun c => ?_⟩) | (refine ⟨fun c => ?_, fun c => False.elim (by omega)⟩) | (refine ⟨fun c => ?_, fun c => ?_⟩) | (intro c) | fail))
theorem ch_congr {n tl : Int} {w : Int → Int → Bool} {C C' : Int → Int} {s : Int} (hn0 : 0 ≤ n) (hn1 : n ≤ 6) (s0 : 0 < s) (s1 : s < shlZ 1 n) (h : ∀ x, 0 ≤ x → x < s → C x = C' x) : foN n (chF w tl C s) (fst6 s) (-1) = foN n (chF w tl C' s) (fst6 s) (-1) := by
  obtain ⟨p0, p1, h64⟩ := fst_n hn0 hn1 s0 s1
  obtain ⟨q0, q1, q2, q3⟩ := fst_b s0 h64
  refine foN_congr _ _ _ rfl (fun i l i0 i1 => ?_)
  obtain ⟨r1, r2, -, -⟩ := rs_b (s := s) (by omega) h64 p0 (show fst6 s < 6 by omega) (show 0 ≤ i by omega) (show i < 6 by omega)
  unfold chF prC
  rw [h _ r1.1 (r2 q2)]
set_option maxHeartbeats 4000000 in
theorem w_weigh {X : Int → Int} {XL : Int} {d : Nat} {h : Mem} {Q : RetP} {K : Int} {A : Int → Int} {v : Nat} (hd : 7 ≤ d) (hV : Vr K h v A) (hT : VAt h v) (hv : v + 12 < 120) (hG : GK h) (hq : ∀ h', Fr GP h h' → GS h' (A 1) (tlS A 0 (A 0)) (wl A) → isC (A 1) (wl A) (tlS A 0 (A 0)) (gG h' 122) → (∀ x, 0 ≤ x → x < shlZ 1 (A 1) → -1 ≤ gG h' 122 x ∧ gG h' 122 x ≤ 81 * x) → Q none h') : WP X XL d 93 [vR 120, vR v] h Q := by
  have hA := hV.2.2
  have b0 := hA.1
  have b1 := hA.2.1
  have h6 := sh6 b1.1 b1.2
  have hsh : inI (shlZ 1 (A 1)) := ⟨by omega, by omega⟩
  have htl := (tlS_b hA (fr := 0) (to := A 0) (by omega) (by omega) _ 0 0 rfl (by omega) (by omega) (by omega))
  have htl2 : 0 ≤ tlS A 0 (A 0) ∧ tlS A 0 (A 0) ≤ 81 := ⟨htl.1, by have := htl.2.1 (by omega); unfold tlS; omega⟩
  have hsp : ∀ r, v ≤ r → r ≤ v + 12 → ¬ GP r := fun r _ _ => by unfold GP; omega
  have sets : ∀ (k : Nat) (s : Int) (hj : Mem), (shlZ 1 (A 1) - s).toNat = k → 1 ≤ s → s ≤ shlZ 1 (A 1) → Fr GP h hj → GS hj (A 1) (tlS A 0 (A 0)) (wl A) → gG hj 122 0 = 0 → (∀ x, 0 < x → x < s → gG hj 122 x = foN (A 1) (chF (wl A) (tlS A 0 (A 0)) (gG hj 122) x) (fst6 x) (-1)) → (∀ x, 0 ≤ x → x < s → -1 ≤ gG hj 122 x ∧ gG hj 122 x ≤ 81 * x) → Ex (WP X XL (d - 1)) KX1_weigh h.1 Q 57 [some (vR 120), some (vR v), some (vI s)] [] hj := by
    intro k; induction k with
    | zero =>
      intro s hj hk h0 h1 fj gj c0 c1 c2
      obtain ⟨kg, rw0, rc1, kw, lw, kc, lc, r14⟩ := id (hG.fr fj)
      obtain ⟨s2, s3, sw⟩ := id gj
      have e1 := fj.1
      obtain rfl : s = shlZ 1 (A 1) := by omega
      (repeat' (first | (rw [s2]) | (refine ⟨⟨by omega, by omega, hsh⟩, ?_⟩; conv => whnf) | (refine Ex_step ?_; conv => whnf) | (refine ⟨?_, trivial⟩) | (refine (show den _ _ _ _ _ _ _ _ from ?_); conv => whnf) | (refine ⟨by (first | assumption | rfl | (exact Nat.le_of_ble_eq_true rfl) | (exact ⟨fun h01 => absurd h01 (by decide), by first | rfl | assumption⟩) | (exact ⟨fun _ => by decide, by first | rfl | assumption⟩) | (exact ⟨by assumption, by omega, by omega⟩) | (unfold inI; omega) | omega), ?_⟩; conv => whnf) | (refine ⟨fun c => False.elim (by omega), fun c => ?_⟩) | (refine ⟨fun c => ?_, fun c => False.elim (by omega)⟩) | (refine ⟨fun c => ?_, fun c => ?_⟩) | (intro c) | fail))
      exact hq hj fj gj ⟨c0, fun x x0 x1 => c1 x x0 x1⟩ c2
    | succ k ih =>
      intro s hj hk h0 h1 fj gj c0 c1 c2
      have hGj := hG.fr fj
      obtain ⟨kg, rw0, rc1, kw, lw, kc, lc, r14⟩ := id hGj
      obtain ⟨s2, s3, sw⟩ := id gj
      have ih2 := fun (hb : -1 ≤ foN (A 1) (chF (wl A) (tlS A 0 (A 0)) (gG hj 122) s) (fst6 s) (-1) ∧ foN (A 1) (chF (wl A) (tlS A 0 (A 0)) (gG hj 122) s) (fst6 s) (-1) ≤ 81 * s) => ih (s + 1) (sG hj 122 s (foN (A 1) (chF (wl A) (tlS A 0 (A 0)) (gG hj 122) s) (fst6 s) (-1))) (by omega) (by omega) (by omega) (fj.sG (by unfold GP; omega)) ⟨by rw [gG_sG, if_neg (by omega)]; exact s2, by rw [gG_sG, if_neg (by omega)]; exact s3, fun p p0 p1 j j0 j1 => by rw [gG_sG, if_neg (by omega)]; exact sw p p0 p1 j j0 j1⟩ (by rw [g_ne (by omega)]; exact c0) (fun x x0 x1 => by
          have hcg : ∀ y, y < s → gG (sG hj 122 s (foN (A 1) (chF (wl A) (tlS A 0 (A 0)) (gG hj 122) s) (fst6 s) (-1))) 122 y = gG hj 122 y := fun y hy => g_ne (by omega)
          rw [ch_congr b1.1 b1.2 x0 (by omega) (C' := gG hj 122) (fun y y0 y1 => hcg y (by omega))]
          by_cases e : x = s
          · subst e; rw [g_same]
          · rw [hcg x (by omega)]; exact c1 x x0 (by omega)) (fun x x0 x1 => by
          by_cases e : x = s
          · subst e; rw [g_same]; exact hb
          · rw [g_ne e]; exact c2 x x0 (by omega))
      refine Ex_step ?_; conv => whnf
      (repeat' (first | (refine ih2 (by assumption)) | (rw [s2]) | (rw [rc1]) | (refine w_cheapestOf (by omega) hGj gj b1.1 b1.2 htl2 (by omega) (by omega) c2 (fun hb => ?_)) | (refine ⟨⟨by omega, by omega, hsh⟩, ?_⟩; conv => whnf) | (refine ⟨⟨kc, by omega, Int.lt_of_lt_of_le (by omega : _ < (64 : Int)) (Int.le_of_eq lc.symm)⟩, ?_⟩; conv => whnf) | (refine Ex_step ?_; conv => whnf) | (refine ⟨?_, trivial⟩) | (refine (show den _ _ _ _ _ _ _ _ from ?_); conv => whnf) | (refine ⟨by (first | assumption | rfl | (exact Nat.le_of_ble_eq_true rfl) | (exact ⟨fun h01 => absurd h01 (by decide), by first | rfl | assumption⟩) | (exact ⟨fun _ => by decide, by first | rfl | assumption⟩) | (exact ⟨by assumption, by omega, by omega⟩) | (unfold inI; omega) | omega), ?_⟩; conv => whnf) | (refine ⟨fun c => False.elim (by omega), fun c => ?_⟩) | (refine ⟨fun c => ?_, fun c => False.elim (by omega)⟩) | (refine ⟨fun c => ?_, fun c => ?_⟩) | (intro c) | fail))
  have wells : ∀ (k : Nat) (i : Int) (hj : Mem), (A 1 - i).toNat = k → 0 ≤ i → i ≤ A 1 → Fr GP h hj → gG hj 120 2 = A 1 → gG hj 120 3 = tlS A 0 (A 0) → (∀ p, 0 ≤ p → p < i → ∀ j, 0 ≤ j → j < A 1 → bt (gG hj 121 p) j = wl A p j) → Ex (WP X XL (d - 1)) KX1_weigh h.1 Q 23 [some (vR 120), some (vR v), some (vI i)] [] hj := by
    intro k; induction k with
    | zero =>
      intro i hj hk h0 h1 fj s2 s3 sw
      obtain ⟨kg, rw0, rc1, kw, lw, kc, lc, r14⟩ := id (hG.fr fj)
      obtain rfl : i = A 1 := by omega
      have s0 := sets _ 1 (sG hj 122 0 0) rfl (by omega) (by omega) (fj.sG (by unfold GP; omega)) ⟨by rw [gG_sG, if_neg (by omega)]; exact s2, by rw [gG_sG, if_neg (by omega)]; exact s3, fun p p0 p1 j j0 j1 => by rw [gG_sG, if_neg (by omega)]; exact sw p p0 p1 j j0 j1⟩ g_same (fun x x0 x1 => by omega) (fun x x0 x1 => by rw [show x = 0 by omega, g_same]; omega)
      (repeat' (first | (exact s0) | (rw [s2]) | (rw [rc1]) | (refine Ex_step ?_; conv => whnf) | (refine ⟨?_, trivial⟩) | (refine (show den _ _ _ _ _ _ _ _ from ?_); conv => whnf) | (refine ⟨by (first | assumption | rfl | (exact Nat.le_of_ble_eq_true rfl) | (exact ⟨fun h01 => absurd h01 (by decide), by first | rfl | assumption⟩) | (exact ⟨fun _ => by decide, by first | rfl | assumption⟩) | (exact ⟨by assumption, by omega, by omega⟩) | (unfold inI; omega) | omega), ?_⟩; conv => whnf) | (refine ⟨fun c => False.elim (by omega), fun c => ?_⟩) | (refine ⟨fun c => ?_, fun c => False.elim (by omega)⟩) | (refine ⟨fun c => ?_, fun c => ?_⟩) | (intro c) | fail))
    | succ k ih =>
      intro i hj hk h0 h1 fj s2 s3 sw
      obtain ⟨kg, rw0, rc1, kw, lw, kc, lc, r14⟩ := id (hG.fr fj)
      have hVj := hV.fr fj hT hsp
      obtain ⟨u1, u2⟩ := stF_6 (n := A 1) (ok := wl A i) b1.2 _ 0 0 rfl (by omega) (by omega) (by omega) (fun j _ _ => bt0)
      have ih2 := ih (i + 1) (sG hj 121 i (foN (A 1) (stF (wl A i)) 0 0)) (by omega) (by omega) (by omega) (fj.sG (by unfold GP; omega)) (by rw [gG_sG, if_neg (by omega)]; exact s2) (by rw [gG_sG, if_neg (by omega)]; exact s3) (fun p p0 p1 j j0 j1 => by
        by_cases e : p = i
        · subst e; rw [g_same, u2 j j0 (by omega), bt0, decide_eq_true ⟨j0, j1⟩]; simp
        · rw [g_ne e]; exact sw p p0 (by omega) j j0 j1)
      refine Ex_step ?_; conv => whnf
      (repeat' (first | (exact ih2) | (rw [s2]) | (rw [rw0]) | (refine w_wellWith (by omega) hVj h0 (by omega) ?_) | (refine ⟨⟨kw, by omega, Int.lt_of_lt_of_le (by omega : _ < (6 : Int)) (Int.le_of_eq lw.symm)⟩, ?_⟩; conv => whnf) | (refine Ex_step ?_; conv => whnf) | (refine ⟨?_, trivial⟩) | (refine (show den _ _ _ _ _ _ _ _ from ?_); conv => whnf) | (refine ⟨by (first | assumption | rfl | (exact Nat.le_of_ble_eq_true rfl) | (exact ⟨fun h01 => absurd h01 (by decide), by first | rfl | assumption⟩) | (exact ⟨fun _ => by decide, by first | rfl | assumption⟩) | (exact ⟨by assumption, by omega, by omega⟩) | (unfold inI; omega) | omega), ?_⟩; conv => whnf) | (refine ⟨fun c => False.elim (by omega), fun c => ?_⟩) | (refine ⟨fun c => ?_, fun c => False.elim (by omega)⟩) | (refine ⟨fun c => ?_, fun c => ?_⟩) | (intro c) | fail))
  obtain ⟨kg, rw0, rc1, kw, lw, kc, lc, r14⟩ := id hG
  have kn := hV.1.1
  have g0 := hV.2.1.1.1
  have g5 := hV.2.1.1.2.1
  have f1 : Fr GP h (sG h 120 2 (A 1)) := Fr.refl.sG (by unfold GP; omega)
  have hV1 := hV.fr f1 hT hsp
  have g01 := hV1.2.1.1.1
  have w0 := wells _ 0 (sG (sG h 120 2 (A 1)) 120 3 (tlS A 0 (A 0))) rfl (by omega) (by omega) (f1.sG (by unfold GP; omega)) (by rw [g_ne (by omega), g_same]) g_same (fun p p0 p1 => by omega)
  refine eX1_weigh (by omega) ?_
  (repeat' (first | (exact w0) | (rw [g5]) | (rw [g01]) | (refine w_tollsBetween (by omega) hV1 (by omega) (by omega) ?_) | (refine Ex_step ?_; conv => whnf) | (refine ⟨?_, trivial⟩) | (refine (show den _ _ _ _ _ _ _ _ from ?_); conv => whnf) | (refine ⟨by (first | assumption | rfl | (exact Nat.le_of_ble_eq_true rfl) | (exact ⟨fun h01 => absurd h01 (by decide), by first | rfl | assumption⟩) | (exact ⟨fun _ => by decide, by first | rfl | assumption⟩) | (exact ⟨by assumption, by omega, by omega⟩) | (unfold inI; omega) | omega), ?_⟩; conv => whnf) | (refine ⟨fun c => False.elim (by omega), fun c => ?_⟩) | (refine ⟨fun c => ?_, fun c => False.elim (by omega)⟩) | (refine ⟨fun c => ?_, fun c => ?_⟩) | (intro c) | fail))
