/-! LEVEL 2: trays: pour, copyAt -/
def poT (T : Int → Int → Int) (f p t a m : Int) : Int → Int → Int := fun t' k => if t' = t ∧ a ≤ k ∧ k < a + m then T f (p + (k - a)) else T t' k
/-- what is wrong with a pour -/
def poZ (S M : Int → Int) (f p t a m : Int) : Int := if ¬ ((0 ≤ f ∧ f < 4) ∧ (0 ≤ t ∧ t < 4) ∧ 0 ≤ p ∧ 0 ≤ a ∧ 0 ≤ m) then 1 else if M f = -1 ∨ M t = -1 then 2 else if ¬ S f = S t then 8 else if p + m ≤ M f ∧ a + m ≤ M t then 0 else 3
theorem po_1 {S M : Int → Int} {f p t a m : Int} (h : ¬ ((0 ≤ f ∧ f < 4) ∧ (0 ≤ t ∧ t < 4) ∧ 0 ≤ p ∧ 0 ≤ a ∧ 0 ≤ m)) : poZ S M f p t a m = 1 := if_pos h
theorem po_2 {S M : Int → Int} {f p t a m : Int} (h : (0 ≤ f ∧ f < 4) ∧ (0 ≤ t ∧ t < 4) ∧ 0 ≤ p ∧ 0 ≤ a ∧ 0 ≤ m) (h2 : M f = -1 ∨ M t = -1) : poZ S M f p t a m = 2 := by unfold poZ; rw [if_neg (fun q => q h), if_pos h2]
theorem po_8 {S M : Int → Int} {f p t a m : Int} (h : (0 ≤ f ∧ f < 4) ∧ (0 ≤ t ∧ t < 4) ∧ 0 ≤ p ∧ 0 ≤ a ∧ 0 ≤ m) (h2 : ¬ (M f = -1 ∨ M t = -1)) (h3 : ¬ S f = S t) : poZ S M f p t a m = 8 := by unfold poZ; rw [if_neg (fun q => q h), if_neg h2, if_pos h3]
theorem po_3 {S M : Int → Int} {f p t a m : Int} (h : (0 ≤ f ∧ f < 4) ∧ (0 ≤ t ∧ t < 4) ∧ 0 ≤ p ∧ 0 ≤ a ∧ 0 ≤ m) (h2 : ¬ (M f = -1 ∨ M t = -1)) (h3 : S f = S t) (h4 : ¬ (p + m ≤ M f ∧ a + m ≤ M t)) : poZ S M f p t a m = 3 := by unfold poZ; rw [if_neg (fun q => q h), if_neg h2, if_neg (fun q => q h3), if_neg h4]
theorem po_0 {S M : Int → Int} {f p t a m : Int} (h : (0 ≤ f ∧ f < 4) ∧ (0 ≤ t ∧ t < 4) ∧ 0 ≤ p ∧ 0 ≤ a ∧ 0 ≤ m) (h2 : ¬ (M f = -1 ∨ M t = -1)) (h3 : S f = S t) (h4 : p + m ≤ M f ∧ a + m ≤ M t) : poZ S M f p t a m = 0 := by unfold poZ; rw [if_neg (fun q => q h), if_neg h2, if_neg (fun q => q h3), if_pos h4]
theorem TC.po {h : Mem} {S M : Int → Int} {T : Int → Int → Int} {f p t a m : Int} (hT : TC h S M T) (hf : 0 ≤ f ∧ f < 4) (ht : 0 ≤ t ∧ t < 4) (hp : 0 ≤ p) (ha : 0 ≤ a) (h1 : p + m ≤ M f) : TC (cpG h (tN f) p (tN t) a m) S M (poT T f p t a m) := by
  obtain ⟨⟨k00, r3, kk1, l1⟩, hh⟩ := id hT
  refine ⟨⟨k00, r3, kk1, l1⟩, fun t' h0 h4 => ?_⟩
  obtain ⟨f1, f2, f3, f4, f5, f6, f7, f8⟩ := hh t' h0 h4
  have g8 := (hh f hf.1 hf.2).2.2.2.2.2.2.2
  have n1 : ¬ tO t' = tN t := by unfold tO tN; omega
  refine ⟨f1, f2, f3, f4, f5, ?_, ?_, fun k hk0 hk1 => ?_⟩
  · rw [gG_cpG, if_neg (fun q => n1 q.1)]; exact f6
  · rw [gG_cpG, if_neg (fun q => n1 q.1)]; exact f7
  · unfold poT
    by_cases e : t' = t ∧ a ≤ k ∧ k < a + m
    · rw [gG_cpG, if_pos ⟨by rw [e.1], e.2⟩, if_pos e]; exact g8 _ (by omega) (by omega)
    · have n2 : ¬ (tN t' = tN t ∧ a ≤ k ∧ k < a + m) := fun q => e ⟨by have := q.1; unfold tN at this; omega, q.2⟩
      rw [gG_cpG, if_neg n2, if_neg e]; exact f8 k hk0 hk1
set_option maxHeartbeats 4000000 in
theorem c_pourY {X : Int → Int} {XL : Int} {d : Nat} {h : Mem} {Q : RetP} {S M : Int → Int} {T : Int → Int → Int} {f p t a m : Int} (hd : 9 ≤ d) (hT : TC h S M T) (hB : TB S M) (ip : inI p ∧ inI a ∧ inI m) (hz : poZ S M f p t a m = 0) (ok : (0 ≤ f ∧ f < 4) ∧ (0 ≤ t ∧ t < 4) ∧ 0 ≤ p ∧ 0 ≤ a ∧ 0 ≤ m) (h2 : ¬ (M f = -1 ∨ M t = -1)) (h3 : S f = S t) (h4 : p + m ≤ M f ∧ a + m ≤ M t) (hq : ∀ h', TC h' S M (poT T f p t a m) → Fr TP h h' → Q (some (vI 1)) (sG h' 0 0 0)) : WP X XL d 124 [vR 0, vI f, vI p, vI t, vI a, vI m] h Q := by
  have hq := hq _ (hT.po (f := f) (p := p) (t := t) (a := a) (m := m) ok.1 ok.2.1 (by omega) (by omega) (by omega)) (Fr.refl.cpG (by unfold TP tN; omega))
  have hBf := hB f ok.1.1 ok.1.2
  have hBt := hB t ok.2.1.1 ok.2.1.2
  obtain ⟨⟨k00, r3, kk1, l1⟩, hh⟩ := id hT
  obtain ⟨f1, f2, f3, f4, f5, f6, f7, f8⟩ := hh f ok.1.1 ok.1.2; obtain ⟨e1, e2, e3, e4, e5, e6, e7, e8⟩ := hh t ok.2.1.1 ok.2.1.2
  refine eX9_pour (by omega) ?_
  (repeat' (first | (rw [r3]) | (rw [e1]) | (rw [f1]) | (refine w_isTray (by omega) (fun c => ?_) (fun c => absurd (by omega) c)) | (rw [e3]) | (rw [f3]) | (refine w_tMissing (by omega) e2 (fun c => absurd (by omega) h2) (fun c => ?_)) | (refine w_tMissing (by omega) f2 (fun c => absurd (by omega) h2) (fun c => ?_)) | (refine w_tRow (by omega) f2 ip.1 ip.2.2 (fun c => ?_) (fun c => absurd (by omega) c)) | (refine w_tRow (by omega) e2 ip.2.1 ip.2.2 (fun c => ?_) (fun c => absurd (by omega) c)) | (refine ⟨⟨f4, e4, by omega, by omega, by omega, by omega, by omega, Nat.le_of_ble_eq_true rfl⟩, ?_⟩; conv => whnf) | (refine w_yes (by omega) k00 ?_) | (refine Ex_step ?_; conv => whnf) | (refine ⟨?_, trivial⟩) | (refine (show den _ _ _ _ _ _ _ _ from ?_); conv => whnf) | (refine ⟨by (first | assumption | rfl | (exact Nat.le_of_ble_eq_true rfl) | (exact ⟨fun h01 => absurd h01 (by decide), by first | rfl | assumption⟩) | (exact ⟨fun _ => by decide, by first | rfl | assumption⟩) | (exact ⟨by assumption, by omega, by omega⟩) | (unfold inI; omega) | omega), ?_⟩; conv => whnf) | (refine ⟨fun c => False.elim (by omega), fun c => ?_⟩) | (refine ⟨fun c => ?_, fun c => False.elim (by omega)⟩) | (refine ⟨fun c => ?_, fun c => ?_⟩) | (intro c) | fail))
  exact hq
set_option maxHeartbeats 4000000 in
theorem c_pourN {X : Int → Int} {XL : Int} {d : Nat} {h : Mem} {Q : RetP} {S M : Int → Int} {T : Int → Int → Int} {f p t a m : Int} (hd : 9 ≤ d) (hT : TC h S M T) (hB : TB S M) (ip : inI p ∧ inI a ∧ inI m) (hz : ¬ poZ S M f p t a m = 0) (hq : Q (some (vI 0)) (sG h 0 0 (poZ S M f p t a m))) : WP X XL d 124 [vR 0, vI f, vI p, vI t, vI a, vI m] h Q := by
  obtain ⟨⟨k00, r3, kk1, l1⟩, hh⟩ := id hT
  refine eX9_pour (by omega) ?_
  by_cases ok : (0 ≤ f ∧ f < 4) ∧ (0 ≤ t ∧ t < 4) ∧ 0 ≤ p ∧ 0 ≤ a ∧ 0 ≤ m
  · obtain ⟨f1, f2, f3, f4, f5, f6, f7, f8⟩ := hh f ok.1.1 ok.1.2; obtain ⟨e1, e2, e3, e4, e5, e6, e7, e8⟩ := hh t ok.2.1.1 ok.2.1.2
    by_cases h2 : M f = -1 ∨ M t = -1
    · rw [po_2 ok h2] at hq
      (repeat' (first | (rw [r3]) | (rw [e1]) | (rw [f1]) | (refine w_isTray (by omega) (fun c => ?_) (fun c => absurd (by omega) c)) | (refine w_tMissing (by omega) f2 (fun c => ?_) (fun c => ?_)) | (refine w_tMissing (by omega) e2 (fun c => ?_) (fun c => ?_)) | (refine w_not (by omega) k00 ?_) | (refine Ex_step ?_; conv => whnf) | (refine ⟨?_, trivial⟩) | (refine (show den _ _ _ _ _ _ _ _ from ?_); conv => whnf) | (refine ⟨by (first | assumption | rfl | (exact Nat.le_of_ble_eq_true rfl) | (exact ⟨fun h01 => absurd h01 (by decide), by first | rfl | assumption⟩) | (exact ⟨fun _ => by decide, by first | rfl | assumption⟩) | (exact ⟨by assumption, by omega, by omega⟩) | (unfold inI; omega) | omega), ?_⟩; conv => whnf) | (refine ⟨fun c => False.elim (by omega), fun c => ?_⟩) | (refine ⟨fun c => ?_, fun c => False.elim (by omega)⟩) | (refine ⟨fun c => ?_, fun c => ?_⟩) | (intro c) | fail))
      all_goals exact hq
    · by_cases h3 : S f = S t
      · have h4 : ¬ (p + m ≤ M f ∧ a + m ≤ M t) := fun q => hz (po_0 ok h2 h3 q)
        rw [po_3 ok h2 h3 h4] at hq
        (repeat' (first | (rw [r3]) | (rw [e1]) | (rw [f1]) | (refine w_isTray (by omega) (fun c => ?_) (fun c => absurd (by omega) c)) | (refine w_tMissing (by omega) f2 (fun c => absurd (by omega) h2) (fun c => ?_)) | (refine w_tMissing (by omega) e2 (fun c => absurd (by omega) h2) (fun c => ?_)) | (refine w_tRow (by omega) f2 ip.1 ip.2.2 (fun c => ?_) (fun c => ?_)) | (refine w_tRow (by omega) e2 ip.2.1 ip.2.2 (fun c => ?_) (fun c => ?_)) | (refine w_not (by omega) k00 ?_) | (refine Ex_step ?_; conv => whnf) | (refine ⟨?_, trivial⟩) | (refine (show den _ _ _ _ _ _ _ _ from ?_); conv => whnf) | (refine ⟨by (first | assumption | rfl | (exact Nat.le_of_ble_eq_true rfl) | (exact ⟨fun h01 => absurd h01 (by decide), by first | rfl | assumption⟩) | (exact ⟨fun _ => by decide, by first | rfl | assumption⟩) | (exact ⟨by assumption, by omega, by omega⟩) | (unfold inI; omega) | omega), ?_⟩; conv => whnf) | (refine ⟨fun c => False.elim (by omega), fun c => ?_⟩) | (refine ⟨fun c => ?_, fun c => False.elim (by omega)⟩) | (refine ⟨fun c => ?_, fun c => ?_⟩) | (intro c) | fail))
        all_goals exact hq
      · rw [po_8 ok h2 h3] at hq
        (repeat' (first | (rw [r3]) | (rw [e1]) | (rw [f1]) | (refine w_isTray (by omega) (fun c => ?_) (fun c => absurd (by omega) c)) | (refine w_tMissing (by omega) f2 (fun c => absurd (by omega) h2) (fun c => ?_)) | (refine w_tMissing (by omega) e2 (fun c => absurd (by omega) h2) (fun c => ?_)) | (refine w_not (by omega) k00 ?_) | (refine Ex_step ?_; conv => whnf) | (refine ⟨?_, trivial⟩) | (refine (show den _ _ _ _ _ _ _ _ from ?_); conv => whnf) | (refine ⟨by (first | assumption | rfl | (exact Nat.le_of_ble_eq_true rfl) | (exact ⟨fun h01 => absurd h01 (by decide), by first | rfl | assumption⟩) | (exact ⟨fun _ => by decide, by first | rfl | assumption⟩) | (exact ⟨by assumption, by omega, by omega⟩) | (unfold inI; omega) | omega), ?_⟩; conv => whnf) | (refine ⟨fun c => False.elim (by omega), fun c => ?_⟩) | (refine ⟨fun c => ?_, fun c => False.elim (by omega)⟩) | (refine ⟨fun c => ?_, fun c => ?_⟩) | (intro c) | fail))
        all_goals exact hq
  · rw [po_1 ok] at hq
    (repeat' (first | (refine w_isTray (by omega) (fun c => ?_) (fun c => False.elim (by omega))) | (refine w_isTray (by omega) (fun c => False.elim (by omega)) (fun c => ?_)) | (refine w_isTray (by omega) (fun c => ?_) (fun c => ?_)) | (refine w_not (by omega) k00 ?_) | (refine Ex_step ?_; conv => whnf) | (refine ⟨?_, trivial⟩) | (refine (show den _ _ _ _ _ _ _ _ from ?_); conv => whnf) | (refine ⟨by (first | assumption | rfl | (exact Nat.le_of_ble_eq_true rfl) | (exact ⟨fun h01 => absurd h01 (by decide), by first | rfl | assumption⟩) | (exact ⟨fun _ => by decide, by first | rfl | assumption⟩) | (exact ⟨by assumption, by omega, by omega⟩) | (unfold inI; omega) | omega), ?_⟩; conv => whnf) | (refine ⟨fun c => False.elim (by omega), fun c => ?_⟩) | (refine ⟨fun c => ?_, fun c => False.elim (by omega)⟩) | (refine ⟨fun c => ?_, fun c => ?_⟩) | (intro c) | fail))
    all_goals exact hq
/-- places from b + lo on up to b + hi taken from s on, as they were in h -/
def mvG (h : Mem) (b s lo hi : Int) : Mem := (h.1, fun r i => if r = 132 ∧ b + lo ≤ i ∧ i < b + hi then h.2.1 132 (s + (i - b)) else h.2.1 r i, h.2.2)
theorem gG_mv {h : Mem} {r : Nat} {b s lo hi i : Int} : gG (mvG h b s lo hi) r i = if r = 132 ∧ b + lo ≤ i ∧ i < b + hi then gG h 132 (s + (i - b)) else gG h r i := rfl
theorem mv_0 {h : Mem} {b s lo : Int} : mvG h b s lo lo = h := by
  unfold mvG
  have : (fun r i => if r = 132 ∧ b + lo ≤ i ∧ i < b + lo then h.2.1 132 (s + (i - b)) else h.2.1 r i) = h.2.1 := by
    funext r i
    rw [if_neg (by omega)]
  rw [this]
theorem mv_x {h : Mem} {b s lo hi lo' hi' k : Int} (hk : (lo' = lo ∧ hi' = hi + 1 ∧ k = hi) ∨ (lo' = lo - 1 ∧ hi' = hi ∧ k = lo - 1)) (hl : lo ≤ hi) : sG (mvG h b s lo hi) 132 (b + k) (gG h 132 (s + k)) = mvG h b s lo' hi' := by
  unfold sG mvG
  have : (fun r' i' => if r' = 132 ∧ i' = b + k then gG h 132 (s + k) else if r' = 132 ∧ b + lo ≤ i' ∧ i' < b + hi then h.2.1 132 (s + (i' - b)) else h.2.1 r' i') = fun r i => if r = 132 ∧ b + lo' ≤ i ∧ i < b + hi' then h.2.1 132 (s + (i - b)) else h.2.1 r i := by
    funext r i
    by_cases e : r = 132
    · by_cases e2 : i = b + k
      · rw [if_pos ⟨e, e2⟩, if_pos ⟨e, by omega, by omega⟩]
        rw [show s + k = s + (i - b) by omega]
        rfl
      · rw [if_neg (fun q => e2 q.2)]
        by_cases e3 : b + lo ≤ i ∧ i < b + hi
        · rw [if_pos ⟨e, e3⟩, if_pos ⟨e, by omega, by omega⟩]
        · rw [if_neg (fun q => e3 q.2), if_neg (fun q => by omega)]
    · rw [if_neg (fun q => e q.1), if_neg (fun q => e q.1), if_neg (fun q => e q.1)]
  exact congrArg (fun g => (h.1, g, h.2.2)) this
theorem TR.po {h : Mem} {S M : Int → Int} {T : Int → Int → Int} {f p t a m : Int} (hT : TR h S M T) (hB : TB S M) (hf : 0 ≤ f ∧ f < 4) (ht : 0 ≤ t ∧ t < 4) (hp : 0 ≤ p) (ha : 0 ≤ a) (h1 : p + m ≤ M f) (h2 : a + m ≤ M t) : TR (mvG h (60 * t + a) (60 * f + p) 0 m) S M (poT T f p t a m) := by
  obtain ⟨⟨kq, r5, r6, r7, k130, l130, k131, l131, k132, l132⟩, hh⟩ := id hT
  refine ⟨⟨kq, r5, r6, r7, k130, l130, k131, l131, k132, l132⟩, fun t' h0 h4 => ?_⟩
  obtain ⟨e1, e2, e3⟩ := hh t' h0 h4
  obtain ⟨f1, f2, f3⟩ := hh f hf.1 hf.2
  have hb := hB t' h0 h4
  have hbt := hB t ht.1 ht.2
  refine ⟨?_, ?_, fun k hk0 hk1 => ?_⟩
  · rw [gG_mv, if_neg (by omega)]; exact e1
  · rw [gG_mv, if_neg (by omega)]; exact e2
  · unfold poT
    by_cases e : t' = t ∧ a ≤ k ∧ k < a + m
    · rw [gG_mv, if_pos (by omega), if_pos e, ← f3 (p + (k - a)) (by omega) (by omega)]
      rw [show 60 * f + p + (60 * t' + k - (60 * t + a)) = 60 * f + (p + (k - a)) by omega]
    · rw [gG_mv, if_neg (by omega), if_neg e]; exact e3 k hk0 hk1
theorem Fr.mv {P : Nat → Prop} {h : Mem} {b s lo hi : Int} (hr : P 132) : Fr P h (mvG h b s lo hi) := ⟨rfl, rfl, fun r' hr' i' => by
  have e : ¬ (r' = 132 ∧ b + lo ≤ i' ∧ i' < b + hi) := fun q => hr' (q.1 ▸ hr)
  rw [gG_mv, if_neg e]⟩
theorem gR_mv {h : Mem} {r : Nat} {b s lo hi i : Int} : gR (mvG h b s lo hi) r i = gR h r i := rfl
set_option maxHeartbeats 4000000 in
theorem m_pourY {X : Int → Int} {XL : Int} {d : Nat} {h : Mem} {Q : RetP} {S M : Int → Int} {T : Int → Int → Int} {f p t a m : Int} (hd : 9 ≤ d) (hT : TR h S M T) (hB : TB S M) (ok : (0 ≤ f ∧ f < 4) ∧ (0 ≤ t ∧ t < 4) ∧ 0 ≤ p ∧ 0 ≤ a ∧ 0 ≤ m) (h2 : ¬ (M f = -1 ∨ M t = -1)) (h3 : S f = S t) (h4 : p + m ≤ M f ∧ a + m ≤ M t) (hq : ∀ h', TR h' S M (poT T f p t a m) → Fr RP h h' → Q (some (vI 1)) (sG h' 127 2 0)) : WP X XL d 207 [vR 127, vI f, vI p, vI t, vI a, vI m] h Q := by
  have hq := hq _ (hT.po (f := f) (p := p) (t := t) (a := a) (m := m) hB ok.1 ok.2.1 (by omega) (by omega) (by omega) (by omega)) (Fr.mv (Or.inr (Or.inr rfl)))
  have hBf := hB f ok.1.1 ok.1.2
  have hBt := hB t ok.2.1.1 ok.2.1.2
  obtain ⟨⟨kq, r5, r6, r7, k130, l130, k131, l131, k132, l132⟩, hh⟩ := id hT
  obtain ⟨f1, f2, f3⟩ := hh f ok.1.1 ok.1.2; obtain ⟨e1, e2, e3⟩ := hh t ok.2.1.1 ok.2.1.2
  have loop : ∀ (k : Nat) (j lo hi : Int) (w : Option MV), (m - j).toNat = k → 0 ≤ j → j ≤ m → (p < a → lo = m - j ∧ hi = m) → (a ≤ p → lo = 0 ∧ hi = j) → Ex (WP X XL (d - 1)) KX10_pour h.1 Q 118 [some (vR 127), some (vI f), some (vI p), some (vI t), some (vI a), some (vI m), some (vI j), w] [] (mvG h (60 * t + a) (60 * f + p) lo hi) := by
    intro k; induction k with
    | zero =>
      intro j lo hi w hk h0 h1 c1 c2
      obtain rfl : j = m := by omega
      obtain rfl : lo = 0 := by omega
      obtain rfl : hi = j := by omega
      (repeat' (first | (refine r_is (by omega) kq (fun _ => ?_) (fun c => absurd rfl c)) | (refine Ex_step ?_; conv => whnf) | (refine ⟨?_, trivial⟩) | (refine (show den _ _ _ _ _ _ _ _ from ?_); conv => whnf) | (refine ⟨by (first | assumption | rfl | (exact Nat.le_of_ble_eq_true rfl) | (exact ⟨fun h01 => absurd h01 (by decide), by first | rfl | assumption⟩) | (exact ⟨fun _ => by decide, by first | rfl | assumption⟩) | (exact ⟨by assumption, by omega, by omega⟩) | (unfold inI; omega) | omega), ?_⟩; conv => whnf) | (refine ⟨fun c => False.elim (by omega), fun c => ?_⟩) | (refine ⟨fun c => ?_, fun c => False.elim (by omega)⟩) | (refine ⟨fun c => ?_, fun c => ?_⟩) | (intro c) | fail))
      exact hq
    | succ k ih =>
      intro j lo hi w hk h0 h1 c1 c2
      by_cases hc : p < a
      · have hx := mv_x (h := h) (b := 60 * t + a) (s := 60 * f + p) (lo := lo) (hi := hi) (lo' := lo - 1) (hi' := hi) (k := m - 1 - j) (by omega) (by omega)
        have ih2 := fun w => ih (j + 1) (lo - 1) hi w (by omega) (by omega) (by omega) (by omega) (by omega)
        rw [← hx] at ih2
        refine Ex_step ?_; conv => whnf
        (repeat' (first | (refine ih2 _) | (rw [gR_mv]) | (rw [r7]) | (rw [gG_mv, if_neg (by omega)]) | (refine ⟨⟨k132, by omega, Int.lt_of_lt_of_le (by omega : _ < (240 : Int)) (Int.le_of_eq l132.symm)⟩, ?_⟩; conv => whnf) | (refine Ex_step ?_; conv => whnf) | (refine ⟨?_, trivial⟩) | (refine (show den _ _ _ _ _ _ _ _ from ?_); conv => whnf) | (refine ⟨by (first | assumption | rfl | (exact Nat.le_of_ble_eq_true rfl) | (exact ⟨fun h01 => absurd h01 (by decide), by first | rfl | assumption⟩) | (exact ⟨fun _ => by decide, by first | rfl | assumption⟩) | (exact ⟨by assumption, by omega, by omega⟩) | (unfold inI; omega) | omega), ?_⟩; conv => whnf) | (refine ⟨fun c => False.elim (by omega), fun c => ?_⟩) | (refine ⟨fun c => ?_, fun c => False.elim (by omega)⟩) | (refine ⟨fun c => ?_, fun c => ?_⟩) | (intro c) | fail))
      · have hx := mv_x (h := h) (b := 60 * t + a) (s := 60 * f + p) (lo := lo) (hi := hi) (lo' := lo) (hi' := hi + 1) (k := j) (by omega) (by omega)
        have ih2 := fun w => ih (j + 1) lo (hi + 1) w (by omega) (by omega) (by omega) (by omega) (by omega)
        rw [← hx] at ih2
        refine Ex_step ?_; conv => whnf
        (repeat' (first | (refine ih2 _) | (rw [gR_mv]) | (rw [r7]) | (rw [gG_mv, if_neg (by omega)]) | (refine ⟨⟨k132, by omega, Int.lt_of_lt_of_le (by omega : _ < (240 : Int)) (Int.le_of_eq l132.symm)⟩, ?_⟩; conv => whnf) | (refine Ex_step ?_; conv => whnf) | (refine ⟨?_, trivial⟩) | (refine (show den _ _ _ _ _ _ _ _ from ?_); conv => whnf) | (refine ⟨by (first | assumption | rfl | (exact Nat.le_of_ble_eq_true rfl) | (exact ⟨fun h01 => absurd h01 (by decide), by first | rfl | assumption⟩) | (exact ⟨fun _ => by decide, by first | rfl | assumption⟩) | (exact ⟨by assumption, by omega, by omega⟩) | (unfold inI; omega) | omega), ?_⟩; conv => whnf) | (refine ⟨fun c => False.elim (by omega), fun c => ?_⟩) | (refine ⟨fun c => ?_, fun c => False.elim (by omega)⟩) | (refine ⟨fun c => ?_, fun c => ?_⟩) | (intro c) | fail))
  have l0 := loop _ 0 (if p < a then m else 0) (if p < a then m else 0) none rfl (by omega) (by omega) (fun c => by rw [if_pos c]; omega) (fun c => by rw [if_neg (by omega)]; omega)
  rw [mv_0] at l0
  refine eX10_pour (by omega) ?_
  (repeat' (first | (exact l0) | (rw [r5]) | (rw [r6]) | (rw [e1]) | (rw [f1]) | (rw [e2]) | (rw [f2]) | (refine r_isTray (by omega) (fun c => ?_) (fun c => absurd (by omega) c)) | (refine Ex_step ?_; conv => whnf) | (refine ⟨?_, trivial⟩) | (refine (show den _ _ _ _ _ _ _ _ from ?_); conv => whnf) | (refine ⟨by (first | assumption | rfl | (exact Nat.le_of_ble_eq_true rfl) | (exact ⟨fun h01 => absurd h01 (by decide), by first | rfl | assumption⟩) | (exact ⟨fun _ => by decide, by first | rfl | assumption⟩) | (exact ⟨by assumption, by omega, by omega⟩) | (unfold inI; omega) | omega), ?_⟩; conv => whnf) | (refine ⟨fun c => False.elim (by omega), fun c => ?_⟩) | (refine ⟨fun c => ?_, fun c => False.elim (by omega)⟩) | (refine ⟨fun c => ?_, fun c => ?_⟩) | (intro c) | fail))
set_option maxHeartbeats 4000000 in
theorem m_pourN {X : Int → Int} {XL : Int} {d : Nat} {h : Mem} {Q : RetP} {S M : Int → Int} {T : Int → Int → Int} {f p t a m : Int} (hd : 9 ≤ d) (hT : TR h S M T) (hB : TB S M) (ip : inI p ∧ inI a ∧ inI m) (hz : ¬ poZ S M f p t a m = 0) (hq : Q (some (vI 0)) (sG h 127 2 (poZ S M f p t a m))) : WP X XL d 207 [vR 127, vI f, vI p, vI t, vI a, vI m] h Q := by
  obtain ⟨⟨kq, r5, r6, r7, k130, l130, k131, l131, k132, l132⟩, hh⟩ := id hT
  refine eX10_pour (by omega) ?_
  by_cases ok : (0 ≤ f ∧ f < 4) ∧ (0 ≤ t ∧ t < 4) ∧ 0 ≤ p ∧ 0 ≤ a ∧ 0 ≤ m
  · obtain ⟨f1, f2, f3⟩ := hh f ok.1.1 ok.1.2; obtain ⟨e1, e2, e3⟩ := hh t ok.2.1.1 ok.2.1.2
    have hBf := hB f ok.1.1 ok.1.2
    have hBt := hB t ok.2.1.1 ok.2.1.2
    unfold inI at ip
    by_cases h2 : M f = -1 ∨ M t = -1
    · rw [po_2 ok h2] at hq
      (repeat' (first | (rw [r5]) | (rw [r6]) | (rw [e1]) | (rw [f1]) | (rw [e2]) | (rw [f2]) | (refine r_isTray (by omega) (fun c => ?_) (fun c => absurd (by omega) c)) | (refine r_is (by omega) kq (fun c => absurd c (by omega)) (fun _ => ?_)) | (refine Ex_step ?_; conv => whnf) | (refine ⟨?_, trivial⟩) | (refine (show den _ _ _ _ _ _ _ _ from ?_); conv => whnf) | (refine ⟨by (first | assumption | rfl | (exact Nat.le_of_ble_eq_true rfl) | (exact ⟨fun h01 => absurd h01 (by decide), by first | rfl | assumption⟩) | (exact ⟨fun _ => by decide, by first | rfl | assumption⟩) | (exact ⟨by assumption, by omega, by omega⟩) | (unfold inI; omega) | omega), ?_⟩; conv => whnf) | (refine ⟨fun c => False.elim (by omega), fun c => ?_⟩) | (refine ⟨fun c => ?_, fun c => False.elim (by omega)⟩) | (refine ⟨fun c => ?_, fun c => ?_⟩) | (intro c) | fail))
      all_goals exact hq
    · by_cases h3 : S f = S t
      · have h4 : ¬ (p + m ≤ M f ∧ a + m ≤ M t) := fun q => hz (po_0 ok h2 h3 q)
        rw [po_3 ok h2 h3 h4] at hq
        (repeat' (first | (rw [r5]) | (rw [r6]) | (rw [e1]) | (rw [f1]) | (rw [e2]) | (rw [f2]) | (refine r_isTray (by omega) (fun c => ?_) (fun c => absurd (by omega) c)) | (refine r_is (by omega) kq (fun c => absurd c (by omega)) (fun _ => ?_)) | (refine Ex_step ?_; conv => whnf) | (refine ⟨?_, trivial⟩) | (refine (show den _ _ _ _ _ _ _ _ from ?_); conv => whnf) | (refine ⟨by (first | assumption | rfl | (exact Nat.le_of_ble_eq_true rfl) | (exact ⟨fun h01 => absurd h01 (by decide), by first | rfl | assumption⟩) | (exact ⟨fun _ => by decide, by first | rfl | assumption⟩) | (exact ⟨by assumption, by omega, by omega⟩) | (unfold inI; omega) | omega), ?_⟩; conv => whnf) | (refine ⟨fun c => False.elim (by omega), fun c => ?_⟩) | (refine ⟨fun c => ?_, fun c => False.elim (by omega)⟩) | (refine ⟨fun c => ?_, fun c => ?_⟩) | (intro c) | fail))
        all_goals exact hq
      · rw [po_8 ok h2 h3] at hq
        (repeat' (first | (rw [r5]) | (rw [r6]) | (rw [e1]) | (rw [f1]) | (rw [e2]) | (rw [f2]) | (refine r_isTray (by omega) (fun c => ?_) (fun c => absurd (by omega) c)) | (refine r_is (by omega) kq (fun c => absurd c (by omega)) (fun _ => ?_)) | (refine Ex_step ?_; conv => whnf) | (refine ⟨?_, trivial⟩) | (refine (show den _ _ _ _ _ _ _ _ from ?_); conv => whnf) | (refine ⟨by (first | assumption | rfl | (exact Nat.le_of_ble_eq_true rfl) | (exact ⟨fun h01 => absurd h01 (by decide), by first | rfl | assumption⟩) | (exact ⟨fun _ => by decide, by first | rfl | assumption⟩) | (exact ⟨by assumption, by omega, by omega⟩) | (unfold inI; omega) | omega), ?_⟩; conv => whnf) | (refine ⟨fun c => False.elim (by omega), fun c => ?_⟩) | (refine ⟨fun c => ?_, fun c => False.elim (by omega)⟩) | (refine ⟨fun c => ?_, fun c => ?_⟩) | (intro c) | fail))
        all_goals exact hq
  · rw [po_1 ok] at hq
    (repeat' (first | (refine r_isTray (by omega) (fun c => ?_) (fun c => False.elim (by omega))) | (refine r_isTray (by omega) (fun c => False.elim (by omega)) (fun c => ?_)) | (refine r_isTray (by omega) (fun c => ?_) (fun c => ?_)) | (refine r_is (by omega) kq (fun c => absurd c (by omega)) (fun _ => ?_)) | (refine Ex_step ?_; conv => whnf) | (refine ⟨?_, trivial⟩) | (refine (show den _ _ _ _ _ _ _ _ from ?_); conv => whnf) | (refine ⟨by (first | assumption | rfl | (exact Nat.le_of_ble_eq_true rfl) | (exact ⟨fun h01 => absurd h01 (by decide), by first | rfl | assumption⟩) | (exact ⟨fun _ => by decide, by first | rfl | assumption⟩) | (exact ⟨by assumption, by omega, by omega⟩) | (unfold inI; omega) | omega), ?_⟩; conv => whnf) | (refine ⟨fun c => False.elim (by omega), fun c => ?_⟩) | (refine ⟨fun c => ?_, fun c => False.elim (by omega)⟩) | (refine ⟨fun c => ?_, fun c => ?_⟩) | (intro c) | fail))
    all_goals exact hq
-- copyAt
def cpT (A S : Int → Int) (T : Int → Int → Int) (t n : Int) : Int → Int → Int := fun t' k => if t' = t ∧ 0 ≤ k ∧ k < n then cutZ (S t) (pA A k 3) else T t' k
theorem cp_0 {A S : Int → Int} {T : Int → Int → Int} {t : Int} : cpT A S T t 0 = T := by
  funext t' k; unfold cpT; rw [if_neg (by omega)]
theorem cp_s {A S : Int → Int} {T : Int → Int → Int} {t n : Int} (hn : 0 ≤ n) : wrT S (cpT A S T t n) t n (pA A n 3) = cpT A S T t (n + 1) := by
  funext t' k; unfold wrT cpT
  by_cases e : t' = t ∧ k = n
  · rw [if_pos e, if_pos ⟨e.1, by omega, by omega⟩, e.2]
  · rw [if_neg e]
    by_cases e2 : t' = t ∧ 0 ≤ k ∧ k < n
    · rw [if_pos e2, if_pos (by omega)]
    · rw [if_neg e2, if_neg (by omega)]
def coZ (A M : Int → Int) (t : Int) : Int := if ¬ (0 ≤ t ∧ t < 4) then 1 else if M t = -1 then 2 else if M t < A 1 then 3 else 0
theorem cz_1 {A M : Int → Int} {t : Int} (h : ¬ (0 ≤ t ∧ t < 4)) : coZ A M t = 1 := if_pos h
theorem cz_2 {A M : Int → Int} {t : Int} (h : 0 ≤ t ∧ t < 4) (h2 : M t = -1) : coZ A M t = 2 := by unfold coZ; rw [if_neg (fun q => q h), if_pos h2]
theorem cz_3 {A M : Int → Int} {t : Int} (h : 0 ≤ t ∧ t < 4) (h2 : ¬ M t = -1) (h3 : M t < A 1) : coZ A M t = 3 := by unfold coZ; rw [if_neg (fun q => q h), if_neg h2, if_pos h3]
theorem cz_0 {A M : Int → Int} {t : Int} (h : 0 ≤ t ∧ t < 4) (h2 : ¬ M t = -1) (h3 : ¬ M t < A 1) : coZ A M t = 0 := by unfold coZ; rw [if_neg (fun q => q h), if_neg h2, if_neg h3]
theorem Vr.fr {P : Nat → Prop} {K : Int} {h h' : Mem} {v : Nat} {A : Int → Int} (a : Fr P h h') (hT : VAt h v) (b : ∀ r, v ≤ r → r ≤ v + 12 → ¬ P r) (q : Vr K h v A) : Vr K h' v A := by
  obtain ⟨q1, ⟨⟨g0, g5, g13, g16, g17, g18, g19, g4⟩, ra, rp, rq⟩, q3⟩ := q
  obtain ⟨t1, t2, t3, t6, t7, t8, t9, t10, t11, t12, t14, t15⟩ := hT
  have e : ∀ r i, v ≤ r → r ≤ v + 12 → gG h' r i = gG h r i := fun r i h0 h1 => a.2.2 r (b r h0 h1) i
  have ev := fun i => e v i (by omega) (by omega)
  refine ⟨VOk_fr a q1, ⟨⟨(ev _).trans g0, (ev _).trans g5, (ev _).trans g13, (ev _).trans g16, (ev _).trans g17, (ev _).trans g18, (ev _).trans g19, (ev _).trans g4⟩, fun x h0 h1 => ?_, fun x h0 h1 => ?_, fun x h0 h1 => ?_⟩, q3⟩
  · obtain ⟨x1, x2, x3⟩ := ra x h0 h1
    rw [gR_fr a, gR_fr a, gR_fr a, e _ _ (by omega) (by omega), e _ _ (by omega) (by omega), e _ _ (by omega) (by omega)]
    exact ⟨x1, x2, x3⟩
  · obtain ⟨x1, x2, x3, x4, x5, x6⟩ := rp x h0 h1
    rw [gR_fr a, gR_fr a, gR_fr a, gR_fr a, gR_fr a, gR_fr a, e _ _ (by omega) (by omega), e _ _ (by omega) (by omega), e _ _ (by omega) (by omega), e _ _ (by omega) (by omega), e _ _ (by omega) (by omega), e _ _ (by omega) (by omega)]
    exact ⟨x1, x2, x3, x4, x5, x6⟩
  · obtain ⟨x1, x2⟩ := rq x h0 h1
    rw [gR_fr a, gR_fr a, e _ _ (by omega) (by omega), e _ _ (by omega) (by omega)]
    exact ⟨x1, x2⟩
theorem Cls.fr {P : Nat → Prop} {K : Int} {h h' : Mem} {n : Nat} {A : Int → Int} (a : Fr P h h') (b : ∀ r, n ≤ r → r ≤ n + 12 → ¬ P r) (q : Cls K n h A) : Cls K n h' A := ⟨⟨(kd_fr a _).trans q.1.1, (gR_fr a _ _).trans q.1.2.1, VAt_fr a q.1.2.2⟩, q.2.fr a q.1.2.2 b⟩
set_option maxHeartbeats 4000000 in
theorem c_copyY {X : Int → Int} {XL : Int} {d : Nat} {h : Mem} {Q : RetP} {S M : Int → Int} {T : Int → Int → Int} {K : Int} {A : Int → Int} {n : Nat} {t : Int} (hd : 9 ≤ d) (hC : Cls K n h A) (hn : 10 ≤ n) (hT2 : TC h S M T) (hB : TB S M) (hz : coZ A M t = 0) (ht : 0 ≤ t ∧ t < 4) (h2 : ¬ M t = -1) (h3 : ¬ M t < A 1) (hq : ∀ h', TC h' S M (cpT A S T t (A 1)) → Fr TP h h' → Q (some (vI (A 1))) (sG h' 0 0 0)) : WP X XL d 168 [vR 0, vI t] h Q := by
  have hBt := hB t ht.1 ht.2
  have b1 := hC.2.2.2.2.1
  have hsp : ∀ r, n ≤ r → r ≤ n + 12 → ¬ TP r := fun r _ _ => by unfold TP; omega
  have loop : ∀ (k : Nat) (i : Int) (hj : Mem), (A 1 - i).toNat = k → 0 ≤ i → i ≤ A 1 → TC hj S M (cpT A S T t i) → Fr TP h hj → Ex (WP X XL (d - 1)) KX9_copyAt h.1 Q 56 [some (vR 0), some (vI t), some (vR (tO t)), some (vI i)] [] hj := by
    intro k; induction k with
    | zero =>
      intro i hj hk h0 h1 hTj fj
      obtain rfl : i = A 1 := by omega
      have hCj := hC.fr fj hsp
      obtain ⟨⟨k00, r7, hVT⟩, hV⟩ := id hCj
      have kn := hV.1.1
      have g5 := hV.2.1.1.2.1
      have gj := fj.1
      (repeat' (first | (rw [r7]) | (rw [g5]) | (refine w_given (by omega) k00 ?_) | (refine Ex_step ?_; conv => whnf) | (refine ⟨?_, trivial⟩) | (refine (show den _ _ _ _ _ _ _ _ from ?_); conv => whnf) | (refine ⟨by (first | assumption | rfl | (exact Nat.le_of_ble_eq_true rfl) | (exact ⟨fun h01 => absurd h01 (by decide), by first | rfl | assumption⟩) | (exact ⟨fun _ => by decide, by first | rfl | assumption⟩) | (exact ⟨by assumption, by omega, by omega⟩) | (unfold inI; omega) | omega), ?_⟩; conv => whnf) | (refine ⟨fun c => False.elim (by omega), fun c => ?_⟩) | (refine ⟨fun c => ?_, fun c => False.elim (by omega)⟩) | (refine ⟨fun c => ?_, fun c => ?_⟩) | (intro c) | fail))
      exact hq hj hTj fj
    | succ k ih =>
      intro i hj hk h0 h1 hTj fj
      have hCj := hC.fr fj hsp
      obtain ⟨⟨k00, r7, hVT⟩, hV⟩ := id hCj
      have kn := hV.1.1
      have g5 := hV.2.1.1.2.1
      have gj := fj.1
      obtain ⟨e1, e2, e3, e4, e5, e6, e7, e8⟩ := hTj.2 t ht.1 ht.2
      have ev := (hV.2.1.2.2.1 i h0 (by omega)).2.2.2.1
      have k10 := hV.1.2.2.2.2.2.2.2.2.1
      have kk := k10.1
      have ll := k10.2
      have hw := hTj.wr (k := i) (z := pA A i 3) ht
      rw [cp_s h0] at hw
      have ih2 := ih (i + 1) _ (by omega) (by omega) (by omega) hw (fj.sG (by unfold TP tN; omega))
      rw [← e6] at ih2
      refine Ex_step ?_; conv => whnf
      (repeat' (first | (exact ih2) | (rw [r7]) | (rw [g5]) | (rw [ev]) | (refine w_tPut (by omega) e2 e3 e4 e5 (by omega) (by omega) (by omega) ?_) | (refine Ex_step ?_; conv => whnf) | (refine ⟨?_, trivial⟩) | (refine (show den _ _ _ _ _ _ _ _ from ?_); conv => whnf) | (refine ⟨by (first | assumption | rfl | (exact Nat.le_of_ble_eq_true rfl) | (exact ⟨fun h01 => absurd h01 (by decide), by first | rfl | assumption⟩) | (exact ⟨fun _ => by decide, by first | rfl | assumption⟩) | (exact ⟨by assumption, by omega, by omega⟩) | (unfold inI; omega) | omega), ?_⟩; conv => whnf) | (refine ⟨fun c => False.elim (by omega), fun c => ?_⟩) | (refine ⟨fun c => ?_, fun c => False.elim (by omega)⟩) | (refine ⟨fun c => ?_, fun c => ?_⟩) | (intro c) | fail))
  obtain ⟨⟨k00, r7, hT⟩, hV⟩ := id hC; have kn := hV.1.1; have hA := hV.2.2
  have g5 := hV.2.1.1.2.1
  obtain ⟨⟨-, r3, kk1, l1⟩, hh⟩ := id hT2
  obtain ⟨e1, e2, e3, e4, e5, e6, e7, e8⟩ := hh t ht.1 ht.2
  have l0 := loop _ 0 h rfl (by omega) (by omega) (by rw [cp_0]; exact hT2) Fr.refl
  refine eX9_copyAt (by omega) ?_
  (repeat' (first | (exact l0) | (rw [r7]) | (rw [g5]) | (rw [r3]) | (rw [e1]) | (refine w_isTray (by omega) (fun c => ?_) (fun c => absurd ht c)) | (refine w_tMissing (by omega) e2 (fun c => absurd (by omega) h2) (fun c => ?_)) | (refine w_tRow (by omega) e2 ⟨by omega, by omega⟩ ⟨by omega, by omega⟩ (fun c => ?_) (fun c => absurd (by omega) c)) | (refine Ex_step ?_; conv => whnf) | (refine ⟨?_, trivial⟩) | (refine (show den _ _ _ _ _ _ _ _ from ?_); conv => whnf) | (refine ⟨by (first | assumption | rfl | (exact Nat.le_of_ble_eq_true rfl) | (exact ⟨fun h01 => absurd h01 (by decide), by first | rfl | assumption⟩) | (exact ⟨fun _ => by decide, by first | rfl | assumption⟩) | (exact ⟨by assumption, by omega, by omega⟩) | (unfold inI; omega) | omega), ?_⟩; conv => whnf) | (refine ⟨fun c => False.elim (by omega), fun c => ?_⟩) | (refine ⟨fun c => ?_, fun c => False.elim (by omega)⟩) | (refine ⟨fun c => ?_, fun c => ?_⟩) | (intro c) | fail))
set_option maxHeartbeats 4000000 in
theorem c_copyN {X : Int → Int} {XL : Int} {d : Nat} {h : Mem} {Q : RetP} {S M : Int → Int} {T : Int → Int → Int} {K : Int} {A : Int → Int} {n : Nat} {t : Int} (hd : 9 ≤ d) (hC : Cls K n h A) (hT2 : TC h S M T) (hz : ¬ coZ A M t = 0) (hq : Q (some (vI (-1))) (sG h 0 0 (coZ A M t))) : WP X XL d 168 [vR 0, vI t] h Q := by
  obtain ⟨⟨k00, r7, hT⟩, hV⟩ := id hC; have kn := hV.1.1; have hA := hV.2.2
  have b1 := hC.2.2.2.2.1
  have g5 := hV.2.1.1.2.1
  obtain ⟨⟨-, r3, kk1, l1⟩, hh⟩ := id hT2
  refine eX9_copyAt (by omega) ?_
  by_cases ht : 0 ≤ t ∧ t < 4
  · obtain ⟨e1, e2, e3, e4, e5, e6, e7, e8⟩ := hh t ht.1 ht.2
    by_cases h2 : M t = -1
    · rw [cz_2 ht h2] at hq
      (repeat' (first | (rw [r7]) | (rw [g5]) | (rw [r3]) | (rw [e1]) | (refine w_isTray (by omega) (fun c => ?_) (fun c => absurd ht c)) | (refine w_tMissing (by omega) e2 (fun c => ?_) (fun c => absurd (by omega) c)) | (refine w_given (by omega) k00 ?_) | (refine w_none (by omega) k00 ?_) | (refine Ex_step ?_; conv => whnf) | (refine ⟨?_, trivial⟩) | (refine (show den _ _ _ _ _ _ _ _ from ?_); conv => whnf) | (refine ⟨by (first | assumption | rfl | (exact Nat.le_of_ble_eq_true rfl) | (exact ⟨fun h01 => absurd h01 (by decide), by first | rfl | assumption⟩) | (exact ⟨fun _ => by decide, by first | rfl | assumption⟩) | (exact ⟨by assumption, by omega, by omega⟩) | (unfold inI; omega) | omega), ?_⟩; conv => whnf) | (refine ⟨fun c => False.elim (by omega), fun c => ?_⟩) | (refine ⟨fun c => ?_, fun c => False.elim (by omega)⟩) | (refine ⟨fun c => ?_, fun c => ?_⟩) | (intro c) | fail))
      exact hq
    · have h3 : M t < A 1 := by
        by_cases q : M t < A 1
        · exact q
        · exact absurd (cz_0 ht h2 q) hz
      rw [cz_3 ht h2 h3] at hq
      (repeat' (first | (rw [r7]) | (rw [g5]) | (rw [r3]) | (rw [e1]) | (refine w_isTray (by omega) (fun c => ?_) (fun c => absurd ht c)) | (refine w_tMissing (by omega) e2 (fun c => absurd (by omega) h2) (fun c => ?_)) | (refine w_tRow (by omega) e2 ⟨by omega, by omega⟩ ⟨by omega, by omega⟩ (fun c => absurd h3 (by omega)) (fun c => ?_)) | (refine w_given (by omega) k00 ?_) | (refine w_none (by omega) k00 ?_) | (refine Ex_step ?_; conv => whnf) | (refine ⟨?_, trivial⟩) | (refine (show den _ _ _ _ _ _ _ _ from ?_); conv => whnf) | (refine ⟨by (first | assumption | rfl | (exact Nat.le_of_ble_eq_true rfl) | (exact ⟨fun h01 => absurd h01 (by decide), by first | rfl | assumption⟩) | (exact ⟨fun _ => by decide, by first | rfl | assumption⟩) | (exact ⟨by assumption, by omega, by omega⟩) | (unfold inI; omega) | omega), ?_⟩; conv => whnf) | (refine ⟨fun c => False.elim (by omega), fun c => ?_⟩) | (refine ⟨fun c => ?_, fun c => False.elim (by omega)⟩) | (refine ⟨fun c => ?_, fun c => ?_⟩) | (intro c) | fail))
      exact hq
  · rw [cz_1 ht] at hq
    (repeat' (first | (refine w_isTray (by omega) (fun c => absurd c ht) (fun c => ?_)) | (refine w_given (by omega) k00 ?_) | (refine w_none (by omega) k00 ?_) | (refine Ex_step ?_; conv => whnf) | (refine ⟨?_, trivial⟩) | (refine (show den _ _ _ _ _ _ _ _ from ?_); conv => whnf) | (refine ⟨by (first | assumption | rfl | (exact Nat.le_of_ble_eq_true rfl) | (exact ⟨fun h01 => absurd h01 (by decide), by first | rfl | assumption⟩) | (exact ⟨fun _ => by decide, by first | rfl | assumption⟩) | (exact ⟨by assumption, by omega, by omega⟩) | (unfold inI; omega) | omega), ?_⟩; conv => whnf) | (refine ⟨fun c => False.elim (by omega), fun c => ?_⟩) | (refine ⟨fun c => ?_, fun c => False.elim (by omega)⟩) | (refine ⟨fun c => ?_, fun c => ?_⟩) | (intro c) | fail))
    exact hq
set_option maxHeartbeats 4000000 in
theorem m_copyY {X : Int → Int} {XL : Int} {d : Nat} {h : Mem} {Q : RetP} {S M : Int → Int} {T : Int → Int → Int} {K : Int} {A : Int → Int} {t : Int} (hd : 9 ≤ d) (hR : Rr K h A) (hT : TR h S M T) (hB : TB S M) (ht : 0 ≤ t ∧ t < 4) (h2 : ¬ M t = -1) (h3 : ¬ M t < A 1) (hq : ∀ h', TR h' S M (cpT A S T t (A 1)) → Fr RP h h' → Q (some (vI (A 1))) (sG h' 127 2 0)) : WP X XL d 334 [vR 127, vI t] h Q := by
  have hBt := hB t ht.1 ht.2
  have b1 := hR.2.2.2.1
  have loop : ∀ (k : Nat) (i : Int) (hj : Mem), (A 1 - i).toNat = k → 0 ≤ i → i ≤ A 1 → TR hj S M (cpT A S T t i) → Fr RP h hj → Ex (WP X XL (d - 1)) KX10_copyAt h.1 Q 52 [some (vR 127), some (vI t), some (vI i)] [] hj := by
    intro k; induction k with
    | zero =>
      intro i hj hk h0 h1 hTj fj
      obtain rfl : i = A 1 := by omega
      have hRj : Rr K hj A := ⟨⟨(kd_fr fj _).trans hR.1.1, (gR_fr fj _ _).trans hR.1.2.1, (kd_fr fj _).trans hR.1.2.2.1, (ln_fr fj _).trans hR.1.2.2.2⟩, fun j a b => (fj.2.2 128 (by unfold RP; omega) j).trans (hR.2.1 j a b), hR.2.2⟩
      obtain ⟨⟨kq, r0, kt, lt⟩, eA, -⟩ := id hRj
      have gj := fj.1
      (repeat' (first | (refine r_gives (by omega) kq ?_) | (refine Ex_step ?_; conv => whnf) | (refine ⟨?_, trivial⟩) | (refine (show den _ _ _ _ _ _ _ _ from ?_); conv => whnf) | (refine ⟨by (first | assumption | rfl | (exact Nat.le_of_ble_eq_true rfl) | (exact ⟨fun h01 => absurd h01 (by decide), by first | rfl | assumption | trivial⟩) | (exact ⟨fun _ => by decide, by first | rfl | assumption | trivial⟩) | (exact ⟨kt, by omega, Int.lt_of_lt_of_le (by omega : _ < (3198 : Int)) (Int.le_of_eq lt.symm)⟩) | (unfold inI; omega) | omega), ?_⟩; conv => whnf; try simp (disch := omega) only [r0, gR_sG, g_same, g_ne, eA]) | (refine ⟨fun c => False.elim (by omega), fun c => ?_⟩) | (refine ⟨fun c => ?_, fun c => False.elim (by omega)⟩) | (refine ⟨fun c => ?_, fun c => ?_⟩) | (intro c) | fail))
      exact hq hj hTj fj
    | succ k ih =>
      intro i hj hk h0 h1 hTj fj
      have hRj : Rr K hj A := ⟨⟨(kd_fr fj _).trans hR.1.1, (gR_fr fj _ _).trans hR.1.2.1, (kd_fr fj _).trans hR.1.2.2.1, (ln_fr fj _).trans hR.1.2.2.2⟩, fun j a b => (fj.2.2 128 (by unfold RP; omega) j).trans (hR.2.1 j a b), hR.2.2⟩
      obtain ⟨⟨kq, r0, kt, lt⟩, eA, -⟩ := id hRj
      obtain ⟨⟨-, r5, r6, r7, k130, l130, k131, l131, k132, l132⟩, hh⟩ := id hTj
      obtain ⟨e1, e2, e3⟩ := hh t ht.1 ht.2
      have gj := fj.1
      have hw := hTj.wr (z := pA A i 3) hB ht ⟨h0, by omega⟩
      rw [cp_s h0] at hw
      have ih2 := ih (i + 1) _ (by omega) (by omega) (by omega) hw (fj.sG (Or.inr (Or.inr rfl)))
      refine Ex_step ?_; conv => whnf
      (repeat' (first | (exact ih2) | (rw [r5]) | (rw [r7]) | (rw [e1]) | (refine r_personOf (by omega) hRj (by omega) (by omega) ?_) | (refine r_cut (by omega) ?_) | (refine ⟨⟨k132, by omega, Int.lt_of_lt_of_le (by omega : _ < (240 : Int)) (Int.le_of_eq l132.symm)⟩, ?_⟩; conv => whnf) | (refine ⟨⟨k130, by omega, Int.lt_of_lt_of_le (by omega : _ < (4 : Int)) (Int.le_of_eq l130.symm)⟩, ?_⟩; conv => whnf) | (refine Ex_step ?_; conv => whnf) | (refine ⟨?_, trivial⟩) | (refine (show den _ _ _ _ _ _ _ _ from ?_); conv => whnf) | (refine ⟨by (first | assumption | rfl | (exact Nat.le_of_ble_eq_true rfl) | (exact ⟨fun h01 => absurd h01 (by decide), by first | rfl | assumption | trivial⟩) | (exact ⟨fun _ => by decide, by first | rfl | assumption | trivial⟩) | (exact ⟨kt, by omega, Int.lt_of_lt_of_le (by omega : _ < (3198 : Int)) (Int.le_of_eq lt.symm)⟩) | (unfold inI; omega) | omega), ?_⟩; conv => whnf; try simp (disch := omega) only [r0, gR_sG, g_same, g_ne, eA]) | (refine ⟨fun c => False.elim (by omega), fun c => ?_⟩) | (refine ⟨fun c => ?_, fun c => False.elim (by omega)⟩) | (refine ⟨fun c => ?_, fun c => ?_⟩) | (intro c) | fail))
  obtain ⟨⟨kq, r5, r6, r7, k130, l130, k131, l131, k132, l132⟩, hh⟩ := id hT
  obtain ⟨e1, e2, e3⟩ := hh t ht.1 ht.2
  obtain ⟨⟨-, r0, kt, lt⟩, eA, -⟩ := id hR
  have l0 := loop _ 0 h rfl (by omega) (by omega) (by rw [cp_0]; exact hT) Fr.refl
  refine eX10_copyAt (by omega) ?_
  (repeat' (first | (exact l0) | (rw [r6]) | (rw [e2]) | (refine ⟨⟨k131, by omega, Int.lt_of_lt_of_le (by omega : _ < (4 : Int)) (Int.le_of_eq l131.symm)⟩, ?_⟩; conv => whnf) | (refine r_isTray (by omega) (fun c => ?_) (fun c => absurd ht c)) | (refine Ex_step ?_; conv => whnf) | (refine ⟨?_, trivial⟩) | (refine (show den _ _ _ _ _ _ _ _ from ?_); conv => whnf) | (refine ⟨by (first | assumption | rfl | (exact Nat.le_of_ble_eq_true rfl) | (exact ⟨fun h01 => absurd h01 (by decide), by first | rfl | assumption | trivial⟩) | (exact ⟨fun _ => by decide, by first | rfl | assumption | trivial⟩) | (exact ⟨kt, by omega, Int.lt_of_lt_of_le (by omega : _ < (3198 : Int)) (Int.le_of_eq lt.symm)⟩) | (unfold inI; omega) | omega), ?_⟩; conv => whnf; try simp (disch := omega) only [r0, gR_sG, g_same, g_ne, eA]) | (refine ⟨fun c => False.elim (by omega), fun c => ?_⟩) | (refine ⟨fun c => ?_, fun c => False.elim (by omega)⟩) | (refine ⟨fun c => ?_, fun c => ?_⟩) | (intro c) | fail))
set_option maxHeartbeats 4000000 in
theorem m_copyN {X : Int → Int} {XL : Int} {d : Nat} {h : Mem} {Q : RetP} {S M : Int → Int} {T : Int → Int → Int} {K : Int} {A : Int → Int} {t : Int} (hd : 9 ≤ d) (hR : Rr K h A) (hT : TR h S M T) (hz : ¬ coZ A M t = 0) (hq : Q (some (vI (-1))) (sG h 127 2 (coZ A M t))) : WP X XL d 334 [vR 127, vI t] h Q := by
  have b1 := hR.2.2.2.1
  obtain ⟨⟨kq, r5, r6, r7, k130, l130, k131, l131, k132, l132⟩, hh⟩ := id hT
  obtain ⟨⟨-, r0, kt, lt⟩, eA, -⟩ := id hR
  refine eX10_copyAt (by omega) ?_
  by_cases ht : 0 ≤ t ∧ t < 4
  · obtain ⟨e1, e2, e3⟩ := hh t ht.1 ht.2
    by_cases h2 : M t = -1
    · rw [cz_2 ht h2] at hq
      (repeat' (first | (rw [r6]) | (rw [e2]) | (refine ⟨⟨k131, by omega, Int.lt_of_lt_of_le (by omega : _ < (4 : Int)) (Int.le_of_eq l131.symm)⟩, ?_⟩; conv => whnf) | (refine r_isTray (by omega) (fun c => ?_) (fun c => absurd ht c)) | (refine r_gives (by omega) kq ?_) | (refine r_refuse (by omega) kq ?_) | (refine Ex_step ?_; conv => whnf) | (refine ⟨?_, trivial⟩) | (refine (show den _ _ _ _ _ _ _ _ from ?_); conv => whnf) | (refine ⟨by (first | assumption | rfl | (exact Nat.le_of_ble_eq_true rfl) | (exact ⟨fun h01 => absurd h01 (by decide), by first | rfl | assumption | trivial⟩) | (exact ⟨fun _ => by decide, by first | rfl | assumption | trivial⟩) | (exact ⟨kt, by omega, Int.lt_of_lt_of_le (by omega : _ < (3198 : Int)) (Int.le_of_eq lt.symm)⟩) | (unfold inI; omega) | omega), ?_⟩; conv => whnf; try simp (disch := omega) only [r0, gR_sG, g_same, g_ne, eA]) | (refine ⟨fun c => False.elim (by omega), fun c => ?_⟩) | (refine ⟨fun c => ?_, fun c => False.elim (by omega)⟩) | (refine ⟨fun c => ?_, fun c => ?_⟩) | (intro c) | fail))
      exact hq
    · have h3 : M t < A 1 := by
        by_cases q : M t < A 1
        · exact q
        · exact absurd (cz_0 ht h2 q) hz
      rw [cz_3 ht h2 h3] at hq
      (repeat' (first | (rw [r6]) | (rw [e2]) | (refine ⟨⟨k131, by omega, Int.lt_of_lt_of_le (by omega : _ < (4 : Int)) (Int.le_of_eq l131.symm)⟩, ?_⟩; conv => whnf) | (refine r_isTray (by omega) (fun c => ?_) (fun c => absurd ht c)) | (refine r_gives (by omega) kq ?_) | (refine r_refuse (by omega) kq ?_) | (refine Ex_step ?_; conv => whnf) | (refine ⟨?_, trivial⟩) | (refine (show den _ _ _ _ _ _ _ _ from ?_); conv => whnf) | (refine ⟨by (first | assumption | rfl | (exact Nat.le_of_ble_eq_true rfl) | (exact ⟨fun h01 => absurd h01 (by decide), by first | rfl | assumption | trivial⟩) | (exact ⟨fun _ => by decide, by first | rfl | assumption | trivial⟩) | (exact ⟨kt, by omega, Int.lt_of_lt_of_le (by omega : _ < (3198 : Int)) (Int.le_of_eq lt.symm)⟩) | (unfold inI; omega) | omega), ?_⟩; conv => whnf; try simp (disch := omega) only [r0, gR_sG, g_same, g_ne, eA]) | (refine ⟨fun c => False.elim (by omega), fun c => ?_⟩) | (refine ⟨fun c => ?_, fun c => False.elim (by omega)⟩) | (refine ⟨fun c => ?_, fun c => ?_⟩) | (intro c) | fail))
      exact hq
  · rw [cz_1 ht] at hq
    (repeat' (first | (refine r_isTray (by omega) (fun c => absurd c ht) (fun c => ?_)) | (refine r_gives (by omega) kq ?_) | (refine r_refuse (by omega) kq ?_) | (refine Ex_step ?_; conv => whnf) | (refine ⟨?_, trivial⟩) | (refine (show den _ _ _ _ _ _ _ _ from ?_); conv => whnf) | (refine ⟨by (first | assumption | rfl | (exact Nat.le_of_ble_eq_true rfl) | (exact ⟨fun h01 => absurd h01 (by decide), by first | rfl | assumption | trivial⟩) | (exact ⟨fun _ => by decide, by first | rfl | assumption | trivial⟩) | (exact ⟨kt, by omega, Int.lt_of_lt_of_le (by omega : _ < (3198 : Int)) (Int.le_of_eq lt.symm)⟩) | (unfold inI; omega) | omega), ?_⟩; conv => whnf; try simp (disch := omega) only [r0, gR_sG, g_same, g_ne, eA]) | (refine ⟨fun c => False.elim (by omega), fun c => ?_⟩) | (refine ⟨fun c => ?_, fun c => False.elim (by omega)⟩) | (refine ⟨fun c => ?_, fun c => ?_⟩) | (intro c) | fail))
    exact hq
