/-! LEVEL 2: the tape -/
theorem zb_b (x : Int) : -128 ≤ zb x ∧ zb x ≤ 127 := by
  unfold zb
  rw [Int8.toInt_toInt32]
  have h1 := Int8.toInt_lt (Int32.ofInt x).toInt8
  have h2 := Int8.le_toInt (Int32.ofInt x).toInt8
  have e : (2 : Int) ^ 7 = 128 := by decide
  rw [e] at h1 h2
  omega
/-- what lies on the tape: c bytes P -/
def TxC (h : Mem) (c : Int) (P : Int → Int) : Prop := (kd h 10 = 5 ∧ gR h 10 5 = 11 ∧ kd h 11 = 102 ∧ ln h 11 = 900) ∧ gG h 10 0 = c ∧ ∀ i, 0 ≤ i → i < c → gG h 11 i = P i
def TxR (h : Mem) (c : Int) (P : Int → Int) : Prop := (kd h 127 = 10 ∧ gR h 127 8 = 133 ∧ kd h 133 = 102 ∧ ln h 133 = 900) ∧ gG h 127 10 = c ∧ ∀ i, 0 ≤ i → i < c → gG h 133 i = P i
def psB (P : Int → Int) (c b : Int) : Int → Int := fun i => if i = c then b else P i
def pz (v : Int) : Nat → Int → (Int → Int) → Int → Int
  | 0, _, P => P
  | k + 1, c, P => pz v k (c + 1) (psB P c (zb (shrZ v (8 * (k : Int)))))
def FrTc (h h' : Mem) : Prop := h'.1 = h.1 ∧ h'.2.2 = h.2.2 ∧ ∀ r i, ¬ r = 11 → ¬ (r = 10 ∧ i = 0) → gG h' r i = gG h r i
def FrTr (h h' : Mem) : Prop := h'.1 = h.1 ∧ h'.2.2 = h.2.2 ∧ ∀ r i, ¬ r = 133 → ¬ (r = 127 ∧ i = 10) → gG h' r i = gG h r i
theorem FrTc.trans {h h' h'' : Mem} (a : FrTc h h') (b : FrTc h' h'') : FrTc h h'' := ⟨b.1.trans a.1, b.2.1.trans a.2.1, fun r i h0 h1 => (b.2.2 r i h0 h1).trans (a.2.2 r i h0 h1)⟩
theorem FrTr.trans {h h' h'' : Mem} (a : FrTr h h') (b : FrTr h' h'') : FrTr h h'' := ⟨b.1.trans a.1, b.2.1.trans a.2.1, fun r i h0 h1 => (b.2.2 r i h0 h1).trans (a.2.2 r i h0 h1)⟩
theorem TxC.ps {h : Mem} {c b : Int} {P : Int → Int} (q : TxC h c P) : TxC (sG (sG h 11 c b) 10 0 (c + 1)) (c + 1) (psB P c b) ∧ FrTc h (sG (sG h 11 c b) 10 0 (c + 1)) := by
  obtain ⟨q1, q2, q3⟩ := q
  refine ⟨⟨q1, g_same, fun i h0 h1 => ?_⟩, rfl, rfl, fun r i h0 h1 => ?_⟩
  · rw [gG_sG, if_neg (by omega)]
    unfold psB
    by_cases e : i = c
    · rw [e, g_same, if_pos rfl]
    · rw [g_ne e, if_neg e]; exact q3 i h0 (by omega)
  · rw [gG_sG, if_neg h1, gG_sG, if_neg (fun q => h0 q.1)]
theorem TxR.ps {h : Mem} {c b : Int} {P : Int → Int} (q : TxR h c P) : TxR (sG (sG h 133 c b) 127 10 (c + 1)) (c + 1) (psB P c b) ∧ FrTr h (sG (sG h 133 c b) 127 10 (c + 1)) := by
  obtain ⟨q1, q2, q3⟩ := q
  refine ⟨⟨q1, g_same, fun i h0 h1 => ?_⟩, rfl, rfl, fun r i h0 h1 => ?_⟩
  · rw [gG_sG, if_neg (by omega)]
    unfold psB
    by_cases e : i = c
    · rw [e, g_same, if_pos rfl]
    · rw [g_ne e, if_neg e]; exact q3 i h0 (by omega)
  · rw [gG_sG, if_neg h1, gG_sG, if_neg (fun q => h0 q.1)]
set_option maxHeartbeats 4000000 in
theorem w_addFour {X : Int → Int} {XL : Int} {d : Nat} {h : Mem} {Q : RetP} {c z : Int} {P : Int → Int} (hd : 1 ≤ d) (hT : TxC h c P) (hc0 : 0 ≤ c) (hc : c + 4 ≤ 900) (hq : ∀ h', TxC h' (c + 4) (pz z 4 c P) → FrTc h h' → Q none h') : WP X XL d 58 [vR 10, vI z] h Q := by
  have loop : ∀ (k : Nat) (s c' : Int) (P' : Int → Int) (hj : Mem), s = 8 * (k : Int) - 8 → k ≤ 4 → 0 ≤ c' → c' + k = c + 4 → pz z 4 c P = pz z k c' P' → TxC hj c' P' → FrTc h hj → Ex (WP X XL (d - 1)) KX5_addFour h.1 Q 3 [some (vR 10), some (vI z), some (vI s)] [] hj := by
    intro k; induction k with
    | zero =>
      intro s c' P' hj hs hk h0 h1 he hTj fj
      have gj := fj.1
      have ec : c' = c + 4 := by omega
      rw [show pz z 0 c' P' = P' from rfl] at he
      (repeat' (first | (refine Ex_step ?_; conv => whnf) | (refine ⟨?_, trivial⟩) | (refine (show den _ _ _ _ _ _ _ _ from ?_); conv => whnf) | (refine ⟨fun c => False.elim (by omega), fun c => ?_⟩) | (refine ⟨fun c => ?_, fun c => False.elim (by omega)⟩) | (refine ⟨by (first | assumption | rfl | (exact Nat.le_of_ble_eq_true rfl) | (exact ⟨fun h01 => absurd h01 (by decide), by first | rfl | assumption⟩) | (exact ⟨fun _ => by decide, by first | rfl | assumption⟩) | (exact ⟨by assumption, by omega, by omega⟩) | (unfold inI; omega) | omega), ?_⟩; conv => whnf) | (refine ⟨fun c => ?_, fun c => ?_⟩) | (intro c) | fail))
      exact hq hj (by rw [he, ← ec]; exact hTj) fj
    | succ k ih =>
      intro s c' P' hj hs hk h0 h1 he hTj fj
      obtain ⟨⟨k10, r5, k11, l11⟩, e0, -⟩ := id hTj
      obtain ⟨t1, t2⟩ := hTj.ps (b := zb (shrZ z s))
      have es : s = 8 * (k : Int) := by omega
      have hzb := zb_b (shrZ z s)
      have ih2 := ih (s + -8) (c' + 1) _ _ (by omega) (by omega) (by omega) (by omega) (by rw [he, show pz z (k + 1) c' P' = pz z k (c' + 1) (psB P' c' (zb (shrZ z (8 * (k : Int))))) from rfl, ← es]) t1 (fj.trans t2)
      have e02 : gG (sG hj 11 c' (zb (shrZ z s))) 10 0 = c' := by rw [gG_sG, if_neg (by omega)]; exact e0
      refine Ex_step ?_; conv => whnf
      (repeat' (first | (exact ih2) | (rw [e0]) | (rw [r5]) | (rw [e02]) | (refine ⟨⟨⟨k11, by omega, Int.lt_of_lt_of_le (by omega : _ < (900 : Int)) (Int.le_of_eq l11.symm)⟩, hzb⟩, ?_⟩; conv => whnf) | (refine Ex_step ?_; conv => whnf) | (refine ⟨?_, trivial⟩) | (refine (show den _ _ _ _ _ _ _ _ from ?_); conv => whnf) | (refine ⟨fun c => False.elim (by omega), fun c => ?_⟩) | (refine ⟨fun c => ?_, fun c => False.elim (by omega)⟩) | (refine ⟨by (first | assumption | rfl | (exact Nat.le_of_ble_eq_true rfl) | (exact ⟨fun h01 => absurd h01 (by decide), by first | rfl | assumption⟩) | (exact ⟨fun _ => by decide, by first | rfl | assumption⟩) | (exact ⟨by assumption, by omega, by omega⟩) | (unfold inI; omega) | omega), ?_⟩; conv => whnf) | (refine ⟨fun c => ?_, fun c => ?_⟩) | (intro c) | fail))
  have l0 := loop 4 24 c P h (by omega) (by omega) hc0 (by omega) rfl hT ⟨rfl, rfl, fun _ _ _ _ => rfl⟩
  refine eX5_addFour (by omega) ?_
  (repeat' (first | (exact l0) | (refine Ex_step ?_; conv => whnf) | (refine ⟨?_, trivial⟩) | (refine (show den _ _ _ _ _ _ _ _ from ?_); conv => whnf) | (refine ⟨fun c => False.elim (by omega), fun c => ?_⟩) | (refine ⟨fun c => ?_, fun c => False.elim (by omega)⟩) | (refine ⟨by (first | assumption | rfl | (exact Nat.le_of_ble_eq_true rfl) | (exact ⟨fun h01 => absurd h01 (by decide), by first | rfl | assumption⟩) | (exact ⟨fun _ => by decide, by first | rfl | assumption⟩) | (exact ⟨by assumption, by omega, by omega⟩) | (unfold inI; omega) | omega), ?_⟩; conv => whnf) | (refine ⟨fun c => ?_, fun c => ?_⟩) | (intro c) | fail))
set_option maxHeartbeats 4000000 in
theorem r_four {X : Int → Int} {XL : Int} {d : Nat} {h : Mem} {Q : RetP} {c z : Int} {P : Int → Int} (hd : 1 ≤ d) (hT : TxR h c P) (hc0 : 0 ≤ c) (hc : c + 4 ≤ 900) (hq : ∀ h', TxR h' (c + 4) (pz z 4 c P) → FrTr h h' → Q none h') : WP X XL d 210 [vR 127, vI z] h Q := by
  have loop : ∀ (k : Nat) (s c' : Int) (P' : Int → Int) (hj : Mem), s = 8 * (k : Int) - 8 → k ≤ 4 → 0 ≤ c' → c' + k = c + 4 → pz z 4 c P = pz z k c' P' → TxR hj c' P' → FrTr h hj → Ex (WP X XL (d - 1)) KX10_four h.1 Q 3 [some (vR 127), some (vI z), some (vI s)] [] hj := by
    intro k; induction k with
    | zero =>
      intro s c' P' hj hs hk h0 h1 he hTj fj
      have gj := fj.1
      have ec : c' = c + 4 := by omega
      rw [show pz z 0 c' P' = P' from rfl] at he
      (repeat' (first | (refine Ex_step ?_; conv => whnf) | (refine ⟨?_, trivial⟩) | (refine (show den _ _ _ _ _ _ _ _ from ?_); conv => whnf) | (refine ⟨fun c => False.elim (by omega), fun c => ?_⟩) | (refine ⟨fun c => ?_, fun c => False.elim (by omega)⟩) | (refine ⟨by (first | assumption | rfl | (exact Nat.le_of_ble_eq_true rfl) | (exact ⟨fun h01 => absurd h01 (by decide), by first | rfl | assumption⟩) | (exact ⟨fun _ => by decide, by first | rfl | assumption⟩) | (exact ⟨by assumption, by omega, by omega⟩) | (unfold inI; omega) | omega), ?_⟩; conv => whnf) | (refine ⟨fun c => ?_, fun c => ?_⟩) | (intro c) | fail))
      exact hq hj (by rw [he, ← ec]; exact hTj) fj
    | succ k ih =>
      intro s c' P' hj hs hk h0 h1 he hTj fj
      obtain ⟨⟨k127, r8, k133, l133⟩, e0, -⟩ := id hTj
      obtain ⟨t1, t2⟩ := hTj.ps (b := zb (shrZ z s))
      have es : s = 8 * (k : Int) := by omega
      have hzb := zb_b (shrZ z s)
      have ih2 := ih (s + -8) (c' + 1) _ _ (by omega) (by omega) (by omega) (by omega) (by rw [he, show pz z (k + 1) c' P' = pz z k (c' + 1) (psB P' c' (zb (shrZ z (8 * (k : Int))))) from rfl, ← es]) t1 (fj.trans t2)
      have e02 : gG (sG hj 133 c' (zb (shrZ z s))) 127 10 = c' := by rw [gG_sG, if_neg (by omega)]; exact e0
      refine Ex_step ?_; conv => whnf
      (repeat' (first | (exact ih2) | (rw [e0]) | (rw [r8]) | (rw [e02]) | (refine ⟨⟨⟨k133, by omega, Int.lt_of_lt_of_le (by omega : _ < (900 : Int)) (Int.le_of_eq l133.symm)⟩, hzb⟩, ?_⟩; conv => whnf) | (refine Ex_step ?_; conv => whnf) | (refine ⟨?_, trivial⟩) | (refine (show den _ _ _ _ _ _ _ _ from ?_); conv => whnf) | (refine ⟨fun c => False.elim (by omega), fun c => ?_⟩) | (refine ⟨fun c => ?_, fun c => False.elim (by omega)⟩) | (refine ⟨by (first | assumption | rfl | (exact Nat.le_of_ble_eq_true rfl) | (exact ⟨fun h01 => absurd h01 (by decide), by first | rfl | assumption⟩) | (exact ⟨fun _ => by decide, by first | rfl | assumption⟩) | (exact ⟨by assumption, by omega, by omega⟩) | (unfold inI; omega) | omega), ?_⟩; conv => whnf) | (refine ⟨fun c => ?_, fun c => ?_⟩) | (intro c) | fail))
  have l0 := loop 4 24 c P h (by omega) (by omega) hc0 (by omega) rfl hT ⟨rfl, rfl, fun _ _ _ _ => rfl⟩
  refine eX10_four (by omega) ?_
  (repeat' (first | (exact l0) | (refine Ex_step ?_; conv => whnf) | (refine ⟨?_, trivial⟩) | (refine (show den _ _ _ _ _ _ _ _ from ?_); conv => whnf) | (refine ⟨fun c => False.elim (by omega), fun c => ?_⟩) | (refine ⟨fun c => ?_, fun c => False.elim (by omega)⟩) | (refine ⟨by (first | assumption | rfl | (exact Nat.le_of_ble_eq_true rfl) | (exact ⟨fun h01 => absurd h01 (by decide), by first | rfl | assumption⟩) | (exact ⟨fun _ => by decide, by first | rfl | assumption⟩) | (exact ⟨by assumption, by omega, by omega⟩) | (unfold inI; omega) | omega), ?_⟩; conv => whnf) | (refine ⟨fun c => ?_, fun c => ?_⟩) | (intro c) | fail))
/-- twenty more -/
def p20 (a b c e f n : Int) (P : Int → Int) : Int → Int := pz f 4 (n + 4 + 4 + 4 + 4) (pz e 4 (n + 4 + 4 + 4) (pz c 4 (n + 4 + 4) (pz b 4 (n + 4) (pz a 4 n P))))
set_option maxHeartbeats 4000000 in
theorem w_hasRoom {X : Int → Int} {XL : Int} {d : Nat} {h : Mem} {Q : RetP} {c : Int} {P : Int → Int} (hd : 1 ≤ d) (hT : TxC h c P) (hc : 0 ≤ c ∧ c ≤ 900) (hq1 : c + 20 ≤ 900 → Q (some (vI 1)) h) (hq0 : ¬ c + 20 ≤ 900 → Q (some (vI 0)) h) : WP X XL d 57 [vR 10] h Q := by
  obtain ⟨⟨k10, r5, k11, l11⟩, e0, -⟩ := id hT
  refine eX5_hasRoomForTwenty (by omega) ?_
  (repeat' (first | (rw [e0]) | (refine Ex_step ?_; conv => whnf) | (refine ⟨?_, trivial⟩) | (refine (show den _ _ _ _ _ _ _ _ from ?_); conv => whnf) | (refine ⟨fun c => False.elim (by omega), fun c => ?_⟩) | (refine ⟨fun c => ?_, fun c => False.elim (by omega)⟩) | (refine ⟨by (first | assumption | rfl | (exact Nat.le_of_ble_eq_true rfl) | (exact ⟨fun h01 => absurd h01 (by decide), by first | rfl | assumption⟩) | (exact ⟨fun _ => by decide, by first | rfl | assumption⟩) | (exact ⟨by assumption, by omega, by omega⟩) | (unfold inI; omega) | omega), ?_⟩; conv => whnf) | (refine ⟨fun c => ?_, fun c => ?_⟩) | (intro c) | fail))
  all_goals first | (exact hq1 (by omega)) | (exact hq0 (by omega))
set_option maxHeartbeats 4000000 in
theorem c_feed {X : Int → Int} {XL : Int} {d : Nat} {h : Mem} {Q : RetP} {n a b c e f : Int} {P : Int → Int} (hd : 3 ≤ d) (k0 : kd h 0 = 9) (r4 : gR h 0 4 = 10) (hT : TxC h n P) (hn : 0 ≤ n ∧ n ≤ 900) (hq0 : ¬ n + 20 ≤ 900 → Q (some (vI (-1))) h) (hq1 : n + 20 ≤ 900 → ∀ h', TxC h' (n + 20) (p20 a b c e f n P) → FrTc h h' → Q (some (vI (n + 20))) h') : WP X XL d 125 [vR 0, vI a, vI b, vI c, vI e, vI f] h Q := by
  have k10 := hT.1.1
  refine eX9_feed (by omega) ?_
  by_cases hc : n + 20 ≤ 900
  · have hq1 := hq1 hc
    have R : ∀ h', FrTc h h' → gR h' 0 4 = 10 ∧ kd h' 0 = 9 ∧ kd h' 10 = 5 := fun h' q => ⟨by unfold gR at *; rw [q.2.1]; exact r4, by unfold kd at *; rw [q.1]; exact k0, by unfold kd at *; rw [q.1]; exact k10⟩
    (repeat' (first | (rw [r4]) | (rw [y1.1]) | (rw [y2.1]) | (rw [y3.1]) | (rw [y4.1]) | (rw [y5.1]) | (rw [t5.2.1]) | (refine w_hasRoom (by omega) hT hn (fun c => ?_) (fun c => absurd hc c)) | (refine w_addFour (by omega) hT (by omega) (by omega) (fun h1 t1 f1 => ?_); have y1 := R h1 f1; have y1a := y1.2.1; have y1b := y1.2.2) | (refine w_addFour (by omega) t1 (by omega) (by omega) (fun h2 t2 f2 => ?_); have y2 := R h2 (f1.trans f2); have y2a := y2.2.1; have y2b := y2.2.2) | (refine w_addFour (by omega) t2 (by omega) (by omega) (fun h3 t3 f3 => ?_); have y3 := R h3 ((f1.trans f2).trans f3); have y3a := y3.2.1; have y3b := y3.2.2) | (refine w_addFour (by omega) t3 (by omega) (by omega) (fun h4 t4 f4 => ?_); have y4 := R h4 (((f1.trans f2).trans f3).trans f4); have y4a := y4.2.1; have y4b := y4.2.2) | (refine w_addFour (by omega) t4 (by omega) (by omega) (fun h5 t5 f5 => ?_); have y5 := R h5 ((((f1.trans f2).trans f3).trans f4).trans f5); have y5a := y5.2.1; have y5b := y5.2.2; have g5 : h5.1 = h.1 := ((((f1.trans f2).trans f3).trans f4).trans f5).1) | (refine Ex_step ?_; conv => whnf) | (refine ⟨?_, trivial⟩) | (refine (show den _ _ _ _ _ _ _ _ from ?_); conv => whnf) | (refine ⟨fun c => False.elim (by omega), fun c => ?_⟩) | (refine ⟨fun c => ?_, fun c => False.elim (by omega)⟩) | (refine ⟨by (first | assumption | rfl | (exact Nat.le_of_ble_eq_true rfl) | (exact ⟨fun h01 => absurd h01 (by decide), by first | rfl | assumption⟩) | (exact ⟨fun _ => by decide, by first | rfl | assumption⟩) | (exact ⟨by assumption, by omega, by omega⟩) | (unfold inI; omega) | omega), ?_⟩; conv => whnf) | (refine ⟨fun c => ?_, fun c => ?_⟩) | (intro c) | fail))
    have en : n + 4 + 4 + 4 + 4 + 4 = n + 20 := by omega
    rw [en] at t5 ⊢
    exact hq1 h5 t5 ((((f1.trans f2).trans f3).trans f4).trans f5)
  · (repeat' (first | (rw [r4]) | (refine w_hasRoom (by omega) hT hn (fun c => absurd c hc) (fun c => ?_)) | (refine Ex_step ?_; conv => whnf) | (refine ⟨?_, trivial⟩) | (refine (show den _ _ _ _ _ _ _ _ from ?_); conv => whnf) | (refine ⟨fun c => False.elim (by omega), fun c => ?_⟩) | (refine ⟨fun c => ?_, fun c => False.elim (by omega)⟩) | (refine ⟨by (first | assumption | rfl | (exact Nat.le_of_ble_eq_true rfl) | (exact ⟨fun h01 => absurd h01 (by decide), by first | rfl | assumption⟩) | (exact ⟨fun _ => by decide, by first | rfl | assumption⟩) | (exact ⟨by assumption, by omega, by omega⟩) | (unfold inI; omega) | omega), ?_⟩; conv => whnf) | (refine ⟨fun c => ?_, fun c => ?_⟩) | (intro c) | fail))
    exact hq0 hc
set_option maxHeartbeats 4000000 in
theorem m_feed {X : Int → Int} {XL : Int} {d : Nat} {h : Mem} {Q : RetP} {n a b c e f : Int} {P : Int → Int} (hd : 3 ≤ d) (hT : TxR h n P) (hn : 0 ≤ n ∧ n ≤ 900) (hq0 : ¬ n + 20 ≤ 900 → Q (some (vI (-1))) h) (hq1 : n + 20 ≤ 900 → ∀ h', TxR h' (n + 20) (p20 a b c e f n P) → FrTr h h' → Q (some (vI (n + 20))) h') : WP X XL d 209 [vR 127, vI a, vI b, vI c, vI e, vI f] h Q := by
  have kq := hT.1.1
  have e0 := hT.2.1
  refine eX10_feed (by omega) ?_
  by_cases hc : n + 20 ≤ 900
  · have hq1 := hq1 hc
    (repeat' (first | (rw [e0]) | (rw [t5.2.1]) | (refine r_four (by omega) hT (by omega) (by omega) (fun h1 t1 f1 => ?_); have y1 := t1.1.1) | (refine r_four (by omega) t1 (by omega) (by omega) (fun h2 t2 f2 => ?_); have y2 := t2.1.1) | (refine r_four (by omega) t2 (by omega) (by omega) (fun h3 t3 f3 => ?_); have y3 := t3.1.1) | (refine r_four (by omega) t3 (by omega) (by omega) (fun h4 t4 f4 => ?_); have y4 := t4.1.1) | (refine r_four (by omega) t4 (by omega) (by omega) (fun h5 t5 f5 => ?_); have y5 := t5.1.1; have g5 : h5.1 = h.1 := ((((f1.trans f2).trans f3).trans f4).trans f5).1) | (refine Ex_step ?_; conv => whnf) | (refine ⟨?_, trivial⟩) | (refine (show den _ _ _ _ _ _ _ _ from ?_); conv => whnf) | (refine ⟨fun c => False.elim (by omega), fun c => ?_⟩) | (refine ⟨fun c => ?_, fun c => False.elim (by omega)⟩) | (refine ⟨by (first | assumption | rfl | (exact Nat.le_of_ble_eq_true rfl) | (exact ⟨fun h01 => absurd h01 (by decide), by first | rfl | assumption⟩) | (exact ⟨fun _ => by decide, by first | rfl | assumption⟩) | (exact ⟨by assumption, by omega, by omega⟩) | (unfold inI; omega) | omega), ?_⟩; conv => whnf) | (refine ⟨fun c => ?_, fun c => ?_⟩) | (intro c) | fail))
    have en : n + 4 + 4 + 4 + 4 + 4 = n + 20 := by omega
    rw [en] at t5 ⊢
    exact hq1 h5 t5 ((((f1.trans f2).trans f3).trans f4).trans f5)
  · (repeat' (first | (rw [e0]) | (refine Ex_step ?_; conv => whnf) | (refine ⟨?_, trivial⟩) | (refine (show den _ _ _ _ _ _ _ _ from ?_); conv => whnf) | (refine ⟨fun c => False.elim (by omega), fun c => ?_⟩) | (refine ⟨fun c => ?_, fun c => False.elim (by omega)⟩) | (refine ⟨by (first | assumption | rfl | (exact Nat.le_of_ble_eq_true rfl) | (exact ⟨fun h01 => absurd h01 (by decide), by first | rfl | assumption⟩) | (exact ⟨fun _ => by decide, by first | rfl | assumption⟩) | (exact ⟨by assumption, by omega, by omega⟩) | (unfold inI; omega) | omega), ?_⟩; conv => whnf) | (refine ⟨fun c => ?_, fun c => ?_⟩) | (intro c) | fail))
    exact hq0 hc
