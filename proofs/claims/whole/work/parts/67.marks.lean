/-! LEVEL 2: marks -/
def SOk (h : Mem) (s : Nat) : Prop := kd h s = 3 ∧ (gR h s 3 = s + 1 ∧ kd h (s + 1) = 100 ∧ ln h (s + 1) = 60) ∧ (gR h s 4 = s + 2 ∧ kd h (s + 2) = 100 ∧ ln h (s + 2) = 60) ∧ (gR h s 5 = s + 3 ∧ kd h (s + 3) = 100 ∧ ln h (s + 3) = 60) ∧ (gR h s 6 = s + 4 ∧ kd h (s + 4) = 100 ∧ ln h (s + 4) = 60) ∧ (gR h s 7 = s + 5 ∧ kd h (s + 5) = 100 ∧ ln h (s + 5) = 60) ∧ (gR h s 8 = s + 6 ∧ kd h (s + 6) = 100 ∧ ln h (s + 6) = 60)
def SP (s : Nat) : Nat → Prop := fun r => s ≤ r ∧ r ≤ s + 6
theorem SOk.eq {h h' : Mem} {s : Nat} (e1 : h'.1 = h.1) (e2 : ∀ i, gR h' s i = gR h s i) (q : SOk h s) : SOk h' s := by
  unfold SOk kd ln at *
  rw [e1, e2, e2, e2, e2, e2, e2]
  exact q
/-- what the rows at s hold -/
def SC (h : Mem) (s : Nat) (T : Nat → Int → Int) : Prop := (gG h s 0 = T 0 0 ∧ gG h s 1 = T 0 1 ∧ gG h s 2 = T 0 2) ∧ ∀ j, 1 ≤ j → j ≤ 6 → ∀ i, 0 ≤ i → i < 60 → gG h (s + j) i = T j i
theorem SC.eq {h h' : Mem} {s : Nat} {T : Nat → Int → Int} (e : ∀ r i, s ≤ r → r ≤ s + 6 → gG h' r i = gG h r i) (q : SC h s T) : SC h' s T := ⟨⟨(e _ _ (by omega) (by omega)).trans q.1.1, (e _ _ (by omega) (by omega)).trans q.1.2.1, (e _ _ (by omega) (by omega)).trans q.1.2.2⟩, fun j h0 h1 i i0 i1 => (e _ _ (by omega) (by omega)).trans (q.2 j h0 h1 i i0 i1)⟩
set_option maxHeartbeats 4000000 in
theorem w_sTake {X : Int → Int} {XL : Int} {d : Nat} {h : Mem} {Q : RetP} {s o : Nat} {T : Nat → Int → Int} (hd : 1 ≤ d) (hs : SOk h s) (ho : SOk h o) (hne : s + 6 < o ∨ o + 6 < s) (hT : SC h o T) (hb : T 0 0 = 0 ∨ T 0 0 = 1) (hq : ∀ h', SC h' s T → Fr (SP s) h h' → Q none h') : WP X XL d 74 [vR s, vR o] h Q := by
  obtain ⟨sk, ⟨sr1, sk1, sl1⟩, ⟨sr2, sk2, sl2⟩, ⟨sr3, sk3, sl3⟩, ⟨sr4, sk4, sl4⟩, ⟨sr5, sk5, sl5⟩, ⟨sr6, sk6, sl6⟩⟩ := id hs
  obtain ⟨ok, ⟨or1, ok1, ol1⟩, ⟨or2, ok2, ol2⟩, ⟨or3, ok3, ol3⟩, ⟨or4, ok4, ol4⟩, ⟨or5, ok5, ol5⟩, ⟨or6, ok6, ol6⟩⟩ := id ho
  obtain ⟨⟨t0, t1, t2⟩, ta⟩ := id hT
  refine eX3_takeOver (by omega) ?_
  (repeat' (first | (rw [gR_sG]) | (rw [gR_cpG]) | (rw [or1]) | (rw [or2]) | (rw [or3]) | (rw [or4]) | (rw [or5]) | (rw [or6]) | (rw [sr1]) | (rw [sr2]) | (rw [sr3]) | (rw [sr4]) | (rw [sr5]) | (rw [sr6]) | (rw [gG_sG, if_neg (by omega)]) | (rw [t0]) | (rw [t1]) | (rw [t2]) | (refine ⟨hb, ?_⟩; conv => whnf) | (refine ⟨⟨ok1, sk1, by omega, by omega, by omega, Int.le_of_eq ol1.symm, Int.le_of_eq sl1.symm, Nat.le_of_ble_eq_true rfl⟩, ?_⟩; conv => whnf) | (refine ⟨⟨ok2, sk2, by omega, by omega, by omega, Int.le_of_eq ol2.symm, Int.le_of_eq sl2.symm, Nat.le_of_ble_eq_true rfl⟩, ?_⟩; conv => whnf) | (refine ⟨⟨ok3, sk3, by omega, by omega, by omega, Int.le_of_eq ol3.symm, Int.le_of_eq sl3.symm, Nat.le_of_ble_eq_true rfl⟩, ?_⟩; conv => whnf) | (refine ⟨⟨ok4, sk4, by omega, by omega, by omega, Int.le_of_eq ol4.symm, Int.le_of_eq sl4.symm, Nat.le_of_ble_eq_true rfl⟩, ?_⟩; conv => whnf) | (refine ⟨⟨ok5, sk5, by omega, by omega, by omega, Int.le_of_eq ol5.symm, Int.le_of_eq sl5.symm, Nat.le_of_ble_eq_true rfl⟩, ?_⟩; conv => whnf) | (refine ⟨⟨ok6, sk6, by omega, by omega, by omega, Int.le_of_eq ol6.symm, Int.le_of_eq sl6.symm, Nat.le_of_ble_eq_true rfl⟩, ?_⟩; conv => whnf) | (refine Ex_step ?_; conv => whnf) | (refine ⟨?_, trivial⟩) | (refine (show den _ _ _ _ _ _ _ _ from ?_); conv => whnf) | (refine ⟨fun c => False.elim (by omega), fun c => ?_⟩) | (refine ⟨fun c => ?_, fun c => False.elim (by omega)⟩) | (refine ⟨by (first | assumption | rfl | (exact Nat.le_of_ble_eq_true rfl) | (exact ⟨fun h01 => absurd h01 (by decide), by first | rfl | assumption⟩) | (exact ⟨fun _ => by decide, by first | rfl | assumption⟩) | (exact ⟨by assumption, by omega, by omega⟩) | (unfold inI; omega) | omega), ?_⟩; conv => whnf) | (refine ⟨fun c => ?_, fun c => ?_⟩) | (intro c) | fail))
  refine hq _ ⟨⟨?_, ?_, ?_⟩, fun j j0 j1 i i0 i1 => ?_⟩ ?_
  · (repeat (first | rw [gG_cpG, if_neg (by omega)] | rw [g_ne (by omega)])); rw [g_same]
  · (repeat (first | rw [gG_cpG, if_neg (by omega)] | rw [g_ne (by omega)])); rw [g_same]
  · (repeat (first | rw [gG_cpG, if_neg (by omega)] | rw [g_ne (by omega)])); rw [g_same]
  · rw [← ta j j0 j1 i i0 i1]
    rcases (show j = 1 ∨ j = 2 ∨ j = 3 ∨ j = 4 ∨ j = 5 ∨ j = 6 by omega) with rfl | rfl | rfl | rfl | rfl | rfl <;> (repeat (first | rw [gG_cpG, if_neg (by omega)] | rw [gG_cpG, if_pos (by omega), show (0 : Int) + (i - 0) = i by omega] | rw [gG_sG, if_neg (by omega)]))
  · exact ((((((((Fr.refl.sG (by unfold SP; omega)).sG (by unfold SP; omega)).sG (by unfold SP; omega)).cpG (by unfold SP; omega)).cpG (by unfold SP; omega)).cpG (by unfold SP; omega)).cpG (by unfold SP; omega)).cpG (by unfold SP; omega)).cpG (by unfold SP; omega)
-- the reference's slots
set_option maxHeartbeats 4000000 in
theorem r_copies {X : Int → Int} {XL : Int} {d : Nat} {h : Mem} {Q : RetP} {f t : Int} (hd : 1 ≤ d) (kq : kd h 127 = 10) (r0 : gR h 127 0 = 128) (kt : kd h 128 = 100) (lt : ln h 128 = 3198) (r1 : gR h 127 1 = 129) (kn : kd h 129 = 101) (lnn : ln h 129 = 36) (hf : 0 ≤ f ∧ f ≤ 3) (ht : 0 ≤ t ∧ t ≤ 3) (hne : ¬ f = t) (hq : ∀ h', Fr (fun r => r = 128 ∨ r = 129) h h' → (∀ j, gG h' 128 j = if 458 * t ≤ j ∧ j < 458 * t + 458 then gG h 128 (458 * f + (j - 458 * t)) else gG h 128 j) → (∀ j, gG h' 129 j = if 6 * t ≤ j ∧ j < 6 * t + 6 then gG h 129 (6 * f + (j - 6 * t)) else gG h 129 j) → Q none h') : WP X XL d 348 [vR 127, vI f, vI t] h Q := by
  have loop2 : ∀ (k : Nat) (i : Int) (hj : Mem), (6 - i).toNat = k → 0 ≤ i → i ≤ 6 → Fr (fun r => r = 128 ∨ r = 129) h hj → (∀ j, gG hj 128 j = if 458 * t ≤ j ∧ j < 458 * t + 458 then gG h 128 (458 * f + (j - 458 * t)) else gG h 128 j) → (∀ j, gG hj 129 j = if 6 * t ≤ j ∧ j < 6 * t + i then gG h 129 (6 * f + (j - 6 * t)) else gG h 129 j) → Ex (WP X XL (d - 1)) KX10_copies h.1 Q 41 [some (vR 127), some (vI f), some (vI t), some (vI i)] [] hj := by
    intro k; induction k with
    | zero =>
      intro i hj hk h0 h1 fj u v
      obtain rfl : i = 6 := by omega
      have gj := fj.1
      (repeat' (first | (refine Ex_step ?_; conv => whnf) | (refine ⟨?_, trivial⟩) | (refine (show den _ _ _ _ _ _ _ _ from ?_); conv => whnf) | (refine ⟨fun c => False.elim (by omega), fun c => ?_⟩) | (refine ⟨fun c => ?_, fun c => False.elim (by omega)⟩) | (refine ⟨by (first | assumption | rfl | (exact Nat.le_of_ble_eq_true rfl) | (exact ⟨fun h01 => absurd h01 (by decide), by first | rfl | assumption⟩) | (exact ⟨fun _ => by decide, by first | rfl | assumption⟩) | (exact ⟨by assumption, by omega, by omega⟩) | (unfold inI; omega) | omega), ?_⟩; conv => whnf) | (refine ⟨fun c => ?_, fun c => ?_⟩) | (intro c) | fail))
      exact hq hj fj u v
    | succ k ih =>
      intro i hj hk h0 h1 fj u v
      have y1 := (gR_fr fj 127 1).trans r1
      have kqj := (kd_fr fj 127).trans kq
      have yk := (kd_fr fj 129).trans kn
      have yl := (ln_fr fj 129).trans lnn
      have ev : gG hj 129 (6 * f + i) = gG h 129 (6 * f + i) := by rw [v, if_neg (by omega)]
      have ih2 := ih (i + 1) (sG hj 129 (6 * t + i) (gG h 129 (6 * f + i))) (by omega) (by omega) (by omega) (fj.sG (Or.inr rfl)) (fun j => by rw [gG_sG, if_neg (by omega)]; exact u j) (fun j => by
        by_cases e : j = 6 * t + i
        · rw [e, g_same, if_pos (by omega), show 6 * f + (6 * t + i - 6 * t) = 6 * f + i by omega]
        · rw [g_ne e, v j]
          by_cases e2 : 6 * t ≤ j ∧ j < 6 * t + i
          · rw [if_pos e2, if_pos (by omega)]
          · rw [if_neg e2, if_neg (by omega)])
      refine Ex_step ?_; conv => whnf
      (repeat' (first | (exact ih2) | (rw [y1]) | (rw [ev]) | (refine ⟨⟨yk, by omega, Int.lt_of_lt_of_le (by omega : _ < (36 : Int)) (Int.le_of_eq yl.symm)⟩, ?_⟩; conv => whnf) | (refine Ex_step ?_; conv => whnf) | (refine ⟨?_, trivial⟩) | (refine (show den _ _ _ _ _ _ _ _ from ?_); conv => whnf) | (refine ⟨fun c => False.elim (by omega), fun c => ?_⟩) | (refine ⟨fun c => ?_, fun c => False.elim (by omega)⟩) | (refine ⟨by (first | assumption | rfl | (exact Nat.le_of_ble_eq_true rfl) | (exact ⟨fun h01 => absurd h01 (by decide), by first | rfl | assumption⟩) | (exact ⟨fun _ => by decide, by first | rfl | assumption⟩) | (exact ⟨by assumption, by omega, by omega⟩) | (unfold inI; omega) | omega), ?_⟩; conv => whnf) | (refine ⟨fun c => ?_, fun c => ?_⟩) | (intro c) | fail))
  have loop1 : ∀ (k : Nat) (i : Int) (hj : Mem), (458 - i).toNat = k → 0 ≤ i → i ≤ 458 → Fr (fun r => r = 128 ∨ r = 129) h hj → (∀ j, gG hj 128 j = if 458 * t ≤ j ∧ j < 458 * t + i then gG h 128 (458 * f + (j - 458 * t)) else gG h 128 j) → (∀ j, gG hj 129 j = gG h 129 j) → Ex (WP X XL (d - 1)) KX10_copies h.1 Q 2 [some (vR 127), some (vI f), some (vI t), some (vI i)] [] hj := by
    intro k; induction k with
    | zero =>
      intro i hj hk h0 h1 fj u v
      obtain rfl : i = 458 := by omega
      have l2 := loop2 _ 0 hj rfl (by omega) (by omega) fj u (fun j => by rw [if_neg (by omega)]; exact v j)
      (repeat' (first | (exact l2) | (refine Ex_step ?_; conv => whnf) | (refine ⟨?_, trivial⟩) | (refine (show den _ _ _ _ _ _ _ _ from ?_); conv => whnf) | (refine ⟨fun c => False.elim (by omega), fun c => ?_⟩) | (refine ⟨fun c => ?_, fun c => False.elim (by omega)⟩) | (refine ⟨by (first | assumption | rfl | (exact Nat.le_of_ble_eq_true rfl) | (exact ⟨fun h01 => absurd h01 (by decide), by first | rfl | assumption⟩) | (exact ⟨fun _ => by decide, by first | rfl | assumption⟩) | (exact ⟨by assumption, by omega, by omega⟩) | (unfold inI; omega) | omega), ?_⟩; conv => whnf) | (refine ⟨fun c => ?_, fun c => ?_⟩) | (intro c) | fail))
    | succ k ih =>
      intro i hj hk h0 h1 fj u v
      have y0 := (gR_fr fj 127 0).trans r0
      have kqj := (kd_fr fj 127).trans kq
      have yk := (kd_fr fj 128).trans kt
      have yl := (ln_fr fj 128).trans lt
      have ev : gG hj 128 (458 * f + i) = gG h 128 (458 * f + i) := by rw [u, if_neg (by omega)]
      have ih2 := ih (i + 1) (sG hj 128 (458 * t + i) (gG h 128 (458 * f + i))) (by omega) (by omega) (by omega) (fj.sG (Or.inl rfl)) (fun j => by
        by_cases e : j = 458 * t + i
        · rw [e, g_same, if_pos (by omega), show 458 * f + (458 * t + i - 458 * t) = 458 * f + i by omega]
        · rw [g_ne e, u j]
          by_cases e2 : 458 * t ≤ j ∧ j < 458 * t + i
          · rw [if_pos e2, if_pos (by omega)]
          · rw [if_neg e2, if_neg (by omega)]) (fun j => by rw [gG_sG, if_neg (by omega)]; exact v j)
      refine Ex_step ?_; conv => whnf
      (repeat' (first | (exact ih2) | (rw [y0]) | (rw [ev]) | (refine ⟨⟨yk, by omega, Int.lt_of_lt_of_le (by omega : _ < (3198 : Int)) (Int.le_of_eq yl.symm)⟩, ?_⟩; conv => whnf) | (refine Ex_step ?_; conv => whnf) | (refine ⟨?_, trivial⟩) | (refine (show den _ _ _ _ _ _ _ _ from ?_); conv => whnf) | (refine ⟨fun c => False.elim (by omega), fun c => ?_⟩) | (refine ⟨fun c => ?_, fun c => False.elim (by omega)⟩) | (refine ⟨by (first | assumption | rfl | (exact Nat.le_of_ble_eq_true rfl) | (exact ⟨fun h01 => absurd h01 (by decide), by first | rfl | assumption⟩) | (exact ⟨fun _ => by decide, by first | rfl | assumption⟩) | (exact ⟨by assumption, by omega, by omega⟩) | (unfold inI; omega) | omega), ?_⟩; conv => whnf) | (refine ⟨fun c => ?_, fun c => ?_⟩) | (intro c) | fail))
  have l1 := loop1 _ 0 h rfl (by omega) (by omega) Fr.refl (fun j => by rw [if_neg (by omega)]) (fun j => rfl)
  refine eX10_copies (by omega) ?_
  (repeat' (first | (exact l1) | (refine Ex_step ?_; conv => whnf) | (refine ⟨?_, trivial⟩) | (refine (show den _ _ _ _ _ _ _ _ from ?_); conv => whnf) | (refine ⟨fun c => False.elim (by omega), fun c => ?_⟩) | (refine ⟨fun c => ?_, fun c => False.elim (by omega)⟩) | (refine ⟨by (first | assumption | rfl | (exact Nat.le_of_ble_eq_true rfl) | (exact ⟨fun h01 => absurd h01 (by decide), by first | rfl | assumption⟩) | (exact ⟨fun _ => by decide, by first | rfl | assumption⟩) | (exact ⟨by assumption, by omega, by omega⟩) | (unfold inI; omega) | omega), ?_⟩; conv => whnf) | (refine ⟨fun c => ?_, fun c => ?_⟩) | (intro c) | fail))
def slot (h h' : Mem) (f t : Int) : Prop := Fr (fun r => r = 128 ∨ r = 129) h h' ∧ (∀ j, gG h' 128 j = if 458 * t ≤ j ∧ j < 458 * t + 458 then gG h 128 (458 * f + (j - 458 * t)) else gG h 128 j) ∧ (∀ j, gG h' 129 j = if 6 * t ≤ j ∧ j < 6 * t + 6 then gG h 129 (6 * f + (j - 6 * t)) else gG h 129 j)
set_option maxHeartbeats 4000000 in
theorem m_mark {X : Int → Int} {XL : Int} {d : Nat} {h : Mem} {Q : RetP} {m : Int} (hd : 3 ≤ d) (kq : kd h 127 = 10) (r0 : gR h 127 0 = 128) (kt : kd h 128 = 100) (lt : ln h 128 = 3198) (r1 : gR h 127 1 = 129) (kn : kd h 129 = 101) (lnn : ln h 129 = 36) (hm : gG h 127 38 = m) (hb : 0 ≤ m ∧ m ≤ 3) (hq0 : m = 3 → Q (some (vI (-1))) (sG h 127 2 4)) (hq1 : m < 3 → ∀ h', slot (sG h 127 38 (m + 1)) h' 0 (m + 1) → Q (some (vI (m + 1))) (sG h' 127 2 0)) : WP X XL d 349 [vR 127] h Q := by
  refine eX10_mark (by omega) ?_
  by_cases c3 : m = 3
  · (repeat' (first | (rw [hm]) | (refine r_refuse (by omega) kq ?_) | (refine Ex_step ?_; conv => whnf) | (refine ⟨?_, trivial⟩) | (refine (show den _ _ _ _ _ _ _ _ from ?_); conv => whnf) | (refine ⟨fun c => False.elim (by omega), fun c => ?_⟩) | (refine ⟨fun c => ?_, fun c => False.elim (by omega)⟩) | (refine ⟨by (first | assumption | rfl | (exact Nat.le_of_ble_eq_true rfl) | (exact ⟨fun h01 => absurd h01 (by decide), by first | rfl | assumption⟩) | (exact ⟨fun _ => by decide, by first | rfl | assumption⟩) | (exact ⟨by assumption, by omega, by omega⟩) | (unfold inI; omega) | omega), ?_⟩; conv => whnf) | (refine ⟨fun c => ?_, fun c => ?_⟩) | (intro c) | fail))
    exact hq0 c3
  · have hq1 := hq1 (by omega)
    (repeat' (first | (rw [hm]) | (rw [g_same]) | (rw [e1]) | (refine r_copies (by omega) kq r0 kt lt r1 kn lnn (by omega) (by omega) (by omega) (fun h1 f1 u1 v1 => ?_); have kq1 := (kd_fr f1 127).trans kq; have g1 : h1.1 = h.1 := f1.1; have e1 : gG h1 127 38 = m + 1 := (f1.2.2 127 (by omega) 38).trans g_same) | (refine r_gives (by omega) kq1 ?_) | (refine Ex_step ?_; conv => whnf) | (refine ⟨?_, trivial⟩) | (refine (show den _ _ _ _ _ _ _ _ from ?_); conv => whnf) | (refine ⟨fun c => False.elim (by omega), fun c => ?_⟩) | (refine ⟨fun c => ?_, fun c => False.elim (by omega)⟩) | (refine ⟨by (first | assumption | rfl | (exact Nat.le_of_ble_eq_true rfl) | (exact ⟨fun h01 => absurd h01 (by decide), by first | rfl | assumption⟩) | (exact ⟨fun _ => by decide, by first | rfl | assumption⟩) | (exact ⟨by assumption, by omega, by omega⟩) | (unfold inI; omega) | omega), ?_⟩; conv => whnf) | (refine ⟨fun c => ?_, fun c => ?_⟩) | (intro c) | fail))
    exact hq1 h1 ⟨f1, u1, v1⟩
set_option maxHeartbeats 4000000 in
theorem m_undo {X : Int → Int} {XL : Int} {d : Nat} {h : Mem} {Q : RetP} {m : Int} (hd : 3 ≤ d) (kq : kd h 127 = 10) (r0 : gR h 127 0 = 128) (kt : kd h 128 = 100) (lt : ln h 128 = 3198) (r1 : gR h 127 1 = 129) (kn : kd h 129 = 101) (lnn : ln h 129 = 36) (hm : gG h 127 38 = m) (hb : 0 ≤ m ∧ m ≤ 3) (hq0 : m = 0 → Q (some (vI (-1))) (sG h 127 2 6)) (hq1 : 0 < m → ∀ h', slot h h' m 0 → Q (some (vI (m - 1))) (sG (sG h' 127 38 (m - 1)) 127 2 0)) : WP X XL d 350 [vR 127] h Q := by
  refine eX10_undo (by omega) ?_
  by_cases c3 : m = 0
  · (repeat' (first | (rw [hm]) | (refine r_refuse (by omega) kq ?_) | (refine Ex_step ?_; conv => whnf) | (refine ⟨?_, trivial⟩) | (refine (show den _ _ _ _ _ _ _ _ from ?_); conv => whnf) | (refine ⟨fun c => False.elim (by omega), fun c => ?_⟩) | (refine ⟨fun c => ?_, fun c => False.elim (by omega)⟩) | (refine ⟨by (first | assumption | rfl | (exact Nat.le_of_ble_eq_true rfl) | (exact ⟨fun h01 => absurd h01 (by decide), by first | rfl | assumption⟩) | (exact ⟨fun _ => by decide, by first | rfl | assumption⟩) | (exact ⟨by assumption, by omega, by omega⟩) | (unfold inI; omega) | omega), ?_⟩; conv => whnf) | (refine ⟨fun c => ?_, fun c => ?_⟩) | (intro c) | fail))
    exact hq0 c3
  · have hq1 := hq1 (by omega)
    (repeat' (first | (rw [hm]) | (rw [e1]) | (rw [g_same]) | (refine r_copies (by omega) kq r0 kt lt r1 kn lnn (by omega) (by omega) (by omega) (fun h1 f1 u1 v1 => ?_); have kq1 := (kd_fr f1 127).trans kq; have g1 : h1.1 = h.1 := f1.1; have e1 : gG h1 127 38 = m := (f1.2.2 127 (by omega) 38).trans hm) | (refine r_gives (by omega) kq1 ?_) | (refine Ex_step ?_; conv => whnf) | (refine ⟨?_, trivial⟩) | (refine (show den _ _ _ _ _ _ _ _ from ?_); conv => whnf) | (refine ⟨fun c => False.elim (by omega), fun c => ?_⟩) | (refine ⟨fun c => ?_, fun c => False.elim (by omega)⟩) | (refine ⟨by (first | assumption | rfl | (exact Nat.le_of_ble_eq_true rfl) | (exact ⟨fun h01 => absurd h01 (by decide), by first | rfl | assumption⟩) | (exact ⟨fun _ => by decide, by first | rfl | assumption⟩) | (exact ⟨by assumption, by omega, by omega⟩) | (unfold inI; omega) | omega), ?_⟩; conv => whnf) | (refine ⟨fun c => ?_, fun c => ?_⟩) | (intro c) | fail))
    exact hq1 h1 ⟨f1, u1, v1⟩
