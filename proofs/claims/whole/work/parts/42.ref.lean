/-! LEVEL 2: the reference: its array, what only looks -/
/-- the reference's array is A below 90 -/
def Rr (K : Int) (h : Mem) (A : Int → Int) : Prop := (kd h 127 = 10 ∧ gR h 127 0 = 128 ∧ kd h 128 = 100 ∧ ln h 128 = 3198) ∧ (∀ j, 0 ≤ j → j < 90 → gG h 128 j = A j) ∧ AOk K A
theorem g_same {h : Mem} {r : Nat} {i z : Int} : gG (sG h r i z) r i = z := by rw [gG_sG, if_pos ⟨rfl, rfl⟩]
theorem g_ne {h : Mem} {r : Nat} {i j z : Int} (q : ¬ j = i) : gG (sG h r i z) r j = gG h r j := by rw [gG_sG, if_neg (fun e => q e.2)]
set_option maxHeartbeats 4000000 in
theorem r_archRow {X : Int → Int} {XL : Int} {d : Nat} {h : Mem} {Q : RetP} {a : Int} (hd : 1 ≤ d) (ha : 0 ≤ a ∧ a ≤ 100) (hq : Q (some (vI (10 + 3 * a))) h) : WP X XL d 227 [vI a] h Q := by
  refine eX10_archRow hd ?_
  (repeat' (first | (refine Ex_step ?_; conv => whnf) | (refine ⟨?_, trivial⟩) | (refine (show den _ _ _ _ _ _ _ _ from ?_); conv => whnf) | (refine ⟨by (first | assumption | rfl | (exact Nat.le_of_ble_eq_true rfl) | (exact ⟨fun h01 => absurd h01 (by decide), by first | rfl | assumption⟩) | (exact ⟨fun _ => by decide, by first | rfl | assumption⟩) | (exact ⟨by assumption, by omega, by omega⟩) | (unfold inI; omega) | omega), ?_⟩; conv => whnf) | (refine ⟨fun c => False.elim (by omega), fun c => ?_⟩) | (refine ⟨fun c => ?_, fun c => False.elim (by omega)⟩) | (refine ⟨fun c => ?_, fun c => ?_⟩) | (intro c) | fail))
  exact hq
set_option maxHeartbeats 4000000 in
theorem r_personRow {X : Int → Int} {XL : Int} {d : Nat} {h : Mem} {Q : RetP} {a : Int} (hd : 1 ≤ d) (ha : 0 ≤ a ∧ a ≤ 100) (hq : Q (some (vI (37 + 6 * a))) h) : WP X XL d 228 [vI a] h Q := by
  refine eX10_personRow hd ?_
  (repeat' (first | (refine Ex_step ?_; conv => whnf) | (refine ⟨?_, trivial⟩) | (refine (show den _ _ _ _ _ _ _ _ from ?_); conv => whnf) | (refine ⟨by (first | assumption | rfl | (exact Nat.le_of_ble_eq_true rfl) | (exact ⟨fun h01 => absurd h01 (by decide), by first | rfl | assumption⟩) | (exact ⟨fun _ => by decide, by first | rfl | assumption⟩) | (exact ⟨by assumption, by omega, by omega⟩) | (unfold inI; omega) | omega), ?_⟩; conv => whnf) | (refine ⟨fun c => False.elim (by omega), fun c => ?_⟩) | (refine ⟨fun c => ?_, fun c => False.elim (by omega)⟩) | (refine ⟨fun c => ?_, fun c => ?_⟩) | (intro c) | fail))
  exact hq
set_option maxHeartbeats 4000000 in
theorem r_plantRow {X : Int → Int} {XL : Int} {d : Nat} {h : Mem} {Q : RetP} {a : Int} (hd : 1 ≤ d) (ha : 0 ≤ a ∧ a ≤ 100) (hq : Q (some (vI (73 + 2 * a))) h) : WP X XL d 229 [vI a] h Q := by
  refine eX10_plantRow hd ?_
  (repeat' (first | (refine Ex_step ?_; conv => whnf) | (refine ⟨?_, trivial⟩) | (refine (show den _ _ _ _ _ _ _ _ from ?_); conv => whnf) | (refine ⟨by (first | assumption | rfl | (exact Nat.le_of_ble_eq_true rfl) | (exact ⟨fun h01 => absurd h01 (by decide), by first | rfl | assumption⟩) | (exact ⟨fun _ => by decide, by first | rfl | assumption⟩) | (exact ⟨by assumption, by omega, by omega⟩) | (unfold inI; omega) | omega), ?_⟩; conv => whnf) | (refine ⟨fun c => False.elim (by omega), fun c => ?_⟩) | (refine ⟨fun c => ?_, fun c => False.elim (by omega)⟩) | (refine ⟨fun c => ?_, fun c => ?_⟩) | (intro c) | fail))
  exact hq
set_option maxHeartbeats 4000000 in
theorem r_levelAt {X : Int → Int} {XL : Int} {d : Nat} {h : Mem} {Q : RetP} {a : Int} (hd : 1 ≤ d) (ha : 0 ≤ a ∧ a ≤ 100) (hq : Q (some (vI (2748 + 90 * a))) h) : WP X XL d 283 [vI a] h Q := by
  refine eX10_levelAt hd ?_
  (repeat' (first | (refine Ex_step ?_; conv => whnf) | (refine ⟨?_, trivial⟩) | (refine (show den _ _ _ _ _ _ _ _ from ?_); conv => whnf) | (refine ⟨by (first | assumption | rfl | (exact Nat.le_of_ble_eq_true rfl) | (exact ⟨fun h01 => absurd h01 (by decide), by first | rfl | assumption⟩) | (exact ⟨fun _ => by decide, by first | rfl | assumption⟩) | (exact ⟨by assumption, by omega, by omega⟩) | (unfold inI; omega) | omega), ?_⟩; conv => whnf) | (refine ⟨fun c => False.elim (by omega), fun c => ?_⟩) | (refine ⟨fun c => ?_, fun c => False.elim (by omega)⟩) | (refine ⟨fun c => ?_, fun c => ?_⟩) | (intro c) | fail))
  exact hq
set_option maxHeartbeats 4000000 in
theorem r_isTray {X : Int → Int} {XL : Int} {d : Nat} {h : Mem} {Q : RetP} {a : Int} (hd : 1 ≤ d) (hq1 : 0 ≤ a ∧ a < 4 → Q (some (vI 1)) h) (hq0 : ¬ (0 ≤ a ∧ a < 4) → Q (some (vI 0)) h) : WP X XL d 201 [vI a] h Q := by
  refine eX10_isTray hd ?_
  (repeat' (first | (refine Ex_step ?_; conv => whnf) | (refine ⟨?_, trivial⟩) | (refine (show den _ _ _ _ _ _ _ _ from ?_); conv => whnf) | (refine ⟨by (first | assumption | rfl | (exact Nat.le_of_ble_eq_true rfl) | (exact ⟨fun h01 => absurd h01 (by decide), by first | rfl | assumption⟩) | (exact ⟨fun _ => by decide, by first | rfl | assumption⟩) | (exact ⟨by assumption, by omega, by omega⟩) | (unfold inI; omega) | omega), ?_⟩; conv => whnf) | (refine ⟨fun c => False.elim (by omega), fun c => ?_⟩) | (refine ⟨fun c => ?_, fun c => False.elim (by omega)⟩) | (refine ⟨fun c => ?_, fun c => ?_⟩) | (intro c) | fail)) <;> (first | (exact hq1 (by omega)) | (exact hq0 (by omega)))
theorem cmpZ_s (a b : Int) : (cmpZ a b < 0 ↔ a < b) ∧ (0 < cmpZ a b ↔ b < a) ∧ (cmpZ a b = 0 ↔ a = b) := by
  unfold cmpZ
  by_cases h1 : a > b
  · rw [if_pos h1]; omega
  · rw [if_neg h1]
    by_cases h2 : a = b
    · rw [if_pos h2]; omega
    · rw [if_neg h2]; omega
set_option maxHeartbeats 4000000 in
theorem r_isFrom {X : Int → Int} {XL : Int} {d : Nat} {h : Mem} {Q : RetP} {a b c : Int} (hd : 1 ≤ d) (hq1 : b ≤ a ∧ a ≤ c → Q (some (vI 1)) h) (hq0 : ¬ (b ≤ a ∧ a ≤ c) → Q (some (vI 0)) h) : WP X XL d 208 [vL a, vL b, vL c] h Q := by
  have c1 := cmpZ_s a b
  have c2 := cmpZ_s a c
  refine eX10_isFrom hd ?_
  (repeat' (first | (refine Ex_step ?_; conv => whnf) | (refine ⟨?_, trivial⟩) | (refine (show den _ _ _ _ _ _ _ _ from ?_); conv => whnf) | (refine ⟨by (first | assumption | rfl | (exact Nat.le_of_ble_eq_true rfl) | (exact ⟨fun h01 => absurd h01 (by decide), by first | rfl | assumption⟩) | (exact ⟨fun _ => by decide, by first | rfl | assumption⟩) | (exact ⟨by assumption, by omega, by omega⟩) | (unfold inI; omega) | omega), ?_⟩; conv => whnf) | (refine ⟨fun c => False.elim (by omega), fun c => ?_⟩) | (refine ⟨fun c => ?_, fun c => False.elim (by omega)⟩) | (refine ⟨fun c => ?_, fun c => ?_⟩) | (intro c) | fail)) <;> (first | (exact hq1 (by omega)) | (exact hq0 (by omega)))
set_option maxHeartbeats 4000000 in
theorem w_within {X : Int → Int} {XL : Int} {d : Nat} {h : Mem} {Q : RetP} {a b c : Int} (hd : 1 ≤ d) (hq1 : b ≤ a ∧ a ≤ c → Q (some (vI 1)) h) (hq0 : ¬ (b ≤ a ∧ a ≤ c) → Q (some (vI 0)) h) : WP X XL d 181 [vL a, vL b, vL c] h Q := by
  have c1 := cmpZ_s a b
  have c2 := cmpZ_s a c
  refine eX9_within hd ?_
  (repeat' (first | (refine Ex_step ?_; conv => whnf) | (refine ⟨?_, trivial⟩) | (refine (show den _ _ _ _ _ _ _ _ from ?_); conv => whnf) | (refine ⟨by (first | assumption | rfl | (exact Nat.le_of_ble_eq_true rfl) | (exact ⟨fun h01 => absurd h01 (by decide), by first | rfl | assumption⟩) | (exact ⟨fun _ => by decide, by first | rfl | assumption⟩) | (exact ⟨by assumption, by omega, by omega⟩) | (unfold inI; omega) | omega), ?_⟩; conv => whnf) | (refine ⟨fun c => False.elim (by omega), fun c => ?_⟩) | (refine ⟨fun c => ?_, fun c => False.elim (by omega)⟩) | (refine ⟨fun c => ?_, fun c => ?_⟩) | (intro c) | fail)) <;> (first | (exact hq1 (by omega)) | (exact hq0 (by omega)))
set_option maxHeartbeats 4000000 in
theorem w_isTray {X : Int → Int} {XL : Int} {d : Nat} {h : Mem} {Q : RetP} {a : Int} (hd : 1 ≤ d) (hq1 : 0 ≤ a ∧ a < 4 → Q (some (vI 1)) h) (hq0 : ¬ (0 ≤ a ∧ a < 4) → Q (some (vI 0)) h) : WP X XL d 183 [vI a] h Q := by
  refine eX9_isTray hd ?_
  (repeat' (first | (refine Ex_step ?_; conv => whnf) | (refine ⟨?_, trivial⟩) | (refine (show den _ _ _ _ _ _ _ _ from ?_); conv => whnf) | (refine ⟨by (first | assumption | rfl | (exact Nat.le_of_ble_eq_true rfl) | (exact ⟨fun h01 => absurd h01 (by decide), by first | rfl | assumption⟩) | (exact ⟨fun _ => by decide, by first | rfl | assumption⟩) | (exact ⟨by assumption, by omega, by omega⟩) | (unfold inI; omega) | omega), ?_⟩; conv => whnf) | (refine ⟨fun c => False.elim (by omega), fun c => ?_⟩) | (refine ⟨fun c => ?_, fun c => False.elim (by omega)⟩) | (refine ⟨fun c => ?_, fun c => ?_⟩) | (intro c) | fail)) <;> (first | (exact hq1 (by omega)) | (exact hq0 (by omega)))
set_option maxHeartbeats 4000000 in
theorem r_isIn {X : Int → Int} {XL : Int} {d : Nat} {h : Mem} {Q : RetP} {q : Nat} {set i : Int} (hd : 1 ≤ d) (h0 : 0 ≤ i ∧ i < 32) (hq1 : bt set i = true → Q (some (vI 1)) h) (hq0 : bt set i = false → Q (some (vI 0)) h) : WP X XL d 247 [vR q, vI set, vI i] h Q := by
  have hz := zand1 (shrZ set i)
  refine eX10_isIn hd ?_
  (repeat' (first | (refine Ex_step ?_; conv => whnf) | (refine ⟨?_, trivial⟩) | (refine (show den _ _ _ _ _ _ _ _ from ?_); conv => whnf) | (refine ⟨by (first | assumption | rfl | (exact Nat.le_of_ble_eq_true rfl) | (exact ⟨fun h01 => absurd h01 (by decide), by first | rfl | assumption⟩) | (exact ⟨fun _ => by decide, by first | rfl | assumption⟩) | (exact ⟨by assumption, by omega, by omega⟩) | (unfold inI; omega) | omega), ?_⟩; conv => whnf) | (refine ⟨fun c => False.elim (by omega), fun c => ?_⟩) | (refine ⟨fun c => ?_, fun c => False.elim (by omega)⟩) | (refine ⟨fun c => ?_, fun c => ?_⟩) | (intro c) | fail))
  all_goals first | (exact hq1 (by unfold bt; rw [decide_eq_false (by omega)]; rfl)) | (exact hq0 (by unfold bt; rw [decide_eq_true (by omega)]; rfl))
set_option maxHeartbeats 4000000 in
theorem r_isArch {X : Int → Int} {XL : Int} {d : Nat} {h : Mem} {Q : RetP} {K : Int} {A : Int → Int} {a : Int} (hd : 1 ≤ d) (hR : Rr K h A) (hq1 : 0 ≤ a ∧ a < A 0 → Q (some (vI 1)) h) (hq0 : ¬ (0 ≤ a ∧ a < A 0) → Q (some (vI 0)) h) : WP X XL d 244 [vR 127, vI a] h Q := by
  obtain ⟨⟨kq, r0, kt, lt⟩, eA, ⟨b0, b1, b2, b3, b4, b5, b6, b8, bK, ba, bp, bq⟩⟩ := id hR
  refine eX10_isArch hd ?_
  (repeat' (first | (refine Ex_step ?_; conv => whnf) | (refine ⟨?_, trivial⟩) | (refine (show den _ _ _ _ _ _ _ _ from ?_); conv => whnf) | (refine ⟨by (first | assumption | rfl | (exact Nat.le_of_ble_eq_true rfl) | (exact ⟨fun h01 => absurd h01 (by decide), by first | rfl | assumption | trivial⟩) | (exact ⟨fun _ => by decide, by first | rfl | assumption | trivial⟩) | (exact ⟨kt, by omega, Int.lt_of_lt_of_le (by omega : _ < (3198 : Int)) (Int.le_of_eq lt.symm)⟩) | (unfold inI; omega) | omega), ?_⟩; conv => whnf; try simp (disch := omega) only [r0, gR_sG, g_same, g_ne, eA]) | (refine ⟨fun c => False.elim (by omega), fun c => ?_⟩) | (refine ⟨fun c => ?_, fun c => False.elim (by omega)⟩) | (refine ⟨fun c => ?_, fun c => ?_⟩) | (intro c) | fail)) <;> (first | (exact hq1 (by omega)) | (exact hq0 (by omega)))
set_option maxHeartbeats 4000000 in
theorem r_isPerson {X : Int → Int} {XL : Int} {d : Nat} {h : Mem} {Q : RetP} {K : Int} {A : Int → Int} {a : Int} (hd : 1 ≤ d) (hR : Rr K h A) (hq1 : 0 ≤ a ∧ a < A 1 → Q (some (vI 1)) h) (hq0 : ¬ (0 ≤ a ∧ a < A 1) → Q (some (vI 0)) h) : WP X XL d 245 [vR 127, vI a] h Q := by
  obtain ⟨⟨kq, r0, kt, lt⟩, eA, ⟨b0, b1, b2, b3, b4, b5, b6, b8, bK, ba, bp, bq⟩⟩ := id hR
  refine eX10_isPerson hd ?_
  (repeat' (first | (refine Ex_step ?_; conv => whnf) | (refine ⟨?_, trivial⟩) | (refine (show den _ _ _ _ _ _ _ _ from ?_); conv => whnf) | (refine ⟨by (first | assumption | rfl | (exact Nat.le_of_ble_eq_true rfl) | (exact ⟨fun h01 => absurd h01 (by decide), by first | rfl | assumption | trivial⟩) | (exact ⟨fun _ => by decide, by first | rfl | assumption | trivial⟩) | (exact ⟨kt, by omega, Int.lt_of_lt_of_le (by omega : _ < (3198 : Int)) (Int.le_of_eq lt.symm)⟩) | (unfold inI; omega) | omega), ?_⟩; conv => whnf; try simp (disch := omega) only [r0, gR_sG, g_same, g_ne, eA]) | (refine ⟨fun c => False.elim (by omega), fun c => ?_⟩) | (refine ⟨fun c => ?_, fun c => False.elim (by omega)⟩) | (refine ⟨fun c => ?_, fun c => ?_⟩) | (intro c) | fail)) <;> (first | (exact hq1 (by omega)) | (exact hq0 (by omega)))
set_option maxHeartbeats 4000000 in
theorem r_archOf {X : Int → Int} {XL : Int} {d : Nat} {h : Mem} {Q : RetP} {K : Int} {A : Int → Int} {a w : Int} (hd : 2 ≤ d) (hR : Rr K h A) (ha : 0 ≤ a ∧ a ≤ 9) (hw : 0 ≤ w ∧ w ≤ 2) (hq : Q (some (vI (A (10 + 3 * a + w)))) h) : WP X XL d 250 [vR 127, vI a, vI w] h Q := by
  obtain ⟨⟨kq, r0, kt, lt⟩, eA, ⟨b0, b1, b2, b3, b4, b5, b6, b8, bK, ba, bp, bq⟩⟩ := id hR
  refine eX10_archOf (by omega) ?_
  (repeat' (first | (refine r_archRow (by omega) (by omega) ?_) | (refine Ex_step ?_; conv => whnf) | (refine ⟨?_, trivial⟩) | (refine (show den _ _ _ _ _ _ _ _ from ?_); conv => whnf) | (refine ⟨by (first | assumption | rfl | (exact Nat.le_of_ble_eq_true rfl) | (exact ⟨fun h01 => absurd h01 (by decide), by first | rfl | assumption | trivial⟩) | (exact ⟨fun _ => by decide, by first | rfl | assumption | trivial⟩) | (exact ⟨kt, by omega, Int.lt_of_lt_of_le (by omega : _ < (3198 : Int)) (Int.le_of_eq lt.symm)⟩) | (unfold inI; omega) | omega), ?_⟩; conv => whnf; try simp (disch := omega) only [r0, gR_sG, g_same, g_ne, eA]) | (refine ⟨fun c => False.elim (by omega), fun c => ?_⟩) | (refine ⟨fun c => ?_, fun c => False.elim (by omega)⟩) | (refine ⟨fun c => ?_, fun c => ?_⟩) | (intro c) | fail))
  exact hq
theorem r_ho {X : Int → Int} {XL : Int} {d : Nat} {h : Mem} {Q : RetP} {K : Int} {A : Int → Int} {a : Int} (hd : 2 ≤ d) (hR : Rr K h A) (ha : 0 ≤ a ∧ a ≤ 9) (hq : Q (some (vI (hoA A a))) h) : WP X XL d 250 [vR 127, vI a, vI 0] h Q :=
  r_archOf hd hR ha (by omega) (by rw [Int.add_zero]; exact hq)
theorem r_mo {X : Int → Int} {XL : Int} {d : Nat} {h : Mem} {Q : RetP} {K : Int} {A : Int → Int} {a : Int} (hd : 2 ≤ d) (hR : Rr K h A) (ha : 0 ≤ a ∧ a ≤ 9) (hq : Q (some (vI (moA A a))) h) : WP X XL d 250 [vR 127, vI a, vI 1] h Q :=
  r_archOf hd hR ha (by omega) hq
theorem r_to {X : Int → Int} {XL : Int} {d : Nat} {h : Mem} {Q : RetP} {K : Int} {A : Int → Int} {a : Int} (hd : 2 ≤ d) (hR : Rr K h A) (ha : 0 ≤ a ∧ a ≤ 9) (hq : Q (some (vI (toA A a))) h) : WP X XL d 250 [vR 127, vI a, vI 2] h Q :=
  r_archOf hd hR ha (by omega) hq
set_option maxHeartbeats 4000000 in
theorem r_personOf {X : Int → Int} {XL : Int} {d : Nat} {h : Mem} {Q : RetP} {K : Int} {A : Int → Int} {p w : Int} (hd : 2 ≤ d) (hR : Rr K h A) (hp : 0 ≤ p ∧ p ≤ 6) (hw : 0 ≤ w ∧ w ≤ 5) (hq : Q (some (vI (pA A p w))) h) : WP X XL d 251 [vR 127, vI p, vI w] h Q := by
  obtain ⟨⟨kq, r0, kt, lt⟩, eA, ⟨b0, b1, b2, b3, b4, b5, b6, b8, bK, ba, bp, bq⟩⟩ := id hR
  refine eX10_personOf (by omega) ?_
  (repeat' (first | (refine r_personRow (by omega) (by omega) ?_) | (refine Ex_step ?_; conv => whnf) | (refine ⟨?_, trivial⟩) | (refine (show den _ _ _ _ _ _ _ _ from ?_); conv => whnf) | (refine ⟨by (first | assumption | rfl | (exact Nat.le_of_ble_eq_true rfl) | (exact ⟨fun h01 => absurd h01 (by decide), by first | rfl | assumption | trivial⟩) | (exact ⟨fun _ => by decide, by first | rfl | assumption | trivial⟩) | (exact ⟨kt, by omega, Int.lt_of_lt_of_le (by omega : _ < (3198 : Int)) (Int.le_of_eq lt.symm)⟩) | (unfold inI; omega) | omega), ?_⟩; conv => whnf; try simp (disch := omega) only [r0, gR_sG, g_same, g_ne, eA]) | (refine ⟨fun c => False.elim (by omega), fun c => ?_⟩) | (refine ⟨fun c => ?_, fun c => False.elim (by omega)⟩) | (refine ⟨fun c => ?_, fun c => ?_⟩) | (intro c) | fail))
  exact hq
set_option maxHeartbeats 4000000 in
theorem r_dimOf {X : Int → Int} {XL : Int} {d : Nat} {h : Mem} {Q : RetP} {K : Int} {A : Int → Int} {a : Int} (hd : 3 ≤ d) (hR : Rr K h A) (ha0 : 0 ≤ a) (ha1 : a < A 0) (hq : Q (some (vI (moA A a + A 4))) h) : WP X XL d 252 [vR 127, vI a] h Q := by
  obtain ⟨⟨kq, r0, kt, lt⟩, eA, ⟨b0, b1, b2, b3, b4, b5, b6, b8, bK, ba, bp, bq⟩⟩ := id hR
  obtain ⟨fa0, fa1, fa2⟩ := ba a ha0 ha1
  refine eX10_dimOf (by omega) ?_
  (repeat' (first | (refine r_mo (by omega) hR (by omega) ?_) | (refine Ex_step ?_; conv => whnf) | (refine ⟨?_, trivial⟩) | (refine (show den _ _ _ _ _ _ _ _ from ?_); conv => whnf) | (refine ⟨by (first | assumption | rfl | (exact Nat.le_of_ble_eq_true rfl) | (exact ⟨fun h01 => absurd h01 (by decide), by first | rfl | assumption | trivial⟩) | (exact ⟨fun _ => by decide, by first | rfl | assumption | trivial⟩) | (exact ⟨kt, by omega, Int.lt_of_lt_of_le (by omega : _ < (3198 : Int)) (Int.le_of_eq lt.symm)⟩) | (unfold inI; omega) | omega), ?_⟩; conv => whnf; try simp (disch := omega) only [r0, gR_sG, g_same, g_ne, eA]) | (refine ⟨fun c => False.elim (by omega), fun c => ?_⟩) | (refine ⟨fun c => ?_, fun c => False.elim (by omega)⟩) | (refine ⟨fun c => ?_, fun c => ?_⟩) | (intro c) | fail))
  exact hq
set_option maxHeartbeats 4000000 in
theorem r_strainBy {X : Int → Int} {XL : Int} {d : Nat} {h : Mem} {Q : RetP} {K : Int} {A : Int → Int} {p a : Int} (hd : 4 ≤ d) (hR : Rr K h A) (hp0 : 0 ≤ p) (hp1 : p < A 1) (ha0 : 0 ≤ a) (ha1 : a < A 0) (hq : Q (some (vI (sAl A p a))) h) : WP X XL d 253 [vR 127, vI p, vI a] h Q := by
  obtain ⟨⟨kq, r0, kt, lt⟩, eA, ⟨b0, b1, b2, b3, b4, b5, b6, b8, bK, ba, bp, bq⟩⟩ := id hR
  obtain ⟨f0, f1, f2, f3, f4, f5⟩ := bp p hp0 hp1
  obtain ⟨fa0, fa1, fa2⟩ := ba a ha0 ha1
  have hm := mulB f1.1 f1.2 (show 0 ≤ moA A a + A 4 by omega) (show moA A a + A 4 ≤ 14 by omega)
  refine eX10_strainBy (by omega) ?_
  (repeat' (first | (refine r_personOf (by omega) hR (by omega) (by omega) ?_) | (refine r_dimOf (by omega) hR ha0 ha1 ?_) | (refine Ex_step ?_; conv => whnf) | (refine ⟨?_, trivial⟩) | (refine (show den _ _ _ _ _ _ _ _ from ?_); conv => whnf) | (refine ⟨by (first | assumption | rfl | (exact Nat.le_of_ble_eq_true rfl) | (exact ⟨fun h01 => absurd h01 (by decide), by first | rfl | assumption | trivial⟩) | (exact ⟨fun _ => by decide, by first | rfl | assumption | trivial⟩) | (exact ⟨kt, by omega, Int.lt_of_lt_of_le (by omega : _ < (3198 : Int)) (Int.le_of_eq lt.symm)⟩) | (unfold inI; omega) | omega), ?_⟩; conv => whnf; try simp (disch := omega) only [r0, gR_sG, g_same, g_ne, eA]) | (refine ⟨fun c => False.elim (by omega), fun c => ?_⟩) | (refine ⟨fun c => ?_, fun c => False.elim (by omega)⟩) | (refine ⟨fun c => ?_, fun c => ?_⟩) | (intro c) | fail))
  exact hq
set_option maxHeartbeats 4000000 in
theorem r_strainBoth {X : Int → Int} {XL : Int} {d : Nat} {h : Mem} {Q : RetP} {K : Int} {A : Int → Int} {p o a : Int} (hd : 4 ≤ d) (hR : Rr K h A) (hp0 : 0 ≤ p) (hp1 : p < A 1) (ho0 : 0 ≤ o) (ho1 : o < A 1) (ha0 : 0 ≤ a) (ha1 : a < A 0) (hq : Q (some (vI (sRo A p o a))) h) : WP X XL d 254 [vR 127, vI p, vI o, vI a] h Q := by
  obtain ⟨⟨kq, r0, kt, lt⟩, eA, ⟨b0, b1, b2, b3, b4, b5, b6, b8, bK, ba, bp, bq⟩⟩ := id hR
  obtain ⟨f0, f1, f2, f3, f4, f5⟩ := bp p hp0 hp1
  obtain ⟨fo0, fo1, fo2, fo3, fo4, fo5⟩ := bp o ho0 ho1
  obtain ⟨fa0, fa1, fa2⟩ := ba a ha0 ha1
  have hm := mulB (show 0 ≤ min (pA A p 1) (pA A o 1) by omega) (show min (pA A p 1) (pA A o 1) ≤ 9 by omega) (show 0 ≤ moA A a + A 4 by omega) (show moA A a + A 4 ≤ 14 by omega)
  have hz := zd2 (show 0 ≤ min (pA A p 0) (pA A o 0) by omega) (by omega)
  refine eX10_strainBoth (by omega) ?_
  (repeat' (first | (refine r_personOf (by omega) hR (by omega) (by omega) ?_) | (refine r_dimOf (by omega) hR ha0 ha1 ?_) | (refine Ex_step ?_; conv => whnf) | (refine ⟨?_, trivial⟩) | (refine (show den _ _ _ _ _ _ _ _ from ?_); conv => whnf) | (refine ⟨by (first | assumption | rfl | (exact Nat.le_of_ble_eq_true rfl) | (exact ⟨fun h01 => absurd h01 (by decide), by first | rfl | assumption | trivial⟩) | (exact ⟨fun _ => by decide, by first | rfl | assumption | trivial⟩) | (exact ⟨kt, by omega, Int.lt_of_lt_of_le (by omega : _ < (3198 : Int)) (Int.le_of_eq lt.symm)⟩) | (unfold inI; omega) | omega), ?_⟩; conv => whnf; try simp (disch := omega) only [r0, gR_sG, g_same, g_ne, eA]) | (refine ⟨fun c => False.elim (by omega), fun c => ?_⟩) | (refine ⟨fun c => ?_, fun c => False.elim (by omega)⟩) | (refine ⟨fun c => ?_, fun c => ?_⟩) | (intro c) | fail))
  exact hq
/-- whether an arch bears one (with himself), or two -/
def okB (A : Int → Int) (p o : Int) (a : Int) : Bool := if p = o then okBy A p (pA A p 1) (A 4) a else okRo A p o a
theorem okB_1 {A : Int → Int} {p : Int} : okB A p p = okBy A p (pA A p 1) (A 4) := by funext a; exact if_pos rfl
theorem okB_2 {A : Int → Int} {p o : Int} (h : ¬ p = o) : okB A p o = okRo A p o := by funext a; exact if_neg h
set_option maxHeartbeats 4000000 in
theorem r_bears {X : Int → Int} {XL : Int} {d : Nat} {h : Mem} {Q : RetP} {K : Int} {A : Int → Int} {p o a : Int} (hd : 5 ≤ d) (hR : Rr K h A) (hp0 : 0 ≤ p) (hp1 : p < A 1) (ho0 : 0 ≤ o) (ho1 : o < A 1) (ha0 : 0 ≤ a) (ha1 : a < A 0) (hq1 : okB A p o a = true → Q (some (vI 1)) h) (hq0 : okB A p o a = false → Q (some (vI 0)) h) : WP X XL d 255 [vR 127, vI a, vI p, vI o] h Q := by
  have k127 := hR.1.1
  refine eX10_bears (by omega) ?_
  by_cases he : p = o
  · subst he
    rw [okB_1] at hq1 hq0
    (repeat' (first | (refine r_strainBy (by omega) hR hp0 hp1 ha0 ha1 ?_) | (refine r_ho (by omega) hR (by have := hR.2.2.1; omega) ?_) | (refine Ex_step ?_; conv => whnf) | (refine ⟨?_, trivial⟩) | (refine (show den _ _ _ _ _ _ _ _ from ?_); conv => whnf) | (refine ⟨by (first | assumption | rfl | (exact Nat.le_of_ble_eq_true rfl) | (exact ⟨fun h01 => absurd h01 (by decide), by first | rfl | assumption⟩) | (exact ⟨fun _ => by decide, by first | rfl | assumption⟩) | (exact ⟨by assumption, by omega, by omega⟩) | (unfold inI; omega) | omega), ?_⟩; conv => whnf) | (refine ⟨fun c => False.elim (by omega), fun c => ?_⟩) | (refine ⟨fun c => ?_, fun c => False.elim (by omega)⟩) | (refine ⟨fun c => ?_, fun c => ?_⟩) | (intro c) | fail))
    all_goals first | (exact hq1 (decide_eq_true (by unfold sAl at *; omega))) | (exact hq0 (decide_eq_false (by unfold sAl at *; omega)))
  · rw [okB_2 he] at hq1 hq0
    (repeat' (first | (refine r_strainBoth (by omega) hR hp0 hp1 ho0 ho1 ha0 ha1 ?_) | (refine r_ho (by omega) hR (by have := hR.2.2.1; omega) ?_) | (refine Ex_step ?_; conv => whnf) | (refine ⟨?_, trivial⟩) | (refine (show den _ _ _ _ _ _ _ _ from ?_); conv => whnf) | (refine ⟨by (first | assumption | rfl | (exact Nat.le_of_ble_eq_true rfl) | (exact ⟨fun h01 => absurd h01 (by decide), by first | rfl | assumption⟩) | (exact ⟨fun _ => by decide, by first | rfl | assumption⟩) | (exact ⟨by assumption, by omega, by omega⟩) | (unfold inI; omega) | omega), ?_⟩; conv => whnf) | (refine ⟨fun c => False.elim (by omega), fun c => ?_⟩) | (refine ⟨fun c => ?_, fun c => False.elim (by omega)⟩) | (refine ⟨fun c => ?_, fun c => ?_⟩) | (intro c) | fail))
    all_goals first | (exact hq1 (decide_eq_true (by omega))) | (exact hq0 (decide_eq_false (by omega)))
set_option maxHeartbeats 4000000 in
theorem r_isOver {X : Int → Int} {XL : Int} {d : Nat} {h : Mem} {Q : RetP} {K : Int} {A : Int → Int} {p : Int} (hd : 3 ≤ d) (hR : Rr K h A) (hp0 : 0 ≤ p) (hp1 : p < A 1) (hq1 : A 0 ≤ pA A p 3 → Q (some (vI 1)) h) (hq0 : pA A p 3 < A 0 → Q (some (vI 0)) h) : WP X XL d 256 [vR 127, vI p] h Q := by
  obtain ⟨⟨kq, r0, kt, lt⟩, eA, ⟨b0, b1, b2, b3, b4, b5, b6, b8, bK, ba, bp, bq⟩⟩ := id hR
  obtain ⟨f0, f1, f2, f3, f4, f5⟩ := bp p hp0 hp1
  refine eX10_isOver (by omega) ?_
  (repeat' (first | (refine r_personOf (by omega) hR (by omega) (by omega) ?_) | (refine Ex_step ?_; conv => whnf) | (refine ⟨?_, trivial⟩) | (refine (show den _ _ _ _ _ _ _ _ from ?_); conv => whnf) | (refine ⟨by (first | assumption | rfl | (exact Nat.le_of_ble_eq_true rfl) | (exact ⟨fun h01 => absurd h01 (by decide), by first | rfl | assumption | trivial⟩) | (exact ⟨fun _ => by decide, by first | rfl | assumption | trivial⟩) | (exact ⟨kt, by omega, Int.lt_of_lt_of_le (by omega : _ < (3198 : Int)) (Int.le_of_eq lt.symm)⟩) | (unfold inI; omega) | omega), ?_⟩; conv => whnf; try simp (disch := omega) only [r0, gR_sG, g_same, g_ne, eA]) | (refine ⟨fun c => False.elim (by omega), fun c => ?_⟩) | (refine ⟨fun c => ?_, fun c => False.elim (by omega)⟩) | (refine ⟨fun c => ?_, fun c => ?_⟩) | (intro c) | fail)) <;> (first | (exact hq1 (by omega)) | (exact hq0 (by omega)))
def nonN (n s : Int) : Int := if s < n then s else -1
set_option maxHeartbeats 4000000 in
theorem r_stopOf {X : Int → Int} {XL : Int} {d : Nat} {h : Mem} {Q : RetP} {K : Int} {A : Int → Int} {p o fr : Int} (hd : 6 ≤ d) (hR : Rr K h A) (hp0 : 0 ≤ p) (hp1 : p < A 1) (ho0 : 0 ≤ o) (ho1 : o < A 1) (hf0 : 0 ≤ fr) (hf1 : fr ≤ A 0) (hq : Q (some (vI (nonN (A 0) (stN (A 0) (okB A p o) fr)))) h) : WP X XL d 291 [vR 127, vI p, vI o, vI fr] h Q := by
  obtain ⟨⟨kq, r0, kt, lt⟩, eA, ⟨b0, b1, b2, b3, b4, b5, b6, b8, bK, ba, bp, bq⟩⟩ := id hR
  refine eX10_stopOf (by omega) ?_
  have loop : ∀ (k : Nat) (a : Int), (A 0 - a).toNat = k → 0 ≤ a → a ≤ A 0 → stN (A 0) (okB A p o) fr = stN (A 0) (okB A p o) a → Ex (WP X XL (d - 1)) KX10_stopOf h.1 Q 3 [some (vR 127), some (vI p), some (vI o), some (vI fr), some (vI a)] [] h := by
    intro k; induction k with
    | zero =>
      intro a hk ha0 ha1 he
      rw [stN_end (a := a) (Or.inl (by omega))] at he
      unfold nonN at hq
      rw [if_neg (by omega)] at hq
      (repeat' (first | (refine Ex_step ?_; conv => whnf) | (refine ⟨?_, trivial⟩) | (refine (show den _ _ _ _ _ _ _ _ from ?_); conv => whnf) | (refine ⟨by (first | assumption | rfl | (exact Nat.le_of_ble_eq_true rfl) | (exact ⟨fun h01 => absurd h01 (by decide), by first | rfl | assumption | trivial⟩) | (exact ⟨fun _ => by decide, by first | rfl | assumption | trivial⟩) | (exact ⟨kt, by omega, Int.lt_of_lt_of_le (by omega : _ < (3198 : Int)) (Int.le_of_eq lt.symm)⟩) | (unfold inI; omega) | omega), ?_⟩; conv => whnf; try simp (disch := omega) only [r0, gR_sG, g_same, g_ne, eA]) | (refine ⟨fun c => False.elim (by omega), fun c => ?_⟩) | (refine ⟨fun c => ?_, fun c => False.elim (by omega)⟩) | (refine ⟨fun c => ?_, fun c => ?_⟩) | (intro c) | fail))
      exact hq
    | succ k ih =>
      intro a hk ha0 ha1 he
      have ha1 : a < A 0 := by omega
      by_cases hok : okB A p o a = true
      · rw [stN_go ha1 hok] at he
        refine Ex_step ?_; conv => whnf
        (repeat' (first | (refine ih _ (by omega) (by omega) (by omega) he) | (refine r_bears (by omega) hR hp0 hp1 ho0 ho1 ha0 ha1 (fun c => ?_) (fun c => absurd (c.symm.trans hok) Bool.false_ne_true)) | (refine Ex_step ?_; conv => whnf) | (refine ⟨?_, trivial⟩) | (refine (show den _ _ _ _ _ _ _ _ from ?_); conv => whnf) | (refine ⟨by (first | assumption | rfl | (exact Nat.le_of_ble_eq_true rfl) | (exact ⟨fun h01 => absurd h01 (by decide), by first | rfl | assumption | trivial⟩) | (exact ⟨fun _ => by decide, by first | rfl | assumption | trivial⟩) | (exact ⟨kt, by omega, Int.lt_of_lt_of_le (by omega : _ < (3198 : Int)) (Int.le_of_eq lt.symm)⟩) | (unfold inI; omega) | omega), ?_⟩; conv => whnf; try simp (disch := omega) only [r0, gR_sG, g_same, g_ne, eA]) | (refine ⟨fun c => False.elim (by omega), fun c => ?_⟩) | (refine ⟨fun c => ?_, fun c => False.elim (by omega)⟩) | (refine ⟨fun c => ?_, fun c => ?_⟩) | (intro c) | fail))
      · rw [stN_end (a := a) (Or.inr (by simpa using hok))] at he
        unfold nonN at hq
        rw [he, if_pos ha1] at hq
        (repeat' (first | (refine r_bears (by omega) hR hp0 hp1 ho0 ho1 ha0 ha1 (fun c => absurd c hok) (fun c => ?_)) | (refine Ex_step ?_; conv => whnf) | (refine ⟨?_, trivial⟩) | (refine (show den _ _ _ _ _ _ _ _ from ?_); conv => whnf) | (refine ⟨by (first | assumption | rfl | (exact Nat.le_of_ble_eq_true rfl) | (exact ⟨fun h01 => absurd h01 (by decide), by first | rfl | assumption | trivial⟩) | (exact ⟨fun _ => by decide, by first | rfl | assumption | trivial⟩) | (exact ⟨kt, by omega, Int.lt_of_lt_of_le (by omega : _ < (3198 : Int)) (Int.le_of_eq lt.symm)⟩) | (unfold inI; omega) | omega), ?_⟩; conv => whnf; try simp (disch := omega) only [r0, gR_sG, g_same, g_ne, eA]) | (refine ⟨fun c => False.elim (by omega), fun c => ?_⟩) | (refine ⟨fun c => ?_, fun c => False.elim (by omega)⟩) | (refine ⟨fun c => ?_, fun c => ?_⟩) | (intro c) | fail))
        exact hq
  refine Ex_step ?_; conv => whnf
  refine ⟨?_, trivial⟩
  exact loop _ fr rfl hf0 hf1 rfl
theorem zor0_tab : ∀ s, s < 1024 → zor (s : Nat) 0 = (s : Nat) := by decide +kernel
theorem zor0 {s : Int} (h0 : 0 ≤ s) (h1 : s < 1024) : zor s 0 = s := by
  obtain ⟨n, rfl⟩ := Int.eq_ofNat_of_zero_le h0
  exact zor0_tab n (by omega)
set_option maxHeartbeats 4000000 in
theorem r_borneBy {X : Int → Int} {XL : Int} {d : Nat} {h : Mem} {Q : RetP} {K : Int} {A : Int → Int} {a : Int} (hd : 6 ≤ d) (hR : Rr K h A) (ha0 : 0 ≤ a) (ha1 : a < A 0) (hq : Q (some (vI (borA A a))) h) : WP X XL d 258 [vR 127, vI a] h Q := by
  obtain ⟨⟨kq, r0, kt, lt⟩, eA, ⟨b0, b1, b2, b3, b4, b5, b6, b8, bK, ba, bp, bq⟩⟩ := id hR
  refine eX10_borneBy (by omega) ?_
  have loop : ∀ (k : Nat) (i s : Int), (A 1 - i).toNat = k → 0 ≤ i → 0 ≤ s → s < 1024 → Q (some (vI (foN (A 1) (stF (fun p => decide (sAl A p a ≤ hoA A a))) i s))) h → Ex (WP X XL (d - 1)) KX10_borneBy h.1 Q 4 [some (vR 127), some (vI a), some (vI s), some (vI i)] [] h := by
    intro k; induction k with
    | zero =>
      intro i s hk hi0 hs0 hs1 hq
      rw [foN_end (by omega)] at hq
      (repeat' (first | (refine Ex_step ?_; conv => whnf) | (refine ⟨?_, trivial⟩) | (refine (show den _ _ _ _ _ _ _ _ from ?_); conv => whnf) | (refine ⟨by (first | assumption | rfl | (exact Nat.le_of_ble_eq_true rfl) | (exact ⟨fun h01 => absurd h01 (by decide), by first | rfl | assumption | trivial⟩) | (exact ⟨fun _ => by decide, by first | rfl | assumption | trivial⟩) | (exact ⟨kt, by omega, Int.lt_of_lt_of_le (by omega : _ < (3198 : Int)) (Int.le_of_eq lt.symm)⟩) | (unfold inI; omega) | omega), ?_⟩; conv => whnf; try simp (disch := omega) only [r0, gR_sG, g_same, g_ne, eA]) | (refine ⟨fun c => False.elim (by omega), fun c => ?_⟩) | (refine ⟨fun c => ?_, fun c => False.elim (by omega)⟩) | (refine ⟨fun c => ?_, fun c => ?_⟩) | (intro c) | fail))
      exact hq
    | succ k ih =>
      intro i s hk hi0 hs0 hs1 hq
      have hsh := shl1 hi0 (by omega)
      have hb := set_b hs0 hs1 hi0 (by omega)
      have hz := zor0 hs0 hs1
      rw [foN_go (by omega)] at hq
      unfold stF at hq
      by_cases hc : sAl A i a ≤ hoA A a
      · rw [if_pos (decide_eq_true hc)] at hq
        have hc : okB A i i a = true := by rw [okB_1]; exact decide_eq_true hc
        refine Ex_step ?_; conv => whnf
        (repeat' (first | (refine ih _ _ (by omega) (by omega) (by omega) (by omega) hq) | (refine r_bears (by omega) hR hi0 (by omega) hi0 (by omega) ha0 ha1 (fun c => ?_) (fun c => absurd (c.symm.trans hc) Bool.false_ne_true)) | (refine ⟨⟨by omega, by omega, hsh⟩, ?_⟩; conv => whnf) | (refine Ex_step ?_; conv => whnf) | (refine ⟨?_, trivial⟩) | (refine (show den _ _ _ _ _ _ _ _ from ?_); conv => whnf) | (refine ⟨by (first | assumption | rfl | (exact Nat.le_of_ble_eq_true rfl) | (exact ⟨fun h01 => absurd h01 (by decide), by first | rfl | assumption | trivial⟩) | (exact ⟨fun _ => by decide, by first | rfl | assumption | trivial⟩) | (exact ⟨kt, by omega, Int.lt_of_lt_of_le (by omega : _ < (3198 : Int)) (Int.le_of_eq lt.symm)⟩) | (unfold inI; omega) | omega), ?_⟩; conv => whnf; try simp (disch := omega) only [r0, gR_sG, g_same, g_ne, eA]) | (refine ⟨fun c => False.elim (by omega), fun c => ?_⟩) | (refine ⟨fun c => ?_, fun c => False.elim (by omega)⟩) | (refine ⟨fun c => ?_, fun c => ?_⟩) | (intro c) | fail))
      · rw [if_neg (fun q => hc (of_decide_eq_true q))] at hq
        have hc : ¬ okB A i i a = true := by rw [okB_1]; exact fun q => hc (of_decide_eq_true q)
        refine Ex_step ?_; conv => whnf
        (repeat' (first | (rw [hz]; refine ih _ _ (by omega) (by omega) (by omega) (by omega) hq) | (refine r_bears (by omega) hR hi0 (by omega) hi0 (by omega) ha0 ha1 (fun c => absurd c hc) (fun c => ?_)) | (refine Ex_step ?_; conv => whnf) | (refine ⟨?_, trivial⟩) | (refine (show den _ _ _ _ _ _ _ _ from ?_); conv => whnf) | (refine ⟨by (first | assumption | rfl | (exact Nat.le_of_ble_eq_true rfl) | (exact ⟨fun h01 => absurd h01 (by decide), by first | rfl | assumption | trivial⟩) | (exact ⟨fun _ => by decide, by first | rfl | assumption | trivial⟩) | (exact ⟨kt, by omega, Int.lt_of_lt_of_le (by omega : _ < (3198 : Int)) (Int.le_of_eq lt.symm)⟩) | (unfold inI; omega) | omega), ?_⟩; conv => whnf; try simp (disch := omega) only [r0, gR_sG, g_same, g_ne, eA]) | (refine ⟨fun c => False.elim (by omega), fun c => ?_⟩) | (refine ⟨fun c => ?_, fun c => False.elim (by omega)⟩) | (refine ⟨fun c => ?_, fun c => ?_⟩) | (intro c) | fail))
  refine Ex_step ?_; conv => whnf
  refine ⟨?_, trivial⟩
  exact loop _ 0 0 rfl (by omega) (by omega) (by omega) hq
set_option maxHeartbeats 4000000 in
theorem r_areOver {X : Int → Int} {XL : Int} {d : Nat} {h : Mem} {Q : RetP} {K : Int} {A : Int → Int} (hd : 4 ≤ d) (hR : Rr K h A) (hq : Q (some (vI (ovA A))) h) : WP X XL d 257 [vR 127] h Q := by
  obtain ⟨⟨kq, r0, kt, lt⟩, eA, ⟨b0, b1, b2, b3, b4, b5, b6, b8, bK, ba, bp, bq⟩⟩ := id hR
  refine eX10_areOver (by omega) ?_
  have loop : ∀ (k : Nat) (i s : Int), (A 1 - i).toNat = k → 0 ≤ i → 0 ≤ s → s < 1024 → Q (some (vI (foN (A 1) (stF (fun p => decide (A 0 ≤ pA A p 3))) i s))) h → Ex (WP X XL (d - 1)) KX10_areOver h.1 Q 4 [some (vR 127), some (vI s), some (vI i)] [] h := by
    intro k; induction k with
    | zero =>
      intro i s hk hi0 hs0 hs1 hq
      rw [foN_end (by omega)] at hq
      (repeat' (first | (refine Ex_step ?_; conv => whnf) | (refine ⟨?_, trivial⟩) | (refine (show den _ _ _ _ _ _ _ _ from ?_); conv => whnf) | (refine ⟨by (first | assumption | rfl | (exact Nat.le_of_ble_eq_true rfl) | (exact ⟨fun h01 => absurd h01 (by decide), by first | rfl | assumption | trivial⟩) | (exact ⟨fun _ => by decide, by first | rfl | assumption | trivial⟩) | (exact ⟨kt, by omega, Int.lt_of_lt_of_le (by omega : _ < (3198 : Int)) (Int.le_of_eq lt.symm)⟩) | (unfold inI; omega) | omega), ?_⟩; conv => whnf; try simp (disch := omega) only [r0, gR_sG, g_same, g_ne, eA]) | (refine ⟨fun c => False.elim (by omega), fun c => ?_⟩) | (refine ⟨fun c => ?_, fun c => False.elim (by omega)⟩) | (refine ⟨fun c => ?_, fun c => ?_⟩) | (intro c) | fail))
      exact hq
    | succ k ih =>
      intro i s hk hi0 hs0 hs1 hq
      have hsh := shl1 hi0 (by omega)
      have hb := set_b hs0 hs1 hi0 (by omega)
      have hz := zor0 hs0 hs1
      rw [foN_go (by omega)] at hq
      unfold stF at hq
      by_cases hc : A 0 ≤ pA A i 3
      · rw [if_pos (decide_eq_true hc)] at hq
        refine Ex_step ?_; conv => whnf
        (repeat' (first | (refine ih _ _ (by omega) (by omega) (by omega) (by omega) hq) | (refine r_isOver (by omega) hR hi0 (by omega) (fun c => ?_) (fun c => False.elim (by omega))) | (refine ⟨⟨by omega, by omega, hsh⟩, ?_⟩; conv => whnf) | (refine Ex_step ?_; conv => whnf) | (refine ⟨?_, trivial⟩) | (refine (show den _ _ _ _ _ _ _ _ from ?_); conv => whnf) | (refine ⟨by (first | assumption | rfl | (exact Nat.le_of_ble_eq_true rfl) | (exact ⟨fun h01 => absurd h01 (by decide), by first | rfl | assumption | trivial⟩) | (exact ⟨fun _ => by decide, by first | rfl | assumption | trivial⟩) | (exact ⟨kt, by omega, Int.lt_of_lt_of_le (by omega : _ < (3198 : Int)) (Int.le_of_eq lt.symm)⟩) | (unfold inI; omega) | omega), ?_⟩; conv => whnf; try simp (disch := omega) only [r0, gR_sG, g_same, g_ne, eA]) | (refine ⟨fun c => False.elim (by omega), fun c => ?_⟩) | (refine ⟨fun c => ?_, fun c => False.elim (by omega)⟩) | (refine ⟨fun c => ?_, fun c => ?_⟩) | (intro c) | fail))
      · rw [if_neg (fun q => hc (of_decide_eq_true q))] at hq
        refine Ex_step ?_; conv => whnf
        (repeat' (first | (rw [hz]; refine ih _ _ (by omega) (by omega) (by omega) (by omega) hq) | (refine r_isOver (by omega) hR hi0 (by omega) (fun c => False.elim (by omega)) (fun c => ?_)) | (refine Ex_step ?_; conv => whnf) | (refine ⟨?_, trivial⟩) | (refine (show den _ _ _ _ _ _ _ _ from ?_); conv => whnf) | (refine ⟨by (first | assumption | rfl | (exact Nat.le_of_ble_eq_true rfl) | (exact ⟨fun h01 => absurd h01 (by decide), by first | rfl | assumption | trivial⟩) | (exact ⟨fun _ => by decide, by first | rfl | assumption | trivial⟩) | (exact ⟨kt, by omega, Int.lt_of_lt_of_le (by omega : _ < (3198 : Int)) (Int.le_of_eq lt.symm)⟩) | (unfold inI; omega) | omega), ?_⟩; conv => whnf; try simp (disch := omega) only [r0, gR_sG, g_same, g_ne, eA]) | (refine ⟨fun c => False.elim (by omega), fun c => ?_⟩) | (refine ⟨fun c => ?_, fun c => False.elim (by omega)⟩) | (refine ⟨fun c => ?_, fun c => ?_⟩) | (intro c) | fail))
  refine Ex_step ?_; conv => whnf
  refine ⟨?_, trivial⟩
  exact loop _ 0 0 rfl (by omega) (by omega) (by omega) hq
theorem pA_b {K : Int} {A : Int → Int} (hA : AOk K A) {p w : Int} (hp0 : 0 ≤ p) (hp1 : p < A 1) (hw : 0 ≤ w ∧ w ≤ 5) : 0 ≤ pA A p w ∧ pA A p w ≤ K + 40 := by
  obtain ⟨b0, b1, b2, b3, b4, b5, b6, b8, bK, ba, bp, bq⟩ := hA
  obtain ⟨f0, f1, f2, f3, f4, f5⟩ := bp p hp0 hp1
  rcases (show w = 0 ∨ w = 1 ∨ w = 2 ∨ w = 3 ∨ w = 4 ∨ w = 5 by omega) with rfl | rfl | rfl | rfl | rfl | rfl <;> omega
set_option maxHeartbeats 4000000 in
theorem r_together {X : Int → Int} {XL : Int} {d : Nat} {h : Mem} {Q : RetP} {K : Int} {A : Int → Int} {w : Int} (hd : 3 ≤ d) (hR : Rr K h A) (hw : 0 ≤ w ∧ w ≤ 5) (hq : Q (some (vI (totA A w))) h) : WP X XL d 259 [vR 127, vI w] h Q := by
  obtain ⟨⟨kq, r0, kt, lt⟩, eA, ⟨b0, b1, b2, b3, b4, b5, b6, b8, bK, ba, bp, bq⟩⟩ := id hR
  refine eX10_together (by omega) ?_
  have loop : ∀ (k : Nat) (i s : Int), (A 1 - i).toNat = k → 0 ≤ i → 0 ≤ s → s ≤ 30000040 * i → Q (some (vI (foN (A 1) (fun p s => s + pA A p w) i s))) h → Ex (WP X XL (d - 1)) KX10_together h.1 Q 4 [some (vR 127), some (vI w), some (vI s), some (vI i)] [] h := by
    intro k; induction k with
    | zero =>
      intro i s hk hi0 hs0 hs1 hq
      rw [foN_end (by omega)] at hq
      (repeat' (first | (refine Ex_step ?_; conv => whnf) | (refine ⟨?_, trivial⟩) | (refine (show den _ _ _ _ _ _ _ _ from ?_); conv => whnf) | (refine ⟨by (first | assumption | rfl | (exact Nat.le_of_ble_eq_true rfl) | (exact ⟨fun h01 => absurd h01 (by decide), by first | rfl | assumption | trivial⟩) | (exact ⟨fun _ => by decide, by first | rfl | assumption | trivial⟩) | (exact ⟨kt, by omega, Int.lt_of_lt_of_le (by omega : _ < (3198 : Int)) (Int.le_of_eq lt.symm)⟩) | (unfold inI; omega) | omega), ?_⟩; conv => whnf; try simp (disch := omega) only [r0, gR_sG, g_same, g_ne, eA]) | (refine ⟨fun c => False.elim (by omega), fun c => ?_⟩) | (refine ⟨fun c => ?_, fun c => False.elim (by omega)⟩) | (refine ⟨fun c => ?_, fun c => ?_⟩) | (intro c) | fail))
      exact hq
    | succ k ih =>
      intro i s hk hi0 hs0 hs1 hq
      have hb := pA_b hR.2.2 hi0 (show i < A 1 by omega) hw
      rw [foN_go (by omega)] at hq
      refine Ex_step ?_; conv => whnf
      (repeat' (first | (refine ih _ _ (by omega) (by omega) (by omega) (by omega) hq) | (refine r_personOf (by omega) hR (by omega) (by omega) ?_) | (refine Ex_step ?_; conv => whnf) | (refine ⟨?_, trivial⟩) | (refine (show den _ _ _ _ _ _ _ _ from ?_); conv => whnf) | (refine ⟨by (first | assumption | rfl | (exact Nat.le_of_ble_eq_true rfl) | (exact ⟨fun h01 => absurd h01 (by decide), by first | rfl | assumption | trivial⟩) | (exact ⟨fun _ => by decide, by first | rfl | assumption | trivial⟩) | (exact ⟨kt, by omega, Int.lt_of_lt_of_le (by omega : _ < (3198 : Int)) (Int.le_of_eq lt.symm)⟩) | (unfold inI; omega) | omega), ?_⟩; conv => whnf; try simp (disch := omega) only [r0, gR_sG, g_same, g_ne, eA]) | (refine ⟨fun c => False.elim (by omega), fun c => ?_⟩) | (refine ⟨fun c => ?_, fun c => False.elim (by omega)⟩) | (refine ⟨fun c => ?_, fun c => ?_⟩) | (intro c) | fail))
  refine Ex_step ?_; conv => whnf
  refine ⟨?_, trivial⟩
  exact loop _ 0 0 rfl (by omega) (by omega) (by omega) hq
set_option maxHeartbeats 4000000 in
theorem r_allTolls {X : Int → Int} {XL : Int} {d : Nat} {h : Mem} {Q : RetP} {K : Int} {A : Int → Int} (hd : 3 ≤ d) (hR : Rr K h A) (hq : Q (some (vI (tlS A 0 (A 0)))) h) : WP X XL d 305 [vR 127] h Q := by
  obtain ⟨⟨kq, r0, kt, lt⟩, eA, ⟨b0, b1, b2, b3, b4, b5, b6, b8, bK, ba, bp, bq⟩⟩ := id hR
  refine eX10_allTolls (by omega) ?_
  have loop : ∀ (k : Nat) (i s : Int), (A 0 - i).toNat = k → 0 ≤ i → 0 ≤ s → s ≤ 9 * i → Q (some (vI (foN (A 0) (fun a s => s + toA A a) i s))) h → Ex (WP X XL (d - 1)) KX10_allTolls h.1 Q 4 [some (vR 127), some (vI s), some (vI i)] [] h := by
    intro k; induction k with
    | zero =>
      intro i s hk hi0 hs0 hs1 hq
      rw [foN_end (by omega)] at hq
      (repeat' (first | (refine Ex_step ?_; conv => whnf) | (refine ⟨?_, trivial⟩) | (refine (show den _ _ _ _ _ _ _ _ from ?_); conv => whnf) | (refine ⟨by (first | assumption | rfl | (exact Nat.le_of_ble_eq_true rfl) | (exact ⟨fun h01 => absurd h01 (by decide), by first | rfl | assumption | trivial⟩) | (exact ⟨fun _ => by decide, by first | rfl | assumption | trivial⟩) | (exact ⟨kt, by omega, Int.lt_of_lt_of_le (by omega : _ < (3198 : Int)) (Int.le_of_eq lt.symm)⟩) | (unfold inI; omega) | omega), ?_⟩; conv => whnf; try simp (disch := omega) only [r0, gR_sG, g_same, g_ne, eA]) | (refine ⟨fun c => False.elim (by omega), fun c => ?_⟩) | (refine ⟨fun c => ?_, fun c => False.elim (by omega)⟩) | (refine ⟨fun c => ?_, fun c => ?_⟩) | (intro c) | fail))
      exact hq
    | succ k ih =>
      intro i s hk hi0 hs0 hs1 hq
      have hb := ba i hi0 (show i < A 0 by omega)
      rw [foN_go (by omega)] at hq
      refine Ex_step ?_; conv => whnf
      (repeat' (first | (refine ih _ _ (by omega) (by omega) (by omega) (by omega) hq) | (refine r_to (by omega) hR (by omega) ?_) | (refine Ex_step ?_; conv => whnf) | (refine ⟨?_, trivial⟩) | (refine (show den _ _ _ _ _ _ _ _ from ?_); conv => whnf) | (refine ⟨by (first | assumption | rfl | (exact Nat.le_of_ble_eq_true rfl) | (exact ⟨fun h01 => absurd h01 (by decide), by first | rfl | assumption | trivial⟩) | (exact ⟨fun _ => by decide, by first | rfl | assumption | trivial⟩) | (exact ⟨kt, by omega, Int.lt_of_lt_of_le (by omega : _ < (3198 : Int)) (Int.le_of_eq lt.symm)⟩) | (unfold inI; omega) | omega), ?_⟩; conv => whnf; try simp (disch := omega) only [r0, gR_sG, g_same, g_ne, eA]) | (refine ⟨fun c => False.elim (by omega), fun c => ?_⟩) | (refine ⟨fun c => ?_, fun c => False.elim (by omega)⟩) | (refine ⟨fun c => ?_, fun c => ?_⟩) | (intro c) | fail))
  refine Ex_step ?_; conv => whnf
  refine ⟨?_, trivial⟩
  exact loop _ 0 0 rfl (by omega) (by omega) (by omega) hq
