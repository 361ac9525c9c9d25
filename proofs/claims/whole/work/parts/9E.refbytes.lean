/-! LEVEL 2: texts: bytes of the reference -/
/-- the reference's text: n bytes P -/
def TxQ (h : Mem) (P : Int → Int) (n : Int) : Prop := (kd h 127 = 10 ∧ gR h 127 9 = 134 ∧ kd h 134 = 102 ∧ ln h 134 = 900) ∧ gG h 127 11 = n ∧ (0 ≤ n ∧ n ≤ 900) ∧ ∀ i, 0 ≤ i → i < n → gG h 134 i = P i ∧ -128 ≤ P i ∧ P i ≤ 127
def ub (c : Int) : Int := if c < 0 then c + 256 else c
theorem ub_tab : ∀ k : Nat, k < 256 → zand ((k : Int) - 128) 255 = ub ((k : Int) - 128) := by decide +kernel
theorem ub_z {c : Int} (h0 : -128 ≤ c) (h1 : c ≤ 127) : zand c 255 = ub c := by
  have := ub_tab (c + 128).toNat (by omega)
  rw [show (((c + 128).toNat : Nat) : Int) - 128 = c by omega] at this
  exact this
theorem ub_c {c : Int} (h0 : -128 ≤ c) (h1 : c ≤ 127) : (0 ≤ c ∧ ub c = c) ∨ (c < 0 ∧ 128 ≤ ub c ∧ ub c ≤ 255) := by unfold ub; split <;> omega
/-- the byte at a place; -1 behind the text -/
def byB (P : Int → Int) (n k : Int) : Int := if k < n then ub (P k) else -1
set_option maxHeartbeats 4000000 in
theorem r_byteAt {X : Int → Int} {XL : Int} {d : Nat} {h : Mem} {Q : RetP} {P : Int → Int} {n k : Int} (hd : 1 ≤ d) (hM : TxQ h P n) (hk : 0 ≤ k) (hq : Q (some (vI (byB P n k))) h) : WP X XL d 211 [vR 127, vI k] h Q := by
  obtain ⟨⟨kq, r9, k134, l134⟩, e11, hn, hP⟩ := id hM
  unfold byB at hq
  refine eX10_byteAt (by omega) ?_
  by_cases c : k < n
  · rw [if_pos c] at hq
    obtain ⟨p1, p2, p3⟩ := hP k hk c
    have pz := ub_z p2 p3
    (repeat' (first | (exact hq) | (rw [e11]) | (rw [r9]) | (rw [p1]) | (rw [pz]) | (refine ⟨⟨k134, by omega, Int.lt_of_lt_of_le (by omega : _ < (900 : Int)) (Int.le_of_eq l134.symm)⟩, ?_⟩; conv => whnf) | (refine Ex_step ?_; conv => whnf) | (refine ⟨?_, trivial⟩) | (refine (show den _ _ _ _ _ _ _ _ from ?_); conv => whnf) | (refine ⟨fun c => False.elim (by omega), fun c => ?_⟩) | (refine ⟨fun c => ?_, fun c => False.elim (by omega)⟩) | (refine ⟨by (first | assumption | rfl | (exact Nat.le_of_ble_eq_true rfl) | (exact ⟨fun h01 => absurd h01 (by decide), by first | rfl | assumption⟩) | (exact ⟨fun _ => by decide, by first | rfl | assumption⟩) | (exact ⟨by assumption, by omega, by omega⟩) | (unfold inI; omega) | omega), ?_⟩; conv => whnf) | (refine ⟨fun c => ?_, fun c => ?_⟩) | (intro c) | fail))
  · rw [if_neg c] at hq
    (repeat' (first | (exact hq) | (rw [e11]) | (refine Ex_step ?_; conv => whnf) | (refine ⟨?_, trivial⟩) | (refine (show den _ _ _ _ _ _ _ _ from ?_); conv => whnf) | (refine ⟨fun c => False.elim (by omega), fun c => ?_⟩) | (refine ⟨fun c => ?_, fun c => False.elim (by omega)⟩) | (refine ⟨by (first | assumption | rfl | (exact Nat.le_of_ble_eq_true rfl) | (exact ⟨fun h01 => absurd h01 (by decide), by first | rfl | assumption⟩) | (exact ⟨fun _ => by decide, by first | rfl | assumption⟩) | (exact ⟨by assumption, by omega, by omega⟩) | (unfold inI; omega) | omega), ?_⟩; conv => whnf) | (refine ⟨fun c => ?_, fun c => ?_⟩) | (intro c) | fail))
set_option maxHeartbeats 4000000 in
theorem r_isSmall {X : Int → Int} {XL : Int} {d : Nat} {h : Mem} {Q : RetP} {c : Int} (hd : 1 ≤ d) (hq1 : 97 ≤ c ∧ c ≤ 122 → Q (some (vI 1)) h) (hq0 : ¬ (97 ≤ c ∧ c ≤ 122) → Q (some (vI 0)) h) : WP X XL d 212 [vI c] h Q := by
  refine eX10_isSmall hd ?_
  (repeat' (first | (refine Ex_step ?_; conv => whnf) | (refine ⟨?_, trivial⟩) | (refine (show den _ _ _ _ _ _ _ _ from ?_); conv => whnf) | (refine ⟨fun c => False.elim (by omega), fun c => ?_⟩) | (refine ⟨fun c => ?_, fun c => False.elim (by omega)⟩) | (refine ⟨by (first | assumption | rfl | (exact Nat.le_of_ble_eq_true rfl) | (exact ⟨fun h01 => absurd h01 (by decide), by first | rfl | assumption⟩) | (exact ⟨fun _ => by decide, by first | rfl | assumption⟩) | (exact ⟨by assumption, by omega, by omega⟩) | (unfold inI; omega) | omega), ?_⟩; conv => whnf) | (refine ⟨fun c => ?_, fun c => ?_⟩) | (intro c) | fail)) <;> (first | (exact hq1 (by omega)) | (exact hq0 (by omega)))
set_option maxHeartbeats 4000000 in
theorem r_isDigit {X : Int → Int} {XL : Int} {d : Nat} {h : Mem} {Q : RetP} {c : Int} (hd : 1 ≤ d) (hq1 : 48 ≤ c ∧ c ≤ 57 → Q (some (vI 1)) h) (hq0 : ¬ (48 ≤ c ∧ c ≤ 57) → Q (some (vI 0)) h) : WP X XL d 213 [vI c] h Q := by
  refine eX10_isDigit hd ?_
  (repeat' (first | (refine Ex_step ?_; conv => whnf) | (refine ⟨?_, trivial⟩) | (refine (show den _ _ _ _ _ _ _ _ from ?_); conv => whnf) | (refine ⟨fun c => False.elim (by omega), fun c => ?_⟩) | (refine ⟨fun c => ?_, fun c => False.elim (by omega)⟩) | (refine ⟨by (first | assumption | rfl | (exact Nat.le_of_ble_eq_true rfl) | (exact ⟨fun h01 => absurd h01 (by decide), by first | rfl | assumption⟩) | (exact ⟨fun _ => by decide, by first | rfl | assumption⟩) | (exact ⟨by assumption, by omega, by omega⟩) | (unfold inI; omega) | omega), ?_⟩; conv => whnf) | (refine ⟨fun c => ?_, fun c => ?_⟩) | (intro c) | fail)) <;> (first | (exact hq1 (by omega)) | (exact hq0 (by omega)))
