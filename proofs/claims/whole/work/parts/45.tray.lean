/-! LEVEL 2: trays -/
def cutZ (s v : Int) : Int := if s = 0 then zb (l2iZ v) else if s = 1 then zs (l2iZ v) else if s = 2 then l2iZ v else v
theorem cutZ_0 {s v : Int} (h : s = 0) : cutZ s v = zb (l2iZ v) := if_pos h
theorem cutZ_1 {s v : Int} (h : s = 1) : cutZ s v = zs (l2iZ v) := by unfold cutZ; rw [if_neg (by omega), if_pos h]
theorem cutZ_2 {s v : Int} (h : s = 2) : cutZ s v = l2iZ v := by unfold cutZ; rw [if_neg (by omega), if_neg (by omega), if_pos h]
theorem cutZ_3 {s v : Int} (h0 : ¬ s = 0) (h1 : ¬ s = 1) (h2 : ¬ s = 2) : cutZ s v = v := by unfold cutZ; rw [if_neg h0, if_neg h1, if_neg h2]
theorem ladZ_e {a b : Int} (ha : inI a) (hb : inI b) : ladZ a b = a + b := by
  have h1 := ha.1
  have h2 := ha.2
  have h3 := hb.1
  have h4 := hb.2
  unfold ladZ
  rw [← Int64.ofInt_add]
  exact i64_to ⟨by omega, by omega⟩
set_option maxHeartbeats 4000000 in
theorem w_tMissing {X : Int → Int} {XL : Int} {d : Nat} {h : Mem} {Q : RetP} {t : Nat} (hd : 1 ≤ d) (kt : kd h t = 6) (hq1 : gG h t 2 = -1 → Q (some (vI 1)) h) (hq0 : ¬ gG h t 2 = -1 → Q (some (vI 0)) h) : WP X XL d 1 [vR t] h Q := by
  refine eX6_isMissing hd ?_
  (repeat' (first | (refine Ex_step ?_; conv => whnf) | (refine ⟨?_, trivial⟩) | (refine (show den _ _ _ _ _ _ _ _ from ?_); conv => whnf) | (refine ⟨by (first | assumption | rfl | (exact Nat.le_of_ble_eq_true rfl) | (exact ⟨fun h01 => absurd h01 (by decide), by first | rfl | assumption⟩) | (exact ⟨fun _ => by decide, by first | rfl | assumption⟩) | (exact ⟨by assumption, by omega, by omega⟩) | (unfold inI; omega) | omega), ?_⟩; conv => whnf) | (refine ⟨fun c => False.elim (by omega), fun c => ?_⟩) | (refine ⟨fun c => ?_, fun c => False.elim (by omega)⟩) | (refine ⟨fun c => ?_, fun c => ?_⟩) | (intro c) | fail)) <;> (first | (exact hq1 (by omega)) | (exact hq0 (by omega)))
set_option maxHeartbeats 4000000 in
theorem w_tPlace {X : Int → Int} {XL : Int} {d : Nat} {h : Mem} {Q : RetP} {t : Nat} {a : Int} (hd : 1 ≤ d) (kt : kd h t = 6) (hq1 : 0 ≤ a ∧ a < gG h t 2 → Q (some (vI 1)) h) (hq0 : ¬ (0 ≤ a ∧ a < gG h t 2) → Q (some (vI 0)) h) : WP X XL d 2 [vR t, vI a] h Q := by
  refine eX6_hasPlace hd ?_
  (repeat' (first | (refine Ex_step ?_; conv => whnf) | (refine ⟨?_, trivial⟩) | (refine (show den _ _ _ _ _ _ _ _ from ?_); conv => whnf) | (refine ⟨by (first | assumption | rfl | (exact Nat.le_of_ble_eq_true rfl) | (exact ⟨fun h01 => absurd h01 (by decide), by first | rfl | assumption⟩) | (exact ⟨fun _ => by decide, by first | rfl | assumption⟩) | (exact ⟨by assumption, by omega, by omega⟩) | (unfold inI; omega) | omega), ?_⟩; conv => whnf) | (refine ⟨fun c => False.elim (by omega), fun c => ?_⟩) | (refine ⟨fun c => ?_, fun c => False.elim (by omega)⟩) | (refine ⟨fun c => ?_, fun c => ?_⟩) | (intro c) | fail)) <;> (first | (exact hq1 (by omega)) | (exact hq0 (by omega)))
set_option maxHeartbeats 4000000 in
theorem w_tRow {X : Int → Int} {XL : Int} {d : Nat} {h : Mem} {Q : RetP} {t : Nat} {a b : Int} (hd : 1 ≤ d) (kt : kd h t = 6) (ia : inI a) (ib : inI b) (hq1 : 0 ≤ a ∧ 0 ≤ b ∧ a + b ≤ gG h t 2 → Q (some (vI 1)) h) (hq0 : ¬ (0 ≤ a ∧ 0 ≤ b ∧ a + b ≤ gG h t 2) → Q (some (vI 0)) h) : WP X XL d 3 [vR t, vI a, vI b] h Q := by
  have c1 := cmpZ_s (ladZ a b) (gG h t 2)
  rw [ladZ_e ia ib] at c1
  refine eX6_hasRow hd ?_
  (repeat' (first | (rw [ladZ_e ia ib]) | (refine Ex_step ?_; conv => whnf) | (refine ⟨?_, trivial⟩) | (refine (show den _ _ _ _ _ _ _ _ from ?_); conv => whnf) | (refine ⟨by (first | assumption | rfl | (exact Nat.le_of_ble_eq_true rfl) | (exact ⟨fun h01 => absurd h01 (by decide), by first | rfl | assumption⟩) | (exact ⟨fun _ => by decide, by first | rfl | assumption⟩) | (exact ⟨by assumption, by omega, by omega⟩) | (unfold inI; omega) | omega), ?_⟩; conv => whnf) | (refine ⟨fun c => False.elim (by omega), fun c => ?_⟩) | (refine ⟨fun c => ?_, fun c => False.elim (by omega)⟩) | (refine ⟨fun c => ?_, fun c => ?_⟩) | (intro c) | fail)) <;> (first | (exact hq1 (by omega)) | (exact hq0 (by omega)))
set_option maxHeartbeats 4000000 in
theorem w_tCut {X : Int → Int} {XL : Int} {d : Nat} {h : Mem} {Q : RetP} {t : Nat} {z : Int} (hd : 1 ≤ d) (kt : kd h t = 6) (hq : Q (some (vL (cutZ (gG h t 1) z))) h) : WP X XL d 6 [vR t, vL z] h Q := by
  refine eX6_cut hd ?_
  (repeat' (first | (refine Ex_step ?_; conv => whnf) | (refine ⟨?_, trivial⟩) | (refine (show den _ _ _ _ _ _ _ _ from ?_); conv => whnf) | (refine ⟨by (first | assumption | rfl | (exact Nat.le_of_ble_eq_true rfl) | (exact ⟨fun h01 => absurd h01 (by decide), by first | rfl | assumption⟩) | (exact ⟨fun _ => by decide, by first | rfl | assumption⟩) | (exact ⟨by assumption, by omega, by omega⟩) | (unfold inI; omega) | omega), ?_⟩; conv => whnf) | (refine ⟨fun c => False.elim (by omega), fun c => ?_⟩) | (refine ⟨fun c => ?_, fun c => False.elim (by omega)⟩) | (refine ⟨fun c => ?_, fun c => ?_⟩) | (intro c) | fail))
  · rw [cutZ_0 (by assumption)] at hq; exact hq
  · rw [cutZ_1 (by assumption)] at hq; exact hq
  · rw [cutZ_2 (by assumption)] at hq; exact hq
  · rw [cutZ_3 (by assumption) (by assumption) (by assumption)] at hq; exact hq
set_option maxHeartbeats 4000000 in
theorem r_cut {X : Int → Int} {XL : Int} {d : Nat} {h : Mem} {Q : RetP} {z s : Int} (hd : 1 ≤ d) (hq : Q (some (vL (cutZ s z))) h) : WP X XL d 202 [vL z, vI s] h Q := by
  refine eX10_cut hd ?_
  (repeat' (first | (refine Ex_step ?_; conv => whnf) | (refine ⟨?_, trivial⟩) | (refine (show den _ _ _ _ _ _ _ _ from ?_); conv => whnf) | (refine ⟨by (first | assumption | rfl | (exact Nat.le_of_ble_eq_true rfl) | (exact ⟨fun h01 => absurd h01 (by decide), by first | rfl | assumption⟩) | (exact ⟨fun _ => by decide, by first | rfl | assumption⟩) | (exact ⟨by assumption, by omega, by omega⟩) | (unfold inI; omega) | omega), ?_⟩; conv => whnf) | (refine ⟨fun c => False.elim (by omega), fun c => ?_⟩) | (refine ⟨fun c => ?_, fun c => False.elim (by omega)⟩) | (refine ⟨fun c => ?_, fun c => ?_⟩) | (intro c) | fail))
  all_goals first | (rw [cutZ_0 (by omega)] at hq; exact hq) | (rw [cutZ_1 (by omega)] at hq; exact hq) | (rw [cutZ_2 (by omega)] at hq; exact hq) | (rw [cutZ_3 (by omega) (by omega) (by omega)] at hq; exact hq)
set_option maxHeartbeats 4000000 in
theorem w_tPut {X : Int → Int} {XL : Int} {d : Nat} {h : Mem} {Q : RetP} {t n : Nat} {a z : Int} (hd : 2 ≤ d) (kt : kd h t = 6) (rn : gR h t 0 = n) (kn : kd h n = 101) (ln60 : ln h n = 60) (ha0 : 0 ≤ a) (ha1 : a < gG h t 2) (ha2 : a < 60) (hq : Q none (sG h n a (cutZ (gG h t 1) z))) : WP X XL d 5 [vR t, vI a, vL z] h Q := by
  refine eX6_put (by omega) ?_
  subst rn
  (repeat' (first | (refine w_tPlace (by omega) kt (fun c => ?_) (fun c => False.elim (by omega))) | (refine w_tCut (by omega) kt ?_) | (refine Ex_step ?_; conv => whnf) | (refine ⟨?_, trivial⟩) | (refine (show den _ _ _ _ _ _ _ _ from ?_); conv => whnf) | (refine ⟨by (first | assumption | rfl | (exact Nat.le_of_ble_eq_true rfl) | (exact ⟨fun h01 => absurd h01 (by decide), by first | rfl | assumption⟩) | (exact ⟨fun _ => by decide, by first | rfl | assumption⟩) | (exact ⟨by assumption, by omega, by omega⟩) | (unfold inI; omega) | omega), ?_⟩; conv => whnf) | (refine ⟨fun c => False.elim (by omega), fun c => ?_⟩) | (refine ⟨fun c => ?_, fun c => False.elim (by omega)⟩) | (refine ⟨fun c => ?_, fun c => ?_⟩) | (intro c) | fail))
  exact hq
set_option maxHeartbeats 4000000 in
theorem w_fill {X : Int → Int} {XL : Int} {d : Nat} {h : Mem} {Q : RetP} {n : Nat} {z : Int} (hd : 1 ≤ d) (kn : kd h n = 101) (hl : ln h n = 60) (hq : ∀ h', Fr (fun r => r = n) h h' → (∀ i, 0 ≤ i → i < 60 → gG h' n i = z) → Q none h') : WP X XL d 352 [vR n, vL z] h Q := by
  have loop : ∀ (k : Nat) (i : Int) (h' : Mem), (60 - i).toNat = k → 0 ≤ i → i ≤ 60 → Fr (fun r => r = n) h h' → (∀ j, 0 ≤ j → j < i → gG h' n j = z) → Ex (WP X XL (d - 1)) KJ7_fill_d0a16 h.1 Q 6 [some (vR n), some (vL z), none, some (vI i), some (vI 60)] [] h' := by
    intro k; induction k with
    | zero =>
      intro i h' hk hi0 hi1 fr hz
      have hi : i = 60 := by omega
      subst hi
      have g1 := fr.1
      (repeat' (first | (refine Ex_step ?_; conv => whnf) | (refine ⟨?_, trivial⟩) | (refine (show den _ _ _ _ _ _ _ _ from ?_); conv => whnf) | (refine ⟨by (first | assumption | rfl | (exact Nat.le_of_ble_eq_true rfl) | (exact ⟨fun h01 => absurd h01 (by decide), by first | rfl | assumption⟩) | (exact ⟨fun _ => by decide, by first | rfl | assumption⟩) | (exact ⟨by assumption, by omega, by omega⟩) | (unfold inI; omega) | omega), ?_⟩; conv => whnf) | (refine ⟨fun c => False.elim (by omega), fun c => ?_⟩) | (refine ⟨fun c => ?_, fun c => False.elim (by omega)⟩) | (refine ⟨fun c => ?_, fun c => ?_⟩) | (intro c) | fail))
      exact hq _ fr hz
    | succ k ih =>
      intro i h' hk hi0 hi1 fr hz
      have kn' := (kd_fr fr n).trans kn
      have hl' := (ln_fr fr n).trans hl
      have ih2 := fun h'' => ih (i + 1) h'' (by omega) (by omega) (by omega)
      refine Ex_step ?_; conv => whnf
      (repeat' (first | (refine ih2 _ (fr.sG rfl) (fun j h0 h1 => ?_)) | (refine Ex_step ?_; conv => whnf) | (refine ⟨?_, trivial⟩) | (refine (show den _ _ _ _ _ _ _ _ from ?_); conv => whnf) | (refine ⟨by (first | assumption | rfl | (exact Nat.le_of_ble_eq_true rfl) | (exact ⟨fun h01 => absurd h01 (by decide), by first | rfl | assumption⟩) | (exact ⟨fun _ => by decide, by first | rfl | assumption⟩) | (exact ⟨by assumption, by omega, by omega⟩) | (unfold inI; omega) | omega), ?_⟩; conv => whnf) | (refine ⟨fun c => False.elim (by omega), fun c => ?_⟩) | (refine ⟨fun c => ?_, fun c => False.elim (by omega)⟩) | (refine ⟨fun c => ?_, fun c => ?_⟩) | (intro c) | fail))
      by_cases hj : j = i
      · rw [hj, g_same]
      · rw [g_ne (by omega)]; exact hz j h0 (by omega)
  refine eJ7_fill_d0a16 hd ?_
  refine Ex_step ?_; conv => whnf
  refine ⟨kn, ?_⟩
  conv => whnf
  refine ⟨?_, trivial⟩
  rw [hl]
  exact loop _ 0 h rfl (by omega) (by omega) Fr.refl (fun j h0 h1 => by omega)
set_option maxHeartbeats 4000000 in
theorem w_tLay {X : Int → Int} {XL : Int} {d : Nat} {h : Mem} {Q : RetP} {t n : Nat} {s m : Int} (hd : 2 ≤ d) (kt : kd h t = 6) (rn : gR h t 0 = n) (kn : kd h n = 101) (hl : ln h n = 60) (hne : ¬ t = n) (hq : ∀ h', Fr (fun r => r = n ∨ r = t) h h' → (∀ i, 0 ≤ i → i < 60 → gG h' n i = 0) → gG h' t 1 = s → gG h' t 2 = m → Q none h') : WP X XL d 4 [vR t, vI s, vI m] h Q := by
  refine eX6_lay (by omega) ?_
  (repeat' (first | (rw [rn]; refine w_fill (by omega) kn hl (fun h2 fr2 hz => ?_); have kt2 := (kd_fr fr2 t).trans kt; have g1 := fr2.1) | (refine Ex_step ?_; conv => whnf) | (refine ⟨?_, trivial⟩) | (refine (show den _ _ _ _ _ _ _ _ from ?_); conv => whnf) | (refine ⟨by (first | assumption | rfl | (exact Nat.le_of_ble_eq_true rfl) | (exact ⟨fun h01 => absurd h01 (by decide), by first | rfl | assumption⟩) | (exact ⟨fun _ => by decide, by first | rfl | assumption⟩) | (exact ⟨by assumption, by omega, by omega⟩) | (unfold inI; omega) | omega), ?_⟩; conv => whnf) | (refine ⟨fun c => False.elim (by omega), fun c => ?_⟩) | (refine ⟨fun c => ?_, fun c => False.elim (by omega)⟩) | (refine ⟨fun c => ?_, fun c => ?_⟩) | (intro c) | fail))
  have f3 : Fr (fun r => r = n ∨ r = t) h h2 := fr2.mono (fun r e => Or.inl e)
  refine hq _ ((f3.sG (Or.inr rfl)).sG (Or.inr rfl)) (fun i h0 h1 => ?_) ?_ ?_
  · rw [gG_sG, if_neg (by omega), gG_sG, if_neg (by omega)]; exact hz i h0 h1
  · rw [gG_sG, if_neg (by omega), g_same]
  · exact g_same
-- how calls end
set_option maxHeartbeats 4000000 in
theorem w_given {X : Int → Int} {XL : Int} {d : Nat} {h : Mem} {Q : RetP} {z : Int} (hd : 1 ≤ d) (k0 : kd h 0 = 9) (hq : Q (some (vI z)) (sG h 0 0 0)) : WP X XL d 174 [vR 0, vI z] h Q := by
  refine eX9_given hd ?_
  (repeat' (first | (refine Ex_step ?_; conv => whnf) | (refine ⟨?_, trivial⟩) | (refine (show den _ _ _ _ _ _ _ _ from ?_); conv => whnf) | (refine ⟨by (first | assumption | rfl | (exact Nat.le_of_ble_eq_true rfl) | (exact ⟨fun h01 => absurd h01 (by decide), by first | rfl | assumption⟩) | (exact ⟨fun _ => by decide, by first | rfl | assumption⟩) | (exact ⟨by assumption, by omega, by omega⟩) | (unfold inI; omega) | omega), ?_⟩; conv => whnf) | (refine ⟨fun c => False.elim (by omega), fun c => ?_⟩) | (refine ⟨fun c => ?_, fun c => False.elim (by omega)⟩) | (refine ⟨fun c => ?_, fun c => ?_⟩) | (intro c) | fail))
  exact hq
set_option maxHeartbeats 4000000 in
theorem w_none {X : Int → Int} {XL : Int} {d : Nat} {h : Mem} {Q : RetP} {z : Int} (hd : 1 ≤ d) (k0 : kd h 0 = 9) (hq : Q (some (vI (-1))) (sG h 0 0 z)) : WP X XL d 175 [vR 0, vI z] h Q := by
  refine eX9_none hd ?_
  (repeat' (first | (refine Ex_step ?_; conv => whnf) | (refine ⟨?_, trivial⟩) | (refine (show den _ _ _ _ _ _ _ _ from ?_); conv => whnf) | (refine ⟨by (first | assumption | rfl | (exact Nat.le_of_ble_eq_true rfl) | (exact ⟨fun h01 => absurd h01 (by decide), by first | rfl | assumption⟩) | (exact ⟨fun _ => by decide, by first | rfl | assumption⟩) | (exact ⟨by assumption, by omega, by omega⟩) | (unfold inI; omega) | omega), ?_⟩; conv => whnf) | (refine ⟨fun c => False.elim (by omega), fun c => ?_⟩) | (refine ⟨fun c => ?_, fun c => False.elim (by omega)⟩) | (refine ⟨fun c => ?_, fun c => ?_⟩) | (intro c) | fail))
  exact hq
set_option maxHeartbeats 4000000 in
theorem w_yes {X : Int → Int} {XL : Int} {d : Nat} {h : Mem} {Q : RetP} (hd : 1 ≤ d) (k0 : kd h 0 = 9) (hq : Q (some (vI 1)) (sG h 0 0 0)) : WP X XL d 178 [vR 0] h Q := by
  refine eX9_yes hd ?_
  (repeat' (first | (refine Ex_step ?_; conv => whnf) | (refine ⟨?_, trivial⟩) | (refine (show den _ _ _ _ _ _ _ _ from ?_); conv => whnf) | (refine ⟨by (first | assumption | rfl | (exact Nat.le_of_ble_eq_true rfl) | (exact ⟨fun h01 => absurd h01 (by decide), by first | rfl | assumption⟩) | (exact ⟨fun _ => by decide, by first | rfl | assumption⟩) | (exact ⟨by assumption, by omega, by omega⟩) | (unfold inI; omega) | omega), ?_⟩; conv => whnf) | (refine ⟨fun c => False.elim (by omega), fun c => ?_⟩) | (refine ⟨fun c => ?_, fun c => False.elim (by omega)⟩) | (refine ⟨fun c => ?_, fun c => ?_⟩) | (intro c) | fail))
  exact hq
set_option maxHeartbeats 4000000 in
theorem w_not {X : Int → Int} {XL : Int} {d : Nat} {h : Mem} {Q : RetP} {z : Int} (hd : 1 ≤ d) (k0 : kd h 0 = 9) (hq : Q (some (vI 0)) (sG h 0 0 z)) : WP X XL d 179 [vR 0, vI z] h Q := by
  refine eX9_not hd ?_
  (repeat' (first | (refine Ex_step ?_; conv => whnf) | (refine ⟨?_, trivial⟩) | (refine (show den _ _ _ _ _ _ _ _ from ?_); conv => whnf) | (refine ⟨by (first | assumption | rfl | (exact Nat.le_of_ble_eq_true rfl) | (exact ⟨fun h01 => absurd h01 (by decide), by first | rfl | assumption⟩) | (exact ⟨fun _ => by decide, by first | rfl | assumption⟩) | (exact ⟨by assumption, by omega, by omega⟩) | (unfold inI; omega) | omega), ?_⟩; conv => whnf) | (refine ⟨fun c => False.elim (by omega), fun c => ?_⟩) | (refine ⟨fun c => ?_, fun c => False.elim (by omega)⟩) | (refine ⟨fun c => ?_, fun c => ?_⟩) | (intro c) | fail))
  exact hq
set_option maxHeartbeats 4000000 in
theorem w_givenUnless {X : Int → Int} {XL : Int} {d : Nat} {h : Mem} {Q : RetP} {z s : Int} (hd : 2 ≤ d) (k0 : kd h 0 = 9) (hq1 : z = -1 → Q (some (vI (-1))) (sG h 0 0 s)) (hq0 : ¬ z = -1 → Q (some (vI z)) (sG h 0 0 0)) : WP X XL d 176 [vR 0, vI z, vI s] h Q := by
  refine eX9_givenUnless (by omega) ?_
  (repeat' (first | (refine w_given (by omega) k0 ?_) | (refine w_none (by omega) k0 ?_) | (refine Ex_step ?_; conv => whnf) | (refine ⟨?_, trivial⟩) | (refine (show den _ _ _ _ _ _ _ _ from ?_); conv => whnf) | (refine ⟨by (first | assumption | rfl | (exact Nat.le_of_ble_eq_true rfl) | (exact ⟨fun h01 => absurd h01 (by decide), by first | rfl | assumption⟩) | (exact ⟨fun _ => by decide, by first | rfl | assumption⟩) | (exact ⟨by assumption, by omega, by omega⟩) | (unfold inI; omega) | omega), ?_⟩; conv => whnf) | (refine ⟨fun c => False.elim (by omega), fun c => ?_⟩) | (refine ⟨fun c => ?_, fun c => False.elim (by omega)⟩) | (refine ⟨fun c => ?_, fun c => ?_⟩) | (intro c) | fail))
  all_goals first | (exact hq1 (by assumption)) | (exact hq0 (by assumption))
set_option maxHeartbeats 4000000 in
theorem r_gives {X : Int → Int} {XL : Int} {d : Nat} {h : Mem} {Q : RetP} {z : Int} (hd : 1 ≤ d) (k0 : kd h 127 = 10) (hq : Q (some (vI z)) (sG h 127 2 0)) : WP X XL d 198 [vR 127, vI z] h Q := by
  refine eX10_gives hd ?_
  (repeat' (first | (refine Ex_step ?_; conv => whnf) | (refine ⟨?_, trivial⟩) | (refine (show den _ _ _ _ _ _ _ _ from ?_); conv => whnf) | (refine ⟨by (first | assumption | rfl | (exact Nat.le_of_ble_eq_true rfl) | (exact ⟨fun h01 => absurd h01 (by decide), by first | rfl | assumption⟩) | (exact ⟨fun _ => by decide, by first | rfl | assumption⟩) | (exact ⟨by assumption, by omega, by omega⟩) | (unfold inI; omega) | omega), ?_⟩; conv => whnf) | (refine ⟨fun c => False.elim (by omega), fun c => ?_⟩) | (refine ⟨fun c => ?_, fun c => False.elim (by omega)⟩) | (refine ⟨fun c => ?_, fun c => ?_⟩) | (intro c) | fail))
  exact hq
set_option maxHeartbeats 4000000 in
theorem r_refuse {X : Int → Int} {XL : Int} {d : Nat} {h : Mem} {Q : RetP} {z : Int} (hd : 1 ≤ d) (k0 : kd h 127 = 10) (hq : Q (some (vI (-1))) (sG h 127 2 z)) : WP X XL d 197 [vR 127, vI z] h Q := by
  refine eX10_refuse hd ?_
  (repeat' (first | (refine Ex_step ?_; conv => whnf) | (refine ⟨?_, trivial⟩) | (refine (show den _ _ _ _ _ _ _ _ from ?_); conv => whnf) | (refine ⟨by (first | assumption | rfl | (exact Nat.le_of_ble_eq_true rfl) | (exact ⟨fun h01 => absurd h01 (by decide), by first | rfl | assumption⟩) | (exact ⟨fun _ => by decide, by first | rfl | assumption⟩) | (exact ⟨by assumption, by omega, by omega⟩) | (unfold inI; omega) | omega), ?_⟩; conv => whnf) | (refine ⟨fun c => False.elim (by omega), fun c => ?_⟩) | (refine ⟨fun c => ?_, fun c => False.elim (by omega)⟩) | (refine ⟨fun c => ?_, fun c => ?_⟩) | (intro c) | fail))
  exact hq
set_option maxHeartbeats 4000000 in
theorem r_is {X : Int → Int} {XL : Int} {d : Nat} {h : Mem} {Q : RetP} {z : Int} (hd : 1 ≤ d) (k0 : kd h 127 = 10) (hq1 : z = 0 → Q (some (vI 1)) (sG h 127 2 z)) (hq0 : ¬ z = 0 → Q (some (vI 0)) (sG h 127 2 z)) : WP X XL d 196 [vR 127, vI z] h Q := by
  refine eX10_is hd ?_
  (repeat' (first | (refine Ex_step ?_; conv => whnf) | (refine ⟨?_, trivial⟩) | (refine (show den _ _ _ _ _ _ _ _ from ?_); conv => whnf) | (refine ⟨by (first | assumption | rfl | (exact Nat.le_of_ble_eq_true rfl) | (exact ⟨fun h01 => absurd h01 (by decide), by first | rfl | assumption⟩) | (exact ⟨fun _ => by decide, by first | rfl | assumption⟩) | (exact ⟨by assumption, by omega, by omega⟩) | (unfold inI; omega) | omega), ?_⟩; conv => whnf) | (refine ⟨fun c => False.elim (by omega), fun c => ?_⟩) | (refine ⟨fun c => ?_, fun c => False.elim (by omega)⟩) | (refine ⟨fun c => ?_, fun c => ?_⟩) | (intro c) | fail))
  all_goals first | (exact hq1 (by assumption)) | (exact hq0 (by assumption))
set_option maxHeartbeats 4000000 in
theorem r_orNone {X : Int → Int} {XL : Int} {d : Nat} {h : Mem} {Q : RetP} {z : Int} (hd : 2 ≤ d) (k0 : kd h 127 = 10) (hq1 : z = -1 → Q (some (vI (-1))) (sG h 127 2 6)) (hq0 : ¬ z = -1 → Q (some (vI z)) (sG h 127 2 0)) : WP X XL d 199 [vR 127, vI z] h Q := by
  refine eX10_orNone (by omega) ?_
  (repeat' (first | (refine r_gives (by omega) k0 ?_) | (refine r_refuse (by omega) k0 ?_) | (refine Ex_step ?_; conv => whnf) | (refine ⟨?_, trivial⟩) | (refine (show den _ _ _ _ _ _ _ _ from ?_); conv => whnf) | (refine ⟨by (first | assumption | rfl | (exact Nat.le_of_ble_eq_true rfl) | (exact ⟨fun h01 => absurd h01 (by decide), by first | rfl | assumption⟩) | (exact ⟨fun _ => by decide, by first | rfl | assumption⟩) | (exact ⟨by assumption, by omega, by omega⟩) | (unfold inI; omega) | omega), ?_⟩; conv => whnf) | (refine ⟨fun c => False.elim (by omega), fun c => ?_⟩) | (refine ⟨fun c => ?_, fun c => False.elim (by omega)⟩) | (refine ⟨fun c => ?_, fun c => ?_⟩) | (intro c) | fail))
  all_goals first | (exact hq1 (by assumption)) | (exact hq0 (by assumption))
