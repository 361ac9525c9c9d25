/-! LEVEL 2: the class's Viaduct: mending, names -/
set_option maxHeartbeats 4000000 in
theorem w_canJumpOn {X : Int → Int} {XL : Int} {d : Nat} {h : Mem} {Q : RetP} {K : Int} {A : Int → Int} {v : Nat} {a : Int} (hd : 1 ≤ d) (hV : Vr K h v A) (ha0 : 0 ≤ a) (ha1 : a < A 0) (hq1 : hoA A a < 60 ∨ 0 < moA A a → Q (some (vI 1)) h) (hq0 : ¬ (hoA A a < 60 ∨ 0 < moA A a) → Q (some (vI 0)) h) : WP X XL d 44 [vR v, vI a] h Q := by
  obtain ⟨⟨k0, ⟨k1, l1⟩, ⟨k2, l2⟩, ⟨k3, l3⟩, ⟨k6, l6⟩, ⟨k7, l7⟩, ⟨k8, l8⟩, ⟨k9, l9⟩, ⟨k10, l10⟩, ⟨k11, l11⟩, ⟨k12, l12⟩, ⟨k14, l14⟩, ⟨k15, l15⟩⟩, ⟨⟨g0, g5, g13, g16, g17, g18, g19, g4⟩, ra, rp, rq⟩, ⟨b0, b1, b2, b3, b4, b5, b6, b8, bK, ba, bp, bq⟩⟩ := id hV
  obtain ⟨e1, e2, e3⟩ := ra a ha0 ha1; obtain ⟨fa0, fa1, fa2⟩ := ba a ha0 ha1
  refine eX7_canJumpOn hd ?_
  (repeat' (first | (refine Ex_step ?_; conv => whnf) | (refine ⟨?_, trivial⟩) | (refine (show den _ _ _ _ _ _ _ _ from ?_); conv => whnf) | (refine ⟨by (first | assumption | rfl | (exact Nat.le_of_ble_eq_true rfl) | (exact ⟨fun h01 => absurd h01 (by decide), rfl⟩) | (exact ⟨fun _ => by decide, rfl⟩) | (exact ⟨by assumption, by omega, by omega⟩) | (unfold inI; omega) | omega), ?_⟩; conv => whnf) | (refine ⟨fun c => False.elim (by omega), fun c => ?_⟩) | (refine ⟨fun c => ?_, fun c => False.elim (by omega)⟩) | (refine ⟨fun c => ?_, fun c => ?_⟩) | (intro c) | fail)) <;> (first | (exact hq1 (by omega)) | (exact hq0 (by omega)))
def okJ (A : Int → Int) (set a j : Int) (i : Int) : Bool := !(bt set i) || decide (sBy A i (pA A i 1) (max 0 (moA A a - j) + A 4) ≤ min 60 (hoA A a + j))
def bbj (A : Int → Int) (set a j : Int) : Prop := A 1 ≤ stN (A 1) (okJ A set a j) 0
set_option maxHeartbeats 4000000 in
theorem w_bearsBehindJumps {X : Int → Int} {XL : Int} {d : Nat} {h : Mem} {Q : RetP} {K : Int} {A : Int → Int} {v : Nat} {set a j : Int} (hd : 2 ≤ d) (hV : Vr K h v A) (ha0 : 0 ≤ a) (ha1 : a < A 0) (hj : 0 ≤ j ∧ j ≤ 60) (hq1 : bbj A set a j → Q (some (vI 1)) h) (hq0 : ¬ bbj A set a j → Q (some (vI 0)) h) : WP X XL d 50 [vR v, vI set, vI a, vI j] h Q := by
  obtain ⟨⟨k0, ⟨k1, l1⟩, ⟨k2, l2⟩, ⟨k3, l3⟩, ⟨k6, l6⟩, ⟨k7, l7⟩, ⟨k8, l8⟩, ⟨k9, l9⟩, ⟨k10, l10⟩, ⟨k11, l11⟩, ⟨k12, l12⟩, ⟨k14, l14⟩, ⟨k15, l15⟩⟩, ⟨⟨g0, g5, g13, g16, g17, g18, g19, g4⟩, ra, rp, rq⟩, ⟨b0, b1, b2, b3, b4, b5, b6, b8, bK, ba, bp, bq⟩⟩ := id hV
  obtain ⟨e1, e2, e3⟩ := ra a ha0 ha1; obtain ⟨fa0, fa1, fa2⟩ := ba a ha0 ha1
  refine eX7_bearsBehindJumps (by omega) ?_
  have loop : ∀ (k : Nat) (i : Int), (A 1 - i).toNat = k → 0 ≤ i → i ≤ A 1 → stN (A 1) (okJ A set a j) 0 = stN (A 1) (okJ A set a j) i → Ex (WP X XL (d - 1)) KX7_bearsBehindJumps h.1 Q 32 [some (vR v), some (vI set), some (vI a), some (vI j), some (vI (min 60 (gG h (gR h v 1) a + j))), some (vI (max 0 (gG h (gR h v 2) a - j))), some (vI i)] [] h := by
    intro k; induction k with
    | zero =>
      intro i hk hi0 hi1 he
      rw [stN_end (a := i) (Or.inl (by omega))] at he
      have hb : bbj A set a j := by unfold bbj; omega
      (repeat' (first | (refine Ex_step ?_; conv => whnf) | (refine ⟨?_, trivial⟩) | (refine (show den _ _ _ _ _ _ _ _ from ?_); conv => whnf) | (refine ⟨by (first | assumption | rfl | (exact Nat.le_of_ble_eq_true rfl) | (exact ⟨fun h01 => absurd h01 (by decide), rfl⟩) | (exact ⟨fun _ => by decide, rfl⟩) | (exact ⟨by assumption, by omega, by omega⟩) | (unfold inI; omega) | omega), ?_⟩; conv => whnf) | (refine ⟨fun c => False.elim (by omega), fun c => ?_⟩) | (refine ⟨fun c => ?_, fun c => False.elim (by omega)⟩) | (refine ⟨fun c => ?_, fun c => ?_⟩) | (intro c) | fail))
      exact hq1 hb
    | succ k ih =>
      intro i hk hi0 hi1 he
      have hp0 : 0 ≤ i := hi0
      have hp1 : i < A 1 := by omega
      obtain ⟨e7, e8, e9, e10, e11, e12⟩ := rp i hp0 hp1
      obtain ⟨f0, f1, f2, f3, f4, f5⟩ := bp i hp0 hp1
      have hm := mulB f1.1 f1.2 (show 0 ≤ max 0 (moA A a - j) + A 4 by omega) (show max 0 (moA A a - j) + A 4 ≤ 14 by omega)
      by_cases hb : bt set i = true
      · by_cases hs : sBy A i (pA A i 1) (max 0 (moA A a - j) + A 4) ≤ min 60 (hoA A a + j)
        · have hok : okJ A set a j i = true := by unfold okJ; rw [decide_eq_true hs]; simp
          rw [stN_go (a := i) hp1 hok] at he
          rw [← e1, ← e2, ← e8, ← g17] at hs
          rw [← e2, ← e8, ← g17] at hm
          refine Ex_step ?_
          conv => whnf
          (repeat' (first | (refine ih _ (by omega) (by omega) (by omega) he) | (refine w_contains (by omega) (by omega) (fun c => ?_) (fun c => absurd (c.symm.trans hb) Bool.false_ne_true)) | (refine w_strainBy (by omega) hV hp0 hp1 (by omega) ?_) | (refine Ex_step ?_; conv => whnf) | (refine ⟨?_, trivial⟩) | (refine (show den _ _ _ _ _ _ _ _ from ?_); conv => whnf) | (refine ⟨by (first | assumption | rfl | (exact Nat.le_of_ble_eq_true rfl) | (exact ⟨fun h01 => absurd h01 (by decide), rfl⟩) | (exact ⟨fun _ => by decide, rfl⟩) | (exact ⟨by assumption, by omega, by omega⟩) | (unfold inI; omega) | omega), ?_⟩; conv => whnf) | (refine ⟨fun c => False.elim (by omega), fun c => ?_⟩) | (refine ⟨fun c => ?_, fun c => False.elim (by omega)⟩) | (refine ⟨fun c => ?_, fun c => ?_⟩) | (intro c) | fail))
        · have hok : okJ A set a j i = false := by unfold okJ; rw [hb, decide_eq_false hs]; rfl
          rw [stN_end (a := i) (Or.inr hok)] at he
          have hnb : ¬ bbj A set a j := by unfold bbj; omega
          rw [← e1, ← e2, ← e8, ← g17] at hs
          rw [← e2, ← e8, ← g17] at hm
          (repeat' (first | (refine w_contains (by omega) (by omega) (fun c => ?_) (fun c => absurd (c.symm.trans hb) Bool.false_ne_true)) | (refine w_strainBy (by omega) hV hp0 hp1 (by omega) ?_) | (refine Ex_step ?_; conv => whnf) | (refine ⟨?_, trivial⟩) | (refine (show den _ _ _ _ _ _ _ _ from ?_); conv => whnf) | (refine ⟨by (first | assumption | rfl | (exact Nat.le_of_ble_eq_true rfl) | (exact ⟨fun h01 => absurd h01 (by decide), rfl⟩) | (exact ⟨fun _ => by decide, rfl⟩) | (exact ⟨by assumption, by omega, by omega⟩) | (unfold inI; omega) | omega), ?_⟩; conv => whnf) | (refine ⟨fun c => False.elim (by omega), fun c => ?_⟩) | (refine ⟨fun c => ?_, fun c => False.elim (by omega)⟩) | (refine ⟨fun c => ?_, fun c => ?_⟩) | (intro c) | fail))
          exact hq0 hnb
      · have hok : okJ A set a j i = true := by
          unfold okJ
          have : bt set i = false := by simpa using hb
          rw [this]; rfl
        rw [stN_go (a := i) hp1 hok] at he
        refine Ex_step ?_
        conv => whnf
        (repeat' (first | (refine ih _ (by omega) (by omega) (by omega) he) | (refine w_contains (by omega) (by omega) (fun c => absurd c hb) (fun c => ?_)) | (refine Ex_step ?_; conv => whnf) | (refine ⟨?_, trivial⟩) | (refine (show den _ _ _ _ _ _ _ _ from ?_); conv => whnf) | (refine ⟨by (first | assumption | rfl | (exact Nat.le_of_ble_eq_true rfl) | (exact ⟨fun h01 => absurd h01 (by decide), rfl⟩) | (exact ⟨fun _ => by decide, rfl⟩) | (exact ⟨by assumption, by omega, by omega⟩) | (unfold inI; omega) | omega), ?_⟩; conv => whnf) | (refine ⟨fun c => False.elim (by omega), fun c => ?_⟩) | (refine ⟨fun c => ?_, fun c => False.elim (by omega)⟩) | (refine ⟨fun c => ?_, fun c => ?_⟩) | (intro c) | fail))
  refine Ex_step ?_
  conv => whnf
  (repeat' (first | (exact loop _ 0 rfl (by omega) (by omega) rfl) | (refine Ex_step ?_; conv => whnf) | (refine ⟨?_, trivial⟩) | (refine (show den _ _ _ _ _ _ _ _ from ?_); conv => whnf) | (refine ⟨by (first | assumption | rfl | (exact Nat.le_of_ble_eq_true rfl) | (exact ⟨fun h01 => absurd h01 (by decide), rfl⟩) | (exact ⟨fun _ => by decide, rfl⟩) | (exact ⟨by assumption, by omega, by omega⟩) | (unfold inI; omega) | omega), ?_⟩; conv => whnf) | (refine ⟨fun c => False.elim (by omega), fun c => ?_⟩) | (refine ⟨fun c => ?_, fun c => False.elim (by omega)⟩) | (refine ⟨fun c => ?_, fun c => ?_⟩) | (intro c) | fail))
theorem bbj_dec (A : Int → Int) (set a j : Int) : (bbj A set a j) ∨ ¬ (bbj A set a j) := by unfold bbj; omega
def nbJ (A : Int → Int) (set a : Int) (j : Int) : Bool := !decide (A 1 ≤ stN (A 1) (okJ A set a j) 0)
theorem nbJ_f {A : Int → Int} {set a j : Int} (h : bbj A set a j) : nbJ A set a j = false := by
  unfold nbJ
  rw [decide_eq_true (show A 1 ≤ stN (A 1) (okJ A set a j) 0 from h)]; rfl
theorem nbJ_t {A : Int → Int} {set a j : Int} (h : ¬ bbj A set a j) : nbJ A set a j = true := by
  unfold nbJ
  rw [decide_eq_false (show ¬ A 1 ≤ stN (A 1) (okJ A set a j) 0 from h)]; rfl
/-- how many jumps an arch needs for a set; -1 if none are enough -/
def jfA (A : Int → Int) (set a : Int) : Int := if stN 61 (nbJ A set a) 0 ≤ 60 then stN 61 (nbJ A set a) 0 else -1
set_option maxHeartbeats 4000000 in
theorem w_jumpsFor {X : Int → Int} {XL : Int} {d : Nat} {h : Mem} {Q : RetP} {K : Int} {A : Int → Int} {v : Nat} {set a : Int} (hd : 3 ≤ d) (hV : Vr K h v A) (ha0 : 0 ≤ a) (ha1 : a < A 0) (hq : Q (some (vI (jfA A set a))) h) : WP X XL d 49 [vR v, vI set, vI a] h Q := by
  have k0 := hV.1.1
  refine eX7_jumpsFor (by omega) ?_
  have loop : ∀ (k : Nat) (j : Int), (61 - j).toNat = k → 0 ≤ j → j ≤ 61 → stN 61 (nbJ A set a) 0 = stN 61 (nbJ A set a) j → Ex (WP X XL (d - 1)) KX7_jumpsFor h.1 Q 2 [some (vR v), some (vI set), some (vI a), some (vI j)] [] h := by
    intro k; induction k with
    | zero =>
      intro j hk hj0 hj1 he
      rw [stN_end (a := j) (Or.inl (by omega))] at he
      unfold jfA at hq
      rw [if_neg (by omega)] at hq
      (repeat' (first | (refine Ex_step ?_; conv => whnf) | (refine ⟨?_, trivial⟩) | (refine (show den _ _ _ _ _ _ _ _ from ?_); conv => whnf) | (refine ⟨by (first | assumption | rfl | (exact Nat.le_of_ble_eq_true rfl) | (exact ⟨fun h01 => absurd h01 (by decide), rfl⟩) | (exact ⟨fun _ => by decide, rfl⟩) | (exact ⟨by assumption, by omega, by omega⟩) | (unfold inI; omega) | omega), ?_⟩; conv => whnf) | (refine ⟨fun c => False.elim (by omega), fun c => ?_⟩) | (refine ⟨fun c => ?_, fun c => False.elim (by omega)⟩) | (refine ⟨fun c => ?_, fun c => ?_⟩) | (intro c) | fail))
      exact hq
    | succ k ih =>
      intro j hk hj0 hj1 he
      rcases bbj_dec A set a j with hb | hb
      · rw [stN_end (a := j) (Or.inr (nbJ_f hb))] at he
        unfold jfA at hq
        rw [if_pos (by omega), he] at hq
        (repeat' (first | (refine w_bearsBehindJumps (by omega) hV ha0 ha1 (by omega) (fun c => ?_) (fun c => absurd hb c)) | (refine Ex_step ?_; conv => whnf) | (refine ⟨?_, trivial⟩) | (refine (show den _ _ _ _ _ _ _ _ from ?_); conv => whnf) | (refine ⟨by (first | assumption | rfl | (exact Nat.le_of_ble_eq_true rfl) | (exact ⟨fun h01 => absurd h01 (by decide), rfl⟩) | (exact ⟨fun _ => by decide, rfl⟩) | (exact ⟨by assumption, by omega, by omega⟩) | (unfold inI; omega) | omega), ?_⟩; conv => whnf) | (refine ⟨fun c => False.elim (by omega), fun c => ?_⟩) | (refine ⟨fun c => ?_, fun c => False.elim (by omega)⟩) | (refine ⟨fun c => ?_, fun c => ?_⟩) | (intro c) | fail))
        exact hq
      · rw [stN_go (a := j) (by omega) (nbJ_t hb)] at he
        refine Ex_step ?_
        conv => whnf
        (repeat' (first | (refine ih _ (by omega) (by omega) (by omega) he) | (refine w_bearsBehindJumps (by omega) hV ha0 ha1 (by omega) (fun c => absurd c hb) (fun c => ?_)) | (refine Ex_step ?_; conv => whnf) | (refine ⟨?_, trivial⟩) | (refine (show den _ _ _ _ _ _ _ _ from ?_); conv => whnf) | (refine ⟨by (first | assumption | rfl | (exact Nat.le_of_ble_eq_true rfl) | (exact ⟨fun h01 => absurd h01 (by decide), rfl⟩) | (exact ⟨fun _ => by decide, rfl⟩) | (exact ⟨by assumption, by omega, by omega⟩) | (unfold inI; omega) | omega), ?_⟩; conv => whnf) | (refine ⟨fun c => False.elim (by omega), fun c => ?_⟩) | (refine ⟨fun c => ?_, fun c => False.elim (by omega)⟩) | (refine ⟨fun c => ?_, fun c => ?_⟩) | (intro c) | fail))
  refine Ex_step ?_
  conv => whnf
  refine ⟨?_, trivial⟩
  exact loop _ 0 rfl (by omega) (by omega) rfl
theorem jfA_b {A : Int → Int} {set a : Int} : -1 ≤ jfA A set a ∧ jfA A set a ≤ 60 := by
  unfold jfA
  have := stN_rng (n := 61) (ok := nbJ A set a) _ 0 rfl (by omega)
  split <;> omega
def jaF (A : Int → Int) (set : Int) : Int → Int → Int := fun a s => if s = -1 ∨ jfA A set a = -1 then -1 else s + jfA A set a
def jaA (A : Int → Int) (set : Int) : Int := foN (A 0) (jaF A set) 0 0
theorem ja_abs {n : Int} {A : Int → Int} {set : Int} : ∀ (k : Nat) (a : Int), (n - a).toNat = k → foN n (jaF A set) a (-1) = -1 := by
  intro k; induction k with
  | zero => intro a hk; exact foN_end (by omega)
  | succ k ih =>
    intro a hk
    rw [foN_go (by omega), show jaF A set a (-1) = -1 from if_pos (Or.inl rfl)]
    exact ih (a + 1) (by omega)
set_option maxHeartbeats 4000000 in
theorem w_jumpsInAll {X : Int → Int} {XL : Int} {d : Nat} {h : Mem} {Q : RetP} {K : Int} {A : Int → Int} {v : Nat} {set : Int} (hd : 4 ≤ d) (hV : Vr K h v A) (hq : Q (some (vI (jaA A set))) h) : WP X XL d 51 [vR v, vI set] h Q := by
  obtain ⟨⟨k0, ⟨k1, l1⟩, ⟨k2, l2⟩, ⟨k3, l3⟩, ⟨k6, l6⟩, ⟨k7, l7⟩, ⟨k8, l8⟩, ⟨k9, l9⟩, ⟨k10, l10⟩, ⟨k11, l11⟩, ⟨k12, l12⟩, ⟨k14, l14⟩, ⟨k15, l15⟩⟩, ⟨⟨g0, g5, g13, g16, g17, g18, g19, g4⟩, ra, rp, rq⟩, ⟨b0, b1, b2, b3, b4, b5, b6, b8, bK, ba, bp, bq⟩⟩ := id hV
  refine eX7_jumpsInAll (by omega) ?_
  have loop : ∀ (k : Nat) (a s : Int) (jk : Option MV), (A 0 - a).toNat = k → 0 ≤ a → 0 ≤ s → s ≤ 60 * a → Q (some (vI (foN (A 0) (jaF A set) a s))) h → Ex (WP X XL (d - 1)) KX7_jumpsInAll h.1 Q 4 [some (vR v), some (vI set), some (vI s), some (vI a), jk] [] h := by
    intro k; induction k with
    | zero =>
      intro a s jk hk ha0 hs0 hs1 hq
      rw [foN_end (by omega)] at hq
      (repeat' (first | (refine Ex_step ?_; conv => whnf) | (refine ⟨?_, trivial⟩) | (refine (show den _ _ _ _ _ _ _ _ from ?_); conv => whnf) | (refine ⟨by (first | assumption | rfl | (exact Nat.le_of_ble_eq_true rfl) | (exact ⟨fun h01 => absurd h01 (by decide), rfl⟩) | (exact ⟨fun _ => by decide, rfl⟩) | (exact ⟨by assumption, by omega, by omega⟩) | (unfold inI; omega) | omega), ?_⟩; conv => whnf) | (refine ⟨fun c => False.elim (by omega), fun c => ?_⟩) | (refine ⟨fun c => ?_, fun c => False.elim (by omega)⟩) | (refine ⟨fun c => ?_, fun c => ?_⟩) | (intro c) | fail))
      exact hq
    | succ k ih =>
      intro a s jk hk ha0 hs0 hs1 hq
      have ha1 : a < A 0 := by omega
      have hjb := jfA_b (A := A) (set := set) (a := a)
      rw [foN_go ha1] at hq
      by_cases hj : jfA A set a = -1
      · rw [show jaF A set a s = -1 from if_pos (Or.inr hj), ja_abs _ _ rfl] at hq
        (repeat' (first | (refine w_jumpsFor (by omega) hV ha0 ha1 ?_) | (refine Ex_step ?_; conv => whnf) | (refine ⟨?_, trivial⟩) | (refine (show den _ _ _ _ _ _ _ _ from ?_); conv => whnf) | (refine ⟨by (first | assumption | rfl | (exact Nat.le_of_ble_eq_true rfl) | (exact ⟨fun h01 => absurd h01 (by decide), rfl⟩) | (exact ⟨fun _ => by decide, rfl⟩) | (exact ⟨by assumption, by omega, by omega⟩) | (unfold inI; omega) | omega), ?_⟩; conv => whnf) | (refine ⟨fun c => False.elim (by omega), fun c => ?_⟩) | (refine ⟨fun c => ?_, fun c => False.elim (by omega)⟩) | (refine ⟨fun c => ?_, fun c => ?_⟩) | (intro c) | fail))
        exact hq
      · rw [show jaF A set a s = s + jfA A set a from if_neg (by omega)] at hq
        refine Ex_step ?_
        conv => whnf
        (repeat' (first | (refine ih _ _ _ (by omega) (by omega) (by omega) (by omega) hq) | (refine w_jumpsFor (by omega) hV ha0 ha1 ?_) | (refine Ex_step ?_; conv => whnf) | (refine ⟨?_, trivial⟩) | (refine (show den _ _ _ _ _ _ _ _ from ?_); conv => whnf) | (refine ⟨by (first | assumption | rfl | (exact Nat.le_of_ble_eq_true rfl) | (exact ⟨fun h01 => absurd h01 (by decide), rfl⟩) | (exact ⟨fun _ => by decide, rfl⟩) | (exact ⟨by assumption, by omega, by omega⟩) | (unfold inI; omega) | omega), ?_⟩; conv => whnf) | (refine ⟨fun c => False.elim (by omega), fun c => ?_⟩) | (refine ⟨fun c => ?_, fun c => False.elim (by omega)⟩) | (refine ⟨fun c => ?_, fun c => ?_⟩) | (intro c) | fail))
  refine Ex_step ?_
  conv => whnf
  refine ⟨?_, trivial⟩
  exact loop _ 0 0 _ rfl (by omega) (by omega) (by omega) hq
theorem cmpZ_e {a b : Int} (h : a = b) : cmpZ a b = 0 := by
  unfold cmpZ
  rw [if_neg (by omega), if_pos h]
theorem cmpZ_n {a b : Int} (h : ¬ a = b) : ¬ cmpZ a b = 0 := by
  unfold cmpZ
  intro q
  split at q
  · omega
  · first | omega | (split at q <;> omega)
def nmB (N : Int → Int) (x : Int) (i : Int) : Bool := !decide (N i = x)
theorem nmB_f {N : Int → Int} {x i : Int} (h : N i = x) : nmB N x i = false := by unfold nmB; rw [decide_eq_true h]; rfl
theorem nmB_t {N : Int → Int} {x i : Int} (h : ¬ N i = x) : nmB N x i = true := by unfold nmB; rw [decide_eq_false h]; rfl
/-- which of n has the name; -1 if none -/
def nmI (n : Int) (N : Int → Int) (x : Int) : Int := if stN n (nmB N x) 0 < n then stN n (nmB N x) 0 else -1
set_option maxHeartbeats 4000000 in
theorem w_personNamed {X : Int → Int} {XL : Int} {d : Nat} {h : Mem} {Q : RetP} {K : Int} {A : Int → Int} {v : Nat} {x : Int} (hd : 1 ≤ d) (hV : Vr K h v A) (hq : Q (some (vI (nmI (A 1) (gG h (gR h v 6)) x))) h) : WP X XL d 16 [vR v, vL x] h Q := by
  obtain ⟨⟨k0, ⟨k1, l1⟩, ⟨k2, l2⟩, ⟨k3, l3⟩, ⟨k6, l6⟩, ⟨k7, l7⟩, ⟨k8, l8⟩, ⟨k9, l9⟩, ⟨k10, l10⟩, ⟨k11, l11⟩, ⟨k12, l12⟩, ⟨k14, l14⟩, ⟨k15, l15⟩⟩, ⟨⟨g0, g5, g13, g16, g17, g18, g19, g4⟩, ra, rp, rq⟩, ⟨b0, b1, b2, b3, b4, b5, b6, b8, bK, ba, bp, bq⟩⟩ := id hV
  refine eX7_personNamed (by omega) ?_
  have loop : ∀ (k : Nat) (i : Int), (A 1 - i).toNat = k → 0 ≤ i → i ≤ A 1 → stN (A 1) (nmB (gG h (gR h v 6)) x) 0 = stN (A 1) (nmB (gG h (gR h v 6)) x) i → Ex (WP X XL (d - 1)) KX7_personNamed h.1 Q 2 [some (vR v), some (vL x), none, some (vI i)] [] h := by
    intro k; induction k with
    | zero =>
      intro i hk hi0 hi1 he
      rw [stN_end (a := i) (Or.inl (by omega))] at he
      unfold nmI at hq
      rw [if_neg (by omega)] at hq
      (repeat' (first | (refine Ex_step ?_; conv => whnf) | (refine ⟨?_, trivial⟩) | (refine (show den _ _ _ _ _ _ _ _ from ?_); conv => whnf) | (refine ⟨by (first | assumption | rfl | (exact Nat.le_of_ble_eq_true rfl) | (exact ⟨fun h01 => absurd h01 (by decide), rfl⟩) | (exact ⟨fun _ => by decide, rfl⟩) | (exact ⟨by assumption, by omega, by omega⟩) | (unfold inI; omega) | omega), ?_⟩; conv => whnf) | (refine ⟨fun c => False.elim (by omega), fun c => ?_⟩) | (refine ⟨fun c => ?_, fun c => False.elim (by omega)⟩) | (refine ⟨fun c => ?_, fun c => ?_⟩) | (intro c) | fail))
      exact hq
    | succ k ih =>
      intro i hk hi0 hi1 he
      by_cases hb : gG h (gR h v 6) i = x
      · rw [stN_end (a := i) (Or.inr (nmB_f hb))] at he
        have hz := cmpZ_e hb
        unfold nmI at hq
        rw [if_pos (by omega), he] at hq
        (repeat' (first | (refine Ex_step ?_; conv => whnf) | (refine ⟨?_, trivial⟩) | (refine (show den _ _ _ _ _ _ _ _ from ?_); conv => whnf) | (refine ⟨by (first | assumption | rfl | (exact Nat.le_of_ble_eq_true rfl) | (exact ⟨fun h01 => absurd h01 (by decide), rfl⟩) | (exact ⟨fun _ => by decide, rfl⟩) | (exact ⟨by assumption, by omega, by omega⟩) | (unfold inI; omega) | omega), ?_⟩; conv => whnf) | (refine ⟨fun c => False.elim (by omega), fun c => ?_⟩) | (refine ⟨fun c => ?_, fun c => False.elim (by omega)⟩) | (refine ⟨fun c => ?_, fun c => ?_⟩) | (intro c) | fail))
        exact hq
      · rw [stN_go (a := i) (by omega) (nmB_t hb)] at he
        have hz := cmpZ_n hb
        refine Ex_step ?_
        conv => whnf
        (repeat' (first | (refine ih _ (by omega) (by omega) (by omega) he) | (refine Ex_step ?_; conv => whnf) | (refine ⟨?_, trivial⟩) | (refine (show den _ _ _ _ _ _ _ _ from ?_); conv => whnf) | (refine ⟨by (first | assumption | rfl | (exact Nat.le_of_ble_eq_true rfl) | (exact ⟨fun h01 => absurd h01 (by decide), rfl⟩) | (exact ⟨fun _ => by decide, rfl⟩) | (exact ⟨by assumption, by omega, by omega⟩) | (unfold inI; omega) | omega), ?_⟩; conv => whnf) | (refine ⟨fun c => False.elim (by omega), fun c => ?_⟩) | (refine ⟨fun c => ?_, fun c => False.elim (by omega)⟩) | (refine ⟨fun c => ?_, fun c => ?_⟩) | (intro c) | fail))
  refine Ex_step ?_
  conv => whnf
  refine ⟨?_, trivial⟩
  exact loop _ 0 rfl (by omega) (by omega) rfl
