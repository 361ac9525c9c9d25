/-! LEVEL 2: odds -/
def eu : Nat → Int → Int → Option Int
  | 0, a, b => if b = 0 then some a else none
  | k + 1, a, b => if b = 0 then some a else eu k b (lrmZ a b)
def euOK (a b : Int) : Bool := match eu 90 a b with
  | some g => decide (0 < g)
  | none => false
def gE (a b : Int) : Int := (eu 90 a b).getD 1
theorem eu_ok {a b : Int} (h : euOK a b = true) : eu 90 a b = some (gE a b) ∧ 0 < gE a b := by
  unfold euOK at h
  unfold gE
  cases e : eu 90 a b with
  | none => rw [e] at h; cases h
  | some g => rw [e] at h; exact ⟨rfl, of_decide_eq_true h⟩
set_option maxHeartbeats 4000000 in
theorem w_commonDivisor {X : Int → Int} {XL : Int} {d : Nat} {h : Mem} {Q : RetP} {a b g : Int} (hd : 1 ≤ d) (he : eu 90 a b = some g) (hq : Q (some (vL g)) h) : WP X XL d 190 [vL a, vL b] h Q := by
  have loop : ∀ (k : Nat) (i x y : Int) (w9 w10 : Option MV), eu k x y = some g → 0 ≤ i → i + k ≤ 95 → Ex (WP X XL (d - 1)) KX9_commonDivisor h.1 Q 9 [some (vL a), none, some (vL b), none, some (vL x), none, some (vL y), none, some (vI i), w9, w10] [] h := by
    intro k; induction k with
    | zero =>
      intro i x y w9 w10 he h0 h1
      have hy : y = 0 := by
        by_cases e : y = 0
        · exact e
        · rw [show eu 0 x y = none from if_neg e] at he; cases he
      rw [show eu 0 x y = some x from if_pos hy] at he
      have hx : x = g := Option.some.inj he
      have hz : cmpZ y 0 = 0 := cmpZ_e hy
      rw [hx]
      (repeat' (first | (refine ⟨fun c => ?_, fun c => absurd hz c⟩) | (refine Ex_step ?_; conv => whnf) | (refine ⟨?_, trivial⟩) | (refine (show den _ _ _ _ _ _ _ _ from ?_); conv => whnf) | (refine ⟨fun c => False.elim (by omega), fun c => ?_⟩) | (refine ⟨fun c => ?_, fun c => False.elim (by omega)⟩) | (refine ⟨by (first | assumption | rfl | (exact Nat.le_of_ble_eq_true rfl) | (exact ⟨fun h01 => absurd h01 (by decide), by first | rfl | assumption⟩) | (exact ⟨fun _ => by decide, by first | rfl | assumption⟩) | (exact ⟨by assumption, by omega, by omega⟩) | (unfold inI; omega) | omega), ?_⟩; conv => whnf) | (refine ⟨fun c => ?_, fun c => ?_⟩) | (intro c) | fail))
      exact hq
    | succ k ih =>
      intro i x y w9 w10 he h0 h1
      by_cases hy : y = 0
      · rw [show eu (k + 1) x y = some x from if_pos hy] at he
        have hx : x = g := Option.some.inj he
        have hz : cmpZ y 0 = 0 := cmpZ_e hy
        rw [hx]
        (repeat' (first | (refine ⟨fun c => ?_, fun c => absurd hz c⟩) | (refine Ex_step ?_; conv => whnf) | (refine ⟨?_, trivial⟩) | (refine (show den _ _ _ _ _ _ _ _ from ?_); conv => whnf) | (refine ⟨fun c => False.elim (by omega), fun c => ?_⟩) | (refine ⟨fun c => ?_, fun c => False.elim (by omega)⟩) | (refine ⟨by (first | assumption | rfl | (exact Nat.le_of_ble_eq_true rfl) | (exact ⟨fun h01 => absurd h01 (by decide), by first | rfl | assumption⟩) | (exact ⟨fun _ => by decide, by first | rfl | assumption⟩) | (exact ⟨by assumption, by omega, by omega⟩) | (unfold inI; omega) | omega), ?_⟩; conv => whnf) | (refine ⟨fun c => ?_, fun c => ?_⟩) | (intro c) | fail))
        exact hq
      · rw [show eu (k + 1) x y = eu k y (lrmZ x y) from if_neg hy] at he
        have hz : ¬ cmpZ y 0 = 0 := cmpZ_n hy
        have ih2 := fun w9 w10 => ih (i + 1) y (lrmZ x y) w9 w10 he (by omega) (by omega)
        refine Ex_step ?_; conv => whnf
        (repeat' (first | (refine ih2 _ _) | (refine ⟨fun c => absurd c hz, fun c => ?_⟩) | (refine ⟨hy, ?_⟩; conv => whnf) | (refine Ex_step ?_; conv => whnf) | (refine ⟨?_, trivial⟩) | (refine (show den _ _ _ _ _ _ _ _ from ?_); conv => whnf) | (refine ⟨fun c => False.elim (by omega), fun c => ?_⟩) | (refine ⟨fun c => ?_, fun c => False.elim (by omega)⟩) | (refine ⟨by (first | assumption | rfl | (exact Nat.le_of_ble_eq_true rfl) | (exact ⟨fun h01 => absurd h01 (by decide), by first | rfl | assumption⟩) | (exact ⟨fun _ => by decide, by first | rfl | assumption⟩) | (exact ⟨by assumption, by omega, by omega⟩) | (unfold inI; omega) | omega), ?_⟩; conv => whnf) | (refine ⟨fun c => ?_, fun c => ?_⟩) | (intro c) | fail))
  have l0 := loop 90 0 a b none none he (by omega) (by omega)
  refine eX9_commonDivisor (by omega) ?_
  (repeat' (first | (exact l0) | (refine Ex_step ?_; conv => whnf) | (refine ⟨?_, trivial⟩) | (refine (show den _ _ _ _ _ _ _ _ from ?_); conv => whnf) | (refine ⟨fun c => False.elim (by omega), fun c => ?_⟩) | (refine ⟨fun c => ?_, fun c => False.elim (by omega)⟩) | (refine ⟨by (first | assumption | rfl | (exact Nat.le_of_ble_eq_true rfl) | (exact ⟨fun h01 => absurd h01 (by decide), by first | rfl | assumption⟩) | (exact ⟨fun _ => by decide, by first | rfl | assumption⟩) | (exact ⟨by assumption, by omega, by omega⟩) | (unfold inI; omega) | omega), ?_⟩; conv => whnf) | (refine ⟨fun c => ?_, fun c => ?_⟩) | (intro c) | fail))
set_option maxHeartbeats 4000000 in
theorem w_tell {X : Int → Int} {XL : Int} {d : Nat} {h : Mem} {Q : RetP} {a b g : Int} (hd : 2 ≤ d) (k0 : kd h 0 = 9) (he : eu 90 a b = some g) (hg : 0 < g) (hq : Q none (sG (sG h 0 1 (ldvZ a g)) 0 2 (ldvZ b g))) : WP X XL d 189 [vR 0, vL a, vL b] h Q := by
  have hz : 0 < cmpZ g 0 := (cmpZ_s g 0).2.1.mpr hg
  have hn : ¬ g = 0 := by omega
  refine eX9_tell (by omega) ?_
  (repeat' (first | (refine w_commonDivisor (by omega) he ?_) | (refine ⟨fun c => ?_, fun c => absurd hz (Int.not_lt.mpr c)⟩) | (refine ⟨hn, ?_⟩; conv => whnf) | (refine Ex_step ?_; conv => whnf) | (refine ⟨?_, trivial⟩) | (refine (show den _ _ _ _ _ _ _ _ from ?_); conv => whnf) | (refine ⟨fun c => False.elim (by omega), fun c => ?_⟩) | (refine ⟨fun c => ?_, fun c => False.elim (by omega)⟩) | (refine ⟨by (first | assumption | rfl | (exact Nat.le_of_ble_eq_true rfl) | (exact ⟨fun h01 => absurd h01 (by decide), by first | rfl | assumption⟩) | (exact ⟨fun _ => by decide, by first | rfl | assumption⟩) | (exact ⟨by assumption, by omega, by omega⟩) | (unfold inI; omega) | omega), ?_⟩; conv => whnf) | (refine ⟨fun c => ?_, fun c => ?_⟩) | (intro c) | fail))
  exact hq
set_option maxHeartbeats 4000000 in
theorem r_tellsBy {X : Int → Int} {XL : Int} {d : Nat} {h : Mem} {Q : RetP} {a b g : Int} (hd : 2 ≤ d) (kq : kd h 127 = 10) (he : eu 90 a b = some g) (hg : 0 < g) (hq : Q (some (vI 1)) (sG (sG (sG h 127 3 (ldvZ a g)) 127 4 (ldvZ b g)) 127 2 0)) : WP X XL d 200 [vR 127, vL a, vL b] h Q := by
  have hn : ¬ g = 0 := by omega
  have fin : ∀ (x y : Int) (w9 w10 : Option MV), x = g → Ex (WP X XL (d - 1)) KX10_tellsBy h.1 Q 31 [some (vR 127), some (vL a), none, some (vL b), none, some (vL x), none, some (vL y), none, w9, w10] [] h := by
    intro x y w9 w10 e
    subst e
    (repeat' (first | (refine ⟨hn, ?_⟩; conv => whnf) | (refine r_is (by omega) kq (fun _ => ?_) (fun c => absurd rfl c)) | (refine Ex_step ?_; conv => whnf) | (refine ⟨?_, trivial⟩) | (refine (show den _ _ _ _ _ _ _ _ from ?_); conv => whnf) | (refine ⟨fun c => False.elim (by omega), fun c => ?_⟩) | (refine ⟨fun c => ?_, fun c => False.elim (by omega)⟩) | (refine ⟨by (first | assumption | rfl | (exact Nat.le_of_ble_eq_true rfl) | (exact ⟨fun h01 => absurd h01 (by decide), by first | rfl | assumption⟩) | (exact ⟨fun _ => by decide, by first | rfl | assumption⟩) | (exact ⟨by assumption, by omega, by omega⟩) | (unfold inI; omega) | omega), ?_⟩; conv => whnf) | (refine ⟨fun c => ?_, fun c => ?_⟩) | (intro c) | fail))
    exact hq
  have loop : ∀ (k : Nat) (x y : Int) (w9 w10 : Option MV), eu k x y = some g → Ex (WP X XL (d - 1)) KX10_tellsBy h.1 Q 6 [some (vR 127), some (vL a), none, some (vL b), none, some (vL x), none, some (vL y), none, w9, w10] [] h := by
    intro k; induction k with
    | zero =>
      intro x y w9 w10 he
      have hy : y = 0 := by
        by_cases e : y = 0
        · exact e
        · rw [show eu 0 x y = none from if_neg e] at he; cases he
      rw [show eu 0 x y = some x from if_pos hy] at he
      have hz : cmpZ y 0 = 0 := cmpZ_e hy
      have f0 := fin x y w9 w10 (Option.some.inj he)
      (repeat' (first | (exact f0) | (refine ⟨fun c => ?_, fun c => absurd hz c⟩) | (refine Ex_step ?_; conv => whnf) | (refine ⟨?_, trivial⟩) | (refine (show den _ _ _ _ _ _ _ _ from ?_); conv => whnf) | (refine ⟨fun c => False.elim (by omega), fun c => ?_⟩) | (refine ⟨fun c => ?_, fun c => False.elim (by omega)⟩) | (refine ⟨by (first | assumption | rfl | (exact Nat.le_of_ble_eq_true rfl) | (exact ⟨fun h01 => absurd h01 (by decide), by first | rfl | assumption⟩) | (exact ⟨fun _ => by decide, by first | rfl | assumption⟩) | (exact ⟨by assumption, by omega, by omega⟩) | (unfold inI; omega) | omega), ?_⟩; conv => whnf) | (refine ⟨fun c => ?_, fun c => ?_⟩) | (intro c) | fail))
    | succ k ih =>
      intro x y w9 w10 he
      by_cases hy : y = 0
      · rw [show eu (k + 1) x y = some x from if_pos hy] at he
        have hz : cmpZ y 0 = 0 := cmpZ_e hy
        have f0 := fin x y w9 w10 (Option.some.inj he)
        (repeat' (first | (exact f0) | (refine ⟨fun c => ?_, fun c => absurd hz c⟩) | (refine Ex_step ?_; conv => whnf) | (refine ⟨?_, trivial⟩) | (refine (show den _ _ _ _ _ _ _ _ from ?_); conv => whnf) | (refine ⟨fun c => False.elim (by omega), fun c => ?_⟩) | (refine ⟨fun c => ?_, fun c => False.elim (by omega)⟩) | (refine ⟨by (first | assumption | rfl | (exact Nat.le_of_ble_eq_true rfl) | (exact ⟨fun h01 => absurd h01 (by decide), by first | rfl | assumption⟩) | (exact ⟨fun _ => by decide, by first | rfl | assumption⟩) | (exact ⟨by assumption, by omega, by omega⟩) | (unfold inI; omega) | omega), ?_⟩; conv => whnf) | (refine ⟨fun c => ?_, fun c => ?_⟩) | (intro c) | fail))
      · rw [show eu (k + 1) x y = eu k y (lrmZ x y) from if_neg hy] at he
        have hz : ¬ cmpZ y 0 = 0 := cmpZ_n hy
        have ih2 := fun w9 w10 => ih y (lrmZ x y) w9 w10 he
        refine Ex_step ?_; conv => whnf
        (repeat' (first | (refine ih2 _ _) | (refine ⟨fun c => absurd c hz, fun c => ?_⟩) | (refine ⟨hy, ?_⟩; conv => whnf) | (refine Ex_step ?_; conv => whnf) | (refine ⟨?_, trivial⟩) | (refine (show den _ _ _ _ _ _ _ _ from ?_); conv => whnf) | (refine ⟨fun c => False.elim (by omega), fun c => ?_⟩) | (refine ⟨fun c => ?_, fun c => False.elim (by omega)⟩) | (refine ⟨by (first | assumption | rfl | (exact Nat.le_of_ble_eq_true rfl) | (exact ⟨fun h01 => absurd h01 (by decide), by first | rfl | assumption⟩) | (exact ⟨fun _ => by decide, by first | rfl | assumption⟩) | (exact ⟨by assumption, by omega, by omega⟩) | (unfold inI; omega) | omega), ?_⟩; conv => whnf) | (refine ⟨fun c => ?_, fun c => ?_⟩) | (intro c) | fail))
  have l0 := loop 90 a b none none he
  refine eX10_tellsBy (by omega) ?_
  (repeat' (first | (exact l0) | (refine Ex_step ?_; conv => whnf) | (refine ⟨?_, trivial⟩) | (refine (show den _ _ _ _ _ _ _ _ from ?_); conv => whnf) | (refine ⟨fun c => False.elim (by omega), fun c => ?_⟩) | (refine ⟨fun c => ?_, fun c => False.elim (by omega)⟩) | (refine ⟨by (first | assumption | rfl | (exact Nat.le_of_ble_eq_true rfl) | (exact ⟨fun h01 => absurd h01 (by decide), by first | rfl | assumption⟩) | (exact ⟨fun _ => by decide, by first | rfl | assumption⟩) | (exact ⟨by assumption, by omega, by omega⟩) | (unfold inI; omega) | omega), ?_⟩; conv => whnf) | (refine ⟨fun c => ?_, fun c => ?_⟩) | (intro c) | fail))
def pw (c : Int) : Nat → Int
  | 0 => 1
  | n + 1 => lmlZ (pw c n) c
theorem pw_tab : ∀ q, q ≤ 16 → ∀ n, n ≤ 9 → euOK (pw (q : Nat) n) (pw 16 n) = true := by decide +kernel
theorem pw_ok {c : Int} {n : Nat} (h0 : 0 ≤ c) (h1 : c ≤ 16) (hn : n ≤ 9) : euOK (pw c n) (pw 16 n) = true := by
  obtain ⟨q, rfl⟩ := Int.eq_ofNat_of_zero_le h0
  exact pw_tab q (by omega) n hn
theorem eu01 : euOK 0 1 = true := by decide +kernel
/-- the fraction that is told of so many arches -/
def frT (A : Int → Int) (p k : Int) : Int × Int := if rrS A p p - pA A p 3 < k then (0, 1) else (pw (16 - A 5) k.toNat, pw 16 k.toNat)
theorem frT_ok {K : Int} {A : Int → Int} {p k : Int} (hA : AOk K A) (hk : k ≤ 9) : euOK (frT A p k).1 (frT A p k).2 = true := by
  have b5 := hA.2.2.2.2.2.1
  unfold frT
  split
  · exact eu01
  · exact pw_ok (by omega) (by omega) (by omega)
set_option maxHeartbeats 4000000 in
theorem w_tellOdds {X : Int → Int} {XL : Int} {d : Nat} {h : Mem} {Q : RetP} {K : Int} {A : Int → Int} {v : Nat} {p k : Int} (hd : 5 ≤ d) (hC : Cls K v h A) (hp0 : 0 ≤ p) (hp1 : p < A 1) (hk0 : 0 ≤ k) (hk : k ≤ 9) (hq : Q none (sG (sG h 0 1 (ldvZ (frT A p k).1 (gE (frT A p k).1 (frT A p k).2))) 0 2 (ldvZ (frT A p k).2 (gE (frT A p k).1 (frT A p k).2)))) : WP X XL d 188 [vR 0, vI p, vI k] h Q := by
  obtain ⟨he, hg⟩ := eu_ok (frT_ok (p := p) hC.2.2.2 hk)
  obtain ⟨⟨k00, r7, hT⟩, hV⟩ := id hC; have kn := hV.1.1; have hA := hV.2.2
  have b5 := hA.2.2.2.2.2.1
  have hbp := bp_of hA hp0 hp1
  have b0 := hA.1
  have hs := rrS_b hA (o := p) hp0 hp1
  have g18 := hV.2.1.1.2.2.2.2.2.1
  have ep := (hV.2.1.2.2.1 p hp0 hp1).2.2.2.1
  obtain ⟨kv, -, -, -, -, -, -, -, ⟨kbh, lbh⟩, -⟩ := id hV.1
  have b1 := hA.2.1
  refine eX9_tellOdds (by omega) ?_
  by_cases hc : rrS A p p - pA A p 3 < k
  · rw [show frT A p k = (0, 1) from if_pos hc] at hq he hg
    rw [rrS_1] at hc hs
    (repeat' (first | (rw [r7]) | (rw [ep]) | (refine w_stopAlone (by omega) hV hp0 hp1 ?_) | (refine w_tell (by omega) k00 he hg ?_) | (refine Ex_step ?_; conv => whnf) | (refine ⟨?_, trivial⟩) | (refine (show den _ _ _ _ _ _ _ _ from ?_); conv => whnf) | (refine ⟨fun c => False.elim (by omega), fun c => ?_⟩) | (refine ⟨fun c => ?_, fun c => False.elim (by omega)⟩) | (refine ⟨by (first | assumption | rfl | (exact Nat.le_of_ble_eq_true rfl) | (exact ⟨fun h01 => absurd h01 (by decide), by first | rfl | assumption⟩) | (exact ⟨fun _ => by decide, by first | rfl | assumption⟩) | (exact ⟨by assumption, by omega, by omega⟩) | (unfold inI; omega) | omega), ?_⟩; conv => whnf) | (refine ⟨fun c => ?_, fun c => ?_⟩) | (intro c) | fail))
    exact hq
  · rw [show frT A p k = (pw (16 - A 5) k.toNat, pw 16 k.toNat) from if_neg hc] at hq he hg
    rw [rrS_1] at hc hs
    have loop : ∀ (f : Nat) (i : Int) (n : Nat), (k - i).toNat = f → 0 ≤ i → i ≤ k → n = i.toNat → Ex (WP X XL (d - 1)) KX9_tellOdds h.1 Q 40 [some (vR 0), some (vI p), some (vI k), some (vI (stN (A 0) (okBy A p (pA A p 1) (A 4)) (pA A p 3) - pA A p 3)), some (vL (pw (16 - A 5) n)), none, some (vL (pw 16 n)), none, some (vI i)] [] h := by
      intro f; induction f with
      | zero =>
        intro i n hf h0 h1 hn
        have : n = k.toNat := by omega
        subst this
        (repeat' (first | (refine w_tell (by omega) k00 he hg ?_) | (refine Ex_step ?_; conv => whnf) | (refine ⟨?_, trivial⟩) | (refine (show den _ _ _ _ _ _ _ _ from ?_); conv => whnf) | (refine ⟨fun c => False.elim (by omega), fun c => ?_⟩) | (refine ⟨fun c => ?_, fun c => False.elim (by omega)⟩) | (refine ⟨by (first | assumption | rfl | (exact Nat.le_of_ble_eq_true rfl) | (exact ⟨fun h01 => absurd h01 (by decide), by first | rfl | assumption⟩) | (exact ⟨fun _ => by decide, by first | rfl | assumption⟩) | (exact ⟨by assumption, by omega, by omega⟩) | (unfold inI; omega) | omega), ?_⟩; conv => whnf) | (refine ⟨fun c => ?_, fun c => ?_⟩) | (intro c) | fail))
        exact hq
      | succ f ih =>
        intro i n hf h0 h1 hn
        have ih2 := ih (i + 1) (n + 1) (by omega) (by omega) (by omega) (by omega)
        refine Ex_step ?_; conv => whnf
        (repeat' (first | (exact ih2) | (rw [r7]) | (rw [g18]) | (refine Ex_step ?_; conv => whnf) | (refine ⟨?_, trivial⟩) | (refine (show den _ _ _ _ _ _ _ _ from ?_); conv => whnf) | (refine ⟨fun c => False.elim (by omega), fun c => ?_⟩) | (refine ⟨fun c => ?_, fun c => False.elim (by omega)⟩) | (refine ⟨by (first | assumption | rfl | (exact Nat.le_of_ble_eq_true rfl) | (exact ⟨fun h01 => absurd h01 (by decide), by first | rfl | assumption⟩) | (exact ⟨fun _ => by decide, by first | rfl | assumption⟩) | (exact ⟨by assumption, by omega, by omega⟩) | (unfold inI; omega) | omega), ?_⟩; conv => whnf) | (refine ⟨fun c => ?_, fun c => ?_⟩) | (intro c) | fail))
    have l0 := loop _ 0 0 rfl (by omega) (by omega) rfl
    (repeat' (first | (exact l0) | (rw [r7]) | (rw [ep]) | (refine w_stopAlone (by omega) hV hp0 hp1 ?_) | (refine Ex_step ?_; conv => whnf) | (refine ⟨?_, trivial⟩) | (refine (show den _ _ _ _ _ _ _ _ from ?_); conv => whnf) | (refine ⟨fun c => False.elim (by omega), fun c => ?_⟩) | (refine ⟨fun c => ?_, fun c => False.elim (by omega)⟩) | (refine ⟨by (first | assumption | rfl | (exact Nat.le_of_ble_eq_true rfl) | (exact ⟨fun h01 => absurd h01 (by decide), by first | rfl | assumption⟩) | (exact ⟨fun _ => by decide, by first | rfl | assumption⟩) | (exact ⟨by assumption, by omega, by omega⟩) | (unfold inI; omega) | omega), ?_⟩; conv => whnf) | (refine ⟨fun c => ?_, fun c => ?_⟩) | (intro c) | fail))
set_option maxHeartbeats 4000000 in
theorem r_tellsDry {X : Int → Int} {XL : Int} {d : Nat} {h : Mem} {Q : RetP} {K : Int} {A : Int → Int} {k : Int} (hd : 3 ≤ d) (hR : Rr K h A) (hk0 : 0 ≤ k) (hk : k ≤ 9) (hq : Q (some (vI 1)) (sG (sG (sG h 127 3 (ldvZ (pw (16 - A 5) k.toNat) (gE (pw (16 - A 5) k.toNat) (pw 16 k.toNat)))) 127 4 (ldvZ (pw 16 k.toNat) (gE (pw (16 - A 5) k.toNat) (pw 16 k.toNat)))) 127 2 0)) : WP X XL d 330 [vR 127, vI k] h Q := by
  obtain ⟨⟨kq, r0, kt, lt⟩, eA, ⟨b0, b1, b2, b3, b4, b5, b6, b8, bK, ba, bp, bq⟩⟩ := id hR
  obtain ⟨he, hg⟩ := eu_ok (pw_ok (c := 16 - A 5) (n := k.toNat) (by omega) (by omega) (by omega))
  have loop : ∀ (f : Nat) (i : Int) (n : Nat), (k - i).toNat = f → 0 ≤ i → i ≤ k → n = i.toNat → Ex (WP X XL (d - 1)) KX10_tellsDry h.1 Q 8 [some (vR 127), some (vI k), some (vL (pw (16 - A 5) n)), none, some (vL (pw 16 n)), none, some (vI i)] [] h := by
    intro f; induction f with
    | zero =>
      intro i n hf h0 h1 hn
      have : n = k.toNat := by omega
      subst this
      (repeat' (first | (refine r_tellsBy (by omega) kq he hg ?_) | (refine Ex_step ?_; conv => whnf) | (refine ⟨?_, trivial⟩) | (refine (show den _ _ _ _ _ _ _ _ from ?_); conv => whnf) | (refine ⟨fun c => False.elim (by omega), fun c => ?_⟩) | (refine ⟨fun c => ?_, fun c => False.elim (by omega)⟩) | (refine ⟨by (first | assumption | rfl | (exact Nat.le_of_ble_eq_true rfl) | (exact ⟨fun h01 => absurd h01 (by decide), by first | rfl | assumption | trivial⟩) | (exact ⟨fun _ => by decide, by first | rfl | assumption | trivial⟩) | (exact ⟨kt, by omega, Int.lt_of_lt_of_le (by omega : _ < (3198 : Int)) (Int.le_of_eq lt.symm)⟩) | (unfold inI; omega) | omega), ?_⟩; conv => whnf; try simp (disch := omega) only [r0, gR_sG, g_same, g_ne, eA]) | (refine ⟨fun c => ?_, fun c => ?_⟩) | (intro c) | fail))
      exact hq
    | succ f ih =>
      intro i n hf h0 h1 hn
      have ih2 := ih (i + 1) (n + 1) (by omega) (by omega) (by omega) (by omega)
      refine Ex_step ?_; conv => whnf
      (repeat' (first | (exact ih2) | (refine Ex_step ?_; conv => whnf) | (refine ⟨?_, trivial⟩) | (refine (show den _ _ _ _ _ _ _ _ from ?_); conv => whnf) | (refine ⟨fun c => False.elim (by omega), fun c => ?_⟩) | (refine ⟨fun c => ?_, fun c => False.elim (by omega)⟩) | (refine ⟨by (first | assumption | rfl | (exact Nat.le_of_ble_eq_true rfl) | (exact ⟨fun h01 => absurd h01 (by decide), by first | rfl | assumption | trivial⟩) | (exact ⟨fun _ => by decide, by first | rfl | assumption | trivial⟩) | (exact ⟨kt, by omega, Int.lt_of_lt_of_le (by omega : _ < (3198 : Int)) (Int.le_of_eq lt.symm)⟩) | (unfold inI; omega) | omega), ?_⟩; conv => whnf; try simp (disch := omega) only [r0, gR_sG, g_same, g_ne, eA]) | (refine ⟨fun c => ?_, fun c => ?_⟩) | (intro c) | fail))
  have l0 := loop _ 0 0 rfl (by omega) (by omega) rfl
  refine eX10_tellsDry (by omega) ?_
  (repeat' (first | (exact l0) | (refine Ex_step ?_; conv => whnf) | (refine ⟨?_, trivial⟩) | (refine (show den _ _ _ _ _ _ _ _ from ?_); conv => whnf) | (refine ⟨fun c => False.elim (by omega), fun c => ?_⟩) | (refine ⟨fun c => ?_, fun c => False.elim (by omega)⟩) | (refine ⟨by (first | assumption | rfl | (exact Nat.le_of_ble_eq_true rfl) | (exact ⟨fun h01 => absurd h01 (by decide), by first | rfl | assumption⟩) | (exact ⟨fun _ => by decide, by first | rfl | assumption⟩) | (exact ⟨by assumption, by omega, by omega⟩) | (unfold inI; omega) | omega), ?_⟩; conv => whnf) | (refine ⟨fun c => ?_, fun c => ?_⟩) | (intro c) | fail))
set_option maxHeartbeats 4000000 in
theorem r_ahead0 {X : Int → Int} {XL : Int} {d : Nat} {h : Mem} {Q : RetP} {K : Int} {A : Int → Int} {p : Int} (hd : 8 ≤ d) (hR : Rr K h A) (hp0 : 0 ≤ p) (hp1 : p < A 1) (hq : Q (some (vI (rrS A p p - pA A p 3))) h) : WP X XL d 331 [vR 127, vI p] h Q := by
  obtain ⟨⟨kq, r0, kt, lt⟩, eA, ⟨b0, b1, b2, b3, b4, b5, b6, b8, bK, ba, bp, bq⟩⟩ := id hR
  have hA := hR.2.2
  have hbp := bp_of hA hp0 hp1
  have hs := rrS_b hA (o := p) hp0 hp1
  have hn := nonN_1 (n := A 0) hs.1
  unfold rrS at hq hs hn
  refine eX10_ahead0 (by omega) ?_
  by_cases hc : stN (A 0) (okB A p p) (pA A p 3) < A 0
  · have e := hn.1 hc
    (repeat' (first | (rw [e.1]) | (refine r_personOf (by omega) hR (by omega) (by omega) ?_) | (refine r_stopOf (by omega) hR hp0 hp1 hp0 hp1 (by omega) (by omega) ?_) | (refine Ex_step ?_; conv => whnf) | (refine ⟨?_, trivial⟩) | (refine (show den _ _ _ _ _ _ _ _ from ?_); conv => whnf) | (refine ⟨fun c => False.elim (by omega), fun c => ?_⟩) | (refine ⟨fun c => ?_, fun c => False.elim (by omega)⟩) | (refine ⟨by (first | assumption | rfl | (exact Nat.le_of_ble_eq_true rfl) | (exact ⟨fun h01 => absurd h01 (by decide), by first | rfl | assumption | trivial⟩) | (exact ⟨fun _ => by decide, by first | rfl | assumption | trivial⟩) | (exact ⟨kt, by omega, Int.lt_of_lt_of_le (by omega : _ < (3198 : Int)) (Int.le_of_eq lt.symm)⟩) | (unfold inI; omega) | omega), ?_⟩; conv => whnf; try simp (disch := omega) only [r0, gR_sG, g_same, g_ne, eA]) | (refine ⟨fun c => ?_, fun c => ?_⟩) | (intro c) | fail))
    exact hq
  · have e := hn.2 (by omega)
    rw [show stN (A 0) (okB A p p) (pA A p 3) = A 0 by omega] at hq
    (repeat' (first | (rw [e]) | (refine r_personOf (by omega) hR (by omega) (by omega) ?_) | (refine r_stopOf (by omega) hR hp0 hp1 hp0 hp1 (by omega) (by omega) ?_) | (refine Ex_step ?_; conv => whnf) | (refine ⟨?_, trivial⟩) | (refine (show den _ _ _ _ _ _ _ _ from ?_); conv => whnf) | (refine ⟨fun c => False.elim (by omega), fun c => ?_⟩) | (refine ⟨fun c => ?_, fun c => False.elim (by omega)⟩) | (refine ⟨by (first | assumption | rfl | (exact Nat.le_of_ble_eq_true rfl) | (exact ⟨fun h01 => absurd h01 (by decide), by first | rfl | assumption | trivial⟩) | (exact ⟨fun _ => by decide, by first | rfl | assumption | trivial⟩) | (exact ⟨kt, by omega, Int.lt_of_lt_of_le (by omega : _ < (3198 : Int)) (Int.le_of_eq lt.symm)⟩) | (unfold inI; omega) | omega), ?_⟩; conv => whnf; try simp (disch := omega) only [r0, gR_sG, g_same, g_ne, eA]) | (refine ⟨fun c => ?_, fun c => ?_⟩) | (intro c) | fail))
    exact hq
set_option maxHeartbeats 4000000 in
theorem c_chance {X : Int → Int} {XL : Int} {d : Nat} {h : Mem} {Q : RetP} {K : Int} {A : Int → Int} {v : Nat} {p : Int} (hd : 9 ≤ d) (hC : Cls K v h A) (hq0 : ¬ (0 ≤ p ∧ p < A 1) → Q (some (vI 0)) (sG h 0 0 1)) (hq1 : 0 ≤ p ∧ p < A 1 → Q (some (vI 1)) (sG (sG (sG h 0 1 (ldvZ (frT A p (A 0 - pA A p 3)).1 (gE (frT A p (A 0 - pA A p 3)).1 (frT A p (A 0 - pA A p 3)).2))) 0 2 (ldvZ (frT A p (A 0 - pA A p 3)).2 (gE (frT A p (A 0 - pA A p 3)).1 (frT A p (A 0 - pA A p 3)).2))) 0 0 0)) : WP X XL d 166 [vR 0, vI p] h Q := by
  obtain ⟨⟨k00, r7, hT⟩, hV⟩ := id hC; have kn := hV.1.1; have hA := hV.2.2
  have b0 := hA.1
  have b1 := hA.2.1
  refine eX9_chance (by omega) ?_
  by_cases hp : 0 ≤ p ∧ p < A 1
  · have hbp := bp_of hA hp.1 hp.2
    have ep := (hV.2.1.2.2.1 p hp.1 hp.2).2.2.2.1
    have g0 := hV.2.1.1.1
    obtain ⟨kv, -, -, -, -, -, -, -, ⟨kbh, lbh⟩, -⟩ := id hV.1
    (repeat' (first | (rw [r7]) | (rw [ep]) | (rw [g0]) | (refine w_hasPerson (by omega) hV (fun c => ?_) (fun c => False.elim (by omega))) | (refine w_hasPerson (by omega) hV (fun c => False.elim (by omega)) (fun c => ?_)) | (refine w_hasPerson (by omega) hV (fun c => ?_) (fun c => ?_)) | (refine w_tellOdds (by omega) hC hp.1 hp.2 (by omega) (by omega) ?_) | (refine w_yes (by omega) k00 ?_) | (refine Ex_step ?_; conv => whnf) | (refine ⟨?_, trivial⟩) | (refine (show den _ _ _ _ _ _ _ _ from ?_); conv => whnf) | (refine ⟨fun c => False.elim (by omega), fun c => ?_⟩) | (refine ⟨fun c => ?_, fun c => False.elim (by omega)⟩) | (refine ⟨by (first | assumption | rfl | (exact Nat.le_of_ble_eq_true rfl) | (exact ⟨fun h01 => absurd h01 (by decide), by first | rfl | assumption⟩) | (exact ⟨fun _ => by decide, by first | rfl | assumption⟩) | (exact ⟨by assumption, by omega, by omega⟩) | (unfold inI; omega) | omega), ?_⟩; conv => whnf) | (refine ⟨fun c => ?_, fun c => ?_⟩) | (intro c) | fail))
    exact hq1 hp
  · (repeat' (first | (rw [r7]) | (refine w_hasPerson (by omega) hV (fun c => ?_) (fun c => False.elim (by omega))) | (refine w_hasPerson (by omega) hV (fun c => False.elim (by omega)) (fun c => ?_)) | (refine w_hasPerson (by omega) hV (fun c => ?_) (fun c => ?_)) | (refine w_not (by omega) k00 ?_) | (refine Ex_step ?_; conv => whnf) | (refine ⟨?_, trivial⟩) | (refine (show den _ _ _ _ _ _ _ _ from ?_); conv => whnf) | (refine ⟨fun c => False.elim (by omega), fun c => ?_⟩) | (refine ⟨fun c => ?_, fun c => False.elim (by omega)⟩) | (refine ⟨by (first | assumption | rfl | (exact Nat.le_of_ble_eq_true rfl) | (exact ⟨fun h01 => absurd h01 (by decide), by first | rfl | assumption⟩) | (exact ⟨fun _ => by decide, by first | rfl | assumption⟩) | (exact ⟨by assumption, by omega, by omega⟩) | (unfold inI; omega) | omega), ?_⟩; conv => whnf) | (refine ⟨fun c => ?_, fun c => ?_⟩) | (intro c) | fail))
    exact hq0 hp
set_option maxHeartbeats 4000000 in
theorem c_hope {X : Int → Int} {XL : Int} {d : Nat} {h : Mem} {Q : RetP} {K : Int} {A : Int → Int} {v : Nat} {p k : Int} (hd : 9 ≤ d) (hC : Cls K v h A) (hq0 : ¬ ((0 ≤ p ∧ p < A 1) ∧ 0 ≤ k ∧ k ≤ 9) → Q (some (vI 0)) (sG h 0 0 1)) (hq1 : (0 ≤ p ∧ p < A 1) ∧ 0 ≤ k ∧ k ≤ 9 → Q (some (vI 1)) (sG (sG (sG h 0 1 (ldvZ (frT A p (k)).1 (gE (frT A p (k)).1 (frT A p (k)).2))) 0 2 (ldvZ (frT A p (k)).2 (gE (frT A p (k)).1 (frT A p (k)).2))) 0 0 0)) : WP X XL d 167 [vR 0, vI p, vI k] h Q := by
  obtain ⟨⟨k00, r7, hT⟩, hV⟩ := id hC; have kn := hV.1.1; have hA := hV.2.2
  refine eX9_hope (by omega) ?_
  by_cases hp : (0 ≤ p ∧ p < A 1) ∧ 0 ≤ k ∧ k ≤ 9
  · (repeat' (first | (rw [r7]) | (refine w_hasPerson (by omega) hV (fun c => ?_) (fun c => False.elim (by omega))) | (refine w_hasPerson (by omega) hV (fun c => False.elim (by omega)) (fun c => ?_)) | (refine w_hasPerson (by omega) hV (fun c => ?_) (fun c => ?_)) | (refine w_within (by omega) (fun c => ?_) (fun c => False.elim (by omega))) | (refine w_within (by omega) (fun c => False.elim (by omega)) (fun c => ?_)) | (refine w_within (by omega) (fun c => ?_) (fun c => ?_)) | (refine w_tellOdds (by omega) hC hp.1.1 hp.1.2 (by omega) (by omega) ?_) | (refine w_yes (by omega) k00 ?_) | (refine Ex_step ?_; conv => whnf) | (refine ⟨?_, trivial⟩) | (refine (show den _ _ _ _ _ _ _ _ from ?_); conv => whnf) | (refine ⟨fun c => False.elim (by omega), fun c => ?_⟩) | (refine ⟨fun c => ?_, fun c => False.elim (by omega)⟩) | (refine ⟨by (first | assumption | rfl | (exact Nat.le_of_ble_eq_true rfl) | (exact ⟨fun h01 => absurd h01 (by decide), by first | rfl | assumption⟩) | (exact ⟨fun _ => by decide, by first | rfl | assumption⟩) | (exact ⟨by assumption, by omega, by omega⟩) | (unfold inI; omega) | omega), ?_⟩; conv => whnf) | (refine ⟨fun c => ?_, fun c => ?_⟩) | (intro c) | fail))
    exact hq1 hp
  · (repeat' (first | (rw [r7]) | (refine w_hasPerson (by omega) hV (fun c => ?_) (fun c => False.elim (by omega))) | (refine w_hasPerson (by omega) hV (fun c => False.elim (by omega)) (fun c => ?_)) | (refine w_hasPerson (by omega) hV (fun c => ?_) (fun c => ?_)) | (refine w_within (by omega) (fun c => ?_) (fun c => False.elim (by omega))) | (refine w_within (by omega) (fun c => False.elim (by omega)) (fun c => ?_)) | (refine w_within (by omega) (fun c => ?_) (fun c => ?_)) | (refine w_not (by omega) k00 ?_) | (refine Ex_step ?_; conv => whnf) | (refine ⟨?_, trivial⟩) | (refine (show den _ _ _ _ _ _ _ _ from ?_); conv => whnf) | (refine ⟨fun c => False.elim (by omega), fun c => ?_⟩) | (refine ⟨fun c => ?_, fun c => False.elim (by omega)⟩) | (refine ⟨by (first | assumption | rfl | (exact Nat.le_of_ble_eq_true rfl) | (exact ⟨fun h01 => absurd h01 (by decide), by first | rfl | assumption⟩) | (exact ⟨fun _ => by decide, by first | rfl | assumption⟩) | (exact ⟨by assumption, by omega, by omega⟩) | (unfold inI; omega) | omega), ?_⟩; conv => whnf) | (refine ⟨fun c => ?_, fun c => ?_⟩) | (intro c) | fail))
    all_goals exact hq0 hp
set_option maxHeartbeats 4000000 in
theorem m_chance {X : Int → Int} {XL : Int} {d : Nat} {h : Mem} {Q : RetP} {K : Int} {A : Int → Int} {p : Int} (hd : 10 ≤ d) (hR : Rr K h A) (hq0 : ¬ (0 ≤ p ∧ p < A 1) → Q (some (vI 0)) (sG h 127 2 1)) (hq1 : 0 ≤ p ∧ p < A 1 → Q (some (vI 1)) (sG (sG (sG h 127 3 (ldvZ (frT A p (A 0 - pA A p 3)).1 (gE (frT A p (A 0 - pA A p 3)).1 (frT A p (A 0 - pA A p 3)).2))) 127 4 (ldvZ (frT A p (A 0 - pA A p 3)).2 (gE (frT A p (A 0 - pA A p 3)).1 (frT A p (A 0 - pA A p 3)).2))) 127 2 0)) : WP X XL d 332 [vR 127, vI p] h Q := by
  obtain ⟨⟨kq, r0, kt, lt⟩, eA, ⟨b0, b1, b2, b3, b4, b5, b6, b8, bK, ba, bp, bq⟩⟩ := id hR
  have hA := hR.2.2
  refine eX10_chance (by omega) ?_
  by_cases hp : 0 ≤ p ∧ p < A 1
  · have hbp := bp_of hA hp.1 hp.2
    have hs := rrS_b hA (o := p) hp.1 hp.2
    have hq1 := hq1 hp
    obtain ⟨he, hg⟩ := eu_ok eu01
    by_cases hc : rrS A p p < A 0
    · rw [show frT A p (A 0 - pA A p 3) = (0, 1) from if_pos (by omega)] at hq1
      (repeat' (first | (refine r_isPerson (by omega) hR (fun c => ?_) (fun c => False.elim (by omega))) | (refine r_isPerson (by omega) hR (fun c => False.elim (by omega)) (fun c => ?_)) | (refine r_isPerson (by omega) hR (fun c => ?_) (fun c => ?_)) | (refine r_ahead0 (by omega) hR hp.1 hp.2 ?_) | (refine r_personOf (by omega) hR (by omega) (by omega) ?_) | (refine r_tellsBy (by omega) kq he hg ?_) | (refine Ex_step ?_; conv => whnf) | (refine ⟨?_, trivial⟩) | (refine (show den _ _ _ _ _ _ _ _ from ?_); conv => whnf) | (refine ⟨fun c => False.elim (by omega), fun c => ?_⟩) | (refine ⟨fun c => ?_, fun c => False.elim (by omega)⟩) | (refine ⟨by (first | assumption | rfl | (exact Nat.le_of_ble_eq_true rfl) | (exact ⟨fun h01 => absurd h01 (by decide), by first | rfl | assumption | trivial⟩) | (exact ⟨fun _ => by decide, by first | rfl | assumption | trivial⟩) | (exact ⟨kt, by omega, Int.lt_of_lt_of_le (by omega : _ < (3198 : Int)) (Int.le_of_eq lt.symm)⟩) | (unfold inI; omega) | omega), ?_⟩; conv => whnf; try simp (disch := omega) only [r0, gR_sG, g_same, g_ne, eA]) | (refine ⟨fun c => ?_, fun c => ?_⟩) | (intro c) | fail))
      exact hq1
    · rw [show frT A p (A 0 - pA A p 3) = (pw (16 - A 5) (A 0 - pA A p 3).toNat, pw 16 (A 0 - pA A p 3).toNat) from if_neg (by omega)] at hq1
      rw [show A 0 = rrS A p p by omega] at hq1
      (repeat' (first | (refine r_isPerson (by omega) hR (fun c => ?_) (fun c => False.elim (by omega))) | (refine r_isPerson (by omega) hR (fun c => False.elim (by omega)) (fun c => ?_)) | (refine r_isPerson (by omega) hR (fun c => ?_) (fun c => ?_)) | (refine r_ahead0 (by omega) hR hp.1 hp.2 ?_) | (refine r_personOf (by omega) hR (by omega) (by omega) ?_) | (refine r_tellsDry (by omega) hR (by omega) (by omega) ?_) | (refine Ex_step ?_; conv => whnf) | (refine ⟨?_, trivial⟩) | (refine (show den _ _ _ _ _ _ _ _ from ?_); conv => whnf) | (refine ⟨fun c => False.elim (by omega), fun c => ?_⟩) | (refine ⟨fun c => ?_, fun c => False.elim (by omega)⟩) | (refine ⟨by (first | assumption | rfl | (exact Nat.le_of_ble_eq_true rfl) | (exact ⟨fun h01 => absurd h01 (by decide), by first | rfl | assumption | trivial⟩) | (exact ⟨fun _ => by decide, by first | rfl | assumption | trivial⟩) | (exact ⟨kt, by omega, Int.lt_of_lt_of_le (by omega : _ < (3198 : Int)) (Int.le_of_eq lt.symm)⟩) | (unfold inI; omega) | omega), ?_⟩; conv => whnf; try simp (disch := omega) only [r0, gR_sG, g_same, g_ne, eA]) | (refine ⟨fun c => ?_, fun c => ?_⟩) | (intro c) | fail))
      exact hq1
  · (repeat' (first | (refine r_isPerson (by omega) hR (fun c => ?_) (fun c => False.elim (by omega))) | (refine r_isPerson (by omega) hR (fun c => False.elim (by omega)) (fun c => ?_)) | (refine r_isPerson (by omega) hR (fun c => ?_) (fun c => ?_)) | (refine r_is (by omega) kq (fun c => absurd c (by omega)) (fun _ => ?_)) | (refine Ex_step ?_; conv => whnf) | (refine ⟨?_, trivial⟩) | (refine (show den _ _ _ _ _ _ _ _ from ?_); conv => whnf) | (refine ⟨fun c => False.elim (by omega), fun c => ?_⟩) | (refine ⟨fun c => ?_, fun c => False.elim (by omega)⟩) | (refine ⟨by (first | assumption | rfl | (exact Nat.le_of_ble_eq_true rfl) | (exact ⟨fun h01 => absurd h01 (by decide), by first | rfl | assumption | trivial⟩) | (exact ⟨fun _ => by decide, by first | rfl | assumption | trivial⟩) | (exact ⟨kt, by omega, Int.lt_of_lt_of_le (by omega : _ < (3198 : Int)) (Int.le_of_eq lt.symm)⟩) | (unfold inI; omega) | omega), ?_⟩; conv => whnf; try simp (disch := omega) only [r0, gR_sG, g_same, g_ne, eA]) | (refine ⟨fun c => ?_, fun c => ?_⟩) | (intro c) | fail))
    exact hq0 hp
set_option maxHeartbeats 4000000 in
theorem m_hope {X : Int → Int} {XL : Int} {d : Nat} {h : Mem} {Q : RetP} {K : Int} {A : Int → Int} {p k : Int} (hd : 10 ≤ d) (hR : Rr K h A) (hq0 : ¬ ((0 ≤ p ∧ p < A 1) ∧ 0 ≤ k ∧ k ≤ 9) → Q (some (vI 0)) (sG h 127 2 1)) (hq1 : (0 ≤ p ∧ p < A 1) ∧ 0 ≤ k ∧ k ≤ 9 → Q (some (vI 1)) (sG (sG (sG h 127 3 (ldvZ (frT A p (k)).1 (gE (frT A p (k)).1 (frT A p (k)).2))) 127 4 (ldvZ (frT A p (k)).2 (gE (frT A p (k)).1 (frT A p (k)).2))) 127 2 0)) : WP X XL d 333 [vR 127, vI p, vI k] h Q := by
  obtain ⟨⟨kq, r0, kt, lt⟩, eA, ⟨b0, b1, b2, b3, b4, b5, b6, b8, bK, ba, bp, bq⟩⟩ := id hR
  have hA := hR.2.2
  refine eX10_hope (by omega) ?_
  by_cases hp : (0 ≤ p ∧ p < A 1) ∧ 0 ≤ k ∧ k ≤ 9
  · have hq1 := hq1 hp
    obtain ⟨he, hg⟩ := eu_ok eu01
    by_cases hc : rrS A p p - pA A p 3 < k
    · rw [show frT A p k = (0, 1) from if_pos hc] at hq1
      (repeat' (first | (refine r_isPerson (by omega) hR (fun c => ?_) (fun c => False.elim (by omega))) | (refine r_isPerson (by omega) hR (fun c => False.elim (by omega)) (fun c => ?_)) | (refine r_isPerson (by omega) hR (fun c => ?_) (fun c => ?_)) | (refine r_isFrom (by omega) (fun c => ?_) (fun c => False.elim (by omega))) | (refine r_isFrom (by omega) (fun c => False.elim (by omega)) (fun c => ?_)) | (refine r_isFrom (by omega) (fun c => ?_) (fun c => ?_)) | (refine r_ahead0 (by omega) hR hp.1.1 hp.1.2 ?_) | (refine r_tellsBy (by omega) kq he hg ?_) | (refine Ex_step ?_; conv => whnf) | (refine ⟨?_, trivial⟩) | (refine (show den _ _ _ _ _ _ _ _ from ?_); conv => whnf) | (refine ⟨fun c => False.elim (by omega), fun c => ?_⟩) | (refine ⟨fun c => ?_, fun c => False.elim (by omega)⟩) | (refine ⟨by (first | assumption | rfl | (exact Nat.le_of_ble_eq_true rfl) | (exact ⟨fun h01 => absurd h01 (by decide), by first | rfl | assumption | trivial⟩) | (exact ⟨fun _ => by decide, by first | rfl | assumption | trivial⟩) | (exact ⟨kt, by omega, Int.lt_of_lt_of_le (by omega : _ < (3198 : Int)) (Int.le_of_eq lt.symm)⟩) | (unfold inI; omega) | omega), ?_⟩; conv => whnf; try simp (disch := omega) only [r0, gR_sG, g_same, g_ne, eA]) | (refine ⟨fun c => ?_, fun c => ?_⟩) | (intro c) | fail))
      exact hq1
    · rw [show frT A p k = (pw (16 - A 5) k.toNat, pw 16 k.toNat) from if_neg hc] at hq1
      (repeat' (first | (refine r_isPerson (by omega) hR (fun c => ?_) (fun c => False.elim (by omega))) | (refine r_isPerson (by omega) hR (fun c => False.elim (by omega)) (fun c => ?_)) | (refine r_isPerson (by omega) hR (fun c => ?_) (fun c => ?_)) | (refine r_isFrom (by omega) (fun c => ?_) (fun c => False.elim (by omega))) | (refine r_isFrom (by omega) (fun c => False.elim (by omega)) (fun c => ?_)) | (refine r_isFrom (by omega) (fun c => ?_) (fun c => ?_)) | (refine r_ahead0 (by omega) hR hp.1.1 hp.1.2 ?_) | (refine r_tellsDry (by omega) hR (by omega) (by omega) ?_) | (refine Ex_step ?_; conv => whnf) | (refine ⟨?_, trivial⟩) | (refine (show den _ _ _ _ _ _ _ _ from ?_); conv => whnf) | (refine ⟨fun c => False.elim (by omega), fun c => ?_⟩) | (refine ⟨fun c => ?_, fun c => False.elim (by omega)⟩) | (refine ⟨by (first | assumption | rfl | (exact Nat.le_of_ble_eq_true rfl) | (exact ⟨fun h01 => absurd h01 (by decide), by first | rfl | assumption | trivial⟩) | (exact ⟨fun _ => by decide, by first | rfl | assumption | trivial⟩) | (exact ⟨kt, by omega, Int.lt_of_lt_of_le (by omega : _ < (3198 : Int)) (Int.le_of_eq lt.symm)⟩) | (unfold inI; omega) | omega), ?_⟩; conv => whnf; try simp (disch := omega) only [r0, gR_sG, g_same, g_ne, eA]) | (refine ⟨fun c => ?_, fun c => ?_⟩) | (intro c) | fail))
      exact hq1
  · (repeat' (first | (refine r_isPerson (by omega) hR (fun c => ?_) (fun c => False.elim (by omega))) | (refine r_isPerson (by omega) hR (fun c => False.elim (by omega)) (fun c => ?_)) | (refine r_isPerson (by omega) hR (fun c => ?_) (fun c => ?_)) | (refine r_isFrom (by omega) (fun c => ?_) (fun c => False.elim (by omega))) | (refine r_isFrom (by omega) (fun c => False.elim (by omega)) (fun c => ?_)) | (refine r_isFrom (by omega) (fun c => ?_) (fun c => ?_)) | (refine r_is (by omega) kq (fun c => absurd c (by omega)) (fun _ => ?_)) | (refine Ex_step ?_; conv => whnf) | (refine ⟨?_, trivial⟩) | (refine (show den _ _ _ _ _ _ _ _ from ?_); conv => whnf) | (refine ⟨fun c => False.elim (by omega), fun c => ?_⟩) | (refine ⟨fun c => ?_, fun c => False.elim (by omega)⟩) | (refine ⟨by (first | assumption | rfl | (exact Nat.le_of_ble_eq_true rfl) | (exact ⟨fun h01 => absurd h01 (by decide), by first | rfl | assumption | trivial⟩) | (exact ⟨fun _ => by decide, by first | rfl | assumption | trivial⟩) | (exact ⟨kt, by omega, Int.lt_of_lt_of_le (by omega : _ < (3198 : Int)) (Int.le_of_eq lt.symm)⟩) | (unfold inI; omega) | omega), ?_⟩; conv => whnf; try simp (disch := omega) only [r0, gR_sG, g_same, g_ne, eA]) | (refine ⟨fun c => ?_, fun c => ?_⟩) | (intro c) | fail))
    all_goals exact hq0 hp
