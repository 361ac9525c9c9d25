/-! LEVEL 2: contracts by the model: the class's Viaduct -/
def b2i (p : Prop) [Decidable p] : Int := if p then 1 else 0
theorem b2i_t {p : Prop} [Decidable p] (h : p) : b2i p = 1 := if_pos h
theorem b2i_f {p : Prop} [Decidable p] (h : ¬ p) : b2i p = 0 := if_neg h
-- the reference's array as the state of all
def hoA (A : Int → Int) (a : Int) : Int := A (10 + 3 * a)
def moA (A : Int → Int) (a : Int) : Int := A (10 + 3 * a + 1)
def toA (A : Int → Int) (a : Int) : Int := A (10 + 3 * a + 2)
def pA (A : Int → Int) (p k : Int) : Int := A (37 + 6 * p + k)
def plA (A : Int → Int) (q k : Int) : Int := A (73 + 2 * q + k)
def AOk (K : Int) (A : Int → Int) : Prop :=
  (0 ≤ A 0 ∧ A 0 ≤ 9) ∧ (0 ≤ A 1 ∧ A 1 ≤ 6) ∧ (0 ≤ A 2 ∧ A 2 ≤ 8) ∧ (0 ≤ A 3 ∧ A 3 ≤ 9) ∧ (0 ≤ A 4 ∧ A 4 ≤ 5) ∧ (0 ≤ A 5 ∧ A 5 ≤ 16) ∧ (0 ≤ A 6 ∧ A 6 ≤ 20000) ∧ (0 ≤ A 8 ∧ A 8 ≤ 511) ∧ (0 ≤ K ∧ K ≤ 30000000) ∧
  (∀ a, 0 ≤ a → a < A 0 → (0 ≤ hoA A a ∧ hoA A a ≤ 60) ∧ (0 ≤ moA A a ∧ moA A a ≤ 9) ∧ (0 ≤ toA A a ∧ toA A a ≤ 9)) ∧
  (∀ p, 0 ≤ p → p < A 1 → (1 ≤ pA A p 0 ∧ pA A p 0 ≤ 40) ∧ (0 ≤ pA A p 1 ∧ pA A p 1 ≤ 9) ∧ (0 ≤ pA A p 2 ∧ pA A p 2 ≤ 9) ∧ (0 ≤ pA A p 3 ∧ pA A p 3 ≤ A 0) ∧ (0 ≤ pA A p 4 ∧ pA A p 4 ≤ K) ∧ (0 ≤ pA A p 5 ∧ pA A p 5 ≤ K)) ∧
  (∀ q, 0 ≤ q → q < A 2 → (1 ≤ plA A q 0 ∧ plA A q 0 ≤ 30) ∧ (0 ≤ plA A q 1 ∧ plA A q 1 ≤ 99))
def arrOk (h : Mem) (r kk : Nat) (n : Int) : Prop := kd h r = kk ∧ ln h r = n
def VOk (h : Mem) (v : Nat) : Prop := kd h v = 7 ∧ arrOk h (gR h v 1) 100 9 ∧ arrOk h (gR h v 2) 100 9 ∧ arrOk h (gR h v 3) 100 9 ∧ arrOk h (gR h v 6) 101 6 ∧ arrOk h (gR h v 7) 100 6 ∧ arrOk h (gR h v 8) 100 6 ∧ arrOk h (gR h v 9) 100 6 ∧ arrOk h (gR h v 10) 100 6 ∧ arrOk h (gR h v 11) 100 6 ∧ arrOk h (gR h v 12) 100 6 ∧ arrOk h (gR h v 14) 100 8 ∧ arrOk h (gR h v 15) 100 8
def VRel (h : Mem) (v : Nat) (A : Int → Int) : Prop :=
  (gG h v 0 = A 0 ∧ gG h v 5 = A 1 ∧ gG h v 13 = A 2 ∧ gG h v 16 = A 3 ∧ gG h v 17 = A 4 ∧ gG h v 18 = A 5 ∧ gG h v 19 = A 6 ∧ gG h v 4 = A 8) ∧
  (∀ a, 0 ≤ a → a < A 0 → gG h (gR h v 1) a = hoA A a ∧ gG h (gR h v 2) a = moA A a ∧ gG h (gR h v 3) a = toA A a) ∧
  (∀ p, 0 ≤ p → p < A 1 → gG h (gR h v 7) p = pA A p 0 ∧ gG h (gR h v 8) p = pA A p 1 ∧ gG h (gR h v 9) p = pA A p 2 ∧ gG h (gR h v 10) p = pA A p 3 ∧ gG h (gR h v 11) p = pA A p 4 ∧ gG h (gR h v 12) p = pA A p 5) ∧
  (∀ q, 0 ≤ q → q < A 2 → gG h (gR h v 14) q = plA A q 0 ∧ gG h (gR h v 15) q = plA A q 1)
/-- the Viaduct at v holds what A says -/
def Vr (K : Int) (h : Mem) (v : Nat) (A : Int → Int) : Prop := VOk h v ∧ VRel h v A ∧ AOk K A
theorem mulB {x y a b : Int} (h0 : 0 ≤ x) (h1 : x ≤ a) (h2 : 0 ≤ y) (h3 : y ≤ b) : 0 ≤ x * y ∧ x * y ≤ a * b :=
  ⟨Int.mul_nonneg h0 h2, Int.mul_le_mul h1 h3 h2 (Int.le_trans h0 h1)⟩
def stp (n : Int) (ok : Int → Bool) : Nat → Int → Int
  | 0, a => a
  | k + 1, a => if a < n ∧ ok a = true then stp n ok k (a + 1) else a
/-- the first from a on that isn't ok; n if there is none -/
def stN (n : Int) (ok : Int → Bool) (a : Int) : Int := stp n ok (n - a).toNat a
theorem stN_go {n a : Int} {ok : Int → Bool} (h1 : a < n) (h2 : ok a = true) : stN n ok a = stN n ok (a + 1) := by
  unfold stN
  rw [show (n - a).toNat = (n - (a + 1)).toNat + 1 by omega]
  show (if a < n ∧ ok a = true then _ else _) = _
  rw [if_pos ⟨h1, h2⟩]
theorem stN_end {n a : Int} {ok : Int → Bool} (h : n ≤ a ∨ ok a = false) : stN n ok a = a := by
  unfold stN
  cases hk : (n - a).toNat with
  | zero => rfl
  | succ k =>
    show (if a < n ∧ ok a = true then _ else _) = _
    rw [if_neg]
    rintro ⟨q1, q2⟩
    rcases h with h | h
    · omega
    · rw [h] at q2; cases q2
theorem stN_rng {n : Int} {ok : Int → Bool} : ∀ (k : Nat) (a : Int), (n - a).toNat = k → a ≤ n → a ≤ stN n ok a ∧ stN n ok a ≤ n := by
  intro k
  induction k with
  | zero => intro a hk ha; rw [stN_end (Or.inl (by omega))]; omega
  | succ k ih =>
    intro a hk ha
    by_cases h : ok a = true
    · rw [stN_go (by omega) h]
      have := ih (a + 1) (by omega) (by omega)
      omega
    · rw [stN_end (Or.inr (by simpa using h))]; omega
theorem zdiv_pos {a b : Int} (ha : 0 ≤ a) (ha2 : a ≤ 2147483647) (hb : 0 < b) (hb2 : b ≤ 2147483647) : zdiv a b = a / b := by
  obtain ⟨m, rfl⟩ := Int.eq_ofNat_of_zero_le ha
  obtain ⟨n, rfl⟩ := Int.eq_ofNat_of_zero_le (Int.le_of_lt hb)
  unfold zdiv
  have h1 : Int32.ofInt (m : Int) = nI m := rfl
  have h2 : Int32.ofInt (n : Int) = nI n := rfl
  rw [h1, h2, pk_div (by omega) (by omega) (by omega), nI_toInt (Nat.lt_of_le_of_lt (Nat.div_le_self m n) (by omega))]
  exact (Int.natCast_ediv m n)
def sBy (A : Int → Int) (p db m : Int) : Int := pA A p 0 - pA A p 2 + db * m
def sAl (A : Int → Int) (p a : Int) : Int := sBy A p (pA A p 1) (moA A a + A 4)
def sRo (A : Int → Int) (p o a : Int) : Int := max (pA A p 0) (pA A o 0) + zdiv (min (pA A p 0) (pA A o 0)) 2 - pA A p 2 - pA A o 2 + min (pA A p 1) (pA A o 1) * (moA A a + A 4)
set_option maxHeartbeats 4000000 in
theorem w_hasArch {X : Int → Int} {XL : Int} {d : Nat} {h : Mem} {Q : RetP} {K : Int} {A : Int → Int} {v : Nat} {a : Int} (hd : 1 ≤ d) (hV : Vr K h v A) (hq1 : 0 ≤ a ∧ a < A 0 → Q (some (vI 1)) h) (hq0 : ¬ (0 ≤ a ∧ a < A 0) → Q (some (vI 0)) h) : WP X XL d 13 [vR v, vI a] h Q := by
  obtain ⟨⟨k0, ⟨k1, l1⟩, ⟨k2, l2⟩, ⟨k3, l3⟩, ⟨k6, l6⟩, ⟨k7, l7⟩, ⟨k8, l8⟩, ⟨k9, l9⟩, ⟨k10, l10⟩, ⟨k11, l11⟩, ⟨k12, l12⟩, ⟨k14, l14⟩, ⟨k15, l15⟩⟩, ⟨⟨g0, g5, g13, g16, g17, g18, g19, g4⟩, ra, rp, rq⟩, ⟨b0, b1, b2, b3, b4, b5, b6, b8, bK, ba, bp, bq⟩⟩ := id hV
  refine eX7_hasArch hd ?_
  (repeat' (first | (refine Ex_step ?_; conv => whnf) | (refine ⟨?_, trivial⟩) | (refine (show den _ _ _ _ _ _ _ _ from ?_); conv => whnf) | (refine ⟨by (first | assumption | rfl | (exact Nat.le_of_ble_eq_true rfl) | (exact ⟨fun h01 => absurd h01 (by decide), rfl⟩) | (exact ⟨fun _ => by decide, rfl⟩) | (exact ⟨by assumption, by omega, by omega⟩) | (unfold inI; omega) | omega), ?_⟩; conv => whnf) | (refine ⟨fun c => False.elim (by omega), fun c => ?_⟩) | (refine ⟨fun c => ?_, fun c => False.elim (by omega)⟩) | (refine ⟨fun c => ?_, fun c => ?_⟩) | (intro c) | fail)) <;> (first | (exact hq1 (by omega)) | (exact hq0 (by omega)))
set_option maxHeartbeats 4000000 in
theorem w_hasPerson {X : Int → Int} {XL : Int} {d : Nat} {h : Mem} {Q : RetP} {K : Int} {A : Int → Int} {v : Nat} {a : Int} (hd : 1 ≤ d) (hV : Vr K h v A) (hq1 : 0 ≤ a ∧ a < A 1 → Q (some (vI 1)) h) (hq0 : ¬ (0 ≤ a ∧ a < A 1) → Q (some (vI 0)) h) : WP X XL d 14 [vR v, vI a] h Q := by
  obtain ⟨⟨k0, ⟨k1, l1⟩, ⟨k2, l2⟩, ⟨k3, l3⟩, ⟨k6, l6⟩, ⟨k7, l7⟩, ⟨k8, l8⟩, ⟨k9, l9⟩, ⟨k10, l10⟩, ⟨k11, l11⟩, ⟨k12, l12⟩, ⟨k14, l14⟩, ⟨k15, l15⟩⟩, ⟨⟨g0, g5, g13, g16, g17, g18, g19, g4⟩, ra, rp, rq⟩, ⟨b0, b1, b2, b3, b4, b5, b6, b8, bK, ba, bp, bq⟩⟩ := id hV
  refine eX7_hasPerson hd ?_
  (repeat' (first | (refine Ex_step ?_; conv => whnf) | (refine ⟨?_, trivial⟩) | (refine (show den _ _ _ _ _ _ _ _ from ?_); conv => whnf) | (refine ⟨by (first | assumption | rfl | (exact Nat.le_of_ble_eq_true rfl) | (exact ⟨fun h01 => absurd h01 (by decide), rfl⟩) | (exact ⟨fun _ => by decide, rfl⟩) | (exact ⟨by assumption, by omega, by omega⟩) | (unfold inI; omega) | omega), ?_⟩; conv => whnf) | (refine ⟨fun c => False.elim (by omega), fun c => ?_⟩) | (refine ⟨fun c => ?_, fun c => False.elim (by omega)⟩) | (refine ⟨fun c => ?_, fun c => ?_⟩) | (intro c) | fail)) <;> (first | (exact hq1 (by omega)) | (exact hq0 (by omega)))
set_option maxHeartbeats 4000000 in
theorem w_hasTwo {X : Int → Int} {XL : Int} {d : Nat} {h : Mem} {Q : RetP} {K : Int} {A : Int → Int} {v : Nat} {a b : Int} (hd : 2 ≤ d) (hV : Vr K h v A) (hq1 : (0 ≤ a ∧ a < A 1) ∧ (0 ≤ b ∧ b < A 1) ∧ ¬ a = b → Q (some (vI 1)) h) (hq0 : ¬ ((0 ≤ a ∧ a < A 1) ∧ (0 ≤ b ∧ b < A 1) ∧ ¬ a = b) → Q (some (vI 0)) h) : WP X XL d 15 [vR v, vI a, vI b] h Q := by
  have k0 := hV.1.1
  refine eX7_hasTwo (by omega) ?_
  (repeat' (first | (refine w_hasPerson (by omega) hV (fun c => ?_) (fun c => ?_)) | (refine Ex_step ?_; conv => whnf) | (refine ⟨?_, trivial⟩) | (refine (show den _ _ _ _ _ _ _ _ from ?_); conv => whnf) | (refine ⟨by (first | assumption | rfl | (exact Nat.le_of_ble_eq_true rfl) | (exact ⟨fun h01 => absurd h01 (by decide), rfl⟩) | (exact ⟨fun _ => by decide, rfl⟩) | (exact ⟨by assumption, by omega, by omega⟩) | (unfold inI; omega) | omega), ?_⟩; conv => whnf) | (refine ⟨fun c => False.elim (by omega), fun c => ?_⟩) | (refine ⟨fun c => ?_, fun c => False.elim (by omega)⟩) | (refine ⟨fun c => ?_, fun c => ?_⟩) | (intro c) | fail)) <;> (first | (exact hq1 (by omega)) | (exact hq0 (by omega)))
set_option maxHeartbeats 4000000 in
theorem w_isOver {X : Int → Int} {XL : Int} {d : Nat} {h : Mem} {Q : RetP} {K : Int} {A : Int → Int} {v : Nat} {p : Int} (hd : 1 ≤ d) (hV : Vr K h v A) (hp0 : 0 ≤ p) (hp1 : p < A 1) (hq1 : A 0 ≤ pA A p 3 → Q (some (vI 1)) h) (hq0 : pA A p 3 < A 0 → Q (some (vI 0)) h) : WP X XL d 17 [vR v, vI p] h Q := by
  obtain ⟨⟨k0, ⟨k1, l1⟩, ⟨k2, l2⟩, ⟨k3, l3⟩, ⟨k6, l6⟩, ⟨k7, l7⟩, ⟨k8, l8⟩, ⟨k9, l9⟩, ⟨k10, l10⟩, ⟨k11, l11⟩, ⟨k12, l12⟩, ⟨k14, l14⟩, ⟨k15, l15⟩⟩, ⟨⟨g0, g5, g13, g16, g17, g18, g19, g4⟩, ra, rp, rq⟩, ⟨b0, b1, b2, b3, b4, b5, b6, b8, bK, ba, bp, bq⟩⟩ := id hV
  obtain ⟨e7, e8, e9, e10, e11, e12⟩ := rp p hp0 hp1; obtain ⟨f0, f1, f2, f3, f4, f5⟩ := bp p hp0 hp1
  refine eX7_isOver hd ?_
  (repeat' (first | (refine Ex_step ?_; conv => whnf) | (refine ⟨?_, trivial⟩) | (refine (show den _ _ _ _ _ _ _ _ from ?_); conv => whnf) | (refine ⟨by (first | assumption | rfl | (exact Nat.le_of_ble_eq_true rfl) | (exact ⟨fun h01 => absurd h01 (by decide), rfl⟩) | (exact ⟨fun _ => by decide, rfl⟩) | (exact ⟨by assumption, by omega, by omega⟩) | (unfold inI; omega) | omega), ?_⟩; conv => whnf) | (refine ⟨fun c => False.elim (by omega), fun c => ?_⟩) | (refine ⟨fun c => ?_, fun c => False.elim (by omega)⟩) | (refine ⟨fun c => ?_, fun c => ?_⟩) | (intro c) | fail)) <;> (first | (exact hq1 (by omega)) | (exact hq0 (by omega)))
set_option maxHeartbeats 4000000 in
theorem w_strainBy {X : Int → Int} {XL : Int} {d : Nat} {h : Mem} {Q : RetP} {K : Int} {A : Int → Int} {v : Nat} {p db m : Int} (hd : 1 ≤ d) (hV : Vr K h v A) (hp0 : 0 ≤ p) (hp1 : p < A 1) (hm : -1000 ≤ db * m ∧ db * m ≤ 1000) (hq : Q (some (vI (sBy A p db m))) h) : WP X XL d 23 [vR v, vI p, vI db, vI m] h Q := by
  obtain ⟨⟨k0, ⟨k1, l1⟩, ⟨k2, l2⟩, ⟨k3, l3⟩, ⟨k6, l6⟩, ⟨k7, l7⟩, ⟨k8, l8⟩, ⟨k9, l9⟩, ⟨k10, l10⟩, ⟨k11, l11⟩, ⟨k12, l12⟩, ⟨k14, l14⟩, ⟨k15, l15⟩⟩, ⟨⟨g0, g5, g13, g16, g17, g18, g19, g4⟩, ra, rp, rq⟩, ⟨b0, b1, b2, b3, b4, b5, b6, b8, bK, ba, bp, bq⟩⟩ := id hV
  obtain ⟨e7, e8, e9, e10, e11, e12⟩ := rp p hp0 hp1; obtain ⟨f0, f1, f2, f3, f4, f5⟩ := bp p hp0 hp1
  refine eX7_strainBy hd ?_
  unfold sBy at hq
  rw [← e7, ← e9] at hq
  (repeat' (first | (refine Ex_step ?_; conv => whnf) | (refine ⟨?_, trivial⟩) | (refine (show den _ _ _ _ _ _ _ _ from ?_); conv => whnf) | (refine ⟨by (first | assumption | rfl | (exact Nat.le_of_ble_eq_true rfl) | (exact ⟨fun h01 => absurd h01 (by decide), rfl⟩) | (exact ⟨fun _ => by decide, rfl⟩) | (exact ⟨by assumption, by omega, by omega⟩) | (unfold inI; omega) | omega), ?_⟩; conv => whnf) | (refine ⟨fun c => False.elim (by omega), fun c => ?_⟩) | (refine ⟨fun c => ?_, fun c => False.elim (by omega)⟩) | (refine ⟨fun c => ?_, fun c => ?_⟩) | (intro c) | fail))
  exact hq
set_option maxHeartbeats 4000000 in
theorem w_strainAlone {X : Int → Int} {XL : Int} {d : Nat} {h : Mem} {Q : RetP} {K : Int} {A : Int → Int} {v : Nat} {p a : Int} (hd : 2 ≤ d) (hV : Vr K h v A) (hp0 : 0 ≤ p) (hp1 : p < A 1) (ha0 : 0 ≤ a) (ha1 : a < A 0) (hq : Q (some (vI (sAl A p a))) h) : WP X XL d 24 [vR v, vI p, vI a] h Q := by
  obtain ⟨⟨k0, ⟨k1, l1⟩, ⟨k2, l2⟩, ⟨k3, l3⟩, ⟨k6, l6⟩, ⟨k7, l7⟩, ⟨k8, l8⟩, ⟨k9, l9⟩, ⟨k10, l10⟩, ⟨k11, l11⟩, ⟨k12, l12⟩, ⟨k14, l14⟩, ⟨k15, l15⟩⟩, ⟨⟨g0, g5, g13, g16, g17, g18, g19, g4⟩, ra, rp, rq⟩, ⟨b0, b1, b2, b3, b4, b5, b6, b8, bK, ba, bp, bq⟩⟩ := id hV
  obtain ⟨e7, e8, e9, e10, e11, e12⟩ := rp p hp0 hp1; obtain ⟨f0, f1, f2, f3, f4, f5⟩ := bp p hp0 hp1
  obtain ⟨e1, e2, e3⟩ := ra a ha0 ha1; obtain ⟨fa0, fa1, fa2⟩ := ba a ha0 ha1
  refine eX7_strainAlone (by omega) ?_
  have hm := mulB f1.1 f1.2 (show 0 ≤ moA A a + A 4 by omega) (show moA A a + A 4 ≤ 14 by omega)
  unfold sAl at hq
  rw [← e8, ← e2, ← g17] at hq hm
  (repeat' (first | (refine w_strainBy (by omega) hV hp0 hp1 (by omega) ?_) | (refine Ex_step ?_; conv => whnf) | (refine ⟨?_, trivial⟩) | (refine (show den _ _ _ _ _ _ _ _ from ?_); conv => whnf) | (refine ⟨by (first | assumption | rfl | (exact Nat.le_of_ble_eq_true rfl) | (exact ⟨fun h01 => absurd h01 (by decide), rfl⟩) | (exact ⟨fun _ => by decide, rfl⟩) | (exact ⟨by assumption, by omega, by omega⟩) | (unfold inI; omega) | omega), ?_⟩; conv => whnf) | (refine ⟨fun c => False.elim (by omega), fun c => ?_⟩) | (refine ⟨fun c => ?_, fun c => False.elim (by omega)⟩) | (refine ⟨fun c => ?_, fun c => ?_⟩) | (intro c) | fail))
  exact hq
set_option maxHeartbeats 4000000 in
theorem w_bearsAlone {X : Int → Int} {XL : Int} {d : Nat} {h : Mem} {Q : RetP} {K : Int} {A : Int → Int} {v : Nat} {p a : Int} (hd : 3 ≤ d) (hV : Vr K h v A) (hp0 : 0 ≤ p) (hp1 : p < A 1) (ha0 : 0 ≤ a) (ha1 : a < A 0) (hq1 : sAl A p a ≤ hoA A a → Q (some (vI 1)) h) (hq0 : hoA A a < sAl A p a → Q (some (vI 0)) h) : WP X XL d 26 [vR v, vI p, vI a] h Q := by
  obtain ⟨⟨k0, ⟨k1, l1⟩, ⟨k2, l2⟩, ⟨k3, l3⟩, ⟨k6, l6⟩, ⟨k7, l7⟩, ⟨k8, l8⟩, ⟨k9, l9⟩, ⟨k10, l10⟩, ⟨k11, l11⟩, ⟨k12, l12⟩, ⟨k14, l14⟩, ⟨k15, l15⟩⟩, ⟨⟨g0, g5, g13, g16, g17, g18, g19, g4⟩, ra, rp, rq⟩, ⟨b0, b1, b2, b3, b4, b5, b6, b8, bK, ba, bp, bq⟩⟩ := id hV
  obtain ⟨e1, e2, e3⟩ := ra a ha0 ha1; obtain ⟨fa0, fa1, fa2⟩ := ba a ha0 ha1
  refine eX7_bearsAlone (by omega) ?_
  (repeat' (first | (refine w_strainAlone (by omega) hV hp0 hp1 ha0 ha1 ?_) | (refine Ex_step ?_; conv => whnf) | (refine ⟨?_, trivial⟩) | (refine (show den _ _ _ _ _ _ _ _ from ?_); conv => whnf) | (refine ⟨by (first | assumption | rfl | (exact Nat.le_of_ble_eq_true rfl) | (exact ⟨fun h01 => absurd h01 (by decide), rfl⟩) | (exact ⟨fun _ => by decide, rfl⟩) | (exact ⟨by assumption, by omega, by omega⟩) | (unfold inI; omega) | omega), ?_⟩; conv => whnf) | (refine ⟨fun c => False.elim (by omega), fun c => ?_⟩) | (refine ⟨fun c => ?_, fun c => False.elim (by omega)⟩) | (refine ⟨fun c => ?_, fun c => ?_⟩) | (intro c) | fail)) <;> (first | (exact hq1 (by omega)) | (exact hq0 (by omega)))
def okBy (A : Int → Int) (p db fg : Int) (a : Int) : Bool := decide (sBy A p db (moA A a + fg) ≤ hoA A a)
set_option maxHeartbeats 4000000 in
theorem w_stopBy {X : Int → Int} {XL : Int} {d : Nat} {h : Mem} {Q : RetP} {K : Int} {A : Int → Int} {v : Nat} {p fr db fg : Int} (hd : 2 ≤ d) (hV : Vr K h v A) (hp0 : 0 ≤ p) (hp1 : p < A 1) (hf0 : 0 ≤ fr) (hdb : 0 ≤ db ∧ db ≤ 9) (hfg : 0 ≤ fg ∧ fg ≤ 5) (hq : Q (some (vI (stN (A 0) (okBy A p db fg) fr))) h) : WP X XL d 29 [vR v, vI p, vI fr, vI db, vI fg] h Q := by
  obtain ⟨⟨k0, ⟨k1, l1⟩, ⟨k2, l2⟩, ⟨k3, l3⟩, ⟨k6, l6⟩, ⟨k7, l7⟩, ⟨k8, l8⟩, ⟨k9, l9⟩, ⟨k10, l10⟩, ⟨k11, l11⟩, ⟨k12, l12⟩, ⟨k14, l14⟩, ⟨k15, l15⟩⟩, ⟨⟨g0, g5, g13, g16, g17, g18, g19, g4⟩, ra, rp, rq⟩, ⟨b0, b1, b2, b3, b4, b5, b6, b8, bK, ba, bp, bq⟩⟩ := id hV
  refine eX7_stopBy (by omega) ?_
  refine Ex_step ?_
  conv => whnf
  refine ⟨?_, trivial⟩
  have loop : ∀ (k : Nat) (a : Int), (A 0 - a).toNat = k → 0 ≤ a → Q (some (vI (stN (A 0) (okBy A p db fg) a))) h → Ex (WP X XL (d - 1)) KX7_stopBy h.1 Q 3 [some (vR v), some (vI p), some (vI fr), some (vI db), some (vI fg), some (vI a)] [] h := by
    intro k
    induction k with
    | zero =>
      intro a hk ha0 hq
      rw [stN_end (Or.inl (by omega))] at hq
      (repeat' (first | (refine Ex_step ?_; conv => whnf) | (refine ⟨?_, trivial⟩) | (refine (show den _ _ _ _ _ _ _ _ from ?_); conv => whnf) | (refine ⟨by (first | assumption | rfl | (exact Nat.le_of_ble_eq_true rfl) | (exact ⟨fun h01 => absurd h01 (by decide), rfl⟩) | (exact ⟨fun _ => by decide, rfl⟩) | (exact ⟨by assumption, by omega, by omega⟩) | (unfold inI; omega) | omega), ?_⟩; conv => whnf) | (refine ⟨fun c => False.elim (by omega), fun c => ?_⟩) | (refine ⟨fun c => ?_, fun c => False.elim (by omega)⟩) | (refine ⟨fun c => ?_, fun c => ?_⟩) | (intro c) | fail))
      exact hq
    | succ k ih =>
      intro a hk ha0 hq
      have ha1 : a < A 0 := by omega
      obtain ⟨e1, e2, e3⟩ := ra a ha0 ha1; obtain ⟨fa0, fa1, fa2⟩ := ba a ha0 ha1
      have hm := mulB hdb.1 hdb.2 (show 0 ≤ moA A a + fg by omega) (show moA A a + fg ≤ 14 by omega)
      rw [← e2] at hm
      by_cases hok : okBy A p db fg a = true
      · rw [stN_go ha1 hok] at hq
        have hok := of_decide_eq_true hok
        rw [← e1, ← e2] at hok
        refine Ex_step ?_
        conv => whnf
        (repeat' (first | (refine ih _ (by omega) (by omega) hq) | (refine w_strainBy (by omega) hV hp0 hp1 (by omega) ?_) | (refine Ex_step ?_; conv => whnf) | (refine ⟨?_, trivial⟩) | (refine (show den _ _ _ _ _ _ _ _ from ?_); conv => whnf) | (refine ⟨by (first | assumption | rfl | (exact Nat.le_of_ble_eq_true rfl) | (exact ⟨fun h01 => absurd h01 (by decide), rfl⟩) | (exact ⟨fun _ => by decide, rfl⟩) | (exact ⟨by assumption, by omega, by omega⟩) | (unfold inI; omega) | omega), ?_⟩; conv => whnf) | (refine ⟨fun c => False.elim (by omega), fun c => ?_⟩) | (refine ⟨fun c => ?_, fun c => False.elim (by omega)⟩) | (refine ⟨fun c => ?_, fun c => ?_⟩) | (intro c) | fail))
      · rw [stN_end (Or.inr (by simpa using hok))] at hq
        have hok : ¬ _ := fun q => hok (decide_eq_true q)
        rw [← e1, ← e2] at hok
        (repeat' (first | (refine w_strainBy (by omega) hV hp0 hp1 (by omega) ?_) | (refine Ex_step ?_; conv => whnf) | (refine ⟨?_, trivial⟩) | (refine (show den _ _ _ _ _ _ _ _ from ?_); conv => whnf) | (refine ⟨by (first | assumption | rfl | (exact Nat.le_of_ble_eq_true rfl) | (exact ⟨fun h01 => absurd h01 (by decide), rfl⟩) | (exact ⟨fun _ => by decide, rfl⟩) | (exact ⟨by assumption, by omega, by omega⟩) | (unfold inI; omega) | omega), ?_⟩; conv => whnf) | (refine ⟨fun c => False.elim (by omega), fun c => ?_⟩) | (refine ⟨fun c => ?_, fun c => False.elim (by omega)⟩) | (refine ⟨fun c => ?_, fun c => ?_⟩) | (intro c) | fail))
        exact hq
  exact loop _ fr rfl hf0 hq
