/-! LEVEL 2: the class's Viaduct, what only looks, on -/
def popc (z : Int) : Int := z % 2 + z / 2 % 2 + z / 4 % 2 + z / 8 % 2 + z / 16 % 2 + z / 32 % 2 + z / 64 % 2 + z / 128 % 2 + z / 256 % 2 + z / 512 % 2
def bc1 (z : Int) : Int := z - zand (zushr z 1) 1431655765
def bc2 (z : Int) : Int := zand (bc1 z) 858993459 + zand (zushr (bc1 z) 2) 858993459
def bc3 (z : Int) : Int := zand (bc2 z + zushr (bc2 z) 4) 252645135
def bc4 (z : Int) : Int := bc3 z + zushr (bc3 z) 8
def bc5 (z : Int) : Int := bc4 z + zushr (bc4 z) 16
def in32P (z : Int) : Prop := -2147483648 ≤ z ∧ z ≤ 2147483647
set_option maxRecDepth 100000 in
theorem bc_all : ∀ n, n < 1024 → (-2147483648 ≤ bc1 (n : Nat) ∧ bc1 (n : Nat) ≤ 2147483647) ∧ (-2147483648 ≤ bc2 (n : Nat) ∧ bc2 (n : Nat) ≤ 2147483647) ∧ (-2147483648 ≤ bc2 (n : Nat) + zushr (bc2 (n : Nat)) 4 ∧ bc2 (n : Nat) + zushr (bc2 (n : Nat)) 4 ≤ 2147483647) ∧ (-2147483648 ≤ bc4 (n : Nat) ∧ bc4 (n : Nat) ≤ 2147483647) ∧ (-2147483648 ≤ bc5 (n : Nat) ∧ bc5 (n : Nat) ≤ 2147483647) ∧ zand (bc5 (n : Nat)) 63 = popc (n : Nat) := by decide +kernel
set_option maxHeartbeats 4000000 in
theorem w_bitCount {X : Int → Int} {XL : Int} {d : Nat} {h : Mem} {Q : RetP} {z : Int} (hd : 1 ≤ d) (hz : 0 ≤ z ∧ z < 1024) (hq : Q (some (vI (popc z))) h) : WP X XL d 351 [vI z] h Q := by
  obtain ⟨n, rfl⟩ := Int.eq_ofNat_of_zero_le hz.1
  obtain ⟨c1, c2, c3, c4, c5, c6⟩ := bc_all n (by omega)
  have c1 : inI (bc1 n) := c1
  have c2 : inI (bc2 n) := c2
  have c3 : inI (bc2 n + zushr (bc2 n) 4) := c3
  have c4 : inI (bc4 n) := c4
  have c5 : inI (bc5 n) := c5
  rw [← c6] at hq
  refine eJ6_bitCount_0f7a4 hd ?_
  (repeat' (first | (refine Ex_step ?_; conv => whnf) | (refine ⟨?_, trivial⟩) | (refine (show den _ _ _ _ _ _ _ _ from ?_); conv => whnf) | (refine ⟨by (first | assumption | rfl | (exact Nat.le_of_ble_eq_true rfl) | (exact ⟨fun h01 => absurd h01 (by decide), rfl⟩) | (exact ⟨fun _ => by decide, rfl⟩) | (exact ⟨by assumption, by omega, by omega⟩) | (unfold inI; omega) | omega), ?_⟩; conv => whnf) | (refine ⟨fun c => False.elim (by omega), fun c => ?_⟩) | (refine ⟨fun c => ?_, fun c => False.elim (by omega)⟩) | (refine ⟨fun c => ?_, fun c => ?_⟩) | (intro c) | fail))
  exact hq
theorem okBy_sAl {A : Int → Int} {p a : Int} : okBy A p (pA A p 1) (A 4) a = decide (sAl A p a ≤ hoA A a) := rfl
set_option maxHeartbeats 4000000 in
theorem w_spanLength {X : Int → Int} {XL : Int} {d : Nat} {h : Mem} {Q : RetP} {K : Int} {A : Int → Int} {v : Nat} {p fr : Int} (hd : 4 ≤ d) (hV : Vr K h v A) (hp0 : 0 ≤ p) (hp1 : p < A 1) (hf0 : 0 ≤ fr) (hf1 : fr ≤ 9) (hq : Q (some (vI (stN (A 0) (okBy A p (pA A p 1) (A 4)) fr - fr))) h) : WP X XL d 35 [vR v, vI p, vI fr] h Q := by
  obtain ⟨⟨k0, ⟨k1, l1⟩, ⟨k2, l2⟩, ⟨k3, l3⟩, ⟨k6, l6⟩, ⟨k7, l7⟩, ⟨k8, l8⟩, ⟨k9, l9⟩, ⟨k10, l10⟩, ⟨k11, l11⟩, ⟨k12, l12⟩, ⟨k14, l14⟩, ⟨k15, l15⟩⟩, ⟨⟨g0, g5, g13, g16, g17, g18, g19, g4⟩, ra, rp, rq⟩, ⟨b0, b1, b2, b3, b4, b5, b6, b8, bK, ba, bp, bq⟩⟩ := id hV
  refine eX7_spanLength (by omega) ?_
  refine Ex_step ?_
  conv => whnf
  refine ⟨?_, trivial⟩
  have loop : ∀ (k : Nat) (a : Int), (A 0 - a).toNat = k → 0 ≤ a → a ≤ 9 → Q (some (vI (stN (A 0) (okBy A p (pA A p 1) (A 4)) a - fr))) h → Ex (WP X XL (d - 1)) KX7_spanLength h.1 Q 2 [some (vR v), some (vI p), some (vI fr), some (vI a)] [] h := by
    intro k; induction k with
    | zero =>
      intro a hk ha0 ha9 hq
      rw [stN_end (Or.inl (by omega))] at hq
      (repeat' (first | (refine Ex_step ?_; conv => whnf) | (refine ⟨?_, trivial⟩) | (refine (show den _ _ _ _ _ _ _ _ from ?_); conv => whnf) | (refine ⟨by (first | assumption | rfl | (exact Nat.le_of_ble_eq_true rfl) | (exact ⟨fun h01 => absurd h01 (by decide), rfl⟩) | (exact ⟨fun _ => by decide, rfl⟩) | (exact ⟨by assumption, by omega, by omega⟩) | (unfold inI; omega) | omega), ?_⟩; conv => whnf) | (refine ⟨fun c => False.elim (by omega), fun c => ?_⟩) | (refine ⟨fun c => ?_, fun c => False.elim (by omega)⟩) | (refine ⟨fun c => ?_, fun c => ?_⟩) | (intro c) | fail))
      exact hq
    | succ k ih =>
      intro a hk ha0 ha9 hq
      have ha1 : a < A 0 := by omega
      by_cases hok : okBy A p (pA A p 1) (A 4) a = true
      · rw [stN_go ha1 hok] at hq
        rw [okBy_sAl] at hok
        have hok := of_decide_eq_true hok
        refine Ex_step ?_
        conv => whnf
        (repeat' (first | (refine ih _ (by omega) (by omega) (by omega) hq) | (refine w_bearsAlone (by omega) hV hp0 hp1 ha0 ha1 (fun c => ?_) (fun c => False.elim (by omega))) | (refine Ex_step ?_; conv => whnf) | (refine ⟨?_, trivial⟩) | (refine (show den _ _ _ _ _ _ _ _ from ?_); conv => whnf) | (refine ⟨by (first | assumption | rfl | (exact Nat.le_of_ble_eq_true rfl) | (exact ⟨fun h01 => absurd h01 (by decide), rfl⟩) | (exact ⟨fun _ => by decide, rfl⟩) | (exact ⟨by assumption, by omega, by omega⟩) | (unfold inI; omega) | omega), ?_⟩; conv => whnf) | (refine ⟨fun c => False.elim (by omega), fun c => ?_⟩) | (refine ⟨fun c => ?_, fun c => False.elim (by omega)⟩) | (refine ⟨fun c => ?_, fun c => ?_⟩) | (intro c) | fail))
      · rw [stN_end (Or.inr (by simpa using hok))] at hq
        rw [okBy_sAl] at hok
        have hok : ¬ _ := fun q => hok (decide_eq_true q)
        (repeat' (first | (refine w_bearsAlone (by omega) hV hp0 hp1 ha0 ha1 (fun c => False.elim (by omega)) (fun c => ?_)) | (refine Ex_step ?_; conv => whnf) | (refine ⟨?_, trivial⟩) | (refine (show den _ _ _ _ _ _ _ _ from ?_); conv => whnf) | (refine ⟨by (first | assumption | rfl | (exact Nat.le_of_ble_eq_true rfl) | (exact ⟨fun h01 => absurd h01 (by decide), rfl⟩) | (exact ⟨fun _ => by decide, rfl⟩) | (exact ⟨by assumption, by omega, by omega⟩) | (unfold inI; omega) | omega), ?_⟩; conv => whnf) | (refine ⟨fun c => False.elim (by omega), fun c => ?_⟩) | (refine ⟨fun c => ?_, fun c => False.elim (by omega)⟩) | (refine ⟨fun c => ?_, fun c => ?_⟩) | (intro c) | fail))
        exact hq
  exact loop _ fr rfl hf0 hf1 hq
def spL (A : Int → Int) (p a : Int) : Int := stN (A 0) (okBy A p (pA A p 1) (A 4)) a - a
def spB (A : Int → Int) (p : Int) : Int := foN (A 0) (fun i b => if spL A p b < spL A p i then i else b) 1 0
set_option maxHeartbeats 4000000 in
theorem w_spanBegin {X : Int → Int} {XL : Int} {d : Nat} {h : Mem} {Q : RetP} {K : Int} {A : Int → Int} {v : Nat} {p : Int} (hd : 5 ≤ d) (hV : Vr K h v A) (hp0 : 0 ≤ p) (hp1 : p < A 1) (hq : Q (some (vI (spB A p))) h) : WP X XL d 36 [vR v, vI p] h Q := by
  obtain ⟨⟨k0, ⟨k1, l1⟩, ⟨k2, l2⟩, ⟨k3, l3⟩, ⟨k6, l6⟩, ⟨k7, l7⟩, ⟨k8, l8⟩, ⟨k9, l9⟩, ⟨k10, l10⟩, ⟨k11, l11⟩, ⟨k12, l12⟩, ⟨k14, l14⟩, ⟨k15, l15⟩⟩, ⟨⟨g0, g5, g13, g16, g17, g18, g19, g4⟩, ra, rp, rq⟩, ⟨b0, b1, b2, b3, b4, b5, b6, b8, bK, ba, bp, bq⟩⟩ := id hV
  refine eX7_spanBegin (by omega) ?_
  refine Ex_step ?_
  conv => whnf
  refine ⟨?_, trivial⟩
  have loop : ∀ (k : Nat) (i b : Int), (A 0 - i).toNat = k → 0 ≤ i → 0 ≤ b → b ≤ 9 → Q (some (vI (foN (A 0) (fun i b => if spL A p b < spL A p i then i else b) i b))) h → Ex (WP X XL (d - 1)) KX7_spanBegin h.1 Q 4 [some (vR v), some (vI p), some (vI b), some (vI i)] [] h := by
    intro k; induction k with
    | zero =>
      intro i b hk hi0 hb0 hb9 hq
      rw [foN_end (by omega)] at hq
      (repeat' (first | (refine Ex_step ?_; conv => whnf) | (refine ⟨?_, trivial⟩) | (refine (show den _ _ _ _ _ _ _ _ from ?_); conv => whnf) | (refine ⟨by (first | assumption | rfl | (exact Nat.le_of_ble_eq_true rfl) | (exact ⟨fun h01 => absurd h01 (by decide), rfl⟩) | (exact ⟨fun _ => by decide, rfl⟩) | (exact ⟨by assumption, by omega, by omega⟩) | (unfold inI; omega) | omega), ?_⟩; conv => whnf) | (refine ⟨fun c => False.elim (by omega), fun c => ?_⟩) | (refine ⟨fun c => ?_, fun c => False.elim (by omega)⟩) | (refine ⟨fun c => ?_, fun c => ?_⟩) | (intro c) | fail))
      exact hq
    | succ k ih =>
      intro i b hk hi0 hb0 hb9 hq
      rw [foN_go (by omega)] at hq
      by_cases hc : spL A p b < spL A p i
      · rw [if_pos hc] at hq
        unfold spL at hc
        refine Ex_step ?_
        conv => whnf
        (repeat' (first | (refine ih _ _ (by omega) (by omega) (by omega) (by omega) hq) | (refine w_spanLength (by omega) hV hp0 hp1 (by omega) (by omega) ?_) | (refine Ex_step ?_; conv => whnf) | (refine ⟨?_, trivial⟩) | (refine (show den _ _ _ _ _ _ _ _ from ?_); conv => whnf) | (refine ⟨by (first | assumption | rfl | (exact Nat.le_of_ble_eq_true rfl) | (exact ⟨fun h01 => absurd h01 (by decide), rfl⟩) | (exact ⟨fun _ => by decide, rfl⟩) | (exact ⟨by assumption, by omega, by omega⟩) | (unfold inI; omega) | omega), ?_⟩; conv => whnf) | (refine ⟨fun c => False.elim (by omega), fun c => ?_⟩) | (refine ⟨fun c => ?_, fun c => False.elim (by omega)⟩) | (refine ⟨fun c => ?_, fun c => ?_⟩) | (intro c) | fail))
      · rw [if_neg hc] at hq
        unfold spL at hc
        refine Ex_step ?_
        conv => whnf
        (repeat' (first | (refine ih _ _ (by omega) (by omega) (by omega) (by omega) hq) | (refine w_spanLength (by omega) hV hp0 hp1 (by omega) (by omega) ?_) | (refine Ex_step ?_; conv => whnf) | (refine ⟨?_, trivial⟩) | (refine (show den _ _ _ _ _ _ _ _ from ?_); conv => whnf) | (refine ⟨by (first | assumption | rfl | (exact Nat.le_of_ble_eq_true rfl) | (exact ⟨fun h01 => absurd h01 (by decide), rfl⟩) | (exact ⟨fun _ => by decide, rfl⟩) | (exact ⟨by assumption, by omega, by omega⟩) | (unfold inI; omega) | omega), ?_⟩; conv => whnf) | (refine ⟨fun c => False.elim (by omega), fun c => ?_⟩) | (refine ⟨fun c => ?_, fun c => False.elim (by omega)⟩) | (refine ⟨fun c => ?_, fun c => ?_⟩) | (intro c) | fail))
  exact loop _ 1 0 rfl (by omega) (by omega) (by omega) hq
/-- a set gathered one by one -/
def stF (ok : Int → Bool) : Int → Int → Int := fun i s => if ok i = true then zor s (shlZ 1 i) else s
def borA (A : Int → Int) (a : Int) : Int := foN (A 1) (stF (fun p => decide (sAl A p a ≤ hoA A a))) 0 0
set_option maxHeartbeats 4000000 in
theorem w_borneBy {X : Int → Int} {XL : Int} {d : Nat} {h : Mem} {Q : RetP} {K : Int} {A : Int → Int} {v : Nat} {a : Int} (hd : 4 ≤ d) (hV : Vr K h v A) (ha0 : 0 ≤ a) (ha1 : a < A 0) (hq : Q (some (vI (borA A a))) h) : WP X XL d 27 [vR v, vI a] h Q := by
  obtain ⟨⟨k0, ⟨k1, l1⟩, ⟨k2, l2⟩, ⟨k3, l3⟩, ⟨k6, l6⟩, ⟨k7, l7⟩, ⟨k8, l8⟩, ⟨k9, l9⟩, ⟨k10, l10⟩, ⟨k11, l11⟩, ⟨k12, l12⟩, ⟨k14, l14⟩, ⟨k15, l15⟩⟩, ⟨⟨g0, g5, g13, g16, g17, g18, g19, g4⟩, ra, rp, rq⟩, ⟨b0, b1, b2, b3, b4, b5, b6, b8, bK, ba, bp, bq⟩⟩ := id hV
  refine eX7_borneBy (by omega) ?_
  refine Ex_step ?_
  conv => whnf
  refine ⟨?_, trivial⟩
  have loop : ∀ (k : Nat) (i s : Int), (A 1 - i).toNat = k → 0 ≤ i → Q (some (vI (foN (A 1) (stF (fun p => decide (sAl A p a ≤ hoA A a))) i s))) h → Ex (WP X XL (d - 1)) KX7_borneBy h.1 Q 4 [some (vR v), some (vI a), some (vI s), some (vI i)] [] h := by
    intro k; induction k with
    | zero =>
      intro i s hk hi0 hq
      rw [foN_end (by omega)] at hq
      (repeat' (first | (refine Ex_step ?_; conv => whnf) | (refine ⟨?_, trivial⟩) | (refine (show den _ _ _ _ _ _ _ _ from ?_); conv => whnf) | (refine ⟨by (first | assumption | rfl | (exact Nat.le_of_ble_eq_true rfl) | (exact ⟨fun h01 => absurd h01 (by decide), rfl⟩) | (exact ⟨fun _ => by decide, rfl⟩) | (exact ⟨by assumption, by omega, by omega⟩) | (unfold inI; omega) | omega), ?_⟩; conv => whnf) | (refine ⟨fun c => False.elim (by omega), fun c => ?_⟩) | (refine ⟨fun c => ?_, fun c => False.elim (by omega)⟩) | (refine ⟨fun c => ?_, fun c => ?_⟩) | (intro c) | fail))
      exact hq
    | succ k ih =>
      intro i s hk hi0 hq
      have hsh := shl1 hi0 (by omega)
      rw [foN_go (by omega)] at hq
      unfold stF at hq
      by_cases hc : sAl A i a ≤ hoA A a
      · rw [if_pos (decide_eq_true hc)] at hq
        refine Ex_step ?_
        conv => whnf
        (repeat' (first | (refine ih _ _ (by omega) (by omega) hq) | (refine w_bearsAlone (by omega) hV hi0 (by omega) ha0 ha1 (fun c => ?_) (fun c => False.elim (by omega))) | (refine ⟨⟨by omega, by omega, hsh⟩, ?_⟩; conv => whnf) | (refine Ex_step ?_; conv => whnf) | (refine ⟨?_, trivial⟩) | (refine (show den _ _ _ _ _ _ _ _ from ?_); conv => whnf) | (refine ⟨by (first | assumption | rfl | (exact Nat.le_of_ble_eq_true rfl) | (exact ⟨fun h01 => absurd h01 (by decide), rfl⟩) | (exact ⟨fun _ => by decide, rfl⟩) | (exact ⟨by assumption, by omega, by omega⟩) | (unfold inI; omega) | omega), ?_⟩; conv => whnf) | (refine ⟨fun c => False.elim (by omega), fun c => ?_⟩) | (refine ⟨fun c => ?_, fun c => False.elim (by omega)⟩) | (refine ⟨fun c => ?_, fun c => ?_⟩) | (intro c) | fail))
      · rw [if_neg (fun q => hc (of_decide_eq_true q))] at hq
        refine Ex_step ?_
        conv => whnf
        (repeat' (first | (refine ih _ _ (by omega) (by omega) hq) | (refine w_bearsAlone (by omega) hV hi0 (by omega) ha0 ha1 (fun c => False.elim (by omega)) (fun c => ?_)) | (refine Ex_step ?_; conv => whnf) | (refine ⟨?_, trivial⟩) | (refine (show den _ _ _ _ _ _ _ _ from ?_); conv => whnf) | (refine ⟨by (first | assumption | rfl | (exact Nat.le_of_ble_eq_true rfl) | (exact ⟨fun h01 => absurd h01 (by decide), rfl⟩) | (exact ⟨fun _ => by decide, rfl⟩) | (exact ⟨by assumption, by omega, by omega⟩) | (unfold inI; omega) | omega), ?_⟩; conv => whnf) | (refine ⟨fun c => False.elim (by omega), fun c => ?_⟩) | (refine ⟨fun c => ?_, fun c => False.elim (by omega)⟩) | (refine ⟨fun c => ?_, fun c => ?_⟩) | (intro c) | fail))
  exact loop _ 0 0 rfl (by omega) hq
def ovA (A : Int → Int) : Int := foN (A 1) (stF (fun p => decide (A 0 ≤ pA A p 3))) 0 0
set_option maxHeartbeats 4000000 in
theorem w_peopleOver {X : Int → Int} {XL : Int} {d : Nat} {h : Mem} {Q : RetP} {K : Int} {A : Int → Int} {v : Nat} (hd : 2 ≤ d) (hV : Vr K h v A) (hq : Q (some (vI (ovA A))) h) : WP X XL d 18 [vR v] h Q := by
  obtain ⟨⟨k0, ⟨k1, l1⟩, ⟨k2, l2⟩, ⟨k3, l3⟩, ⟨k6, l6⟩, ⟨k7, l7⟩, ⟨k8, l8⟩, ⟨k9, l9⟩, ⟨k10, l10⟩, ⟨k11, l11⟩, ⟨k12, l12⟩, ⟨k14, l14⟩, ⟨k15, l15⟩⟩, ⟨⟨g0, g5, g13, g16, g17, g18, g19, g4⟩, ra, rp, rq⟩, ⟨b0, b1, b2, b3, b4, b5, b6, b8, bK, ba, bp, bq⟩⟩ := id hV
  refine eX7_peopleOver (by omega) ?_
  refine Ex_step ?_
  conv => whnf
  refine ⟨?_, trivial⟩
  have loop : ∀ (k : Nat) (i s : Int), (A 1 - i).toNat = k → 0 ≤ i → Q (some (vI (foN (A 1) (stF (fun p => decide (A 0 ≤ pA A p 3))) i s))) h → Ex (WP X XL (d - 1)) KX7_peopleOver h.1 Q 4 [some (vR v), some (vI s), some (vI i)] [] h := by
    intro k; induction k with
    | zero =>
      intro i s hk hi0 hq
      rw [foN_end (by omega)] at hq
      (repeat' (first | (refine Ex_step ?_; conv => whnf) | (refine ⟨?_, trivial⟩) | (refine (show den _ _ _ _ _ _ _ _ from ?_); conv => whnf) | (refine ⟨by (first | assumption | rfl | (exact Nat.le_of_ble_eq_true rfl) | (exact ⟨fun h01 => absurd h01 (by decide), rfl⟩) | (exact ⟨fun _ => by decide, rfl⟩) | (exact ⟨by assumption, by omega, by omega⟩) | (unfold inI; omega) | omega), ?_⟩; conv => whnf) | (refine ⟨fun c => False.elim (by omega), fun c => ?_⟩) | (refine ⟨fun c => ?_, fun c => False.elim (by omega)⟩) | (refine ⟨fun c => ?_, fun c => ?_⟩) | (intro c) | fail))
      exact hq
    | succ k ih =>
      intro i s hk hi0 hq
      have hsh := shl1 hi0 (by omega)
      rw [foN_go (by omega)] at hq
      unfold stF at hq
      by_cases hc : A 0 ≤ pA A i 3
      · rw [if_pos (decide_eq_true hc)] at hq
        refine Ex_step ?_
        conv => whnf
        (repeat' (first | (refine ih _ _ (by omega) (by omega) hq) | (refine w_isOver (by omega) hV hi0 (by omega) (fun c => ?_) (fun c => False.elim (by omega))) | (refine ⟨⟨by omega, by omega, hsh⟩, ?_⟩; conv => whnf) | (refine Ex_step ?_; conv => whnf) | (refine ⟨?_, trivial⟩) | (refine (show den _ _ _ _ _ _ _ _ from ?_); conv => whnf) | (refine ⟨by (first | assumption | rfl | (exact Nat.le_of_ble_eq_true rfl) | (exact ⟨fun h01 => absurd h01 (by decide), rfl⟩) | (exact ⟨fun _ => by decide, rfl⟩) | (exact ⟨by assumption, by omega, by omega⟩) | (unfold inI; omega) | omega), ?_⟩; conv => whnf) | (refine ⟨fun c => False.elim (by omega), fun c => ?_⟩) | (refine ⟨fun c => ?_, fun c => False.elim (by omega)⟩) | (refine ⟨fun c => ?_, fun c => ?_⟩) | (intro c) | fail))
      · rw [if_neg (fun q => hc (of_decide_eq_true q))] at hq
        refine Ex_step ?_
        conv => whnf
        (repeat' (first | (refine ih _ _ (by omega) (by omega) hq) | (refine w_isOver (by omega) hV hi0 (by omega) (fun c => False.elim (by omega)) (fun c => ?_)) | (refine Ex_step ?_; conv => whnf) | (refine ⟨?_, trivial⟩) | (refine (show den _ _ _ _ _ _ _ _ from ?_); conv => whnf) | (refine ⟨by (first | assumption | rfl | (exact Nat.le_of_ble_eq_true rfl) | (exact ⟨fun h01 => absurd h01 (by decide), rfl⟩) | (exact ⟨fun _ => by decide, rfl⟩) | (exact ⟨by assumption, by omega, by omega⟩) | (unfold inI; omega) | omega), ?_⟩; conv => whnf) | (refine ⟨fun c => False.elim (by omega), fun c => ?_⟩) | (refine ⟨fun c => ?_, fun c => False.elim (by omega)⟩) | (refine ⟨fun c => ?_, fun c => ?_⟩) | (intro c) | fail))
  exact loop _ 0 0 rfl (by omega) hq
def totA (A : Int → Int) (k : Int) : Int := foN (A 1) (fun p s => s + pA A p k) 0 0
set_option maxHeartbeats 4000000 in
theorem w_sumOfPeople {X : Int → Int} {XL : Int} {d : Nat} {h : Mem} {Q : RetP} {K : Int} {A : Int → Int} {v : Nat} {r : Nat} {kk : Int} (hd : 1 ≤ d) (hV : Vr K h v A) (hr : kd h r = 100) (hl : ln h r = 6) (hrow : ∀ p, 0 ≤ p → p < A 1 → gG h r p = pA A p kk ∧ 0 ≤ pA A p kk ∧ pA A p kk ≤ K + 9) (hq : Q (some (vI (totA A kk))) h) : WP X XL d 22 [vR v, vR r] h Q := by
  obtain ⟨⟨k0, ⟨k1, l1⟩, ⟨k2, l2⟩, ⟨k3, l3⟩, ⟨k6, l6⟩, ⟨k7, l7⟩, ⟨k8, l8⟩, ⟨k9, l9⟩, ⟨k10, l10⟩, ⟨k11, l11⟩, ⟨k12, l12⟩, ⟨k14, l14⟩, ⟨k15, l15⟩⟩, ⟨⟨g0, g5, g13, g16, g17, g18, g19, g4⟩, ra, rp, rq⟩, ⟨b0, b1, b2, b3, b4, b5, b6, b8, bK, ba, bp, bq⟩⟩ := id hV
  refine eX7_sumOfPeople hd ?_
  refine Ex_step ?_
  conv => whnf
  refine ⟨?_, trivial⟩
  have loop : ∀ (k : Nat) (i s : Int), (A 1 - i).toNat = k → 0 ≤ i → 0 ≤ s → s ≤ 30000009 * i → Q (some (vI (foN (A 1) (fun p s => s + pA A p kk) i s))) h → Ex (WP X XL (d - 1)) KX7_sumOfPeople h.1 Q 4 [some (vR v), some (vR r), some (vI s), some (vI i)] [] h := by
    intro k; induction k with
    | zero =>
      intro i s hk hi0 hs0 hs1 hq
      rw [foN_end (by omega)] at hq
      (repeat' (first | (refine Ex_step ?_; conv => whnf) | (refine ⟨?_, trivial⟩) | (refine (show den _ _ _ _ _ _ _ _ from ?_); conv => whnf) | (refine ⟨by (first | assumption | rfl | (exact Nat.le_of_ble_eq_true rfl) | (exact ⟨fun h01 => absurd h01 (by decide), rfl⟩) | (exact ⟨fun _ => by decide, rfl⟩) | (exact ⟨by assumption, by omega, by omega⟩) | (unfold inI; omega) | omega), ?_⟩; conv => whnf) | (refine ⟨fun c => False.elim (by omega), fun c => ?_⟩) | (refine ⟨fun c => ?_, fun c => False.elim (by omega)⟩) | (refine ⟨fun c => ?_, fun c => ?_⟩) | (intro c) | fail))
      exact hq
    | succ k ih =>
      intro i s hk hi0 hs0 hs1 hq
      obtain ⟨er, er1, er2⟩ := hrow i hi0 (by omega)
      rw [foN_go (by omega), ← er] at hq
      refine Ex_step ?_
      conv => whnf
      (repeat' (first | (refine ih _ _ (by omega) (by omega) (by omega) (by omega) hq) | (refine Ex_step ?_; conv => whnf) | (refine ⟨?_, trivial⟩) | (refine (show den _ _ _ _ _ _ _ _ from ?_); conv => whnf) | (refine ⟨by (first | assumption | rfl | (exact Nat.le_of_ble_eq_true rfl) | (exact ⟨fun h01 => absurd h01 (by decide), rfl⟩) | (exact ⟨fun _ => by decide, rfl⟩) | (exact ⟨by assumption, by omega, by omega⟩) | (unfold inI; omega) | omega), ?_⟩; conv => whnf) | (refine ⟨fun c => False.elim (by omega), fun c => ?_⟩) | (refine ⟨fun c => ?_, fun c => False.elim (by omega)⟩) | (refine ⟨fun c => ?_, fun c => ?_⟩) | (intro c) | fail))
  exact loop _ 0 0 rfl (by omega) (by omega) (by omega) hq
set_option maxHeartbeats 4000000 in
theorem w_paidByAll {X : Int → Int} {XL : Int} {d : Nat} {h : Mem} {Q : RetP} {K : Int} {A : Int → Int} {v : Nat} (hd : 2 ≤ d) (hV : Vr K h v A) (hq : Q (some (vI (totA A 4))) h) : WP X XL d 19 [vR v] h Q := by
  obtain ⟨⟨k0, ⟨k1, l1⟩, ⟨k2, l2⟩, ⟨k3, l3⟩, ⟨k6, l6⟩, ⟨k7, l7⟩, ⟨k8, l8⟩, ⟨k9, l9⟩, ⟨k10, l10⟩, ⟨k11, l11⟩, ⟨k12, l12⟩, ⟨k14, l14⟩, ⟨k15, l15⟩⟩, ⟨⟨g0, g5, g13, g16, g17, g18, g19, g4⟩, ra, rp, rq⟩, ⟨b0, b1, b2, b3, b4, b5, b6, b8, bK, ba, bp, bq⟩⟩ := id hV
  refine eX7_paidByAll (by omega) ?_
  (repeat' (first | (refine w_sumOfPeople (kk := 4) (by omega) hV k11 l11 (fun p hp0 hp1 => ?_) ?_) | (refine Ex_step ?_; conv => whnf) | (refine ⟨?_, trivial⟩) | (refine (show den _ _ _ _ _ _ _ _ from ?_); conv => whnf) | (refine ⟨by (first | assumption | rfl | (exact Nat.le_of_ble_eq_true rfl) | (exact ⟨fun h01 => absurd h01 (by decide), rfl⟩) | (exact ⟨fun _ => by decide, rfl⟩) | (exact ⟨by assumption, by omega, by omega⟩) | (unfold inI; omega) | omega), ?_⟩; conv => whnf) | (refine ⟨fun c => False.elim (by omega), fun c => ?_⟩) | (refine ⟨fun c => ?_, fun c => False.elim (by omega)⟩) | (refine ⟨fun c => ?_, fun c => ?_⟩) | (intro c) | fail))
  · obtain ⟨e7, e8, e9, e10, e11, e12⟩ := rp p hp0 hp1; obtain ⟨f0, f1, f2, f3, f4, f5⟩ := bp p hp0 hp1
    exact ⟨e11, by omega, by omega⟩
  · exact hq
set_option maxHeartbeats 4000000 in
theorem w_fellByAll {X : Int → Int} {XL : Int} {d : Nat} {h : Mem} {Q : RetP} {K : Int} {A : Int → Int} {v : Nat} (hd : 2 ≤ d) (hV : Vr K h v A) (hq : Q (some (vI (totA A 5))) h) : WP X XL d 20 [vR v] h Q := by
  obtain ⟨⟨k0, ⟨k1, l1⟩, ⟨k2, l2⟩, ⟨k3, l3⟩, ⟨k6, l6⟩, ⟨k7, l7⟩, ⟨k8, l8⟩, ⟨k9, l9⟩, ⟨k10, l10⟩, ⟨k11, l11⟩, ⟨k12, l12⟩, ⟨k14, l14⟩, ⟨k15, l15⟩⟩, ⟨⟨g0, g5, g13, g16, g17, g18, g19, g4⟩, ra, rp, rq⟩, ⟨b0, b1, b2, b3, b4, b5, b6, b8, bK, ba, bp, bq⟩⟩ := id hV
  refine eX7_fellByAll (by omega) ?_
  (repeat' (first | (refine w_sumOfPeople (kk := 5) (by omega) hV k12 l12 (fun p hp0 hp1 => ?_) ?_) | (refine Ex_step ?_; conv => whnf) | (refine ⟨?_, trivial⟩) | (refine (show den _ _ _ _ _ _ _ _ from ?_); conv => whnf) | (refine ⟨by (first | assumption | rfl | (exact Nat.le_of_ble_eq_true rfl) | (exact ⟨fun h01 => absurd h01 (by decide), rfl⟩) | (exact ⟨fun _ => by decide, rfl⟩) | (exact ⟨by assumption, by omega, by omega⟩) | (unfold inI; omega) | omega), ?_⟩; conv => whnf) | (refine ⟨fun c => False.elim (by omega), fun c => ?_⟩) | (refine ⟨fun c => ?_, fun c => False.elim (by omega)⟩) | (refine ⟨fun c => ?_, fun c => ?_⟩) | (intro c) | fail))
  · obtain ⟨e7, e8, e9, e10, e11, e12⟩ := rp p hp0 hp1; obtain ⟨f0, f1, f2, f3, f4, f5⟩ := bp p hp0 hp1
    exact ⟨e12, by omega, by omega⟩
  · exact hq
set_option maxHeartbeats 4000000 in
theorem w_behindAll {X : Int → Int} {XL : Int} {d : Nat} {h : Mem} {Q : RetP} {K : Int} {A : Int → Int} {v : Nat} (hd : 2 ≤ d) (hV : Vr K h v A) (hq : Q (some (vI (totA A 3))) h) : WP X XL d 21 [vR v] h Q := by
  obtain ⟨⟨k0, ⟨k1, l1⟩, ⟨k2, l2⟩, ⟨k3, l3⟩, ⟨k6, l6⟩, ⟨k7, l7⟩, ⟨k8, l8⟩, ⟨k9, l9⟩, ⟨k10, l10⟩, ⟨k11, l11⟩, ⟨k12, l12⟩, ⟨k14, l14⟩, ⟨k15, l15⟩⟩, ⟨⟨g0, g5, g13, g16, g17, g18, g19, g4⟩, ra, rp, rq⟩, ⟨b0, b1, b2, b3, b4, b5, b6, b8, bK, ba, bp, bq⟩⟩ := id hV
  refine eX7_behindAll (by omega) ?_
  (repeat' (first | (refine w_sumOfPeople (kk := 3) (by omega) hV k10 l10 (fun p hp0 hp1 => ?_) ?_) | (refine Ex_step ?_; conv => whnf) | (refine ⟨?_, trivial⟩) | (refine (show den _ _ _ _ _ _ _ _ from ?_); conv => whnf) | (refine ⟨by (first | assumption | rfl | (exact Nat.le_of_ble_eq_true rfl) | (exact ⟨fun h01 => absurd h01 (by decide), rfl⟩) | (exact ⟨fun _ => by decide, rfl⟩) | (exact ⟨by assumption, by omega, by omega⟩) | (unfold inI; omega) | omega), ?_⟩; conv => whnf) | (refine ⟨fun c => False.elim (by omega), fun c => ?_⟩) | (refine ⟨fun c => ?_, fun c => False.elim (by omega)⟩) | (refine ⟨fun c => ?_, fun c => ?_⟩) | (intro c) | fail))
  · obtain ⟨e7, e8, e9, e10, e11, e12⟩ := rp p hp0 hp1; obtain ⟨f0, f1, f2, f3, f4, f5⟩ := bp p hp0 hp1
    exact ⟨e10, by omega, by omega⟩
  · exact hq
def msA (A : Int → Int) (a days : Int) : Int := if days ≤ 0 then moA A a else min 9 ((if bt (A 8) a = true then max 0 (moA A a - 1) else moA A a + 1) + days - 1)
set_option maxHeartbeats 4000000 in
theorem w_mossAfter {X : Int → Int} {XL : Int} {d : Nat} {h : Mem} {Q : RetP} {K : Int} {A : Int → Int} {v : Nat} {a days : Int} (hd : 2 ≤ d) (hV : Vr K h v A) (ha0 : 0 ≤ a) (ha1 : a < A 0) (hdy : days ≤ 100) (hq : Q (some (vI (msA A a days))) h) : WP X XL d 38 [vR v, vI a, vI days] h Q := by
  obtain ⟨⟨k0, ⟨k1, l1⟩, ⟨k2, l2⟩, ⟨k3, l3⟩, ⟨k6, l6⟩, ⟨k7, l7⟩, ⟨k8, l8⟩, ⟨k9, l9⟩, ⟨k10, l10⟩, ⟨k11, l11⟩, ⟨k12, l12⟩, ⟨k14, l14⟩, ⟨k15, l15⟩⟩, ⟨⟨g0, g5, g13, g16, g17, g18, g19, g4⟩, ra, rp, rq⟩, ⟨b0, b1, b2, b3, b4, b5, b6, b8, bK, ba, bp, bq⟩⟩ := id hV
  obtain ⟨e1, e2, e3⟩ := ra a ha0 ha1; obtain ⟨fa0, fa1, fa2⟩ := ba a ha0 ha1
  refine eX7_mossAfter (by omega) ?_
  unfold msA at hq
  rw [← g4, ← e2] at hq
  by_cases h1 : days ≤ 0
  · rw [if_pos h1] at hq
    (repeat' (first | (refine Ex_step ?_; conv => whnf) | (refine ⟨?_, trivial⟩) | (refine (show den _ _ _ _ _ _ _ _ from ?_); conv => whnf) | (refine ⟨by (first | assumption | rfl | (exact Nat.le_of_ble_eq_true rfl) | (exact ⟨fun h01 => absurd h01 (by decide), rfl⟩) | (exact ⟨fun _ => by decide, rfl⟩) | (exact ⟨by assumption, by omega, by omega⟩) | (unfold inI; omega) | omega), ?_⟩; conv => whnf) | (refine ⟨fun c => False.elim (by omega), fun c => ?_⟩) | (refine ⟨fun c => ?_, fun c => False.elim (by omega)⟩) | (refine ⟨fun c => ?_, fun c => ?_⟩) | (intro c) | fail))
    exact hq
  · rw [if_neg h1] at hq
    by_cases hb : bt (gG h v 4) a = true
    · rw [if_pos hb] at hq
      (repeat' (first | (refine w_contains (by omega) (by omega) (fun c => ?_) (fun c => absurd (c.symm.trans hb) Bool.false_ne_true)) | (refine Ex_step ?_; conv => whnf) | (refine ⟨?_, trivial⟩) | (refine (show den _ _ _ _ _ _ _ _ from ?_); conv => whnf) | (refine ⟨by (first | assumption | rfl | (exact Nat.le_of_ble_eq_true rfl) | (exact ⟨fun h01 => absurd h01 (by decide), rfl⟩) | (exact ⟨fun _ => by decide, rfl⟩) | (exact ⟨by assumption, by omega, by omega⟩) | (unfold inI; omega) | omega), ?_⟩; conv => whnf) | (refine ⟨fun c => False.elim (by omega), fun c => ?_⟩) | (refine ⟨fun c => ?_, fun c => False.elim (by omega)⟩) | (refine ⟨fun c => ?_, fun c => ?_⟩) | (intro c) | fail))
      exact hq
    · rw [if_neg hb] at hq
      (repeat' (first | (refine w_contains (by omega) (by omega) (fun c => absurd c hb) (fun c => ?_)) | (refine Ex_step ?_; conv => whnf) | (refine ⟨?_, trivial⟩) | (refine (show den _ _ _ _ _ _ _ _ from ?_); conv => whnf) | (refine ⟨by (first | assumption | rfl | (exact Nat.le_of_ble_eq_true rfl) | (exact ⟨fun h01 => absurd h01 (by decide), rfl⟩) | (exact ⟨fun _ => by decide, rfl⟩) | (exact ⟨by assumption, by omega, by omega⟩) | (unfold inI; omega) | omega), ?_⟩; conv => whnf) | (refine ⟨fun c => False.elim (by omega), fun c => ?_⟩) | (refine ⟨fun c => ?_, fun c => False.elim (by omega)⟩) | (refine ⟨fun c => ?_, fun c => ?_⟩) | (intro c) | fail))
      exact hq
