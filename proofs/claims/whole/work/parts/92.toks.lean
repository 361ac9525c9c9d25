/-! LEVEL 2: texts: tokens of the class, words and numbers -/
theorem lmlZ_e {a : Int} (h0 : 0 ≤ a) (h1 : a ≤ 100000000000000) : lmlZ a 32 = a * 32 := by
  unfold lmlZ
  rw [← Int64.ofInt_mul]
  exact i64_to ⟨by omega, by omega⟩
theorem ladZ_L {a b : Int} (ha : 0 ≤ a ∧ a ≤ 1000000000000000000) (hb : -1000 ≤ b ∧ b ≤ 1000) : ladZ a b = a + b := by
  unfold ladZ
  rw [← Int64.ofInt_add]
  exact i64_to ⟨by omega, by omega⟩
def nmC (P : Int → Int) (a : Int) : Nat → Int
  | 0 => 0
  | k + 1 => ladZ (lmlZ (nmC P a k) 32) (P (a + k) - 97 + 1)
theorem p32 : ∀ k : Nat, k < 9 → (32 : Int) ^ k ≤ 1099511627776 := by decide +kernel
theorem nmC_e {P : Int → Int} {a : Int} : ∀ k : Nat, k ≤ 8 → (∀ j, a ≤ j → j < a + k → lt P j = true) → nmC P a k = c32 (fs P a k) ∧ 0 ≤ c32 (fs P a k) ∧ c32 (fs P a k) < 32 ^ k := by
  intro k; induction k with
  | zero => intro _ _; exact ⟨rfl, Int.le_refl _, (by decide : (0 : Int) < 32 ^ 0)⟩
  | succ k ih =>
    intro hk hl
    obtain ⟨i1, i2, i3⟩ := ih (by omega) (fun j h0 h1 => hl j h0 (by omega))
    have hb := lt_t.mp (hl (a + k) (by omega) (by omega))
    have hp := p32 k (by omega)
    have hs : (32 : Int) ^ (k + 1) = 32 ^ k * 32 := Int.pow_succ 32 k
    rw [hs, c32_s]
    generalize (32 : Int) ^ k = Y at *
    rw [show nmC P a (k + 1) = ladZ (lmlZ (nmC P a k) 32) (P (a + k) - 97 + 1) from rfl, i1, lmlZ_e (by omega) (by omega), ladZ_L (by omega) (by omega)]
    omega
theorem p10 : ∀ k : Nat, k < 5 → (10 : Int) ^ k ≤ 10000 := by decide +kernel
theorem nv_b {P : Int → Int} {a : Int} : ∀ k : Nat, (∀ j, a ≤ j → j < a + k → dg P j = true) → 0 ≤ nv P a k ∧ nv P a k < 10 ^ k := by
  intro k; induction k with
  | zero => intro _; exact ⟨Int.le_refl _, (by decide : (0 : Int) < 10 ^ 0)⟩
  | succ k ih =>
    intro hl
    obtain ⟨i2, i3⟩ := ih (fun j h0 h1 => hl j h0 (by omega))
    have hb := dg_t.mp (hl (a + k) (by omega) (by omega))
    have hs : (10 : Int) ^ (k + 1) = 10 ^ k * 10 := Int.pow_succ 10 k
    rw [hs]
    show 0 ≤ nv P a k * 10 + (P (a + k) - 48) ∧ nv P a k * 10 + (P (a + k) - 48) < _
    generalize (10 : Int) ^ k = Y at *
    omega
/-- only the place to read on has changed -/
def F7 (h h' : Mem) : Prop := h'.1 = h.1 ∧ h'.2.2 = h.2.2 ∧ ∀ r i, ¬ (r = 10 ∧ i = 7) → gG h' r i = gG h r i
theorem F7.refl {h : Mem} : F7 h h := ⟨rfl, rfl, fun _ _ _ => rfl⟩
theorem F7.s {h h' : Mem} {z : Int} (a : F7 h h') : F7 h (sG h' 10 7 z) := ⟨a.1, a.2.1, fun r i q => by rw [gG_sG, if_neg q]; exact a.2.2 r i q⟩
theorem F7.M {h h' : Mem} {P : Int → Int} {n : Int} (a : F7 h h') (hM : TxM h P n) : TxM h' P n := hM.c a.1 (fun i => by unfold gR; rw [a.2.1]) (a.2.2 _ _ (by omega)) (fun i => a.2.2 _ _ (by omega))
/-- a token's place and value, and the place to read on, have changed -/
def Ft (s : Int) (h h' : Mem) : Prop := h'.1 = h.1 ∧ h'.2.2 = h.2.2 ∧ ∀ r i, ¬ (r = 10 ∧ i = 7) → ¬ (r = 13 ∧ i = s) → ¬ (r = 14 ∧ i = s) → gG h' r i = gG h r i
theorem F7.t {s : Int} {h h' : Mem} (a : F7 h h') : Ft s h h' := ⟨a.1, a.2.1, fun r i q _ _ => a.2.2 r i q⟩
theorem Ft.s {s : Int} {h h' : Mem} {r : Nat} {i z : Int} (a : Ft s h h') (q : (r = 10 ∧ i = 7) ∨ (r = 13 ∧ i = s) ∨ (r = 14 ∧ i = s)) : Ft s h (sG h' r i z) := ⟨a.1, a.2.1, fun r' i' q0 q1 q2 => by rw [gG_sG, if_neg (by omega)]; exact a.2.2 r' i' q0 q1 q2⟩
theorem Ft.trans {s : Int} {h h' h'' : Mem} (a : Ft s h h') (b : Ft s h' h'') : Ft s h h'' := ⟨b.1.trans a.1, b.2.1.trans a.2.1, fun r i p q t => (b.2.2 r i p q t).trans (a.2.2 r i p q t)⟩
theorem Ft.M {s : Int} {h h' : Mem} {P : Int → Int} {n : Int} (a : Ft s h h') (hM : TxM h P n) : TxM h' P n := hM.c a.1 (fun i => by unfold gR; rw [a.2.1]) (a.2.2 _ _ (by omega) (by omega) (by omega)) (fun i => a.2.2 _ _ (by omega) (by omega) (by omega))
set_option maxHeartbeats 4000000 in
theorem w_findWord {X : Int → Int} {XL : Int} {d : Nat} {h : Mem} {Q : RetP} {P : Int → Int} {n a s : Int} (hd : 7 ≤ d) (hM : TxM h P n) (hs : 0 ≤ s ∧ s < 12) (e7 : gG h 10 7 = a) (ha : 0 ≤ a ∧ a < n) (hq : ∀ h', Ft s h h' → gG h' 10 7 = sc (lt P) n a → (sc (lt P) n a - a ≤ 8 → gG h' 14 s = c32 (fs P a (sc (lt P) n a - a).toNat)) → (∀ i, gG h' 13 i = gG h 13 i) → Q (some (vI (if 8 < sc (lt P) n a - a then 26 else if kx CKW (fs P a (sc (lt P) n a - a).toNat) 0 = -1 then 25 else kx CKW (fs P a (sc (lt P) n a - a).toNat) 0))) h') : WP X XL d 62 [vR 10, vI s] h Q := by
  obtain ⟨b1, b2, b3, b4⟩ := sc_b (p := lt P) (n := n) _ a rfl (by omega)
  have out : ∀ (k : Nat) (w5 : Option MV) (hj : Mem), a + k = sc (lt P) n a → F7 h hj → gG hj 10 7 = a + k → Ex (WP X XL (d - 1)) KX5_findWord h.1 Q 68 [some (vR 10), some (vI s), some (vI a), some (vL (nmC P a k)), none, w5] [] hj := by
    intro k w5 hj hk fj ej
    have hMj := fj.M hM
    obtain ⟨⟨k10, r5, k11, l11⟩, ⟨r8, k12, l12⟩, ⟨r9, k13, l13⟩, ⟨r10, k14, l14⟩, e6, hn, hP⟩ := id hMj
    have gj := fj.1
    have ek : (sc (lt P) n a - a).toNat = k := by omega
    have hM2 : TxM (sG hj 14 s (nmC P a k)) P n := (Ft.s (s := s) (F7.refl.t) (Or.inr (Or.inr ⟨rfl, rfl⟩))).M hMj
    have ej2 : gG (sG hj 14 s (nmC P a k)) 10 7 = a + k := by rw [gG_sG, if_neg (by omega)]; exact ej
    have e := hq (sG hj 14 s (nmC P a k)) (fj.t.s (Or.inr (Or.inr ⟨rfl, rfl⟩))) (by rw [ej2, hk]) (fun q => by rw [g_same, ek]; exact (nmC_e k (by omega) (fun j h0 h1 => b3 j h0 (by omega))).1) (fun i => by rw [gG_sG, if_neg (by omega)]; exact fj.2.2 _ _ (by omega))
    rw [← hk, show a + (k : Int) - a = k by omega] at e
    have hkx := kx_b CKW (fs P a ((k : Int)).toNat) 0
    by_cases c8 : 8 < (k : Int)
    · rw [if_pos c8] at e
      (repeat' (first | (exact e) | (rw [r10]) | (rw [ej2]) | (refine ⟨⟨k14, by omega, Int.lt_of_lt_of_le (by omega : _ < (12 : Int)) (Int.le_of_eq l14.symm)⟩, ?_⟩; conv => whnf) | (refine Ex_step ?_; conv => whnf) | (refine ⟨?_, trivial⟩) | (refine (show den _ _ _ _ _ _ _ _ from ?_); conv => whnf) | (refine ⟨fun c => False.elim (by omega), fun c => ?_⟩) | (refine ⟨fun c => ?_, fun c => False.elim (by omega)⟩) | (refine ⟨by (first | assumption | rfl | (exact Nat.le_of_ble_eq_true rfl) | (exact ⟨fun h01 => absurd h01 (by decide), by first | rfl | assumption⟩) | (exact ⟨fun _ => by decide, by first | rfl | assumption⟩) | (exact ⟨by assumption, by omega, by omega⟩) | (unfold inI; omega) | omega), ?_⟩; conv => whnf) | (refine ⟨fun c => ?_, fun c => ?_⟩) | (intro c) | fail))
    · rw [if_neg c8] at e
      have fkw : ∀ (d' : Nat) (Q' : RetP), 6 ≤ d' → Q' (some (vI (kx CKW (fs P a ((k : Int)).toNat) 0))) (sG hj 14 s (nmC P a k)) → WP X XL d' 64 [vR 10, vI a, vI (a + k - a)] (sG hj 14 s (nmC P a k)) Q' := fun d' Q' x y => by
        rw [show a + (k : Int) - a = k by omega]
        exact w_findKeyword x hM2 (by omega) (by omega) (by omega) y
      by_cases c1 : kx CKW (fs P a ((k : Int)).toNat) 0 = -1
      · rw [if_pos c1] at e
        (repeat' (first | (exact e) | (rw [r10]) | (rw [ej2]) | (refine fkw _ _ (by omega) ?_) | (refine ⟨⟨k14, by omega, Int.lt_of_lt_of_le (by omega : _ < (12 : Int)) (Int.le_of_eq l14.symm)⟩, ?_⟩; conv => whnf) | (refine Ex_step ?_; conv => whnf) | (refine ⟨?_, trivial⟩) | (refine (show den _ _ _ _ _ _ _ _ from ?_); conv => whnf) | (refine ⟨fun c => False.elim (by omega), fun c => ?_⟩) | (refine ⟨fun c => ?_, fun c => False.elim (by omega)⟩) | (refine ⟨by (first | assumption | rfl | (exact Nat.le_of_ble_eq_true rfl) | (exact ⟨fun h01 => absurd h01 (by decide), by first | rfl | assumption⟩) | (exact ⟨fun _ => by decide, by first | rfl | assumption⟩) | (exact ⟨by assumption, by omega, by omega⟩) | (unfold inI; omega) | omega), ?_⟩; conv => whnf) | (refine ⟨fun c => ?_, fun c => ?_⟩) | (intro c) | fail))
      · rw [if_neg c1] at e
        (repeat' (first | (exact e) | (rw [r10]) | (rw [ej2]) | (refine fkw _ _ (by omega) ?_) | (refine ⟨⟨k14, by omega, Int.lt_of_lt_of_le (by omega : _ < (12 : Int)) (Int.le_of_eq l14.symm)⟩, ?_⟩; conv => whnf) | (refine Ex_step ?_; conv => whnf) | (refine ⟨?_, trivial⟩) | (refine (show den _ _ _ _ _ _ _ _ from ?_); conv => whnf) | (refine ⟨fun c => False.elim (by omega), fun c => ?_⟩) | (refine ⟨fun c => ?_, fun c => False.elim (by omega)⟩) | (refine ⟨by (first | assumption | rfl | (exact Nat.le_of_ble_eq_true rfl) | (exact ⟨fun h01 => absurd h01 (by decide), by first | rfl | assumption⟩) | (exact ⟨fun _ => by decide, by first | rfl | assumption⟩) | (exact ⟨by assumption, by omega, by omega⟩) | (unfold inI; omega) | omega), ?_⟩; conv => whnf) | (refine ⟨fun c => ?_, fun c => ?_⟩) | (intro c) | fail))
  have loop : ∀ (m k : Nat) (w5 : Option MV) (hj : Mem), n - (a + k) = m → a + k ≤ sc (lt P) n a → sc (lt P) n (a + k) = sc (lt P) n a → F7 h hj → gG hj 10 7 = a + k → Ex (WP X XL (d - 1)) KX5_findWord h.1 Q 7 [some (vR 10), some (vI s), some (vI a), some (vL (nmC P a k)), none, w5] [] hj := by
    intro m; induction m with
    | zero =>
      intro k w5 hj hm hk hsc fj ej
      obtain ⟨⟨k10, r5, k11, l11⟩, -, -, -, e6, hn, hP⟩ := id (fj.M hM)
      have o := out k w5 hj (by rw [← hsc]; exact (sc_end (by omega)).symm) fj ej
      refine Ex_step ?_; conv => whnf
      (repeat' (first | (exact o) | (rw [ej]) | (rw [e6]) | (refine Ex_step ?_; conv => whnf) | (refine ⟨?_, trivial⟩) | (refine (show den _ _ _ _ _ _ _ _ from ?_); conv => whnf) | (refine ⟨fun c => False.elim (by omega), fun c => ?_⟩) | (refine ⟨fun c => ?_, fun c => False.elim (by omega)⟩) | (refine ⟨by (first | assumption | rfl | (exact Nat.le_of_ble_eq_true rfl) | (exact ⟨fun h01 => absurd h01 (by decide), by first | rfl | assumption⟩) | (exact ⟨fun _ => by decide, by first | rfl | assumption⟩) | (exact ⟨by assumption, by omega, by omega⟩) | (unfold inI; omega) | omega), ?_⟩; conv => whnf) | (refine ⟨fun c => ?_, fun c => ?_⟩) | (intro c) | fail))
    | succ m ih =>
      intro k w5 hj hm hk hsc fj ej
      obtain ⟨⟨k10, r5, k11, l11⟩, -, -, -, e6, hn, hP⟩ := id (fj.M hM)
      have hp := hP (a + k) (by omega) (by omega)
      have hp1 := hp.1
      by_cases c : lt P (a + k) = true
      · have cc := lt_t.mp c
        rw [sc_go (by omega) c] at hsc
        have hb := sc_b (p := lt P) (n := n) _ (a + k + 1) rfl (by omega)
        have nx := ih (k + 1) w5 (sG hj 10 7 (a + k + 1)) (by omega) (by omega) (by rw [show a + ((k + 1 : Nat) : Int) = a + k + 1 by omega]; exact hsc) fj.s (by rw [g_same]; omega)
        refine Ex_step ?_; conv => whnf
        (repeat' (first | (exact nx) | (rw [ej]) | (rw [e6]) | (rw [r5]) | (rw [hp1]) | (refine w_isLetter (by omega) (fun q => ?_) (fun q => absurd cc q)) | (refine ⟨⟨k11, by omega, Int.lt_of_lt_of_le (by omega : _ < (900 : Int)) (Int.le_of_eq l11.symm)⟩, ?_⟩; conv => whnf) | (refine Ex_step ?_; conv => whnf) | (refine ⟨?_, trivial⟩) | (refine (show den _ _ _ _ _ _ _ _ from ?_); conv => whnf) | (refine ⟨fun c => False.elim (by omega), fun c => ?_⟩) | (refine ⟨fun c => ?_, fun c => False.elim (by omega)⟩) | (refine ⟨by (first | assumption | rfl | (exact Nat.le_of_ble_eq_true rfl) | (exact ⟨fun h01 => absurd h01 (by decide), by first | rfl | assumption⟩) | (exact ⟨fun _ => by decide, by first | rfl | assumption⟩) | (exact ⟨by assumption, by omega, by omega⟩) | (unfold inI; omega) | omega), ?_⟩; conv => whnf) | (refine ⟨fun c => ?_, fun c => ?_⟩) | (intro c) | fail))
      · have cc : ¬ (97 ≤ P (a + k) ∧ P (a + k) ≤ 122) := fun q => c (lt_t.mpr q)
        have o := out k w5 hj (by rw [← hsc]; exact (sc_end (fun q => c q.2)).symm) fj ej
        refine Ex_step ?_; conv => whnf
        (repeat' (first | (exact o) | (rw [ej]) | (rw [e6]) | (rw [r5]) | (rw [hp1]) | (refine w_isLetter (by omega) (fun q => absurd q cc) (fun q => ?_)) | (refine ⟨⟨k11, by omega, Int.lt_of_lt_of_le (by omega : _ < (900 : Int)) (Int.le_of_eq l11.symm)⟩, ?_⟩; conv => whnf) | (refine Ex_step ?_; conv => whnf) | (refine ⟨?_, trivial⟩) | (refine (show den _ _ _ _ _ _ _ _ from ?_); conv => whnf) | (refine ⟨fun c => False.elim (by omega), fun c => ?_⟩) | (refine ⟨fun c => ?_, fun c => False.elim (by omega)⟩) | (refine ⟨by (first | assumption | rfl | (exact Nat.le_of_ble_eq_true rfl) | (exact ⟨fun h01 => absurd h01 (by decide), by first | rfl | assumption⟩) | (exact ⟨fun _ => by decide, by first | rfl | assumption⟩) | (exact ⟨by assumption, by omega, by omega⟩) | (unfold inI; omega) | omega), ?_⟩; conv => whnf) | (refine ⟨fun c => ?_, fun c => ?_⟩) | (intro c) | fail))
  have k10 := hM.1.1
  have l0 := loop (n - a).toNat 0 none h (by omega) (by omega) (by rw [show a + ((0 : Nat) : Int) = a by omega]) F7.refl (by omega)
  refine eX5_findWord (by omega) ?_
  (repeat' (first | (exact l0) | (rw [e7]) | (refine Ex_step ?_; conv => whnf) | (refine ⟨?_, trivial⟩) | (refine (show den _ _ _ _ _ _ _ _ from ?_); conv => whnf) | (refine ⟨fun c => False.elim (by omega), fun c => ?_⟩) | (refine ⟨fun c => ?_, fun c => False.elim (by omega)⟩) | (refine ⟨by (first | assumption | rfl | (exact Nat.le_of_ble_eq_true rfl) | (exact ⟨fun h01 => absurd h01 (by decide), by first | rfl | assumption⟩) | (exact ⟨fun _ => by decide, by first | rfl | assumption⟩) | (exact ⟨by assumption, by omega, by omega⟩) | (unfold inI; omega) | omega), ?_⟩; conv => whnf) | (refine ⟨fun c => ?_, fun c => ?_⟩) | (intro c) | fail))
set_option maxHeartbeats 4000000 in
theorem w_findNumber {X : Int → Int} {XL : Int} {d : Nat} {h : Mem} {Q : RetP} {P : Int → Int} {n a s : Int} (hd : 4 ≤ d) (hM : TxM h P n) (hs : 0 ≤ s ∧ s < 12) (e7 : gG h 10 7 = a) (ha : 0 ≤ a ∧ a < n) (hq : ∀ h', Ft s h h' → gG h' 10 7 = sc (dg P) n a → (sc (dg P) n a - a ≤ 4 → gG h' 14 s = nv P a (sc (dg P) n a - a).toNat) → (∀ i, gG h' 13 i = gG h 13 i) → Q (some (vI (if 4 < sc (dg P) n a - a then 33 else 27))) h') : WP X XL d 63 [vR 10, vI s] h Q := by
  obtain ⟨b1, b2, b3, b4⟩ := sc_b (p := dg P) (n := n) _ a rfl (by omega)
  have out : ∀ (k : Nat) (hj : Mem), a + k = sc (dg P) n a → F7 h hj → gG hj 10 7 = a + k → Ex (WP X XL (d - 1)) KX5_findNumber h.1 Q 74 [some (vR 10), some (vI s), some (vI a), some (vI (nv P a (min k 4)))] [] hj := by
    intro k hj hk fj ej
    have hMj := fj.M hM
    obtain ⟨⟨k10, r5, k11, l11⟩, ⟨r8, k12, l12⟩, ⟨r9, k13, l13⟩, ⟨r10, k14, l14⟩, e6, hn, hP⟩ := id hMj
    have gj := fj.1
    have ek : (sc (dg P) n a - a).toNat = k := by omega
    have ej2 : gG (sG hj 14 s (nv P a (min k 4))) 10 7 = a + k := by rw [gG_sG, if_neg (by omega)]; exact ej
    have e := hq (sG hj 14 s (nv P a (min k 4))) (fj.t.s (Or.inr (Or.inr ⟨rfl, rfl⟩))) (by rw [ej2, hk]) (fun q => by rw [g_same, ek, show min k 4 = k by omega]) (fun i => by rw [gG_sG, if_neg (by omega)]; exact fj.2.2 _ _ (by omega))
    rw [← hk, show a + (k : Int) - a = k by omega] at e
    by_cases c4 : 4 < (k : Int)
    · rw [if_pos c4] at e
      (repeat' (first | (exact e) | (rw [r10]) | (rw [ej2]) | (refine ⟨⟨k14, by omega, Int.lt_of_lt_of_le (by omega : _ < (12 : Int)) (Int.le_of_eq l14.symm)⟩, ?_⟩; conv => whnf) | (refine Ex_step ?_; conv => whnf) | (refine ⟨?_, trivial⟩) | (refine (show den _ _ _ _ _ _ _ _ from ?_); conv => whnf) | (refine ⟨fun c => False.elim (by omega), fun c => ?_⟩) | (refine ⟨fun c => ?_, fun c => False.elim (by omega)⟩) | (refine ⟨by (first | assumption | rfl | (exact Nat.le_of_ble_eq_true rfl) | (exact ⟨fun h01 => absurd h01 (by decide), by first | rfl | assumption⟩) | (exact ⟨fun _ => by decide, by first | rfl | assumption⟩) | (exact ⟨by assumption, by omega, by omega⟩) | (unfold inI; omega) | omega), ?_⟩; conv => whnf) | (refine ⟨fun c => ?_, fun c => ?_⟩) | (intro c) | fail))
    · rw [if_neg c4] at e
      (repeat' (first | (exact e) | (rw [r10]) | (rw [ej2]) | (refine ⟨⟨k14, by omega, Int.lt_of_lt_of_le (by omega : _ < (12 : Int)) (Int.le_of_eq l14.symm)⟩, ?_⟩; conv => whnf) | (refine Ex_step ?_; conv => whnf) | (refine ⟨?_, trivial⟩) | (refine (show den _ _ _ _ _ _ _ _ from ?_); conv => whnf) | (refine ⟨fun c => False.elim (by omega), fun c => ?_⟩) | (refine ⟨fun c => ?_, fun c => False.elim (by omega)⟩) | (refine ⟨by (first | assumption | rfl | (exact Nat.le_of_ble_eq_true rfl) | (exact ⟨fun h01 => absurd h01 (by decide), by first | rfl | assumption⟩) | (exact ⟨fun _ => by decide, by first | rfl | assumption⟩) | (exact ⟨by assumption, by omega, by omega⟩) | (unfold inI; omega) | omega), ?_⟩; conv => whnf) | (refine ⟨fun c => ?_, fun c => ?_⟩) | (intro c) | fail))
  have loop : ∀ (m k : Nat) (hj : Mem), n - (a + k) = m → a + k ≤ sc (dg P) n a → sc (dg P) n (a + k) = sc (dg P) n a → F7 h hj → gG hj 10 7 = a + k → Ex (WP X XL (d - 1)) KX5_findNumber h.1 Q 7 [some (vR 10), some (vI s), some (vI a), some (vI (nv P a (min k 4)))] [] hj := by
    intro m; induction m with
    | zero =>
      intro k hj hm hk hsc fj ej
      obtain ⟨⟨k10, r5, k11, l11⟩, -, -, -, e6, hn, hP⟩ := id (fj.M hM)
      have o := out k hj (by rw [← hsc]; exact (sc_end (by omega)).symm) fj ej
      refine Ex_step ?_; conv => whnf
      (repeat' (first | (exact o) | (rw [ej]) | (rw [e6]) | (refine Ex_step ?_; conv => whnf) | (refine ⟨?_, trivial⟩) | (refine (show den _ _ _ _ _ _ _ _ from ?_); conv => whnf) | (refine ⟨fun c => False.elim (by omega), fun c => ?_⟩) | (refine ⟨fun c => ?_, fun c => False.elim (by omega)⟩) | (refine ⟨by (first | assumption | rfl | (exact Nat.le_of_ble_eq_true rfl) | (exact ⟨fun h01 => absurd h01 (by decide), by first | rfl | assumption⟩) | (exact ⟨fun _ => by decide, by first | rfl | assumption⟩) | (exact ⟨by assumption, by omega, by omega⟩) | (unfold inI; omega) | omega), ?_⟩; conv => whnf) | (refine ⟨fun c => ?_, fun c => ?_⟩) | (intro c) | fail))
    | succ m ih =>
      intro k hj hm hk hsc fj ej
      obtain ⟨⟨k10, r5, k11, l11⟩, -, -, -, e6, hn, hP⟩ := id (fj.M hM)
      have hp := hP (a + k) (by omega) (by omega)
      have hp1 := hp.1
      by_cases c : dg P (a + k) = true
      · have cc := dg_t.mp c
        rw [sc_go (by omega) c] at hsc
        have hb := sc_b (p := dg P) (n := n) _ (a + k + 1) rfl (by omega)
        have nx := ih (k + 1) (sG hj 10 7 (a + k + 1)) (by omega) (by omega) (by rw [show a + ((k + 1 : Nat) : Int) = a + k + 1 by omega]; exact hsc) fj.s (by rw [g_same]; omega)
        by_cases c4 : k < 4
        · have hv := nv_b (P := P) (a := a) k (fun j h0 h1 => b3 j h0 (by omega))
          have hv2 := p10 k (by omega)
          rw [show min k 4 = k by omega]
          rw [show min (k + 1) 4 = k + 1 by omega, show nv P a (k + 1) = nv P a k * 10 + (P (a + k) - 48) from rfl] at nx
          generalize (10 : Int) ^ k = Y at hv hv2
          refine Ex_step ?_; conv => whnf
          (repeat' (first | (exact nx) | (rw [ej]) | (rw [e6]) | (rw [r5]) | (rw [hp1]) | (refine w_isDigit (by omega) (fun q => ?_) (fun q => absurd cc q)) | (refine ⟨⟨k11, by omega, Int.lt_of_lt_of_le (by omega : _ < (900 : Int)) (Int.le_of_eq l11.symm)⟩, ?_⟩; conv => whnf) | (refine Ex_step ?_; conv => whnf) | (refine ⟨?_, trivial⟩) | (refine (show den _ _ _ _ _ _ _ _ from ?_); conv => whnf) | (refine ⟨fun c => False.elim (by omega), fun c => ?_⟩) | (refine ⟨fun c => ?_, fun c => False.elim (by omega)⟩) | (refine ⟨by (first | assumption | rfl | (exact Nat.le_of_ble_eq_true rfl) | (exact ⟨fun h01 => absurd h01 (by decide), by first | rfl | assumption⟩) | (exact ⟨fun _ => by decide, by first | rfl | assumption⟩) | (exact ⟨by assumption, by omega, by omega⟩) | (unfold inI; omega) | omega), ?_⟩; conv => whnf) | (refine ⟨fun c => ?_, fun c => ?_⟩) | (intro c) | fail))
        · rw [show min k 4 = 4 by omega]
          rw [show min (k + 1) 4 = 4 by omega] at nx
          refine Ex_step ?_; conv => whnf
          (repeat' (first | (exact nx) | (rw [ej]) | (rw [e6]) | (rw [r5]) | (rw [hp1]) | (refine w_isDigit (by omega) (fun q => ?_) (fun q => absurd cc q)) | (refine ⟨⟨k11, by omega, Int.lt_of_lt_of_le (by omega : _ < (900 : Int)) (Int.le_of_eq l11.symm)⟩, ?_⟩; conv => whnf) | (refine Ex_step ?_; conv => whnf) | (refine ⟨?_, trivial⟩) | (refine (show den _ _ _ _ _ _ _ _ from ?_); conv => whnf) | (refine ⟨fun c => False.elim (by omega), fun c => ?_⟩) | (refine ⟨fun c => ?_, fun c => False.elim (by omega)⟩) | (refine ⟨by (first | assumption | rfl | (exact Nat.le_of_ble_eq_true rfl) | (exact ⟨fun h01 => absurd h01 (by decide), by first | rfl | assumption⟩) | (exact ⟨fun _ => by decide, by first | rfl | assumption⟩) | (exact ⟨by assumption, by omega, by omega⟩) | (unfold inI; omega) | omega), ?_⟩; conv => whnf) | (refine ⟨fun c => ?_, fun c => ?_⟩) | (intro c) | fail))
      · have cc : ¬ (48 ≤ P (a + k) ∧ P (a + k) ≤ 57) := fun q => c (dg_t.mpr q)
        have o := out k hj (by rw [← hsc]; exact (sc_end (fun q => c q.2)).symm) fj ej
        refine Ex_step ?_; conv => whnf
        (repeat' (first | (exact o) | (rw [ej]) | (rw [e6]) | (rw [r5]) | (rw [hp1]) | (refine w_isDigit (by omega) (fun q => absurd q cc) (fun q => ?_)) | (refine ⟨⟨k11, by omega, Int.lt_of_lt_of_le (by omega : _ < (900 : Int)) (Int.le_of_eq l11.symm)⟩, ?_⟩; conv => whnf) | (refine Ex_step ?_; conv => whnf) | (refine ⟨?_, trivial⟩) | (refine (show den _ _ _ _ _ _ _ _ from ?_); conv => whnf) | (refine ⟨fun c => False.elim (by omega), fun c => ?_⟩) | (refine ⟨fun c => ?_, fun c => False.elim (by omega)⟩) | (refine ⟨by (first | assumption | rfl | (exact Nat.le_of_ble_eq_true rfl) | (exact ⟨fun h01 => absurd h01 (by decide), by first | rfl | assumption⟩) | (exact ⟨fun _ => by decide, by first | rfl | assumption⟩) | (exact ⟨by assumption, by omega, by omega⟩) | (unfold inI; omega) | omega), ?_⟩; conv => whnf) | (refine ⟨fun c => ?_, fun c => ?_⟩) | (intro c) | fail))
  have k10 := hM.1.1
  have l0 := loop (n - a).toNat 0 h (by omega) (by omega) (by rw [show a + ((0 : Nat) : Int) = a by omega]) F7.refl (by omega)
  refine eX5_findNumber (by omega) ?_
  (repeat' (first | (exact l0) | (rw [e7]) | (refine Ex_step ?_; conv => whnf) | (refine ⟨?_, trivial⟩) | (refine (show den _ _ _ _ _ _ _ _ from ?_); conv => whnf) | (refine ⟨fun c => False.elim (by omega), fun c => ?_⟩) | (refine ⟨fun c => ?_, fun c => False.elim (by omega)⟩) | (refine ⟨by (first | assumption | rfl | (exact Nat.le_of_ble_eq_true rfl) | (exact ⟨fun h01 => absurd h01 (by decide), by first | rfl | assumption⟩) | (exact ⟨fun _ => by decide, by first | rfl | assumption⟩) | (exact ⟨by assumption, by omega, by omega⟩) | (unfold inI; omega) | omega), ?_⟩; conv => whnf) | (refine ⟨fun c => ?_, fun c => ?_⟩) | (intro c) | fail))
