/-! LEVEL 2: viaduct, the reference -/
/-- what begins leaves -/
def FB (h h' : Mem) : Prop := h'.1 = h.1 ∧ h'.2.2 = h.2.2 ∧ (∀ r i, ¬ r = 134 → ¬ (r = 127 ∧ 10 ≤ i ∧ i ≤ 19 ∧ ¬ i = 16) → gG h' r i = gG h r i) ∧ gG h' 127 10 = 0 ∧ gG h' 127 17 = -1
/-- the reference's tape: c bytes P, and where it is copied to -/
def TxU (h : Mem) (c : Int) (P : Int → Int) : Prop := (kd h 127 = 10 ∧ gR h 127 8 = 133 ∧ kd h 133 = 102 ∧ ln h 133 = 900) ∧ (gR h 127 9 = 134 ∧ kd h 134 = 102 ∧ ln h 134 = 900) ∧ gG h 127 10 = c ∧ (0 ≤ c ∧ c ≤ 900) ∧ ∀ i, 0 ≤ i → i < c → gG h 133 i = P i ∧ -128 ≤ P i ∧ P i ≤ 127
set_option maxHeartbeats 4000000 in
theorem r_beginsN {X : Int → Int} {XL : Int} {d : Nat} {h : Mem} {Q : RetP} {c n m : Int} {P : Int → Int} (hd : 1 ≤ d) (hT : TxU h c P) (hn : ¬ (0 ≤ n ∧ n ≤ c ∧ n ≤ m)) (hq : Q (some (vI 0)) h) : WP X XL d 218 [vR 127, vI n, vI m] h Q := by
  have kq := hT.1.1
  have e10 := hT.2.2.1
  refine eX10_begins (by omega) ?_
  (repeat' (first | (exact hq) | (rw [e10]) | (refine Ex_step ?_; conv => whnf) | (refine ⟨?_, trivial⟩) | (refine (show den _ _ _ _ _ _ _ _ from ?_); conv => whnf) | (refine ⟨fun c => False.elim (by omega), fun c => ?_⟩) | (refine ⟨fun c => ?_, fun c => False.elim (by omega)⟩) | (refine ⟨by (first | assumption | rfl | (exact Nat.le_of_ble_eq_true rfl) | (exact ⟨fun h01 => absurd h01 (by decide), by first | rfl | assumption⟩) | (exact ⟨fun _ => by decide, by first | rfl | assumption⟩) | (exact ⟨by assumption, by omega, by omega⟩) | (unfold inI; omega) | omega), ?_⟩; conv => whnf) | (refine ⟨fun c => ?_, fun c => ?_⟩) | (intro c) | fail))
set_option maxHeartbeats 4000000 in
theorem r_begins {X : Int → Int} {XL : Int} {d : Nat} {h : Mem} {Q : RetP} {c n m : Int} {P : Int → Int} (hd : 3 ≤ d) (hT : TxU h c P) (hn : 0 ≤ n ∧ n ≤ c ∧ n ≤ m) (hq : ∀ h', Aq h' P n 0 → FB h h' → Q (some (vI 1)) h') : WP X XL d 218 [vR 127, vI n, vI m] h Q := by
  obtain ⟨⟨kq, r8, k133, l133⟩, ⟨r9, k134, l134⟩, e10, hc, hP⟩ := id hT
  have out : ∀ (w3 : Int) (hj : Mem), hj.1 = h.1 → hj.2.2 = h.2.2 → (∀ r i, ¬ r = 134 → ¬ (r = 127 ∧ i = 11) → gG hj r i = gG h r i) → gG hj 127 11 = n → (∀ i, 0 ≤ i → i < n → gG hj 134 i = P i) → Ex (WP X XL (d - 1)) KX10_begins h.1 Q 49 [some (vR 127), some (vI n), some (vI m), some (vI w3)] [] hj := by
    intro w3 hj e1 e2 e3 e4 e5
    have kqj : kd hj 127 = 10 := by unfold kd; rw [e1]; exact kq
    have f2 : ∀ r i, ¬ (r = 127 ∧ (i = 10 ∨ i = 18 ∨ i = 17 ∨ i = 14 ∨ i = 19)) → gG (sG (sG (sG (sG (sG hj 127 10 0) 127 18 0) 127 17 (-1)) 127 14 0) 127 19 0) r i = gG hj r i := fun r i q => by
      rw [gG_sG, if_neg (by omega), gG_sG, if_neg (by omega), gG_sG, if_neg (by omega), gG_sG, if_neg (by omega), gG_sG, if_neg (by omega)]
    have hM : TxQ (sG (sG (sG (sG (sG hj 127 10 0) 127 18 0) 127 17 (-1)) 127 14 0) 127 19 0) P n := by
      refine ⟨?_, (f2 _ _ (by omega)).trans e4, by omega, fun i x y => ⟨(f2 _ _ (by omega)).trans (e5 i x y), (hP i x (by omega)).2⟩⟩
      show kd hj 127 = 10 ∧ gR hj 127 9 = 134 ∧ kd hj 134 = 102 ∧ ln hj 134 = 900
      unfold kd ln gR; rw [e1, e2]; exact ⟨kq, r9, k134, l134⟩
    have ah : ∀ (d' : Nat) (Q' : RetP), 2 ≤ d' → (∀ h', h'.1 = h.1 → Q (some (vI 1)) h' → Q' none h') → WP X XL d' 214 [vR 127] (sG (sG (sG (sG (sG hj 127 10 0) 127 18 0) 127 17 (-1)) 127 14 0) 127 19 0) Q' := fun d' Q' x y => by
      refine r_ahead x hM (e := 0) (by rw [g_ne (by omega), g_same]) (by omega) (by rw [g_ne (by omega), g_ne (by omega), g_ne (by omega), g_same]) (fun h' hA' f' => ?_)
      have f1 : h'.1 = h.1 := f'.1.trans e1
      refine y h' f1 (hq h' hA' ⟨f1, f'.2.1.trans e2, fun r i p q => ?_, ?_, ?_⟩)
      · rw [f'.2.2 r i (by omega), f2 r i (by omega), e3 r i p (by omega)]
      · rw [f'.2.2 _ _ (by omega), g_ne (by omega), g_ne (by omega), g_ne (by omega), g_ne (by omega), g_same]
      · rw [f'.2.2 _ _ (by omega), g_ne (by omega), g_ne (by omega), g_same]
    (repeat' (first | (exact q') | (refine ah _ _ (by omega) (fun h' g' q' => ?_)) | (refine Ex_step ?_; conv => whnf) | (refine ⟨?_, trivial⟩) | (refine (show den _ _ _ _ _ _ _ _ from ?_); conv => whnf) | (refine ⟨fun c => False.elim (by omega), fun c => ?_⟩) | (refine ⟨fun c => ?_, fun c => False.elim (by omega)⟩) | (refine ⟨by (first | assumption | rfl | (exact Nat.le_of_ble_eq_true rfl) | (exact ⟨fun h01 => absurd h01 (by decide), by first | rfl | assumption⟩) | (exact ⟨fun _ => by decide, by first | rfl | assumption⟩) | (exact ⟨by assumption, by omega, by omega⟩) | (unfold inI; omega) | omega), ?_⟩; conv => whnf) | (refine ⟨fun c => ?_, fun c => ?_⟩) | (intro c) | fail))
  have loop : ∀ (k : Nat) (i : Int) (hj : Mem), (n - i).toNat = k → 0 ≤ i → i ≤ n → hj.1 = h.1 → hj.2.2 = h.2.2 → (∀ r i, ¬ r = 134 → ¬ (r = 127 ∧ i = 11) → gG hj r i = gG h r i) → gG hj 127 11 = n → (∀ j, 0 ≤ j → j < i → gG hj 134 j = P j) → Ex (WP X XL (d - 1)) KX10_begins h.1 Q 26 [some (vR 127), some (vI n), some (vI m), some (vI i)] [] hj := by
    intro k; induction k with
    | zero =>
      intro i hj hk h0 h1 e1 e2 e3 e4 e5
      have o := out i hj e1 e2 e3 e4 (fun j x y => e5 j x (by omega))
      refine Ex_step ?_; conv => whnf
      (repeat' (first | (exact o) | (refine Ex_step ?_; conv => whnf) | (refine ⟨?_, trivial⟩) | (refine (show den _ _ _ _ _ _ _ _ from ?_); conv => whnf) | (refine ⟨fun c => False.elim (by omega), fun c => ?_⟩) | (refine ⟨fun c => ?_, fun c => False.elim (by omega)⟩) | (refine ⟨by (first | assumption | rfl | (exact Nat.le_of_ble_eq_true rfl) | (exact ⟨fun h01 => absurd h01 (by decide), by first | rfl | assumption⟩) | (exact ⟨fun _ => by decide, by first | rfl | assumption⟩) | (exact ⟨by assumption, by omega, by omega⟩) | (unfold inI; omega) | omega), ?_⟩; conv => whnf) | (refine ⟨fun c => ?_, fun c => ?_⟩) | (intro c) | fail))
    | succ k ih =>
      intro i hj hk h0 h1 e1 e2 e3 e4 e5
      have y8 : gR hj 127 8 = 133 := by unfold gR; rw [e2]; exact r8
      have y9 : gR hj 127 9 = 134 := by unfold gR; rw [e2]; exact r9
      have kqj : kd hj 127 = 10 := by unfold kd; rw [e1]; exact kq
      have yk : kd hj 133 = 102 := by unfold kd; rw [e1]; exact k133
      have yl : ln hj 133 = 900 := by unfold ln; rw [e1]; exact l133
      have zk : kd hj 134 = 102 := by unfold kd; rw [e1]; exact k134
      have zl : ln hj 134 = 900 := by unfold ln; rw [e1]; exact l134
      obtain ⟨p1, p2, p3⟩ := hP i h0 (by omega)
      have ev : gG hj 133 i = P i := (e3 133 i (by omega) (by omega)).trans p1
      have pb : stOk 102 (P i) := ⟨p2, p3⟩
      have nx := ih (i + 1) (sG hj 134 i (P i)) (by omega) (by omega) (by omega) e1 e2 (fun r j x y => by rw [gG_sG, if_neg (by omega)]; exact e3 r j x y) (by rw [gG_sG, if_neg (by omega)]; exact e4) (fun j x y => by
        by_cases ej : j = i
        · rw [ej, g_same]
        · rw [g_ne ej]; exact e5 j x (by omega))
      refine Ex_step ?_; conv => whnf
      (repeat' (first | (exact nx) | (rw [y8]) | (rw [y9]) | (rw [ev]) | (refine ⟨⟨⟨zk, by omega, Int.lt_of_lt_of_le (by omega : _ < (900 : Int)) (Int.le_of_eq zl.symm)⟩, pb⟩, ?_⟩; conv => whnf) | (refine ⟨⟨yk, by omega, Int.lt_of_lt_of_le (by omega : _ < (900 : Int)) (Int.le_of_eq yl.symm)⟩, ?_⟩; conv => whnf) | (refine Ex_step ?_; conv => whnf) | (refine ⟨?_, trivial⟩) | (refine (show den _ _ _ _ _ _ _ _ from ?_); conv => whnf) | (refine ⟨fun c => False.elim (by omega), fun c => ?_⟩) | (refine ⟨fun c => ?_, fun c => False.elim (by omega)⟩) | (refine ⟨by (first | assumption | rfl | (exact Nat.le_of_ble_eq_true rfl) | (exact ⟨fun h01 => absurd h01 (by decide), by first | rfl | assumption⟩) | (exact ⟨fun _ => by decide, by first | rfl | assumption⟩) | (exact ⟨by assumption, by omega, by omega⟩) | (unfold inI; omega) | omega), ?_⟩; conv => whnf) | (refine ⟨fun c => ?_, fun c => ?_⟩) | (intro c) | fail))
  have l0 := loop n.toNat 0 (sG h 127 11 n) (by omega) (by omega) (by omega) rfl rfl (fun r j x y => by rw [gG_sG, if_neg y]) g_same (fun j x y => by omega)
  refine eX10_begins (by omega) ?_
  (repeat' (first | (exact l0) | (rw [e10]) | (refine Ex_step ?_; conv => whnf) | (refine ⟨?_, trivial⟩) | (refine (show den _ _ _ _ _ _ _ _ from ?_); conv => whnf) | (refine ⟨fun c => False.elim (by omega), fun c => ?_⟩) | (refine ⟨fun c => ?_, fun c => False.elim (by omega)⟩) | (refine ⟨by (first | assumption | rfl | (exact Nat.le_of_ble_eq_true rfl) | (exact ⟨fun h01 => absurd h01 (by decide), by first | rfl | assumption⟩) | (exact ⟨fun _ => by decide, by first | rfl | assumption⟩) | (exact ⟨by assumption, by omega, by omega⟩) | (unfold inI; omega) | omega), ?_⟩; conv => whnf) | (refine ⟨fun c => ?_, fun c => ?_⟩) | (intro c) | fail))
set_option maxHeartbeats 4000000 in
theorem r_plain {X : Int → Int} {XL : Int} {d : Nat} {h : Mem} {Q : RetP} {s : Int} (hd : 1 ≤ d) (kq : kd h 127 = 10) (hX : RA h) (hs : 0 ≤ s ∧ s ≤ 2000) (hq : ∀ h', h'.1 = h.1 → h'.2.2 = h.2.2 → (∀ r i, ¬ (r = 128 ∧ s ≤ i ∧ i < s + 458) → gG h' r i = gG h r i) → (∀ j, 0 ≤ j → j < 458 → gG h' 128 (s + j) = plain0 j) → Q none h') : WP X XL d 192 [vR 127, vI s] h Q := by
  obtain ⟨x0, xk, xl⟩ := id hX
  have loop : ∀ (k : Nat) (i : Int) (hj : Mem), (458 - i).toNat = k → 0 ≤ i → i ≤ 458 → hj.1 = h.1 → hj.2.2 = h.2.2 → (∀ r i, ¬ (r = 128 ∧ s ≤ i ∧ i < s + 458) → gG hj r i = gG h r i) → (∀ j, 0 ≤ j → j < i → gG hj 128 (s + j) = 0) → Ex (WP X XL (d - 1)) KX10_plain h.1 Q 2 [some (vR 127), some (vI s), some (vI i)] [] hj := by
    intro k; induction k with
    | zero =>
      intro i hj hk h0 h1 e1 e2 e3 e4
      obtain ⟨y0, yk, yl⟩ := hX.z e1 e2
      have kqj : kd hj 127 = 10 := by unfold kd; rw [e1]; exact kq
      have q := hq (sG (sG (sG hj 128 (s + 3) 3) 128 (s + 5) 2) 128 (s + 7) (-1)) e1 e2 (fun r j x => by rw [gG_sG, if_neg (by omega), gG_sG, if_neg (by omega), gG_sG, if_neg (by omega)]; exact e3 r j x) (fun j x y => by
        have e := e4 j x (by omega)
        rw [g_if, g_if, g_if, e]
        unfold plain0
        repeat' split
        all_goals omega)
      (repeat' (first | (exact q) | (rw [gR_sG]) | (rw [y0]) | (refine ⟨⟨yk, by omega, Int.lt_of_lt_of_le (by omega : _ < (3198 : Int)) (Int.le_of_eq yl.symm)⟩, ?_⟩; conv => whnf) | (refine Ex_step ?_; conv => whnf) | (refine ⟨?_, trivial⟩) | (refine (show den _ _ _ _ _ _ _ _ from ?_); conv => whnf) | (refine ⟨fun c => False.elim (by omega), fun c => ?_⟩) | (refine ⟨fun c => ?_, fun c => False.elim (by omega)⟩) | (refine ⟨by (first | assumption | rfl | (exact Nat.le_of_ble_eq_true rfl) | (exact ⟨fun h01 => absurd h01 (by decide), by first | rfl | assumption⟩) | (exact ⟨fun _ => by decide, by first | rfl | assumption⟩) | (exact ⟨by assumption, by omega, by omega⟩) | (unfold inI; omega) | omega), ?_⟩; conv => whnf) | (refine ⟨fun c => ?_, fun c => ?_⟩) | (intro c) | fail))
    | succ k ih =>
      intro i hj hk h0 h1 e1 e2 e3 e4
      obtain ⟨y0, yk, yl⟩ := hX.z e1 e2
      have kqj : kd hj 127 = 10 := by unfold kd; rw [e1]; exact kq
      have nx := ih (i + 1) (sG hj 128 (s + i) 0) (by omega) (by omega) (by omega) e1 e2 (fun r j x => by rw [gG_sG, if_neg (by omega)]; exact e3 r j x) (fun j x y => by
        by_cases ej : j = i
        · rw [ej, g_same]
        · rw [g_ne (by omega)]; exact e4 j x (by omega))
      refine Ex_step ?_; conv => whnf
      (repeat' (first | (exact nx) | (rw [y0]) | (refine ⟨⟨yk, by omega, Int.lt_of_lt_of_le (by omega : _ < (3198 : Int)) (Int.le_of_eq yl.symm)⟩, ?_⟩; conv => whnf) | (refine Ex_step ?_; conv => whnf) | (refine ⟨?_, trivial⟩) | (refine (show den _ _ _ _ _ _ _ _ from ?_); conv => whnf) | (refine ⟨fun c => False.elim (by omega), fun c => ?_⟩) | (refine ⟨fun c => ?_, fun c => False.elim (by omega)⟩) | (refine ⟨by (first | assumption | rfl | (exact Nat.le_of_ble_eq_true rfl) | (exact ⟨fun h01 => absurd h01 (by decide), by first | rfl | assumption⟩) | (exact ⟨fun _ => by decide, by first | rfl | assumption⟩) | (exact ⟨by assumption, by omega, by omega⟩) | (unfold inI; omega) | omega), ?_⟩; conv => whnf) | (refine ⟨fun c => ?_, fun c => ?_⟩) | (intro c) | fail))
  have l0 := loop _ 0 h rfl (by omega) (by omega) rfl rfl (fun _ _ _ => rfl) (fun j x y => by omega)
  refine eX10_plain (by omega) ?_
  (repeat' (first | (exact l0) | (refine Ex_step ?_; conv => whnf) | (refine ⟨?_, trivial⟩) | (refine (show den _ _ _ _ _ _ _ _ from ?_); conv => whnf) | (refine ⟨fun c => False.elim (by omega), fun c => ?_⟩) | (refine ⟨fun c => ?_, fun c => False.elim (by omega)⟩) | (refine ⟨by (first | assumption | rfl | (exact Nat.le_of_ble_eq_true rfl) | (exact ⟨fun h01 => absurd h01 (by decide), by first | rfl | assumption⟩) | (exact ⟨fun _ => by decide, by first | rfl | assumption⟩) | (exact ⟨by assumption, by omega, by omega⟩) | (unfold inI; omega) | omega), ?_⟩; conv => whnf) | (refine ⟨fun c => ?_, fun c => ?_⟩) | (intro c) | fail))
set_option maxHeartbeats 4000000 in
theorem r_takenY {X : Int → Int} {XL : Int} {d : Nat} {h : Mem} {Q : RetP} {v : Int} (hd : 2 ≤ d) (kq : kd h 127 = 10) (e18 : gG h 127 18 = 0) (hq : Q (some (vI v)) (sG (sG h 127 16 0) 127 2 0)) : WP X XL d 226 [vR 127, vI v] h Q := by
  have e2 : gG (sG h 127 16 0) 127 18 = 0 := by rw [g_ne (by omega)]; exact e18
  have kq2 : kd (sG h 127 16 0) 127 = 10 := kq
  refine eX10_taken (by omega) ?_
  (repeat' (first | (exact hq) | (rw [e18]) | (rw [e2]) | (refine r_gives (by omega) kq2 ?_) | (refine Ex_step ?_; conv => whnf) | (refine ⟨?_, trivial⟩) | (refine (show den _ _ _ _ _ _ _ _ from ?_); conv => whnf) | (refine ⟨fun c => False.elim (by omega), fun c => ?_⟩) | (refine ⟨fun c => ?_, fun c => False.elim (by omega)⟩) | (refine ⟨by (first | assumption | rfl | (exact Nat.le_of_ble_eq_true rfl) | (exact ⟨fun h01 => absurd h01 (by decide), by first | rfl | assumption⟩) | (exact ⟨fun _ => by decide, by first | rfl | assumption⟩) | (exact ⟨by assumption, by omega, by omega⟩) | (unfold inI; omega) | omega), ?_⟩; conv => whnf) | (refine ⟨fun c => ?_, fun c => ?_⟩) | (intro c) | fail))
set_option maxHeartbeats 4000000 in
theorem r_takenN {X : Int → Int} {XL : Int} {d : Nat} {h : Mem} {Q : RetP} {v x : Int} (hd : 2 ≤ d) (kq : kd h 127 = 10) (e18 : gG h 127 18 = x) (hx : 1 ≤ x) (hq : Q (some (vI (-1))) (sG (sG h 127 16 x) 127 2 9)) : WP X XL d 226 [vR 127, vI v] h Q := by
  have e2 : gG (sG h 127 16 x) 127 18 = x := by rw [g_ne (by omega)]; exact e18
  have kq2 : kd (sG h 127 16 x) 127 = 10 := kq
  refine eX10_taken (by omega) ?_
  (repeat' (first | (exact hq) | (rw [e18]) | (rw [e2]) | (refine r_refuse (by omega) kq2 ?_) | (refine Ex_step ?_; conv => whnf) | (refine ⟨?_, trivial⟩) | (refine (show den _ _ _ _ _ _ _ _ from ?_); conv => whnf) | (refine ⟨fun c => False.elim (by omega), fun c => ?_⟩) | (refine ⟨fun c => ?_, fun c => False.elim (by omega)⟩) | (refine ⟨by (first | assumption | rfl | (exact Nat.le_of_ble_eq_true rfl) | (exact ⟨fun h01 => absurd h01 (by decide), by first | rfl | assumption⟩) | (exact ⟨fun _ => by decide, by first | rfl | assumption⟩) | (exact ⟨by assumption, by omega, by omega⟩) | (unfold inI; omega) | omega), ?_⟩; conv => whnf) | (refine ⟨fun c => ?_, fun c => ?_⟩) | (intro c) | fail))
/-- what a text that was refused leaves -/
def FVf (h h' : Mem) : Prop := h'.1 = h.1 ∧ h'.2.2 = h.2.2 ∧ ∀ r i, ¬ (r = 127 ∧ (i = 2 ∨ (10 ≤ i ∧ i ≤ 20) ∨ i = 22 ∨ i = 23)) → ¬ r = 134 → ¬ r = 135 → ¬ (r = 128 ∧ 1832 ≤ i ∧ i < 2290) → ¬ (r = 129 ∧ 24 ≤ i ∧ i < 30) → gG h' r i = gG h r i
theorem FVf.trans {h h' h'' : Mem} (a : FVf h h') (b : FVf h' h'') : FVf h h'' := ⟨b.1.trans a.1, b.2.1.trans a.2.1, fun r i p q t u v => (b.2.2 r i p q t u v).trans (a.2.2 r i p q t u v)⟩
theorem FB.v {h h' : Mem} (a : FB h h') : FVf h h' := ⟨a.1, a.2.1, fun r i p q t u v => a.2.2.1 r i q (by omega)⟩
theorem FR.v {h h' : Mem} (a : FR h h') : FVf h h' := ⟨a.1, a.2.1, fun r i p q t u v => a.2.2 r i (by unfold qP; omega)⟩
theorem FRf.v {h h' : Mem} {x : Int × Int} (a : FRf h h' x) : FVf h h' := ⟨a.1, a.2.1, fun r i p q t u v => a.2.2.1 r i (by unfold qP; omega) (by omega)⟩
theorem FVf.s {h h' : Mem} {i z : Int} (a : FVf h h') (q : i = 2 ∨ (10 ≤ i ∧ i ≤ 20) ∨ i = 22 ∨ i = 23) : FVf h (sG h' 127 i z) := ⟨a.1, a.2.1, fun r j p t u v w => by rw [gG_sG, if_neg (by omega)]; exact a.2.2 r j p t u v w⟩
/-- and one that was read -/
def FV (h h' : Mem) : Prop := h'.1 = h.1 ∧ h'.2.2 = h.2.2 ∧ ∀ r i, ¬ (r = 127 ∧ (i = 2 ∨ (10 ≤ i ∧ i ≤ 20) ∨ i = 22 ∨ i = 23)) → ¬ r = 134 → ¬ r = 135 → ¬ (r = 128 ∧ ((0 ≤ i ∧ i < 458) ∨ (1832 ≤ i ∧ i < 2290))) → ¬ (r = 129 ∧ ((0 ≤ i ∧ i < 6) ∨ (24 ≤ i ∧ i < 30))) → gG h' r i = gG h r i
theorem plain0_b : bA plain0 := ⟨by decide, by decide, by decide, fun j x y => by
  have e1 : plain0 1 = 0 := by decide
  rw [e1] at x
  unfold plain0
  rw [if_neg (by omega), if_neg (by omega), if_neg (by omega)]⟩
set_option maxHeartbeats 4000000 in
theorem m_viaductN {X : Int → Int} {XL : Int} {d : Nat} {h : Mem} {Q : RetP} {c n : Int} {P : Int → Int} (hd : 3 ≤ d) (hT : TxU h c P) (hn : ¬ (0 ≤ n ∧ n ≤ c)) (hq : Q (some (vI (-1))) (sG h 127 2 1)) : WP X XL d 237 [vR 127, vI n] h Q := by
  have kq := hT.1.1
  refine eX10_viaduct (by omega) ?_
  (repeat' (first | (exact hq) | (refine r_beginsN (by omega) hT (by omega) ?_) | (refine r_refuse (by omega) kq ?_) | (refine Ex_step ?_; conv => whnf) | (refine ⟨?_, trivial⟩) | (refine (show den _ _ _ _ _ _ _ _ from ?_); conv => whnf) | (refine ⟨fun c => False.elim (by omega), fun c => ?_⟩) | (refine ⟨fun c => ?_, fun c => False.elim (by omega)⟩) | (refine ⟨by (first | assumption | rfl | (exact Nat.le_of_ble_eq_true rfl) | (exact ⟨fun h01 => absurd h01 (by decide), by first | rfl | assumption⟩) | (exact ⟨fun _ => by decide, by first | rfl | assumption⟩) | (exact ⟨by assumption, by omega, by omega⟩) | (unfold inI; omega) | omega), ?_⟩; conv => whnf) | (refine ⟨fun c => ?_, fun c => ?_⟩) | (intro c) | fail))
set_option maxHeartbeats 4000000 in
theorem m_viaduct {X : Int → Int} {XL : Int} {d : Nat} {h : Mem} {Q : RetP} {c n : Int} {P N : Int → Int} {r : (Int × Int) ⊕ ((Int → Int) × (Int → Int))} (hd : 14 ≤ d) (hT : TxU h c P) (hX : RA h) (hY : RM h) (hn : 0 ≤ n ∧ n ≤ c) (hr : vRd P n 901 0 plain0 N 0 = r) (hq0 : ∀ x h', r = .inl x → FVf h h' → gG h' 127 10 = 0 → gG h' 127 17 = x.2 → Q (some (vI (-1))) (sG (sG h' 127 16 x.1) 127 2 9)) (hq1 : ∀ A' N' h', r = .inr (A', N') → FV h h' → gG h' 127 10 = 0 → gG h' 127 17 = -1 → (∀ j, 0 ≤ j → j < 90 → gG h' 128 j = A' j) → (∀ i, 0 ≤ i → i < A' 1 → nmP (N' i) (gG h' 129 i)) → Q (some (vI (A' 1))) (sG (sG h' 127 16 0) 127 2 0)) : WP X XL d 237 [vR 127, vI n] h Q := by
  have kq := hT.1.1
  have hc := hT.2.2.2.1
  refine eX10_viaduct (by omega) ?_
  (repeat' (first | (refine Ex_step ?_; conv => whnf) | (refine ⟨?_, trivial⟩) | (refine (show den _ _ _ _ _ _ _ _ from ?_); conv => whnf) | (refine ⟨fun c => False.elim (by omega), fun c => ?_⟩) | (refine ⟨fun c => ?_, fun c => False.elim (by omega)⟩) | (refine ⟨by (first | assumption | rfl | (exact Nat.le_of_ble_eq_true rfl) | (exact ⟨fun h01 => absurd h01 (by decide), by first | rfl | assumption⟩) | (exact ⟨fun _ => by decide, by first | rfl | assumption⟩) | (exact ⟨by assumption, by omega, by omega⟩) | (unfold inI; omega) | omega), ?_⟩; conv => whnf) | (refine ⟨fun c => ?_, fun c => ?_⟩) | fail))
  refine r_begins (by omega) hT (by omega) (fun h1 hA1 f1 => ?_)
  have kq1 := hA1.1.1.1
  have hX1 := hX.z f1.1 f1.2.1
  have fin : ∀ (w2 : Int) (w3 : Option MV) (hj : Mem) (A' N' : Int → Int), r = .inr (A', N') → FV h hj → gG hj 127 10 = 0 → gG hj 127 17 = -1 → gG hj 127 18 = 0 → (∀ j, 0 ≤ j → j < 90 → gG hj 128 j = A' j) → (∀ i, 0 ≤ i → i < A' 1 → nmP (N' i) (gG hj 129 i)) → Ex (WP X XL (d - 1)) KX10_viaduct h.1 Q 117 [some (vR 127), some (vI n), some (vI w2), w3] [] hj := by
    intro w2 w3 hj A' N' er fj e10 e17 e18 eA eN
    obtain ⟨y0, yk, yl⟩ := hX.z fj.1 fj.2.1
    have kqj : kd hj 127 = 10 := by unfold kd; rw [fj.1]; exact kq
    have q := hq1 A' N' hj er fj e10 e17 eA eN
    have v1 := eA 1 (by omega) (by omega)
    have gj := fj.1
    (repeat' (first | (exact q) | (rw [y0]) | (rw [v1]) | (refine r_takenY (by omega) kqj e18 ?_) | (refine ⟨⟨yk, by omega, Int.lt_of_lt_of_le (by omega : _ < (3198 : Int)) (Int.le_of_eq yl.symm)⟩, ?_⟩; conv => whnf) | (refine Ex_step ?_; conv => whnf) | (refine ⟨?_, trivial⟩) | (refine (show den _ _ _ _ _ _ _ _ from ?_); conv => whnf) | (refine ⟨fun c => False.elim (by omega), fun c => ?_⟩) | (refine ⟨fun c => ?_, fun c => False.elim (by omega)⟩) | (refine ⟨by (first | assumption | rfl | (exact Nat.le_of_ble_eq_true rfl) | (exact ⟨fun h01 => absurd h01 (by decide), by first | rfl | assumption⟩) | (exact ⟨fun _ => by decide, by first | rfl | assumption⟩) | (exact ⟨by assumption, by omega, by omega⟩) | (unfold inI; omega) | omega), ?_⟩; conv => whnf) | (refine ⟨fun c => ?_, fun c => ?_⟩) | (intro c) | fail))
  have l90 : ∀ (k : Nat) (i : Int) (w2 : Int) (hj : Mem) (A' N' : Int → Int), (6 - i).toNat = k → 0 ≤ i → i ≤ 6 → r = .inr (A', N') → FV h hj → gG hj 127 10 = 0 → gG hj 127 17 = -1 → gG hj 127 18 = 0 → (∀ j, 0 ≤ j → j < 90 → gG hj 128 j = A' j) → (∀ j, 0 ≤ j → j < i → gG hj 129 j = gG hj 129 (24 + j)) → (A' 1 ≤ 6 ∧ nmT hj N' (A' 1)) → Ex (WP X XL (d - 1)) KX10_viaduct h.1 Q 90 [some (vR 127), some (vI n), some (vI w2), some (vI i)] [] hj := by
    intro k; induction k with
    | zero =>
      intro i w2 hj A' N' hk h0 h1 er fj e10 e17 e18 eA eN eT
      have f := fin w2 (some (vI i)) hj A' N' er fj e10 e17 e18 eA (fun j x y => by rw [eN j x (by omega)]; exact eT.2 j x y)
      refine Ex_step ?_; conv => whnf
      (repeat' (first | (exact f) | (refine Ex_step ?_; conv => whnf) | (refine ⟨?_, trivial⟩) | (refine (show den _ _ _ _ _ _ _ _ from ?_); conv => whnf) | (refine ⟨fun c => False.elim (by omega), fun c => ?_⟩) | (refine ⟨fun c => ?_, fun c => False.elim (by omega)⟩) | (refine ⟨by (first | assumption | rfl | (exact Nat.le_of_ble_eq_true rfl) | (exact ⟨fun h01 => absurd h01 (by decide), by first | rfl | assumption⟩) | (exact ⟨fun _ => by decide, by first | rfl | assumption⟩) | (exact ⟨by assumption, by omega, by omega⟩) | (unfold inI; omega) | omega), ?_⟩; conv => whnf) | (refine ⟨fun c => ?_, fun c => ?_⟩) | (intro c) | fail))
    | succ k ih =>
      intro i w2 hj A' N' hk h0 h1 er fj e10 e17 e18 eA eN eT
      obtain ⟨y1, yk, yl⟩ := hY.z fj.1 fj.2.1
      have kqj : kd hj 127 = 10 := by unfold kd; rw [fj.1]; exact kq
      have nx := ih (i + 1) w2 (sG hj 129 i (gG hj 129 (24 + i))) A' N' (by omega) (by omega) (by omega) er ⟨fj.1, fj.2.1, fun r j p q t u v => by rw [gG_sG, if_neg (by omega)]; exact fj.2.2 r j p q t u v⟩ (by rw [gG_sG, if_neg (by omega)]; exact e10) (by rw [gG_sG, if_neg (by omega)]; exact e17) (by rw [gG_sG, if_neg (by omega)]; exact e18) (fun j x y => by rw [gG_sG, if_neg (by omega)]; exact eA j x y) (fun j x y => by
        by_cases ej : j = i
        · rw [ej, g_same, g_ne (by omega)]
        · rw [g_ne ej, g_ne (by omega)]; exact eN j x (by omega)) ⟨eT.1, fun j x y => by rw [g_ne (by omega)]; exact eT.2 j x y⟩
      refine Ex_step ?_; conv => whnf
      (repeat' (first | (exact nx) | (rw [y1]) | (refine ⟨⟨yk, by omega, Int.lt_of_lt_of_le (by omega : _ < (36 : Int)) (Int.le_of_eq yl.symm)⟩, ?_⟩; conv => whnf) | (refine Ex_step ?_; conv => whnf) | (refine ⟨?_, trivial⟩) | (refine (show den _ _ _ _ _ _ _ _ from ?_); conv => whnf) | (refine ⟨fun c => False.elim (by omega), fun c => ?_⟩) | (refine ⟨fun c => ?_, fun c => False.elim (by omega)⟩) | (refine ⟨by (first | assumption | rfl | (exact Nat.le_of_ble_eq_true rfl) | (exact ⟨fun h01 => absurd h01 (by decide), by first | rfl | assumption⟩) | (exact ⟨fun _ => by decide, by first | rfl | assumption⟩) | (exact ⟨by assumption, by omega, by omega⟩) | (unfold inI; omega) | omega), ?_⟩; conv => whnf) | (refine ⟨fun c => ?_, fun c => ?_⟩) | (intro c) | fail))
  have l59 : ∀ (k : Nat) (i : Int) (w2 : Int) (hj : Mem) (A' N' : Int → Int), (458 - i).toNat = k → 0 ≤ i → i ≤ 458 → r = .inr (A', N') → FV h hj → gG hj 127 10 = 0 → gG hj 127 17 = -1 → gG hj 127 18 = 0 → (∀ j, 0 ≤ j → j < i → gG hj 128 j = gG hj 128 (1832 + j)) → RN hj A' → (A' 1 ≤ 6 ∧ nmT hj N' (A' 1)) → Ex (WP X XL (d - 1)) KX10_viaduct h.1 Q 59 [some (vR 127), some (vI n), some (vI w2), some (vI i)] [] hj := by
    intro k; induction k with
    | zero =>
      intro i w2 hj A' N' hk h0 h1 er fj e10 e17 e18 eA eR eT
      have f := l90 6 0 w2 hj A' N' (by omega) (by omega) (by omega) er fj e10 e17 e18 (fun j x y => by rw [eA j x (by omega)]; exact eR j x y) (fun j x y => by omega) eT
      refine Ex_step ?_; conv => whnf
      (repeat' (first | (exact f) | (refine Ex_step ?_; conv => whnf) | (refine ⟨?_, trivial⟩) | (refine (show den _ _ _ _ _ _ _ _ from ?_); conv => whnf) | (refine ⟨fun c => False.elim (by omega), fun c => ?_⟩) | (refine ⟨fun c => ?_, fun c => False.elim (by omega)⟩) | (refine ⟨by (first | assumption | rfl | (exact Nat.le_of_ble_eq_true rfl) | (exact ⟨fun h01 => absurd h01 (by decide), by first | rfl | assumption⟩) | (exact ⟨fun _ => by decide, by first | rfl | assumption⟩) | (exact ⟨by assumption, by omega, by omega⟩) | (unfold inI; omega) | omega), ?_⟩; conv => whnf) | (refine ⟨fun c => ?_, fun c => ?_⟩) | (intro c) | fail))
    | succ k ih =>
      intro i w2 hj A' N' hk h0 h1 er fj e10 e17 e18 eA eR eT
      obtain ⟨y0, yk, yl⟩ := hX.z fj.1 fj.2.1
      have kqj : kd hj 127 = 10 := by unfold kd; rw [fj.1]; exact kq
      have nx := ih (i + 1) w2 (sG hj 128 i (gG hj 128 (1832 + i))) A' N' (by omega) (by omega) (by omega) er ⟨fj.1, fj.2.1, fun r j p q t u v => by rw [gG_sG, if_neg (by omega)]; exact fj.2.2 r j p q t u v⟩ (by rw [gG_sG, if_neg (by omega)]; exact e10) (by rw [gG_sG, if_neg (by omega)]; exact e17) (by rw [gG_sG, if_neg (by omega)]; exact e18) (fun j x y => by
        by_cases ej : j = i
        · rw [ej, g_same, g_ne (by omega)]
        · rw [g_ne ej, g_ne (by omega)]; exact eA j x (by omega)) (fun j x y => by rw [g_ne (by omega)]; exact eR j x y) ⟨eT.1, fun j x y => by rw [gG_sG, if_neg (by omega)]; exact eT.2 j x y⟩
      refine Ex_step ?_; conv => whnf
      (repeat' (first | (exact nx) | (rw [y0]) | (refine ⟨⟨yk, by omega, Int.lt_of_lt_of_le (by omega : _ < (3198 : Int)) (Int.le_of_eq yl.symm)⟩, ?_⟩; conv => whnf) | (refine Ex_step ?_; conv => whnf) | (refine ⟨?_, trivial⟩) | (refine (show den _ _ _ _ _ _ _ _ from ?_); conv => whnf) | (refine ⟨fun c => False.elim (by omega), fun c => ?_⟩) | (refine ⟨fun c => ?_, fun c => False.elim (by omega)⟩) | (refine ⟨by (first | assumption | rfl | (exact Nat.le_of_ble_eq_true rfl) | (exact ⟨fun h01 => absurd h01 (by decide), by first | rfl | assumption⟩) | (exact ⟨fun _ => by decide, by first | rfl | assumption⟩) | (exact ⟨by assumption, by omega, by omega⟩) | (unfold inI; omega) | omega), ?_⟩; conv => whnf) | (refine ⟨fun c => ?_, fun c => ?_⟩) | (intro c) | fail))
  have loop : ∀ (f : Nat) (e td tp : Int) (A N : Int → Int) (w3 : Option MV) (hj : Mem), n < e + f → vRd P n f e A N td = r → Aq hj P n e → RN hj A → bA A → nmT hj N (A 1) → gG hj 127 20 = tp → 0 ≤ tp ∧ tp < 64 → td = tp % 8 → FVf h hj → gG hj 127 10 = 0 → gG hj 127 17 = -1 → Ex (WP X XL (d - 1)) KX10_viaduct h.1 Q 31 [some (vR 127), some (vI n), some (vI 1), w3] [] hj := by
    intro f; induction f with
    | zero =>
      intro e td tp A N w3 hj hf her hAj hNj hb hTj htp htb htd fj e10 e17
      have := hAj.2.1
      omega
    | succ f ih =>
      intro e td tp A N w3 hj hf her hAj hNj hb hTj htp htb htd fj e10 e17
      rw [vRd_s] at her
      have kqj := hAj.1.1.1
      have e12 := hAj.2.2.2.1
      have e18 := hAj.2.2.1
      have rt := rTk_c (tC P n e)
      have tb := tC_b (P := P) (n := n) (e := e)
      by_cases c32 : tC P n e = 32
      · rw [if_pos c32] at her
        have l := fun w2 => l59 458 0 w2 hj A N (by omega) (by omega) (by omega) her.symm ⟨fj.1, fj.2.1, fun r i p q t u v => fj.2.2 r i p q t (by omega) (by omega)⟩ e10 e17 e18 (fun j x y => by omega) hNj ⟨hb.2.1.2, hTj⟩
        (repeat' (first | (exact l _) | (rw [e12]) | (rw [e18]) | (refine Ex_step ?_; conv => whnf) | (refine ⟨?_, trivial⟩) | (refine (show den _ _ _ _ _ _ _ _ from ?_); conv => whnf) | (refine ⟨fun c => False.elim (by omega), fun c => ?_⟩) | (refine ⟨fun c => ?_, fun c => False.elim (by omega)⟩) | (refine ⟨by (first | assumption | rfl | (exact Nat.le_of_ble_eq_true rfl) | (exact ⟨fun h01 => absurd h01 (by decide), by first | rfl | assumption⟩) | (exact ⟨fun _ => by decide, by first | rfl | assumption⟩) | (exact ⟨by assumption, by omega, by omega⟩) | (unfold inI; omega) | omega), ?_⟩; conv => whnf) | (refine ⟨fun c => ?_, fun c => ?_⟩) | (intro c) | fail))
      · rw [if_neg c32] at her
        refine Ex_step ?_; conv => whnf
        (repeat' (first | (rw [e12]) | (refine Ex_step ?_; conv => whnf) | (refine ⟨?_, trivial⟩) | (refine (show den _ _ _ _ _ _ _ _ from ?_); conv => whnf) | (refine ⟨fun c => False.elim (by omega), fun c => ?_⟩) | (refine ⟨fun c => ?_, fun c => False.elim (by omega)⟩) | (refine ⟨by (first | assumption | rfl | (exact Nat.le_of_ble_eq_true rfl) | (exact ⟨fun h01 => absurd h01 (by decide), by first | rfl | assumption⟩) | (exact ⟨fun _ => by decide, by first | rfl | assumption⟩) | (exact ⟨by assumption, by omega, by omega⟩) | (unfold inI; omega) | omega), ?_⟩; conv => whnf) | (refine ⟨fun c => ?_, fun c => ?_⟩) | fail))
        refine r_viaductPart (by omega) hAj (hX.z fj.1 fj.2.1) (hY.z fj.1 fj.2.1) hNj hb hTj htp htb htd rfl (fun x h2 er ff => ?_) (fun A2 N2 td2 tp2 e2 h2 er hA2 hN2 hb2 hT2 htp2 htb2 htd2 f2 => ?_)
        · rw [er] at her
          have v2 := fj.trans ff.v
          obtain ⟨y0, yk, yl⟩ := hX.z v2.1 v2.2.1
          have kq2 : kd h2 127 = 10 := by unfold kd; rw [v2.1]; exact kq
          have q := hq0 x h2 her.symm v2 ((ff.2.2.1 _ _ (by unfold qP; omega) (by omega)).trans e10) ff.2.2.2.2.1
          have g2 := v2.1
          have g18 := ff.2.2.2.1
          have x1 := ff.2.2.2.2.2
          have tk : ∀ (v : Int) (d' : Nat) (Q' : RetP), 2 ≤ d' → Q' (some (vI (-1))) (sG (sG h2 127 16 x.1) 127 2 9) → WP X XL d' 226 [vR 127, vI v] h2 Q' := fun v d' Q' a b => r_takenN a kq2 g18 x1 b
          (repeat' (first | (exact q) | (rw [g18]) | (rw [y0]) | (refine tk _ _ _ (by omega) ?_) | (refine ⟨⟨yk, by omega, Int.lt_of_lt_of_le (by omega : _ < (3198 : Int)) (Int.le_of_eq yl.symm)⟩, ?_⟩; conv => whnf) | (refine Ex_step ?_; conv => whnf) | (refine ⟨?_, trivial⟩) | (refine (show den _ _ _ _ _ _ _ _ from ?_); conv => whnf) | (refine ⟨fun c => False.elim (by omega), fun c => ?_⟩) | (refine ⟨fun c => ?_, fun c => False.elim (by omega)⟩) | (refine ⟨by (first | assumption | rfl | (exact Nat.le_of_ble_eq_true rfl) | (exact ⟨fun h01 => absurd h01 (by decide), by first | rfl | assumption⟩) | (exact ⟨fun _ => by decide, by first | rfl | assumption⟩) | (exact ⟨by assumption, by omega, by omega⟩) | (unfold inI; omega) | omega), ?_⟩; conv => whnf) | (refine ⟨fun c => ?_, fun c => ?_⟩) | (intro c) | fail))
        · have lt := vPart_lt hAj.2.1.2 c32 er
          rw [er] at her
          have v2 := fj.trans f2.v
          have nx := fun w3 => ih e2 td2 tp2 A2 N2 w3 h2 (by have : e < e2 := lt.1; omega) her hA2 hN2 hb2 hT2 htp2 htb2 htd2 v2 ((f2.2.2 _ _ (by unfold qP; omega)).trans e10) ((f2.2.2 _ _ (by unfold qP; omega)).trans e17)
          (repeat' (first | (exact nx _) | (refine Ex_step ?_; conv => whnf) | (refine ⟨?_, trivial⟩) | (refine (show den _ _ _ _ _ _ _ _ from ?_); conv => whnf) | (refine ⟨fun c => False.elim (by omega), fun c => ?_⟩) | (refine ⟨fun c => ?_, fun c => False.elim (by omega)⟩) | (refine ⟨by (first | assumption | rfl | (exact Nat.le_of_ble_eq_true rfl) | (exact ⟨fun h01 => absurd h01 (by decide), by first | rfl | assumption⟩) | (exact ⟨fun _ => by decide, by first | rfl | assumption⟩) | (exact ⟨by assumption, by omega, by omega⟩) | (unfold inI; omega) | omega), ?_⟩; conv => whnf) | (refine ⟨fun c => ?_, fun c => ?_⟩) | (intro c) | fail))
  have l0 : ∀ w3 h2, h2.1 = h1.1 → h2.2.2 = h1.2.2 → (∀ r i, ¬ (r = 128 ∧ 1832 ≤ i ∧ i < 1832 + 458) → gG h2 r i = gG h1 r i) → (∀ j, 0 ≤ j → j < 458 → gG h2 128 (1832 + j) = plain0 j) → Ex (WP X XL (d - 1)) KX10_viaduct h.1 Q 31 [some (vR 127), some (vI n), some (vI 1), w3] [] (sG h2 127 20 0) := by
    intro w3 h2 e1 e2 e3 e4
    have fv : FVf h (sG h2 127 20 0) := (f1.v.trans ⟨e1, e2, fun r i p q t u v => e3 r i (by omega)⟩).s (by omega)
    refine loop 901 0 0 0 plain0 N w3 (sG h2 127 20 0) (by omega) hr (hA1.o e1 e2 (fun r i q => by rw [gG_sG, if_neg (by omega)]; exact e3 r i (by omega))) (fun j x y => by rw [gG_sG, if_neg (by omega)]; exact e4 j x (by omega)) plain0_b (fun i x y => ?_) g_same (by omega) rfl fv ?_ ?_
    · have : plain0 1 = 0 := by decide
      omega
    · rw [gG_sG, if_neg (by omega), e3 _ _ (by omega)]; exact f1.2.2.2.1
    · rw [gG_sG, if_neg (by omega), e3 _ _ (by omega)]; exact f1.2.2.2.2
  (repeat' (first | (exact l0 _ h2 e1 e2 e3 e4) | (refine r_plain (by omega) kq1 hX1 (by omega) (fun h2 e1 e2 e3 e4 => ?_); have kq2 : kd h2 127 = 10 := by unfold kd; rw [e1]; exact kq1) | (refine Ex_step ?_; conv => whnf) | (refine ⟨?_, trivial⟩) | (refine (show den _ _ _ _ _ _ _ _ from ?_); conv => whnf) | (refine ⟨fun c => False.elim (by omega), fun c => ?_⟩) | (refine ⟨fun c => ?_, fun c => False.elim (by omega)⟩) | (refine ⟨by (first | assumption | rfl | (exact Nat.le_of_ble_eq_true rfl) | (exact ⟨fun h01 => absurd h01 (by decide), by first | rfl | assumption⟩) | (exact ⟨fun _ => by decide, by first | rfl | assumption⟩) | (exact ⟨by assumption, by omega, by omega⟩) | (unfold inI; omega) | omega), ?_⟩; conv => whnf) | (refine ⟨fun c => ?_, fun c => ?_⟩) | (intro c) | fail))
