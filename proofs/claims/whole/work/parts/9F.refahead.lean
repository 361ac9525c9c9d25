/-! LEVEL 2: texts: the reference's next token -/
theorem TxQ.c {h h' : Mem} {P : Int → Int} {n : Int} (q : TxQ h P n) (e1 : h'.1 = h.1) (e2 : h'.2.2 = h.2.2) (e3 : gG h' 127 11 = gG h 127 11) (e4 : ∀ i, gG h' 134 i = gG h 134 i) : TxQ h' P n := by
  obtain ⟨q1, q5, q6, q7⟩ := q
  refine ⟨?_, e3.trans q5, q6, fun i a b => ⟨(e4 i).trans (q7 i a b).1, (q7 i a b).2⟩⟩
  unfold kd ln gR; rw [e1, e2]; exact q1
theorem by_c {h : Mem} {P : Int → Int} {n k : Int} (hM : TxQ h P n) (hk : 0 ≤ k) : (¬ k < n ∧ byB P n k = -1) ∨ (k < n ∧ 0 ≤ P k ∧ P k ≤ 127 ∧ byB P n k = P k) ∨ (k < n ∧ P k < 0 ∧ 128 ≤ byB P n k ∧ byB P n k ≤ 255) := by
  unfold byB
  by_cases c : k < n
  · rw [if_pos c]
    obtain ⟨-, p2, p3⟩ := hM.2.2.2 k hk c
    have := ub_c p2 p3
    omega
  · rw [if_neg c]
    exact Or.inl ⟨c, rfl⟩
/-- only what the next token is has changed -/
def Fq (h h' : Mem) : Prop := h'.1 = h.1 ∧ h'.2.2 = h.2.2 ∧ ∀ r i, ¬ (r = 127 ∧ 12 ≤ i ∧ i ≤ 15) → gG h' r i = gG h r i
theorem Fq.refl {h : Mem} : Fq h h := ⟨rfl, rfl, fun _ _ _ => rfl⟩
theorem Fq.s {h h' : Mem} {i z : Int} (a : Fq h h') (q : 12 ≤ i ∧ i ≤ 15) : Fq h (sG h' 127 i z) := ⟨a.1, a.2.1, fun r j p => by rw [gG_sG, if_neg (by omega)]; exact a.2.2 r j p⟩
theorem Fq.M {h h' : Mem} {P : Int → Int} {n : Int} (a : Fq h h') (hM : TxQ h P n) : TxQ h' P n := hM.c a.1 a.2.1 (a.2.2 _ _ (by omega)) (fun i => a.2.2 _ _ (by omega))
theorem tC_l {P : Int → Int} {n e : Int} (c : tF P n e < n) (l : lt P (tF P n e) = true) : 0 ≤ tC P n e ∧ tC P n e ≤ 26 := by
  have eC : tC P n e = (if 8 < tE P n e - tF P n e then 26 else if kx CKW (tW P n e) 0 = -1 then 25 else kx CKW (tW P n e) 0) := by unfold tC; rw [if_neg (fun q => q c), if_pos l]
  have := kx_b CKW (tW P n e) 0
  have hl : (CKW.length : Int) = 25 := by decide
  rw [eC]
  split
  · omega
  · split <;> omega
theorem tC_d {P : Int → Int} {n e : Int} (c : tF P n e < n) (l : ¬ lt P (tF P n e) = true) (g : dg P (tF P n e) = true) : tC P n e = (if 4 < tE P n e - tF P n e then 33 else 27) := by unfold tC; rw [if_neg (fun q => q c), if_neg l, if_pos g]
theorem tC_s {P : Int → Int} {n e : Int} (c : tF P n e < n) (l : ¬ lt P (tF P n e) = true) (g : ¬ dg P (tF P n e) = true) : tC P n e = sgC (P (tF P n e)) := by unfold tC; rw [if_neg (fun q => q c), if_neg l, if_neg g]
theorem tC_e {P : Int → Int} {n e : Int} (c : ¬ tF P n e < n) : tC P n e = 32 := by unfold tC; rw [if_pos c]
def rTk (c : Int) : Int := if c ≤ 26 then 2 else if c = 27 then 3 else if c ≤ 31 then 4 else if c = 32 then 0 else 1
def sgV (c : Int) : Int := if c = 28 then 59 else if c = 29 then 60 else if c = 30 then 62 else 61
theorem rTk_c (c : Int) : (c ≤ 26 ∧ rTk c = 2) ∨ (c = 27 ∧ rTk c = 3) ∨ (28 ≤ c ∧ c ≤ 31 ∧ rTk c = 4) ∨ (c = 32 ∧ rTk c = 0) ∨ (33 ≤ c ∧ rTk c = 1) := by
  unfold rTk
  split
  · omega
  · split
    · omega
    · split
      · omega
      · split <;> omega
theorem sgC_c (c : Int) : (c = 59 ∧ sgC c = 28) ∨ (c = 60 ∧ sgC c = 29) ∨ (c = 62 ∧ sgC c = 30) ∨ (c = 61 ∧ sgC c = 31) ∨ ((¬ c = 59 ∧ ¬ c = 60 ∧ ¬ c = 61 ∧ ¬ c = 62) ∧ sgC c = 33) := by
  unfold sgC
  split
  · omega
  · split
    · omega
    · split
      · omega
      · split <;> omega
theorem sgV_c (c : Int) : (c = 28 ∧ sgV c = 59) ∨ (c = 29 ∧ sgV c = 60) ∨ (c = 30 ∧ sgV c = 62) ∨ ((¬ c = 28 ∧ ¬ c = 29 ∧ ¬ c = 30) ∧ sgV c = 61) := by
  unfold sgV
  split
  · omega
  · split
    · omega
    · split <;> omega
/-- the token at e stands next, no fault yet -/
def Aq (h : Mem) (P : Int → Int) (n e : Int) : Prop := TxQ h P n ∧ (0 ≤ e ∧ e ≤ n) ∧ gG h 127 18 = 0 ∧ gG h 127 12 = rTk (tC P n e) ∧ gG h 127 13 = tF P n e ∧ gG h 127 14 = tE P n e ∧ (tC P n e = 27 → gG h 127 15 = tNb P n e) ∧ (28 ≤ tC P n e → tC P n e ≤ 31 → gG h 127 15 = sgV (tC P n e))
def nr (P : Int → Int) (a : Int) : Nat → Int
  | 0 => 0
  | k + 1 => min 100000 (10 * nr P a k + P (a + k) - 48)
theorem nr_b {P : Int → Int} {a : Int} : ∀ k : Nat, (∀ j, a ≤ j → j < a + k → dg P j = true) → 0 ≤ nr P a k ∧ nr P a k ≤ 100000 := by
  intro k; induction k with
  | zero => intro _; exact ⟨Int.le_refl _, (by decide : (0 : Int) ≤ 100000)⟩
  | succ k ih =>
    intro hl
    have := ih (fun j h0 h1 => hl j h0 (by omega))
    have hb := dg_t.mp (hl (a + k) (by omega) (by omega))
    show 0 ≤ min 100000 (10 * nr P a k + P (a + k) - 48) ∧ min 100000 (10 * nr P a k + P (a + k) - 48) ≤ 100000
    omega
theorem nr_e {P : Int → Int} {a : Int} : ∀ k : Nat, k ≤ 4 → (∀ j, a ≤ j → j < a + k → dg P j = true) → nr P a k = nv P a k := by
  intro k; induction k with
  | zero => intro _ _; rfl
  | succ k ih =>
    intro hk hl
    have i1 := ih (by omega) (fun j h0 h1 => hl j h0 (by omega))
    have hv := nv_b (P := P) (a := a) k (fun j h0 h1 => hl j h0 (by omega))
    have hp := p10 k (by omega)
    have hb := dg_t.mp (hl (a + k) (by omega) (by omega))
    show min 100000 (10 * nr P a k + P (a + k) - 48) = nv P a k * 10 + (P (a + k) - 48)
    rw [i1]
    generalize (10 : Int) ^ k = Y at hv hp
    omega
set_option maxHeartbeats 4000000 in
theorem r_ahead {X : Int → Int} {XL : Int} {d : Nat} {h : Mem} {Q : RetP} {P : Int → Int} {n e : Int} (hd : 2 ≤ d) (hM : TxQ h P n) (e14 : gG h 127 14 = e) (he : 0 ≤ e ∧ e ≤ n) (e18 : gG h 127 18 = 0) (hq : ∀ h', Aq h' P n e → Fq h h' → Q none h') : WP X XL d 214 [vR 127] h Q := by
  have hb := tF_b (P := P) he.2
  have hb2 := tE_b (P := P) he.2
  have wo : ∀ (w1 : Option MV) (hj : Mem), lt P (tF P n e) = true → tF P n e < n → Fq h hj → gG hj 127 13 = tF P n e → gG hj 127 14 = tE P n e → Ex (WP X XL (d - 1)) KX10_ahead h.1 Q 108 [some (vR 127), w1] [] hj := by
    intro w1 hj l c fj e13 ej
    have hMj := fj.M hM
    have kq := hMj.1.1
    have gj := fj.1
    have j18 : gG hj 127 18 = 0 := (fj.2.2 _ _ (by omega)).trans e18
    have hl := tC_l c l
    have rt := rTk_c (tC P n e)
    have q := hq (sG hj 127 12 2) ⟨(Fq.refl.s (by omega)).M hMj, he, by rw [g_ne (by omega)]; exact j18, by rw [g_same]; exact by omega, by rw [g_ne (by omega)]; exact e13, by rw [g_ne (by omega)]; exact ej, fun x => by omega, fun x y => by omega⟩ (fj.s (by omega))
    (repeat' (first | (exact q) | (refine Ex_step ?_; conv => whnf) | (refine ⟨?_, trivial⟩) | (refine (show den _ _ _ _ _ _ _ _ from ?_); conv => whnf) | (refine ⟨fun c => False.elim (by omega), fun c => ?_⟩) | (refine ⟨fun c => ?_, fun c => False.elim (by omega)⟩) | (refine ⟨by (first | assumption | rfl | (exact Nat.le_of_ble_eq_true rfl) | (exact ⟨fun h01 => absurd h01 (by decide), by first | rfl | assumption⟩) | (exact ⟨fun _ => by decide, by first | rfl | assumption⟩) | (exact ⟨by assumption, by omega, by omega⟩) | (unfold inI; omega) | omega), ?_⟩; conv => whnf) | (refine ⟨fun c => ?_, fun c => ?_⟩) | (intro c) | fail))
  have wl : ∀ (m : Nat) (k : Int) (w1 : Option MV) (hj : Mem), n - k = m → tF P n e ≤ k → lt P (tF P n e) = true → tF P n e < n → sc (lt P) n k = tE P n e → Fq h hj → gG hj 127 13 = tF P n e → gG hj 127 14 = k → Ex (WP X XL (d - 1)) KX10_ahead h.1 Q 81 [some (vR 127), w1] [] hj := by
    intro m; induction m with
    | zero =>
      intro k w1 hj hm hk l c hsc fj e13 ej
      have hMj := fj.M hM
      have kq := hMj.1.1
      have bc := by_c hMj (k := k) (by omega)
      have o := wo w1 hj l c fj e13 (by rw [ej, ← hsc]; exact (sc_end (by omega)).symm)
      refine Ex_step ?_; conv => whnf
      (repeat' (first | (exact o) | (rw [ej]) | (refine r_byteAt (by omega) hMj (by omega) ?_) | (refine r_isSmall (by omega) (fun q => False.elim (by omega)) (fun q => ?_)) | (refine Ex_step ?_; conv => whnf) | (refine ⟨?_, trivial⟩) | (refine (show den _ _ _ _ _ _ _ _ from ?_); conv => whnf) | (refine ⟨fun c => False.elim (by omega), fun c => ?_⟩) | (refine ⟨fun c => ?_, fun c => False.elim (by omega)⟩) | (refine ⟨by (first | assumption | rfl | (exact Nat.le_of_ble_eq_true rfl) | (exact ⟨fun h01 => absurd h01 (by decide), by first | rfl | assumption⟩) | (exact ⟨fun _ => by decide, by first | rfl | assumption⟩) | (exact ⟨by assumption, by omega, by omega⟩) | (unfold inI; omega) | omega), ?_⟩; conv => whnf) | (refine ⟨fun c => ?_, fun c => ?_⟩) | (intro c) | fail))
    | succ m ih =>
      intro k w1 hj hm hk l c hsc fj e13 ej
      have hMj := fj.M hM
      have kq := hMj.1.1
      have bc := by_c hMj (k := k) (by omega)
      by_cases cl : lt P k = true
      · have cc := lt_t.mp cl
        rw [sc_go (by omega) cl] at hsc
        have nx := ih (k + 1) w1 (sG hj 127 14 (k + 1)) (by omega) (by omega) l c hsc (fj.s (by omega)) (by rw [g_ne (by omega)]; exact e13) g_same
        have hn := hMj.2.2.1
        refine Ex_step ?_; conv => whnf
        (repeat' (first | (exact nx) | (rw [ej]) | (refine r_byteAt (by omega) hMj (by omega) ?_) | (refine r_isSmall (by omega) (fun q => ?_) (fun q => False.elim (by omega))) | (refine Ex_step ?_; conv => whnf) | (refine ⟨?_, trivial⟩) | (refine (show den _ _ _ _ _ _ _ _ from ?_); conv => whnf) | (refine ⟨fun c => False.elim (by omega), fun c => ?_⟩) | (refine ⟨fun c => ?_, fun c => False.elim (by omega)⟩) | (refine ⟨by (first | assumption | rfl | (exact Nat.le_of_ble_eq_true rfl) | (exact ⟨fun h01 => absurd h01 (by decide), by first | rfl | assumption⟩) | (exact ⟨fun _ => by decide, by first | rfl | assumption⟩) | (exact ⟨by assumption, by omega, by omega⟩) | (unfold inI; omega) | omega), ?_⟩; conv => whnf) | (refine ⟨fun c => ?_, fun c => ?_⟩) | (intro c) | fail))
      · have cc : ¬ (97 ≤ P k ∧ P k ≤ 122) := fun q => cl (lt_t.mpr q)
        have o := wo w1 hj l c fj e13 (by rw [ej, ← hsc]; exact (sc_end (fun q => cl q.2)).symm)
        refine Ex_step ?_; conv => whnf
        (repeat' (first | (exact o) | (rw [ej]) | (refine r_byteAt (by omega) hMj (by omega) ?_) | (refine r_isSmall (by omega) (fun q => False.elim (by omega)) (fun q => ?_)) | (refine Ex_step ?_; conv => whnf) | (refine ⟨?_, trivial⟩) | (refine (show den _ _ _ _ _ _ _ _ from ?_); conv => whnf) | (refine ⟨fun c => False.elim (by omega), fun c => ?_⟩) | (refine ⟨fun c => ?_, fun c => False.elim (by omega)⟩) | (refine ⟨by (first | assumption | rfl | (exact Nat.le_of_ble_eq_true rfl) | (exact ⟨fun h01 => absurd h01 (by decide), by first | rfl | assumption⟩) | (exact ⟨fun _ => by decide, by first | rfl | assumption⟩) | (exact ⟨by assumption, by omega, by omega⟩) | (unfold inI; omega) | omega), ?_⟩; conv => whnf) | (refine ⟨fun c => ?_, fun c => ?_⟩) | (intro c) | fail))
  have no : ∀ (k : Nat) (w1 : Option MV) (hj : Mem), ¬ lt P (tF P n e) = true → dg P (tF P n e) = true → tF P n e < n → tF P n e + k = tE P n e → (∀ j, tF P n e ≤ j → j < tF P n e + k → dg P j = true) → Fq h hj → gG hj 127 13 = tF P n e → gG hj 127 14 = tF P n e + k → gG hj 127 15 = nr P (tF P n e) k → Ex (WP X XL (d - 1)) KX10_ahead h.1 Q 183 [some (vR 127), w1] [] hj := by
    intro k w1 hj l g c hk hdg fj e13 ej e15
    have hMj := fj.M hM
    have kq := hMj.1.1
    have gj := fj.1
    have j18 : gG hj 127 18 = 0 := (fj.2.2 _ _ (by omega)).trans e18
    have ec := tC_d c l g
    have rt := rTk_c (tC P n e)
    have hn := hMj.2.2.1
    have ek : (tE P n e - tF P n e).toNat = k := by omega
    by_cases c4 : 4 < tE P n e - tF P n e
    · rw [if_pos c4] at ec
      have q := hq (sG hj 127 12 1) ⟨(Fq.refl.s (by omega)).M hMj, he, by rw [g_ne (by omega)]; exact j18, by rw [g_same]; exact by omega, by rw [g_ne (by omega)]; exact e13, by rw [g_ne (by omega)]; exact ej.trans hk, fun x => by omega, fun x y => by omega⟩ (fj.s (by omega))
      (repeat' (first | (exact q) | (rw [ej]) | (rw [e13]) | (refine Ex_step ?_; conv => whnf) | (refine ⟨?_, trivial⟩) | (refine (show den _ _ _ _ _ _ _ _ from ?_); conv => whnf) | (refine ⟨fun c => False.elim (by omega), fun c => ?_⟩) | (refine ⟨fun c => ?_, fun c => False.elim (by omega)⟩) | (refine ⟨by (first | assumption | rfl | (exact Nat.le_of_ble_eq_true rfl) | (exact ⟨fun h01 => absurd h01 (by decide), by first | rfl | assumption⟩) | (exact ⟨fun _ => by decide, by first | rfl | assumption⟩) | (exact ⟨by assumption, by omega, by omega⟩) | (unfold inI; omega) | omega), ?_⟩; conv => whnf) | (refine ⟨fun c => ?_, fun c => ?_⟩) | (intro c) | fail))
    · rw [if_neg c4] at ec
      have q := hq (sG hj 127 12 3) ⟨(Fq.refl.s (by omega)).M hMj, he, by rw [g_ne (by omega)]; exact j18, by rw [g_same]; exact by omega, by rw [g_ne (by omega)]; exact e13, by rw [g_ne (by omega)]; exact ej.trans hk, fun x => by rw [g_ne (by omega), e15]; unfold tNb; rw [ek]; exact nr_e k (by omega) hdg, fun x y => by omega⟩ (fj.s (by omega))
      (repeat' (first | (exact q) | (rw [ej]) | (rw [e13]) | (refine Ex_step ?_; conv => whnf) | (refine ⟨?_, trivial⟩) | (refine (show den _ _ _ _ _ _ _ _ from ?_); conv => whnf) | (refine ⟨fun c => False.elim (by omega), fun c => ?_⟩) | (refine ⟨fun c => ?_, fun c => False.elim (by omega)⟩) | (refine ⟨by (first | assumption | rfl | (exact Nat.le_of_ble_eq_true rfl) | (exact ⟨fun h01 => absurd h01 (by decide), by first | rfl | assumption⟩) | (exact ⟨fun _ => by decide, by first | rfl | assumption⟩) | (exact ⟨by assumption, by omega, by omega⟩) | (unfold inI; omega) | omega), ?_⟩; conv => whnf) | (refine ⟨fun c => ?_, fun c => ?_⟩) | (intro c) | fail))
  have nl : ∀ (m k : Nat) (w1 : Option MV) (hj : Mem), n - (tF P n e + k) = m → ¬ lt P (tF P n e) = true → dg P (tF P n e) = true → tF P n e < n → (∀ j, tF P n e ≤ j → j < tF P n e + k → dg P j = true) → sc (dg P) n (tF P n e + k) = tE P n e → Fq h hj → gG hj 127 13 = tF P n e → gG hj 127 14 = tF P n e + k → gG hj 127 15 = nr P (tF P n e) k → Ex (WP X XL (d - 1)) KX10_ahead h.1 Q 128 [some (vR 127), w1] [] hj := by
    intro m; induction m with
    | zero =>
      intro k w1 hj hm l g c hdg hsc fj e13 ej e15
      have hMj := fj.M hM
      have kq := hMj.1.1
      have bc := by_c hMj (k := tF P n e + k) (by omega)
      have o := no k w1 hj l g c (by rw [← hsc]; exact (sc_end (by omega)).symm) hdg fj e13 ej e15
      refine Ex_step ?_; conv => whnf
      (repeat' (first | (exact o) | (rw [ej]) | (refine r_byteAt (by omega) hMj (by omega) ?_) | (refine r_isDigit (by omega) (fun q => False.elim (by omega)) (fun q => ?_)) | (refine Ex_step ?_; conv => whnf) | (refine ⟨?_, trivial⟩) | (refine (show den _ _ _ _ _ _ _ _ from ?_); conv => whnf) | (refine ⟨fun c => False.elim (by omega), fun c => ?_⟩) | (refine ⟨fun c => ?_, fun c => False.elim (by omega)⟩) | (refine ⟨by (first | assumption | rfl | (exact Nat.le_of_ble_eq_true rfl) | (exact ⟨fun h01 => absurd h01 (by decide), by first | rfl | assumption⟩) | (exact ⟨fun _ => by decide, by first | rfl | assumption⟩) | (exact ⟨by assumption, by omega, by omega⟩) | (unfold inI; omega) | omega), ?_⟩; conv => whnf) | (refine ⟨fun c => ?_, fun c => ?_⟩) | (intro c) | fail))
    | succ m ih =>
      intro k w1 hj hm l g c hdg hsc fj e13 ej e15
      have hMj := fj.M hM
      have kq := hMj.1.1
      have bc := by_c hMj (k := tF P n e + k) (by omega)
      by_cases cl : dg P (tF P n e + k) = true
      · have cc := dg_t.mp cl
        rw [sc_go (by omega) cl] at hsc
        have hdg2 : ∀ j, tF P n e ≤ j → j < tF P n e + ((k + 1 : Nat) : Int) → dg P j = true := fun j x y => by
          by_cases ej : j = tF P n e + k
          · rw [ej]; exact cl
          · exact hdg j x (by omega)
        have eb : byB P n (tF P n e + k) = P (tF P n e + k) := by omega
        have nb := nr_b k hdg
        have nx := ih (k + 1) w1 (sG (sG hj 127 15 (min 100000 (10 * nr P (tF P n e) k + P (tF P n e + k) - 48))) 127 14 (tF P n e + k + 1)) (by omega) l g c hdg2 (by rw [show tF P n e + ((k + 1 : Nat) : Int) = tF P n e + k + 1 by omega]; exact hsc) ((fj.s (by omega)).s (by omega)) (by rw [g_ne (by omega), g_ne (by omega)]; exact e13) (by rw [g_same]; omega) (by rw [g_ne (by omega), g_same]; rfl)
        have hn := hMj.2.2.1
        have ej2 : ∀ z, gG (sG hj 127 15 z) 127 14 = tF P n e + k := fun z => by rw [g_ne (by omega)]; exact ej
        refine Ex_step ?_; conv => whnf
        (repeat' (first | (exact nx) | (rw [ej]) | (rw [ej2]) | (rw [e15]) | (rw [eb]) | (refine r_byteAt (by omega) hMj (by omega) ?_) | (refine r_isDigit (by omega) (fun q => ?_) (fun q => False.elim (by omega))) | (refine Ex_step ?_; conv => whnf) | (refine ⟨?_, trivial⟩) | (refine (show den _ _ _ _ _ _ _ _ from ?_); conv => whnf) | (refine ⟨fun c => False.elim (by omega), fun c => ?_⟩) | (refine ⟨fun c => ?_, fun c => False.elim (by omega)⟩) | (refine ⟨by (first | assumption | rfl | (exact Nat.le_of_ble_eq_true rfl) | (exact ⟨fun h01 => absurd h01 (by decide), by first | rfl | assumption⟩) | (exact ⟨fun _ => by decide, by first | rfl | assumption⟩) | (exact ⟨by assumption, by omega, by omega⟩) | (unfold inI; omega) | omega), ?_⟩; conv => whnf) | (refine ⟨fun c => ?_, fun c => ?_⟩) | (intro c) | fail))
      · have cc : ¬ (48 ≤ P (tF P n e + k) ∧ P (tF P n e + k) ≤ 57) := fun q => cl (dg_t.mpr q)
        have o := no k w1 hj l g c (by rw [← hsc]; exact (sc_end (fun q => cl q.2)).symm) hdg fj e13 ej e15
        refine Ex_step ?_; conv => whnf
        (repeat' (first | (exact o) | (rw [ej]) | (refine r_byteAt (by omega) hMj (by omega) ?_) | (refine r_isDigit (by omega) (fun q => False.elim (by omega)) (fun q => ?_)) | (refine Ex_step ?_; conv => whnf) | (refine ⟨?_, trivial⟩) | (refine (show den _ _ _ _ _ _ _ _ from ?_); conv => whnf) | (refine ⟨fun c => False.elim (by omega), fun c => ?_⟩) | (refine ⟨fun c => ?_, fun c => False.elim (by omega)⟩) | (refine ⟨by (first | assumption | rfl | (exact Nat.le_of_ble_eq_true rfl) | (exact ⟨fun h01 => absurd h01 (by decide), by first | rfl | assumption⟩) | (exact ⟨fun _ => by decide, by first | rfl | assumption⟩) | (exact ⟨by assumption, by omega, by omega⟩) | (unfold inI; omega) | omega), ?_⟩; conv => whnf) | (refine ⟨fun c => ?_, fun c => ?_⟩) | (intro c) | fail))
  have out : ∀ (w1 : Option MV) (hj : Mem), Fq h hj → gG hj 127 14 = tF P n e → Ex (WP X XL (d - 1)) KX10_ahead h.1 Q 39 [some (vR 127), w1] [] hj := by
    intro w1 hj0 fj0 ej0
    have hMj0 := fj0.M hM
    have kq0 := hMj0.1.1
    have bc := by_c hMj0 (k := tF P n e) (by omega)
    have hn := hMj0.2.2.1
    have a14 : gG (sG hj0 127 13 (tF P n e)) 127 14 = tF P n e := by rw [g_ne (by omega)]; exact ej0
    have fa : Fq h (sG hj0 127 13 (tF P n e)) := fj0.s (by omega)
    have hMa := fa.M hM
    have fj : ∀ z, Fq h (sG (sG hj0 127 13 (tF P n e)) 127 15 z) := fun z => fa.s (by omega)
    have hMj := fun z => (fj z).M hM
    have e13 : ∀ z, gG (sG (sG hj0 127 13 (tF P n e)) 127 15 z) 127 13 = tF P n e := fun z => by rw [g_ne (by omega), g_same]
    have e14 : ∀ z, gG (sG (sG hj0 127 13 (tF P n e)) 127 15 z) 127 14 = tF P n e := fun z => by rw [g_ne (by omega)]; exact a14
    have j18 : ∀ z, gG (sG (sG hj0 127 13 (tF P n e)) 127 15 z) 127 18 = 0 := fun z => ((fj z).2.2 _ _ (by omega)).trans e18
    have gj : hj0.1 = h.1 := fj0.1
    have rt := rTk_c (tC P n e)
    by_cases c : tF P n e < n
    · by_cases l : lt P (tF P n e) = true
      · have ll := lt_t.mp l
        have eE : tE P n e = sc (lt P) n (tF P n e) := by unfold tE; rw [if_neg (fun q => q c), if_pos l]
        have lo := fun w1 => wl (n - tF P n e).toNat (tF P n e) w1 _ (by omega) (by omega) l c eE.symm (fj (byB P n (tF P n e))) (e13 _) (e14 _)
        (repeat' (first | (exact lo _) | (rw [ej0]) | (rw [a14]) | (refine r_byteAt (by omega) hMa (by omega) ?_) | (refine r_isSmall (by omega) (fun q => ?_) (fun q => False.elim (by omega))) | (refine Ex_step ?_; conv => whnf) | (refine ⟨?_, trivial⟩) | (refine (show den _ _ _ _ _ _ _ _ from ?_); conv => whnf) | (refine ⟨fun c => False.elim (by omega), fun c => ?_⟩) | (refine ⟨fun c => ?_, fun c => False.elim (by omega)⟩) | (refine ⟨by (first | assumption | rfl | (exact Nat.le_of_ble_eq_true rfl) | (exact ⟨fun h01 => absurd h01 (by decide), by first | rfl | assumption⟩) | (exact ⟨fun _ => by decide, by first | rfl | assumption⟩) | (exact ⟨by assumption, by omega, by omega⟩) | (unfold inI; omega) | omega), ?_⟩; conv => whnf) | (refine ⟨fun c => ?_, fun c => ?_⟩) | (intro c) | fail))
      · have ll : ¬ (97 ≤ P (tF P n e) ∧ P (tF P n e) ≤ 122) := fun q => l (lt_t.mpr q)
        by_cases g : dg P (tF P n e) = true
        · have gg := dg_t.mp g
          have eE : tE P n e = sc (dg P) n (tF P n e) := by unfold tE; rw [if_neg (fun q => q c), if_neg l, if_pos g]
          have lo := fun w1 => nl (n - tF P n e).toNat 0 w1 (sG (sG (sG hj0 127 13 (tF P n e)) 127 15 (byB P n (tF P n e))) 127 15 0) (by omega) l g c (fun j x y => by omega) (by rw [show tF P n e + ((0 : Nat) : Int) = tF P n e by omega]; exact eE.symm) ((fj _).s (by omega)) (by rw [g_ne (by omega)]; exact e13 _) (by rw [g_ne (by omega), e14]; omega) g_same
          (repeat' (first | (exact lo _) | (rw [ej0]) | (rw [a14]) | (refine r_byteAt (by omega) hMa (by omega) ?_) | (refine r_isSmall (by omega) (fun q => False.elim (by omega)) (fun q => ?_)) | (refine r_isDigit (by omega) (fun q => ?_) (fun q => False.elim (by omega))) | (refine Ex_step ?_; conv => whnf) | (refine ⟨?_, trivial⟩) | (refine (show den _ _ _ _ _ _ _ _ from ?_); conv => whnf) | (refine ⟨fun c => False.elim (by omega), fun c => ?_⟩) | (refine ⟨fun c => ?_, fun c => False.elim (by omega)⟩) | (refine ⟨by (first | assumption | rfl | (exact Nat.le_of_ble_eq_true rfl) | (exact ⟨fun h01 => absurd h01 (by decide), by first | rfl | assumption⟩) | (exact ⟨fun _ => by decide, by first | rfl | assumption⟩) | (exact ⟨by assumption, by omega, by omega⟩) | (unfold inI; omega) | omega), ?_⟩; conv => whnf) | (refine ⟨fun c => ?_, fun c => ?_⟩) | (intro c) | fail))
        · have gg : ¬ (48 ≤ P (tF P n e) ∧ P (tF P n e) ≤ 57) := fun q => g (dg_t.mpr q)
          have eE : tE P n e = tF P n e + 1 := by unfold tE; rw [if_neg (fun q => q c), if_neg l, if_neg g]
          have eC := tC_s c l g
          have sg := sgC_c (P (tF P n e))
          have sv := sgV_c (tC P n e)
          have fin : ∀ t, t = rTk (tC P n e) → Q none (sG (sG (sG (sG hj0 127 13 (tF P n e)) 127 15 (byB P n (tF P n e))) 127 14 (tF P n e + 1)) 127 12 t) := fun t et => by
            have f4 : Fq h (sG (sG (sG (sG hj0 127 13 (tF P n e)) 127 15 (byB P n (tF P n e))) 127 14 (tF P n e + 1)) 127 12 t) := ((fj _).s (by omega)).s (by omega)
            refine hq _ ⟨f4.M hM, he, (f4.2.2 _ _ (by omega)).trans e18, by rw [g_same]; exact et, by rw [g_ne (by omega), g_ne (by omega)]; exact e13 _, by rw [g_ne (by omega), g_same, eE], fun x => by omega, fun x y => ?_⟩ f4
            rw [g_ne (by omega), g_ne (by omega), g_same]
            omega
          by_cases cs : tC P n e ≤ 31
          · have qf := fin 4 (by omega)
            (repeat' (first | (exact qf) | (rw [ej0]) | (rw [a14]) | (rw [e14]) | (refine r_byteAt (by omega) hMa (by omega) ?_) | (refine r_isSmall (by omega) (fun q => False.elim (by omega)) (fun q => ?_)) | (refine r_isDigit (by omega) (fun q => False.elim (by omega)) (fun q => ?_)) | (refine Ex_step ?_; conv => whnf) | (refine ⟨?_, trivial⟩) | (refine (show den _ _ _ _ _ _ _ _ from ?_); conv => whnf) | (refine ⟨fun c => False.elim (by omega), fun c => ?_⟩) | (refine ⟨fun c => ?_, fun c => False.elim (by omega)⟩) | (refine ⟨by (first | assumption | rfl | (exact Nat.le_of_ble_eq_true rfl) | (exact ⟨fun h01 => absurd h01 (by decide), by first | rfl | assumption⟩) | (exact ⟨fun _ => by decide, by first | rfl | assumption⟩) | (exact ⟨by assumption, by omega, by omega⟩) | (unfold inI; omega) | omega), ?_⟩; conv => whnf) | (refine ⟨fun c => ?_, fun c => ?_⟩) | (intro c) | fail))
          · have qf := fin 1 (by omega)
            (repeat' (first | (exact qf) | (rw [ej0]) | (rw [a14]) | (rw [e14]) | (refine r_byteAt (by omega) hMa (by omega) ?_) | (refine r_isSmall (by omega) (fun q => False.elim (by omega)) (fun q => ?_)) | (refine r_isDigit (by omega) (fun q => False.elim (by omega)) (fun q => ?_)) | (refine Ex_step ?_; conv => whnf) | (refine ⟨?_, trivial⟩) | (refine (show den _ _ _ _ _ _ _ _ from ?_); conv => whnf) | (refine ⟨fun c => False.elim (by omega), fun c => ?_⟩) | (refine ⟨fun c => ?_, fun c => False.elim (by omega)⟩) | (refine ⟨by (first | assumption | rfl | (exact Nat.le_of_ble_eq_true rfl) | (exact ⟨fun h01 => absurd h01 (by decide), by first | rfl | assumption⟩) | (exact ⟨fun _ => by decide, by first | rfl | assumption⟩) | (exact ⟨by assumption, by omega, by omega⟩) | (unfold inI; omega) | omega), ?_⟩; conv => whnf) | (refine ⟨fun c => ?_, fun c => ?_⟩) | (intro c) | fail))
    · have eE : tE P n e = tF P n e := by unfold tE; rw [if_pos c]
      have eC := tC_e c
      have q := hq (sG (sG (sG hj0 127 13 (tF P n e)) 127 15 (byB P n (tF P n e))) 127 12 0) ⟨((fj _).s (by omega)).M hM, he, by rw [g_ne (by omega)]; exact j18 _, by rw [g_same]; omega, by rw [g_ne (by omega)]; exact e13 _, by rw [g_ne (by omega), e14, eE], fun x => by omega, fun x y => by omega⟩ ((fj _).s (by omega))
      (repeat' (first | (exact q) | (rw [ej0]) | (rw [a14]) | (refine r_byteAt (by omega) hMa (by omega) ?_) | (refine Ex_step ?_; conv => whnf) | (refine ⟨?_, trivial⟩) | (refine (show den _ _ _ _ _ _ _ _ from ?_); conv => whnf) | (refine ⟨fun c => False.elim (by omega), fun c => ?_⟩) | (refine ⟨fun c => ?_, fun c => False.elim (by omega)⟩) | (refine ⟨by (first | assumption | rfl | (exact Nat.le_of_ble_eq_true rfl) | (exact ⟨fun h01 => absurd h01 (by decide), by first | rfl | assumption⟩) | (exact ⟨fun _ => by decide, by first | rfl | assumption⟩) | (exact ⟨by assumption, by omega, by omega⟩) | (unfold inI; omega) | omega), ?_⟩; conv => whnf) | (refine ⟨fun c => ?_, fun c => ?_⟩) | (intro c) | fail))
  have loop : ∀ (m : Nat) (k : Int) (w1 : Option MV) (hj : Mem), n - k = m → 0 ≤ k → sc (bk P) n k = tF P n e → Fq h hj → gG hj 127 14 = k → Ex (WP X XL (d - 1)) KX10_ahead h.1 Q 0 [some (vR 127), w1] [] hj := by
    intro m; induction m with
    | zero =>
      intro k w1 hj hm hk hsc fj ej
      have hMj := fj.M hM
      have kq := hMj.1.1
      have bc := by_c hMj (k := k) (by omega)
      have o := out w1 hj fj (by rw [ej, ← hsc]; exact (sc_end (by omega)).symm)
      refine Ex_step ?_; conv => whnf
      (repeat' (first | (exact o) | (rw [ej]) | (refine r_byteAt (by omega) hMj (by omega) ?_) | (refine Ex_step ?_; conv => whnf) | (refine ⟨?_, trivial⟩) | (refine (show den _ _ _ _ _ _ _ _ from ?_); conv => whnf) | (refine ⟨fun c => False.elim (by omega), fun c => ?_⟩) | (refine ⟨fun c => ?_, fun c => False.elim (by omega)⟩) | (refine ⟨by (first | assumption | rfl | (exact Nat.le_of_ble_eq_true rfl) | (exact ⟨fun h01 => absurd h01 (by decide), by first | rfl | assumption⟩) | (exact ⟨fun _ => by decide, by first | rfl | assumption⟩) | (exact ⟨by assumption, by omega, by omega⟩) | (unfold inI; omega) | omega), ?_⟩; conv => whnf) | (refine ⟨fun c => ?_, fun c => ?_⟩) | (intro c) | fail))
    | succ m ih =>
      intro k w1 hj hm hk hsc fj ej
      have hMj := fj.M hM
      have kq := hMj.1.1
      have bc := by_c hMj (k := k) (by omega)
      have hn := hMj.2.2.1
      by_cases c : bk P k = true
      · have cc := bk_t.mp c
        rw [sc_go (by omega) c] at hsc
        have nx := ih (k + 1) w1 (sG hj 127 14 (k + 1)) (by omega) (by omega) hsc (fj.s (by omega)) g_same
        by_cases cx : P k = 32
        · refine Ex_step ?_; conv => whnf
          (repeat' (first | (exact nx) | (rw [ej]) | (refine r_byteAt (by omega) hMj (by omega) ?_) | (refine Ex_step ?_; conv => whnf) | (refine ⟨?_, trivial⟩) | (refine (show den _ _ _ _ _ _ _ _ from ?_); conv => whnf) | (refine ⟨fun c => False.elim (by omega), fun c => ?_⟩) | (refine ⟨fun c => ?_, fun c => False.elim (by omega)⟩) | (refine ⟨by (first | assumption | rfl | (exact Nat.le_of_ble_eq_true rfl) | (exact ⟨fun h01 => absurd h01 (by decide), by first | rfl | assumption⟩) | (exact ⟨fun _ => by decide, by first | rfl | assumption⟩) | (exact ⟨by assumption, by omega, by omega⟩) | (unfold inI; omega) | omega), ?_⟩; conv => whnf) | (refine ⟨fun c => ?_, fun c => ?_⟩) | (intro c) | fail))
        · refine Ex_step ?_; conv => whnf
          (repeat' (first | (exact nx) | (rw [ej]) | (refine r_byteAt (by omega) hMj (by omega) ?_) | (refine Ex_step ?_; conv => whnf) | (refine ⟨?_, trivial⟩) | (refine (show den _ _ _ _ _ _ _ _ from ?_); conv => whnf) | (refine ⟨fun c => False.elim (by omega), fun c => ?_⟩) | (refine ⟨fun c => ?_, fun c => False.elim (by omega)⟩) | (refine ⟨by (first | assumption | rfl | (exact Nat.le_of_ble_eq_true rfl) | (exact ⟨fun h01 => absurd h01 (by decide), by first | rfl | assumption⟩) | (exact ⟨fun _ => by decide, by first | rfl | assumption⟩) | (exact ⟨by assumption, by omega, by omega⟩) | (unfold inI; omega) | omega), ?_⟩; conv => whnf) | (refine ⟨fun c => ?_, fun c => ?_⟩) | (intro c) | fail))
      · have cc : ¬ (P k = 10 ∨ P k = 32) := fun q => c (bk_t.mpr q)
        have o := out w1 hj fj (by rw [ej, ← hsc]; exact (sc_end (fun q => c q.2)).symm)
        refine Ex_step ?_; conv => whnf
        (repeat' (first | (exact o) | (rw [ej]) | (refine r_byteAt (by omega) hMj (by omega) ?_) | (refine Ex_step ?_; conv => whnf) | (refine ⟨?_, trivial⟩) | (refine (show den _ _ _ _ _ _ _ _ from ?_); conv => whnf) | (refine ⟨fun c => False.elim (by omega), fun c => ?_⟩) | (refine ⟨fun c => ?_, fun c => False.elim (by omega)⟩) | (refine ⟨by (first | assumption | rfl | (exact Nat.le_of_ble_eq_true rfl) | (exact ⟨fun h01 => absurd h01 (by decide), by first | rfl | assumption⟩) | (exact ⟨fun _ => by decide, by first | rfl | assumption⟩) | (exact ⟨by assumption, by omega, by omega⟩) | (unfold inI; omega) | omega), ?_⟩; conv => whnf) | (refine ⟨fun c => ?_, fun c => ?_⟩) | (intro c) | fail))
  have l0 := loop (n - e).toNat e none h (by omega) he.1 rfl Fq.refl e14
  refine eX10_ahead (by omega) ?_
  exact l0
