/-! LEVEL 2: texts: rows of decades, the class -/
/-- rows as the class has read them so far -/
def CS (h : Mem) (st : Nat) (R : Int → Int → Int) (N c D : Int) (O : Int → Int) : Prop := (gG h st 1 = c ∧ gG h st 2 = N ∧ gG h 56 2 = D) ∧ (∀ j, 0 ≤ j → j < D → gG h 57 j = O j) ∧ (∀ k, 0 ≤ k → k < N → gG h (st + 1) k = cwd (R k 0) ∧ CT h st k (R k)) ∧ (∀ k, 0 ≤ k → k < N → (R k 0 = 22 ∨ (isO (R k 0) ∧ ∀ j, 0 ≤ j → j < D → ¬ O j = k)) → gG h (st + 6) k = R k 4)
def FS (st : Nat) (h h' : Mem) : Prop := h'.1 = h.1 ∧ h'.2.2 = h.2.2 ∧ ∀ r i, ¬ SP st r → ¬ (r = 10 ∧ ¬ i = 0 ∧ ¬ i = 3 ∧ ¬ i = 4 ∧ ¬ i = 6) → ¬ (r = 12 ∨ r = 13 ∨ r = 14) → ¬ (r = 56 ∧ i = 2) → ¬ r = 57 → gG h' r i = gG h r i
def FSf (st : Nat) (h h' : Mem) (x : Int × Int) : Prop := h'.1 = h.1 ∧ h'.2.2 = h.2.2 ∧ (∀ r i, ¬ SP st r → ¬ (r = 10 ∧ ¬ i = 0 ∧ ¬ i = 6) → ¬ (r = 12 ∨ r = 13 ∨ r = 14) → ¬ (r = 56 ∧ i = 2) → ¬ r = 57 → gG h' r i = gG h r i) ∧ gG h' 10 3 = x.1 ∧ gG h' 10 4 = x.2
theorem FS.refl {st : Nat} {h : Mem} : FS st h h := ⟨rfl, rfl, fun _ _ _ _ _ _ _ => rfl⟩
theorem FS.trans {st : Nat} {h h' h'' : Mem} (a : FS st h h') (b : FS st h' h'') : FS st h h'' := ⟨b.1.trans a.1, b.2.1.trans a.2.1, fun r i p q t u v => (b.2.2 r i p q t u v).trans (a.2.2 r i p q t u v)⟩
theorem FX.S {st : Nat} {h h' : Mem} (a : FX h h') : FS st h h' := ⟨a.1, a.2.1, fun r i _ q t _ _ => a.2.2 r i q t⟩
theorem FW.S {st : Nat} {row : Int} {h h' : Mem} (a : FW st row h h') : FS st h h' := ⟨a.1, a.2.1, fun r i p q t _ _ => a.2.2 r i q t (fun e => p ⟨by omega, by omega⟩)⟩
theorem FS.s {st : Nat} {h h' : Mem} {r : Nat} {i z : Int} (a : FS st h h') (q : SP st r ∨ (r = 56 ∧ i = 2) ∨ r = 57) : FS st h (sG h' r i z) := ⟨a.1, a.2.1, fun r' i' p t u v w => by
  rw [gG_sG, if_neg (fun e => by
    rcases q with q | q | q
    · exact p (by rw [e.1]; exact q)
    · exact v ⟨by rw [e.1]; exact q.1, by rw [e.2]; exact q.2⟩
    · exact w (by rw [e.1]; exact q))]
  exact a.2.2 r' i' p t u v w⟩
theorem FS.f {st : Nat} {h h' h'' : Mem} {x : Int × Int} (a : FS st h h') (b : Ff h' h'' x) : FSf st h h'' x := ⟨b.1.trans a.1, b.2.1.trans a.2.1, fun r i p q t u v => (b.2.2.1 r i q t).trans (a.2.2 r i p (by omega) t u v), b.2.2.2⟩
theorem FS.ff {st : Nat} {h h' h'' : Mem} {x : Int × Int} (a : FS st h h') (b : FSf st h' h'' x) : FSf st h h'' x := ⟨b.1.trans a.1, b.2.1.trans a.2.1, fun r i p q t u v => (b.2.2.1 r i p q t u v).trans (a.2.2 r i p (by omega) t u v), b.2.2.2⟩
theorem FS.w {st : Nat} {row : Int} {h h' h'' : Mem} {x : Int × Int} (a : FS st h h') (b : FWf st row h' h'' x) : FSf st h h'' x := ⟨b.1.trans a.1, b.2.1.trans a.2.1, fun r i p q t u v => (b.2.2.1 r i q t (fun e => p ⟨by omega, by omega⟩)).trans (a.2.2 r i p (by omega) t u v), b.2.2.2⟩
theorem sp_s {st : Nat} {r : Nat} (h : st ≤ r ∧ r ≤ st + 6) : SP st r := h
theorem CS.c {h h' : Mem} {st : Nat} {R : Int → Int → Int} {N c D : Int} {O : Int → Int} (q : CS h st R N c D O) (e1 : ∀ r i, st ≤ r → r ≤ st + 6 → gG h' r i = gG h r i) (e2 : gG h' 56 2 = gG h 56 2) (e3 : ∀ i, gG h' 57 i = gG h 57 i) : CS h' st R N c D O := by
  obtain ⟨⟨q1, q2, q3⟩, q4, q5, q6⟩ := q
  refine ⟨⟨(e1 _ _ (by omega) (by omega)).trans q1, (e1 _ _ (by omega) (by omega)).trans q2, e2.trans q3⟩, fun j a b => (e3 j).trans (q4 j a b), fun k a b => ⟨(e1 _ _ (by omega) (by omega)).trans (q5 k a b).1, (q5 k a b).2.c (fun r x y => e1 r k (by omega) (by omega))⟩, fun k a b x => (e1 _ _ (by omega) (by omega)).trans (q6 k a b x)⟩
theorem CS.x {h h' : Mem} {st : Nat} {R : Int → Int → Int} {N c D : Int} {O : Int → Int} (q : CS h st R N c D O) (hs : 15 ≤ st) (a : FX h h') : CS h' st R N c D O := q.c (fun r i x y => a.2.2 r i (by omega) (by omega)) (a.2.2 _ _ (by omega) (by omega)) (fun i => a.2.2 _ _ (by omega) (by omega))
theorem CT_w {h : Mem} {st : Nat} {row : Int} {rw : Int → Int} (h1 : rw 0 = 22) : CT h st row rw := by
  unfold CT
  rw [h1]
  exact ⟨fun q => by omega, fun q => by omega, fun q => by omega, fun q => by omega⟩
theorem CT_4 {h : Mem} {st : Nat} {row : Int} {r r' : Int → Int} (q : CT h st row r) (e : ∀ j, ¬ j = 4 → r' j = r j) : CT h st row r' := by
  unfold CT at *
  rw [e 0 (by omega), e 1 (by omega), e 2 (by omega), e 5 (by omega)]
  exact q
/-- an end is laid -/
theorem CS_end {h : Mem} {st : Nat} {A : Int → Int} {R : Int → Int → Int} {N c D : Int} {O : Int → Int} (hs : 58 < st ∨ st + 6 < 56) (hI : DI A R N c D O) (hD : ¬ D ≤ 0) (q : CS h st R N c D O) : CS (sG (sG (sG (sG (sG h 56 2 (D - 1)) (st + 1) N 23) (st + 6) N (O (D - 1))) (st + 6) (O (D - 1)) N) st 2 (N + 1)) st (clR R N (O (D - 1))) (N + 1) c (D - 1) O := by
  obtain ⟨⟨q1, q2, q3⟩, q4, q5, q6⟩ := q
  obtain ⟨h1, h2, h3, h4, h5, h6, -⟩ := hI
  obtain ⟨o0, o1, o2⟩ := h2 (D - 1) (by omega) (by omega)
  have e22 := isO_22 o2
  have l0 : ∀ k, ¬ k = N → clR R N (O (D - 1)) k 0 = R k 0 := fun k q => clR_j q (by omega)
  refine ⟨⟨?_, ?_, ?_⟩, fun j a b => ?_, fun k a b => ⟨?_, ?_⟩, fun k a b x => ?_⟩
  · rw [gG_sG, if_neg (by omega), gG_sG, if_neg (by omega), gG_sG, if_neg (by omega), gG_sG, if_neg (by omega), gG_sG, if_neg (by omega)]; exact q1
  · rw [g_same]
  · rw [gG_sG, if_neg (by omega), gG_sG, if_neg (by omega), gG_sG, if_neg (by omega), gG_sG, if_neg (by omega), g_same]
  · rw [gG_sG, if_neg (by omega), gG_sG, if_neg (by omega), gG_sG, if_neg (by omega), gG_sG, if_neg (by omega), gG_sG, if_neg (by omega)]; exact q4 j a (by omega)
  · rw [gG_sG, if_neg (by omega), gG_sG, if_neg (by omega), gG_sG, if_neg (by omega)]
    by_cases e : k = N
    · rw [e, g_same, clR_e.1]; rfl
    · rw [g_ne e, gG_sG, if_neg (by omega), l0 k e]; exact (q5 k a (by omega)).1
  · by_cases e : k = N
    · rw [e]; exact CT_w clR_e.1
    · refine CT_4 (r := R k) (CT.c (q5 k a (by omega)).2 (fun r x y => ?_)) (fun j q => clR_j e q)
      rw [gG_sG, if_neg (by omega), gG_sG, if_neg (by omega), gG_sG, if_neg (by omega), gG_sG, if_neg (by omega), gG_sG, if_neg (by omega)]
  · rw [gG_sG, if_neg (by omega)]
    by_cases eo : k = O (D - 1)
    · rw [eo, g_same, clR_o (by omega)]
    · rw [g_ne eo]
      by_cases e : k = N
      · rw [e, g_same, clR_e.2]
      · rw [g_ne e, gG_sG, if_neg (by omega), gG_sG, if_neg (by omega), clR_n e eo]
        refine q6 k a (by omega) ?_
        rw [l0 k e] at x
        rcases x with x | ⟨x, y⟩
        · exact Or.inl x
        · refine Or.inr ⟨x, fun j j0 j1 => ?_⟩
          by_cases ej : j = D - 1
          · rw [ej]; exact fun q => eo q.symm
          · exact y j j0 (by omega)
/-- a step is laid -/
theorem CS_push {h h' : Mem} {st : Nat} {A : Int → Int} {R : Int → Int → Int} {N c D t : Int} {O rw : Int → Int} (hI : DI A R N c D O) (q : CS h st R N c D O) (ht : cwd (rw 0) = t) (h22 : ¬ rw 0 = 22) (ho : (t = 20 ∨ t = 22) ↔ (rw 0 = 21 ∨ 2000 ≤ rw 0)) (e1 : gG h' st 1 = c + 1) (e2 : gG h' st 2 = N + 1) (e3 : gG h' 56 2 = if t = 20 ∨ t = 22 then D + 1 else D) (e4 : ∀ j, 0 ≤ j → j < D → gG h' 57 j = gG h 57 j) (e5 : (t = 20 ∨ t = 22) → gG h' 57 D = N) (e6 : gG h' (st + 1) N = t) (e7 : CT h' st N rw) (e8 : ∀ (r : Nat) (k : Int), st + 1 ≤ r → r ≤ st + 6 → 0 ≤ k → k < N → gG h' r k = gG h r k) : CS h' st (opR R N rw) (N + 1) (c + 1) (if t = 20 ∨ t = 22 then D + 1 else D) (if t = 20 ∨ t = 22 then pu O D N else O) := by
  obtain ⟨⟨q1, q2, q3⟩, q4, q5, q6⟩ := q
  obtain ⟨h1, h2, -⟩ := hI
  refine ⟨⟨e1, e2, e3⟩, fun j a b => ?_, fun k a b => ?_, fun k a b x => ?_⟩
  · by_cases c0 : t = 20 ∨ t = 22
    · rw [if_pos c0] at b ⊢
      by_cases ej : j = D
      · rw [ej, pu_e]; exact e5 c0
      · rw [pu_n ej, e4 j a (by omega)]; exact q4 j a (by omega)
    · rw [if_neg c0] at b ⊢
      rw [e4 j a b]; exact q4 j a b
  · by_cases e : k = N
    · rw [e, opR_e]; exact ⟨by rw [e6, ht], e7⟩
    · rw [opR_n e, e8 _ k (by omega) (by omega) a (by omega)]
      exact ⟨(q5 k a (by omega)).1, (q5 k a (by omega)).2.c (fun r x y => e8 r k (by omega) (by omega) a (by omega))⟩
  · by_cases e : k = N
    · rw [e, opR_e] at x
      rcases x with x | ⟨x, y⟩
      · exact absurd x h22
      · have c0 := ho.mpr x
        rw [if_pos c0] at y
        have := y D (by omega) (by rw [if_pos c0]; omega)
        rw [pu_e] at this
        exact absurd e.symm this
    · rw [opR_n e] at x ⊢
      rw [e8 _ k (by omega) (by omega) a (by omega)]
      refine q6 k a (by omega) ?_
      rcases x with x | ⟨x, y⟩
      · exact Or.inl x
      · refine Or.inr ⟨x, fun j j0 j1 => ?_⟩
        by_cases c0 : t = 20 ∨ t = 22
        · have := y j j0 (by rw [if_pos c0]; omega)
          rw [if_pos c0, pu_n (by omega)] at this
          exact this
        · have := y j j0 (by rw [if_neg c0]; exact j1)
          rw [if_neg c0] at this
          exact this
set_option maxHeartbeats 4000000 in
theorem w_beginsStep {X : Int → Int} {XL : Int} {d : Nat} {h : Mem} {Q : RetP} {t : Int} (hd : 1 ≤ d) (hq1 : t = 1 ∨ (14 ≤ t ∧ t ≤ 20) ∨ t = 22 ∨ t = 24 → Q (some (vI 1)) h) (hq0 : ¬ (t = 1 ∨ (14 ≤ t ∧ t ≤ 20) ∨ t = 22 ∨ t = 24) → Q (some (vI 0)) h) : WP X XL d 86 [vI t] h Q := by
  refine eX4_beginsStep hd ?_
  by_cases ct : t = 1 ∨ (14 ≤ t ∧ t ≤ 20) ∨ t = 22 ∨ t = 24
  · have q := hq1 ct
    rcases (show t = 1 ∨ t = 14 ∨ t = 15 ∨ t = 16 ∨ t = 17 ∨ t = 18 ∨ t = 19 ∨ t = 20 ∨ t = 22 ∨ t = 24 by omega) with e | e | e | e | e | e | e | e | e | e
    all_goals ((repeat' (first | (exact q) | (refine Ex_step ?_; conv => whnf) | (refine ⟨?_, trivial⟩) | (refine (show den _ _ _ _ _ _ _ _ from ?_); conv => whnf) | (refine ⟨fun c => False.elim (by omega), fun c => ?_⟩) | (refine ⟨fun c => ?_, fun c => False.elim (by omega)⟩) | (refine ⟨by (first | assumption | rfl | (exact Nat.le_of_ble_eq_true rfl) | (exact ⟨fun h01 => absurd h01 (by decide), by first | rfl | assumption⟩) | (exact ⟨fun _ => by decide, by first | rfl | assumption⟩) | (exact ⟨by assumption, by omega, by omega⟩) | (unfold inI; omega) | omega), ?_⟩; conv => whnf) | (refine ⟨fun c => ?_, fun c => ?_⟩) | (intro c) | fail)))
  · have q := hq0 ct
    (repeat' (first | (exact q) | (refine Ex_step ?_; conv => whnf) | (refine ⟨?_, trivial⟩) | (refine (show den _ _ _ _ _ _ _ _ from ?_); conv => whnf) | (refine ⟨fun c => False.elim (by omega), fun c => ?_⟩) | (refine ⟨fun c => ?_, fun c => False.elim (by omega)⟩) | (refine ⟨by (first | assumption | rfl | (exact Nat.le_of_ble_eq_true rfl) | (exact ⟨fun h01 => absurd h01 (by decide), by first | rfl | assumption⟩) | (exact ⟨fun _ => by decide, by first | rfl | assumption⟩) | (exact ⟨by assumption, by omega, by omega⟩) | (unfold inI; omega) | omega), ?_⟩; conv => whnf) | (refine ⟨fun c => ?_, fun c => ?_⟩) | (intro c) | fail))
set_option maxHeartbeats 4000000 in
theorem w_takeEnd {X : Int → Int} {XL : Int} {d : Nat} {h : Mem} {Q : RetP} {K : Int} {A Nm : Int → Int} {v st : Nat} {P : Int → Int} {n e : Int} {c : Nat} {R : Int → Int → Int} {N c1 D : Int} {O : Int → Int} {r : (Int × Int) ⊕ (DS × Int)} (hd : 4 ≤ d) (hS : SR h st v) (hO : SOk h st) (hst : 15 ≤ st ∧ 15 ≤ v ∧ (st + 6 < v ∨ v + 12 < st)) (hA : At h P n e c) (hV : Vr K h v A) (hT : VAt h v) (hNm : gG h (v + 4) = Nm) (hsr : 58 < st ∨ st + 6 < 56) (hI : DI A R N c1 D O) (hCS : CS h st R N c1 D O) (hc : c ≤ 2) (h23 : tC P n e = 23) (hr : (if D ≤ 0 then .inl (fltK P n e 2, tF P n e) else bd (pTok P n (tE P n e) 28) (fun e2 => .inr (dEnd R N c1 D O, e2))) = r) (hq0 : ∀ x h', r = .inl x → FSf st h h' x → Q (some (vI 0)) h') (hq1 : ∀ e' h', r = .inr (dEnd R N c1 D O, e') → Nx h' P n e' → CS h' st (clR R N (O (D - 1))) (N + 1) c1 (D - 1) O → FS st h h' → Q (some (vI 1)) h') : WP X XL d 87 [vR 56] h Q := by
  obtain ⟨k56_0, s0_0, ⟨s1_0, k57_0, l57_0⟩, s3_0, s4_0⟩ := hS.z rfl rfl; obtain ⟨ks_0, ⟨sr1_0, sk1_0, sl1_0⟩, ⟨sr2_0, sk2_0, sl2_0⟩, ⟨sr3_0, sk3_0, sl3_0⟩, ⟨sr4_0, sk4_0, sl4_0⟩, ⟨sr5_0, sk5_0, sl5_0⟩, ⟨sr6_0, sk6_0, sl6_0⟩⟩ := hO.z rfl rfl
  have k10 := hA.X
  obtain ⟨⟨q1, q2, q3⟩, -⟩ := id hCS
  obtain ⟨i1, i2, -⟩ := id hI
  refine eX4_takeEnd (by omega) ?_
  by_cases cD : D ≤ 0
  · rw [if_pos cD] at hr
    (repeat' (first | (rw [q3]) | (rw [s0_0]) | (refine Ex_step ?_; conv => whnf) | (refine ⟨?_, trivial⟩) | (refine (show den _ _ _ _ _ _ _ _ from ?_); conv => whnf) | (refine ⟨fun c => False.elim (by omega), fun c => ?_⟩) | (refine ⟨fun c => ?_, fun c => False.elim (by omega)⟩) | (refine ⟨by (first | assumption | rfl | (exact Nat.le_of_ble_eq_true rfl) | (exact ⟨fun h01 => absurd h01 (by decide), by first | rfl | assumption⟩) | (exact ⟨fun _ => by decide, by first | rfl | assumption⟩) | (exact ⟨by assumption, by omega, by omega⟩) | (unfold inI; omega) | omega), ?_⟩; conv => whnf) | (refine ⟨fun c => ?_, fun c => ?_⟩) | fail))
    refine k_refuse (by omega) hA hr (fun x h1 er ff => ?_)
    have q := hq0 x h1 er (FS.refl.f ff)
    have g1 := ff.1
    (repeat' (first | (exact q) | (refine Ex_step ?_; conv => whnf) | (refine ⟨?_, trivial⟩) | (refine (show den _ _ _ _ _ _ _ _ from ?_); conv => whnf) | (refine ⟨fun c => False.elim (by omega), fun c => ?_⟩) | (refine ⟨fun c => ?_, fun c => False.elim (by omega)⟩) | (refine ⟨by (first | assumption | rfl | (exact Nat.le_of_ble_eq_true rfl) | (exact ⟨fun h01 => absurd h01 (by decide), by first | rfl | assumption⟩) | (exact ⟨fun _ => by decide, by first | rfl | assumption⟩) | (exact ⟨by assumption, by omega, by omega⟩) | (unfold inI; omega) | omega), ?_⟩; conv => whnf) | (refine ⟨fun c => ?_, fun c => ?_⟩) | (intro c) | fail))
  · rw [if_neg cD] at hr
    obtain ⟨o0, o1, -⟩ := i2 (D - 1) (by omega) (by omega)
    (repeat' (first | (rw [q3]) | (rw [s3_0]) | (rw [q2]) | (rw [s0_0]) | (refine Ex_step ?_; conv => whnf) | (refine ⟨?_, trivial⟩) | (refine (show den _ _ _ _ _ _ _ _ from ?_); conv => whnf) | (refine ⟨fun c => False.elim (by omega), fun c => ?_⟩) | (refine ⟨fun c => ?_, fun c => False.elim (by omega)⟩) | (refine ⟨by (first | assumption | rfl | (exact Nat.le_of_ble_eq_true rfl) | (exact ⟨fun h01 => absurd h01 (by decide), by first | rfl | assumption⟩) | (exact ⟨fun _ => by decide, by first | rfl | assumption⟩) | (exact ⟨by assumption, by omega, by omega⟩) | (unfold inI; omega) | omega), ?_⟩; conv => whnf) | (refine ⟨fun c => ?_, fun c => ?_⟩) | fail))
    refine w_advA (by omega) hA (by omega) (by rw [h23]; unfold isE; omega) (fun h1 hA1 f1 => ?_)
    have z1 : FS st h h1 := f1.S
    obtain ⟨k56_1, s0_1, ⟨s1_1, k57_1, l57_1⟩, s3_1, s4_1⟩ := hS.z z1.1 z1.2.1; obtain ⟨ks_1, ⟨sr1_1, sk1_1, sl1_1⟩, ⟨sr2_1, sk2_1, sl2_1⟩, ⟨sr3_1, sk3_1, sl3_1⟩, ⟨sr4_1, sk4_1, sl4_1⟩, ⟨sr5_1, sk5_1, sl5_1⟩, ⟨sr6_1, sk6_1, sl6_1⟩⟩ := hO.z z1.1 z1.2.1
    have k101 := hA1.X
    (repeat' (first | (rw [s0_1]) | (refine Ex_step ?_; conv => whnf) | (refine ⟨?_, trivial⟩) | (refine (show den _ _ _ _ _ _ _ _ from ?_); conv => whnf) | (refine ⟨fun c => False.elim (by omega), fun c => ?_⟩) | (refine ⟨fun c => ?_, fun c => False.elim (by omega)⟩) | (refine ⟨by (first | assumption | rfl | (exact Nat.le_of_ble_eq_true rfl) | (exact ⟨fun h01 => absurd h01 (by decide), by first | rfl | assumption⟩) | (exact ⟨fun _ => by decide, by first | rfl | assumption⟩) | (exact ⟨by assumption, by omega, by omega⟩) | (unfold inI; omega) | omega), ?_⟩; conv => whnf) | (refine ⟨fun c => ?_, fun c => ?_⟩) | fail))
    refine k_semi (by omega) hA1 hr (fun x h2 er ff => ?_) (fun e2 h2 hr2 hN2 f2 => ?_)
    · have q := hq0 x h2 er (z1.f ff)
      have g2 := ff.1.trans z1.1
      (repeat' (first | (exact q) | (refine Ex_step ?_; conv => whnf) | (refine ⟨?_, trivial⟩) | (refine (show den _ _ _ _ _ _ _ _ from ?_); conv => whnf) | (refine ⟨fun c => False.elim (by omega), fun c => ?_⟩) | (refine ⟨fun c => ?_, fun c => False.elim (by omega)⟩) | (refine ⟨by (first | assumption | rfl | (exact Nat.le_of_ble_eq_true rfl) | (exact ⟨fun h01 => absurd h01 (by decide), by first | rfl | assumption⟩) | (exact ⟨fun _ => by decide, by first | rfl | assumption⟩) | (exact ⟨by assumption, by omega, by omega⟩) | (unfold inI; omega) | omega), ?_⟩; conv => whnf) | (refine ⟨fun c => ?_, fun c => ?_⟩) | (intro c) | fail))
    · have z2 := z1.trans (st := st) f2.S
      obtain ⟨k56_2, s0_2, ⟨s1_2, k57_2, l57_2⟩, s3_2, s4_2⟩ := hS.z z2.1 z2.2.1; obtain ⟨ks_2, ⟨sr1_2, sk1_2, sl1_2⟩, ⟨sr2_2, sk2_2, sl2_2⟩, ⟨sr3_2, sk3_2, sl3_2⟩, ⟨sr4_2, sk4_2, sl4_2⟩, ⟨sr5_2, sk5_2, sl5_2⟩, ⟨sr6_2, sk6_2, sl6_2⟩⟩ := hO.z z2.1 z2.2.1
      have hC2 := (hCS.x hst.1 f1).x hst.1 f2
      obtain ⟨⟨p1, p2, p3⟩, p4, -⟩ := id hC2
      have p4 := p4 (D - 1) (by omega) (by omega)
      have z3 : FS st h2 (sG (sG (sG (sG (sG h2 56 2 (D - 1)) (st + 1) N 23) (st + 6) N (O (D - 1))) (st + 6) (O (D - 1)) N) st 2 (N + 1)) := ((((FS.refl.s (Or.inr (Or.inl ⟨rfl, rfl⟩))).s (Or.inl (sp_s (by omega)))).s (Or.inl (sp_s (by omega)))).s (Or.inl (sp_s (by omega)))).s (Or.inl (sp_s (by omega)))
      have q := hq1 e2 _ hr2.symm (hN2.o rfl (fun _ => rfl) (fun r i x y _ => by rw [gG_sG, if_neg (by omega), gG_sG, if_neg (by omega), gG_sG, if_neg (by omega), gG_sG, if_neg (by omega), gG_sG, if_neg (by omega)])) (CS_end hsr hI cD hC2) (z2.trans z3)
      have u1 : gG (sG h2 56 2 (D - 1)) st 2 = N := by rw [gG_sG, if_neg (by omega)]; exact p2
      have u2 : gG (sG (sG h2 56 2 (D - 1)) (st + 1) N 23) 56 2 = D - 1 := by rw [gG_sG, if_neg (by omega), g_same]
      have u3 : gG (sG (sG h2 56 2 (D - 1)) (st + 1) N 23) 57 (D - 1) = O (D - 1) := by rw [gG_sG, if_neg (by omega), gG_sG, if_neg (by omega)]; exact p4
      have u4 : ∀ z, gG (sG (sG (sG h2 56 2 (D - 1)) (st + 1) N 23) (st + 6) N z) 56 2 = D - 1 := fun z => by rw [gG_sG, if_neg (by omega)]; exact u2
      have u5 : ∀ z, gG (sG (sG (sG h2 56 2 (D - 1)) (st + 1) N 23) (st + 6) N z) 57 (D - 1) = O (D - 1) := fun z => by rw [gG_sG, if_neg (by omega)]; exact u3
      have u6 : ∀ z y, gG (sG (sG (sG (sG h2 56 2 (D - 1)) (st + 1) N 23) (st + 6) N z) (st + 6) y N) st 2 = N := fun z y => by rw [gG_sG, if_neg (by omega), gG_sG, if_neg (by omega), gG_sG, if_neg (by omega)]; exact u1
      have g2 := z2.1
      (repeat' (first | (exact q) | (rw [gR_sG]) | (rw [s3_2]) | (rw [s1_2]) | (rw [sr1_2]) | (rw [sr6_2]) | (rw [p3]) | (rw [u1]) | (rw [u2]) | (rw [u3]) | (rw [u4]) | (rw [u5]) | (rw [u6]) | (refine ⟨⟨sk1_2, by omega, Int.lt_of_lt_of_le (by omega : _ < (60 : Int)) (Int.le_of_eq sl1_2.symm)⟩, ?_⟩; conv => whnf) | (refine ⟨⟨sk6_2, by omega, Int.lt_of_lt_of_le (by omega : _ < (60 : Int)) (Int.le_of_eq sl6_2.symm)⟩, ?_⟩; conv => whnf) | (refine ⟨⟨k57_2, by omega, Int.lt_of_lt_of_le (by omega : _ < (3 : Int)) (Int.le_of_eq l57_2.symm)⟩, ?_⟩; conv => whnf) | (refine Ex_step ?_; conv => whnf) | (refine ⟨?_, trivial⟩) | (refine (show den _ _ _ _ _ _ _ _ from ?_); conv => whnf) | (refine ⟨fun c => False.elim (by omega), fun c => ?_⟩) | (refine ⟨fun c => ?_, fun c => False.elim (by omega)⟩) | (refine ⟨by (first | assumption | rfl | (exact Nat.le_of_ble_eq_true rfl) | (exact ⟨fun h01 => absurd h01 (by decide), by first | rfl | assumption⟩) | (exact ⟨fun _ => by decide, by first | rfl | assumption⟩) | (exact ⟨by assumption, by omega, by omega⟩) | (unfold inI; omega) | omega), ?_⟩; conv => whnf) | (refine ⟨fun c => ?_, fun c => ?_⟩) | (intro c) | fail))
theorem bd_r {α : Type} {a : (Int × Int) ⊕ α} : bd a Sum.inr = a := by cases a <;> rfl
theorem cwd_t {A : Int → Int} {P : Int → Int} {n e t : Int} {Nm : Int → Int} {q : (Int → Int) × Int} (ht : t = 1 ∨ (14 ≤ t ∧ t ≤ 20) ∨ t = 22 ∨ t = 24) (h1 : 0 ≤ A 1) (h : dRest P n e A Nm t = .inr q) : cwd (q.1 0) = t := by
  obtain ⟨w14, w17, w19, w24, -⟩ := wR_v
  by_cases c20 : t = 20
  · have hd : dRest P n e A Nm t = dTest P n e A Nm := by
      unfold dRest
      rw [if_neg (by omega), if_neg (by omega), if_neg (by omega), if_neg (by omega), if_neg (by omega), if_neg (by omega), if_pos c20]
    rw [hd] at h
    have := (dTest_v h1 h).2
    unfold cwd
    rw [if_pos this, c20]
  · have hw : q.1 0 < 2000 ∧ (q.1 0 = t ∧ t ≤ 19 ∨ q.1 0 = 21 ∧ t = 22 ∨ q.1 0 = 23 ∧ t = 24) := by
      unfold dRest at h
      split at h
      · rename_i c
        obtain ⟨a1, x1, h⟩ := bd_i h
        have ew : wR t = t := by rcases c with e | e <;> rw [e] <;> assumption
        rw [← Sum.inr.inj h]; show wR t < 2000 ∧ (wR t = t ∧ _ ∨ _ ∨ _); omega
      · split at h
        · obtain ⟨a1, x1, h⟩ := bd_i h
          obtain ⟨a2, x2, h⟩ := bd_i h
          rw [← Sum.inr.inj h]; show (15 : Int) < 2000 ∧ ((15 : Int) = t ∧ _ ∨ _ ∨ _); omega
        · split at h
          · obtain ⟨a1, x1, h⟩ := bd_i h
            rw [← Sum.inr.inj h]; show (16 : Int) < 2000 ∧ ((16 : Int) = t ∧ _ ∨ _ ∨ _); omega
          · split at h
            · obtain ⟨a1, x1, h⟩ := bd_i h
              rw [← Sum.inr.inj h]; show (18 : Int) < 2000 ∧ ((18 : Int) = t ∧ _ ∨ _ ∨ _); omega
            · split at h
              · obtain ⟨a1, x1, h⟩ := bd_i h
                rw [← Sum.inr.inj h]; show (1 : Int) < 2000 ∧ ((1 : Int) = t ∧ _ ∨ _ ∨ _); omega
              · split at h
                · obtain ⟨a1, x1, h⟩ := bd_i h
                  rw [← Sum.inr.inj h]; show (21 : Int) < 2000 ∧ ((21 : Int) = t ∧ _ ∨ (21 : Int) = 21 ∧ _ ∨ _); omega
                · split at h
                  · omega
                  · have ew : (t = 19 ∧ wR t = 19) ∨ (t = 24 ∧ wR t = 23) := by
                      rcases (show t = 19 ∨ t = 24 by omega) with e | e
                      · exact Or.inl ⟨e, by rw [e]; exact w19⟩
                      · exact Or.inr ⟨e, by rw [e]; exact w24⟩
                    rw [← Sum.inr.inj h]; show wR t < 2000 ∧ (wR t = t ∧ _ ∨ wR t = 21 ∧ _ ∨ wR t = 23 ∧ _); omega
    unfold cwd
    rw [if_neg (by omega)]
    split <;> omega
set_option maxHeartbeats 4000000 in
theorem w_takeRow {X : Int → Int} {XL : Int} {d : Nat} {h : Mem} {Q : RetP} {K : Int} {A Nm : Int → Int} {v st : Nat} {P : Int → Int} {n e : Int} {c : Nat} {R : Int → Int → Int} {N c1 D : Int} {O : Int → Int} {r : (Int × Int) ⊕ (DS × Int)} (hd : 8 ≤ d) (hS : SR h st v) (hO : SOk h st) (hst : 15 ≤ st ∧ 15 ≤ v ∧ (st + 6 < v ∨ v + 12 < st)) (hA : At h P n e c) (hV : Vr K h v A) (hT : VAt h v) (hNm : gG h (v + 4) = Nm) (hsr : 58 < st ∨ st + 6 < 56) (hI : DI A R N c1 D O) (hCS : CS h st R N c1 D O) (hc : c = 0) (hr : dStep P n e A Nm R N c1 D O = r) (hq0 : ∀ x h', r = .inl x → FSf st h h' x → Q (some (vI 0)) h') (hq1 : ∀ S e' h', r = .inr (S, e') → Nx h' P n e' → CS h' st S.1 S.2.1 S.2.2.1 S.2.2.2.1 S.2.2.2.2 → FS st h h' → Q (some (vI 1)) h') : WP X XL d 85 [vR 56] h Q := by
  obtain ⟨k56_0, s0_0, ⟨s1_0, k57_0, l57_0⟩, s3_0, s4_0⟩ := hS.z rfl rfl; obtain ⟨ks_0, ⟨sr1_0, sk1_0, sl1_0⟩, ⟨sr2_0, sk2_0, sl2_0⟩, ⟨sr3_0, sk3_0, sl3_0⟩, ⟨sr4_0, sk4_0, sl4_0⟩, ⟨sr5_0, sk5_0, sl5_0⟩, ⟨sr6_0, sk6_0, sl6_0⟩⟩ := hO.z rfl rfl
  have k10 := hA.X
  have a1 := hA.M.2.2.1
  have hs0 := hst.1
  have b1 := hV.2.2.2.1
  obtain ⟨⟨q1, q2, q3⟩, -⟩ := id hCS
  obtain ⟨i1, i2, -⟩ := id hI
  unfold dStep at hr
  refine eX4_takeRow (by omega) ?_
  by_cases c23 : tC P n e = 23
  · rw [if_pos c23] at hr
    have go : ∀ (d' : Nat) (Q' : RetP), 4 ≤ d' → (∀ h' b, h'.1 = h.1 → (b = 0 ∨ b = 1) → Q (some (vI b)) h' → Q' (some (vI b)) h') → WP X XL d' 87 [vR 56] h Q' := fun d' Q' x y => w_takeEnd x hS hO hst hA hV hT hNm hsr hI hCS (by omega) c23 hr (fun x h2 er ff => y h2 0 ff.1 (Or.inl rfl) (hq0 x h2 er ff)) (fun e2 h2 hr2 hN2 hC2 f2 => y h2 1 f2.1 (Or.inr rfl) (hq1 _ e2 h2 hr2 hN2 hC2 f2))
    (repeat' (first | (exact q') | (rw [s0_0]) | (rw [a1]) | (refine go _ _ (by omega) (fun h' b g' hb' q' => ?_)) | (refine ⟨⟨fun _ => hb', g'⟩, ?_⟩) | (refine Ex_step ?_; conv => whnf) | (refine ⟨?_, trivial⟩) | (refine (show den _ _ _ _ _ _ _ _ from ?_); conv => whnf) | (refine ⟨fun c => False.elim (by omega), fun c => ?_⟩) | (refine ⟨fun c => ?_, fun c => False.elim (by omega)⟩) | (refine ⟨by (first | assumption | rfl | (exact Nat.le_of_ble_eq_true rfl) | (exact ⟨fun h01 => absurd h01 (by decide), by first | rfl | assumption⟩) | (exact ⟨fun _ => by decide, by first | rfl | assumption⟩) | (exact ⟨by assumption, by omega, by omega⟩) | (unfold inI; omega) | omega), ?_⟩; conv => whnf) | (refine ⟨fun c => ?_, fun c => ?_⟩) | (intro c) | fail))
  · rw [if_neg c23] at hr
    have rf : ∀ (k : Int) (d' : Nat) (Q' : RetP), 1 ≤ d' → .inl (fltK P n e k, tF P n e) = r → (∀ h', h'.1 = h.1 → Q (some (vI 0)) h' → Q' (some (vI 0)) h') → WP X XL d' 69 [vR 10, vI k] h Q' := fun k d' Q' x z y => k_refuse x hA z (fun x h1 er ff => y h1 ff.1 (hq0 x h1 er (FS.refl.f ff)))
    by_cases ct : tC P n e = 1 ∨ (14 ≤ tC P n e ∧ tC P n e ≤ 20) ∨ tC P n e = 22 ∨ tC P n e = 24
    · rw [if_neg (fun q => q ct)] at hr
      by_cases c30 : 30 ≤ c1
      · rw [if_pos c30] at hr
        (repeat' (first | (exact q') | (rw [s0_0]) | (rw [a1]) | (rw [s3_0]) | (rw [q1]) | (rw [q2]) | (refine w_beginsStep (by omega) (fun _ => ?_) (fun q => absurd ct q)) | (refine rf _ _ _ (by omega) hr (fun h' g' q' => ?_)) | (refine Ex_step ?_; conv => whnf) | (refine ⟨?_, trivial⟩) | (refine (show den _ _ _ _ _ _ _ _ from ?_); conv => whnf) | (refine ⟨fun c => False.elim (by omega), fun c => ?_⟩) | (refine ⟨fun c => ?_, fun c => False.elim (by omega)⟩) | (refine ⟨by (first | assumption | rfl | (exact Nat.le_of_ble_eq_true rfl) | (exact ⟨fun h01 => absurd h01 (by decide), by first | rfl | assumption⟩) | (exact ⟨fun _ => by decide, by first | rfl | assumption⟩) | (exact ⟨by assumption, by omega, by omega⟩) | (unfold inI; omega) | omega), ?_⟩; conv => whnf) | (refine ⟨fun c => ?_, fun c => ?_⟩) | (intro c) | fail))
      · rw [if_neg c30] at hr
        by_cases co : (tC P n e = 20 ∨ tC P n e = 22) ∧ 3 ≤ D
        · rw [if_pos co] at hr
          have co1 := co.1
          have co2 := co.2
          (repeat' (first | (exact q') | (rw [s0_0]) | (rw [a1]) | (rw [s3_0]) | (rw [q1]) | (rw [q2]) | (rw [q3]) | (refine w_beginsStep (by omega) (fun _ => ?_) (fun q => absurd ct q)) | (refine rf _ _ _ (by omega) hr (fun h' g' q' => ?_)) | (refine Ex_step ?_; conv => whnf) | (refine ⟨?_, trivial⟩) | (refine (show den _ _ _ _ _ _ _ _ from ?_); conv => whnf) | (refine ⟨fun c => False.elim (by omega), fun c => ?_⟩) | (refine ⟨fun c => ?_, fun c => False.elim (by omega)⟩) | (refine ⟨by (first | assumption | rfl | (exact Nat.le_of_ble_eq_true rfl) | (exact ⟨fun h01 => absurd h01 (by decide), by first | rfl | assumption⟩) | (exact ⟨fun _ => by decide, by first | rfl | assumption⟩) | (exact ⟨by assumption, by omega, by omega⟩) | (unfold inI; omega) | omega), ?_⟩; conv => whnf) | (refine ⟨fun c => ?_, fun c => ?_⟩) | (intro c) | fail))
        · rw [if_neg co] at hr
          have z0 : FS st h (sG h (st + 1) N (tC P n e)) := FS.refl.s (Or.inl (sp_s (by omega)))
          have hA0 : At (sG h (st + 1) N (tC P n e)) P n e c := hA.s (by omega)
          have k100 := hA0.X
          have rest : ∀ (w2 : Int), ((tC P n e = 20 ∨ tC P n e = 22) ∧ w2 = 1) ∨ (¬ (tC P n e = 20 ∨ tC P n e = 22) ∧ w2 = 0) → Ex (WP X XL (d - 1)) KX4_takeRow h.1 Q 109 [some (vR 56), some (vI (tC P n e)), some (vI w2), none] [] h := by
            intro w2 hw2
            (repeat' (first | (rw [gR_sG]) | (rw [s3_0]) | (rw [q2]) | (rw [sr1_0]) | (rw [s0_0]) | (refine ⟨⟨sk1_0, by omega, Int.lt_of_lt_of_le (by omega : _ < (60 : Int)) (Int.le_of_eq sl1_0.symm)⟩, ?_⟩; conv => whnf) | (refine Ex_step ?_; conv => whnf) | (refine ⟨?_, trivial⟩) | (refine (show den _ _ _ _ _ _ _ _ from ?_); conv => whnf) | (refine ⟨fun c => False.elim (by omega), fun c => ?_⟩) | (refine ⟨fun c => ?_, fun c => False.elim (by omega)⟩) | (refine ⟨by (first | assumption | rfl | (exact Nat.le_of_ble_eq_true rfl) | (exact ⟨fun h01 => absurd h01 (by decide), by first | rfl | assumption⟩) | (exact ⟨fun _ => by decide, by first | rfl | assumption⟩) | (exact ⟨by assumption, by omega, by omega⟩) | (unfold inI; omega) | omega), ?_⟩; conv => whnf) | (refine ⟨fun c => ?_, fun c => ?_⟩) | fail))
            refine w_advA (by omega) hA0 (by omega) (by unfold isE; omega) (fun h1 hA1 f1 => ?_)
            have z1 := z0.trans (st := st) f1.S
            obtain ⟨k56_1, s0_1, ⟨s1_1, k57_1, l57_1⟩, s3_1, s4_1⟩ := hS.z z1.1 z1.2.1; obtain ⟨ks_1, ⟨sr1_1, sk1_1, sl1_1⟩, ⟨sr2_1, sk2_1, sl2_1⟩, ⟨sr3_1, sk3_1, sl3_1⟩, ⟨sr4_1, sk4_1, sl4_1⟩, ⟨sr5_1, sk5_1, sl5_1⟩, ⟨sr6_1, sk6_1, sl6_1⟩⟩ := hO.z z1.1 z1.2.1
            have k101 := hA1.X
            have hT1 : VAt h1 v := hT.z z1.2.1
            have hV1 : Vr K h1 v A := hV.eq z1.1 (fun i => by unfold gR; rw [z1.2.1]) hT (fun r i x y => z1.2.2 r i (by unfold SP; omega) (by omega) (by omega) (by omega) (by omega))
            have hNm1 : gG h1 (v + 4) = Nm := by
              rw [← hNm]
              funext i
              exact z1.2.2 _ i (by unfold SP; omega) (by omega) (by omega) (by omega) (by omega)
            (repeat' (first | (refine Ex_step ?_; conv => whnf) | (refine ⟨?_, trivial⟩) | (refine (show den _ _ _ _ _ _ _ _ from ?_); conv => whnf) | (refine ⟨fun c => False.elim (by omega), fun c => ?_⟩) | (refine ⟨fun c => ?_, fun c => False.elim (by omega)⟩) | (refine ⟨by (first | assumption | rfl | (exact Nat.le_of_ble_eq_true rfl) | (exact ⟨fun h01 => absurd h01 (by decide), by first | rfl | assumption⟩) | (exact ⟨fun _ => by decide, by first | rfl | assumption⟩) | (exact ⟨by assumption, by omega, by omega⟩) | (unfold inI; omega) | omega), ?_⟩; conv => whnf) | (refine ⟨fun c => ?_, fun c => ?_⟩) | fail))
            refine w_takeRest (f := Sum.inr) (by omega) (hS.z z1.1 z1.2.1) (hO.z z1.1 z1.2.1) hst hA1 hV1 hT1 hNm1 (by omega) (by omega) ct bd_r (fun x h2 er ff => ?_) (fun rw2 e2 h2 c2 hc2 hr2 hA2 ct2 f2 => ?_)
            · have q := hq0 x h2 (by rw [← hr, er]; rfl) (z1.w ff)
              have g2 := ff.1.trans z1.1
              (repeat' (first | (exact q) | (refine Ex_step ?_; conv => whnf) | (refine ⟨?_, trivial⟩) | (refine (show den _ _ _ _ _ _ _ _ from ?_); conv => whnf) | (refine ⟨fun c => False.elim (by omega), fun c => ?_⟩) | (refine ⟨fun c => ?_, fun c => False.elim (by omega)⟩) | (refine ⟨by (first | assumption | rfl | (exact Nat.le_of_ble_eq_true rfl) | (exact ⟨fun h01 => absurd h01 (by decide), by first | rfl | assumption⟩) | (exact ⟨fun _ => by decide, by first | rfl | assumption⟩) | (exact ⟨by assumption, by omega, by omega⟩) | (unfold inI; omega) | omega), ?_⟩; conv => whnf) | (refine ⟨fun c => ?_, fun c => ?_⟩) | (intro c) | fail))
            · have z2 := z1.trans f2.S
              obtain ⟨k56_2, s0_2, ⟨s1_2, k57_2, l57_2⟩, s3_2, s4_2⟩ := hS.z z2.1 z2.2.1; obtain ⟨ks_2, ⟨sr1_2, sk1_2, sl1_2⟩, ⟨sr2_2, sk2_2, sl2_2⟩, ⟨sr3_2, sk3_2, sl3_2⟩, ⟨sr4_2, sk4_2, sl4_2⟩, ⟨sr5_2, sk5_2, sl5_2⟩, ⟨sr6_2, sk6_2, sl6_2⟩⟩ := hO.z z2.1 z2.2.1
              have k102 := hA2.X
              obtain ⟨v1, v2, v3⟩ := dRest_v b1.1 ct hr2.symm
              have ht2 := cwd_t ct b1.1 hr2.symm
              rw [← hr2] at hr
              have hr3 : bd (pTok P n e2 28) (fun e5 => .inr (dPush R N c1 D O (tC P n e) rw2, e5)) = r := hr
              (repeat' (first | (rw [s0_2]) | (refine Ex_step ?_; conv => whnf) | (refine ⟨?_, trivial⟩) | (refine (show den _ _ _ _ _ _ _ _ from ?_); conv => whnf) | (refine ⟨fun c => False.elim (by omega), fun c => ?_⟩) | (refine ⟨fun c => ?_, fun c => False.elim (by omega)⟩) | (refine ⟨by (first | assumption | rfl | (exact Nat.le_of_ble_eq_true rfl) | (exact ⟨fun h01 => absurd h01 (by decide), by first | rfl | assumption⟩) | (exact ⟨fun _ => by decide, by first | rfl | assumption⟩) | (exact ⟨by assumption, by omega, by omega⟩) | (unfold inI; omega) | omega), ?_⟩; conv => whnf) | (refine ⟨fun c => ?_, fun c => ?_⟩) | fail))
              refine k_semi (by omega) hA2 hr3 (fun x h3 er ff => ?_) (fun e3 h3 hr4 hN3 f3 => ?_)
              · have q := hq0 x h3 er (z2.f ff)
                have g3 := ff.1.trans z2.1
                (repeat' (first | (exact q) | (refine Ex_step ?_; conv => whnf) | (refine ⟨?_, trivial⟩) | (refine (show den _ _ _ _ _ _ _ _ from ?_); conv => whnf) | (refine ⟨fun c => False.elim (by omega), fun c => ?_⟩) | (refine ⟨fun c => ?_, fun c => False.elim (by omega)⟩) | (refine ⟨by (first | assumption | rfl | (exact Nat.le_of_ble_eq_true rfl) | (exact ⟨fun h01 => absurd h01 (by decide), by first | rfl | assumption⟩) | (exact ⟨fun _ => by decide, by first | rfl | assumption⟩) | (exact ⟨by assumption, by omega, by omega⟩) | (unfold inI; omega) | omega), ?_⟩; conv => whnf) | (refine ⟨fun c => ?_, fun c => ?_⟩) | (intro c) | fail))
              · have z3 := z2.trans (st := st) f3.S
                obtain ⟨k56_3, s0_3, ⟨s1_3, k57_3, l57_3⟩, s3_3, s4_3⟩ := hS.z z3.1 z3.2.1; obtain ⟨ks_3, ⟨sr1_3, sk1_3, sl1_3⟩, ⟨sr2_3, sk2_3, sl2_3⟩, ⟨sr3_3, sk3_3, sl3_3⟩, ⟨sr4_3, sk4_3, sl4_3⟩, ⟨sr5_3, sk5_3, sl5_3⟩, ⟨sr6_3, sk6_3, sl6_3⟩⟩ := hO.z z3.1 z3.2.1
                have g3 := z3.1
                have w0 : ∀ (r : Nat) (k : Int), 15 ≤ r → ¬ (st + 1 ≤ r ∧ r ≤ st + 5 ∧ k = N) → gG h3 r k = gG h r k := fun r k x y => by
                  rw [f3.2.2 _ _ (by omega) (by omega), f2.2.2 _ _ (by omega) (by omega) (by omega), f1.2.2 _ _ (by omega) (by omega), gG_sG, if_neg (by omega)]
                have p1 : gG h3 st 1 = c1 := (w0 _ _ (by omega) (by omega)).trans q1
                have p2 : gG h3 st 2 = N := (w0 _ _ (by omega) (by omega)).trans q2
                have p3 : gG h3 56 2 = D := (w0 _ _ (by omega) (by omega)).trans q3
                have p6 : gG h3 (st + 1) N = tC P n e := by rw [f3.2.2 _ _ (by omega) (by omega), f2.2.2 _ _ (by omega) (by omega) (by omega), f1.2.2 _ _ (by omega) (by omega), g_same]
                have ct3 : CT h3 st N rw2 := ct2.c (fun r x y => f3.2.2 _ _ (by omega) (by omega))
                rcases hw2 with ⟨cw, ew⟩ | ⟨cw, ew⟩
                · have z4 : FS st h3 (sG (sG (sG (sG h3 57 D N) 56 2 (D + 1)) st 2 (N + 1)) st 1 (c1 + 1)) := (((FS.refl.s (Or.inr (Or.inr rfl))).s (Or.inr (Or.inl ⟨rfl, rfl⟩))).s (Or.inl (sp_s (by omega)))).s (Or.inl (sp_s (by omega)))
                  have gm : ∀ (r : Nat) (i : Int), ¬ (r = st ∧ (i = 1 ∨ i = 2)) → ¬ (r = 56 ∧ i = 2) → ¬ (r = 57 ∧ i = D) → gG (sG (sG (sG (sG h3 57 D N) 56 2 (D + 1)) st 2 (N + 1)) st 1 (c1 + 1)) r i = gG h3 r i := fun r i x y z => by rw [gG_sG, if_neg (by omega), gG_sG, if_neg (by omega), gG_sG, if_neg (by omega), gG_sG, if_neg (by omega)]
                  have q := hq1 _ e3 _ hr4.symm (hN3.o rfl (fun _ => rfl) (fun r i x y _ => gm r i (by omega) (by omega) (by omega))) (CS_push (h' := sG (sG (sG (sG h3 57 D N) 56 2 (D + 1)) st 2 (N + 1)) st 1 (c1 + 1)) hI hCS ht2 v2 v3 g_same (by rw [g_ne (by omega), g_same]) (by rw [gG_sG, if_neg (by omega), gG_sG, if_neg (by omega), g_same, if_pos cw]) (fun j x y => by rw [gm _ _ (by omega) (by omega) (by omega)]; exact w0 _ _ (by omega) (by omega)) (fun _ => by rw [gG_sG, if_neg (by omega), gG_sG, if_neg (by omega), gG_sG, if_neg (by omega), g_same]) (by rw [gm _ _ (by omega) (by omega) (by omega)]; exact p6) (ct3.c (fun r x y => gm _ _ (by omega) (by omega) (by omega))) (fun r k x y x0 x1 => by rw [gm _ _ (by omega) (by omega) (by omega)]; exact w0 _ _ (by omega) (by omega))) (z3.trans z4)
                  have u1 : gG (sG h3 57 D N) 56 2 = D := by rw [gG_sG, if_neg (by omega)]; exact p3
                  have u2 : ∀ z, gG (sG (sG h3 57 D N) 56 2 z) st 2 = N := fun z => by rw [gG_sG, if_neg (by omega), gG_sG, if_neg (by omega)]; exact p2
                  have u3 : ∀ z y, gG (sG (sG (sG h3 57 D N) 56 2 z) st 2 y) st 1 = c1 := fun z y => by rw [g_ne (by omega), gG_sG, if_neg (by omega), gG_sG, if_neg (by omega)]; exact p1
                  have cD : D < 3 := by omega
                  (repeat' (first | (exact q) | (rw [gR_sG]) | (rw [s1_3]) | (rw [s3_3]) | (rw [p3]) | (rw [u1]) | (rw [u2]) | (rw [u3]) | (refine ⟨⟨k57_3, by omega, Int.lt_of_lt_of_le (by omega : _ < (3 : Int)) (Int.le_of_eq l57_3.symm)⟩, ?_⟩; conv => whnf) | (refine Ex_step ?_; conv => whnf) | (refine ⟨?_, trivial⟩) | (refine (show den _ _ _ _ _ _ _ _ from ?_); conv => whnf) | (refine ⟨fun c => False.elim (by omega), fun c => ?_⟩) | (refine ⟨fun c => ?_, fun c => False.elim (by omega)⟩) | (refine ⟨by (first | assumption | rfl | (exact Nat.le_of_ble_eq_true rfl) | (exact ⟨fun h01 => absurd h01 (by decide), by first | rfl | assumption⟩) | (exact ⟨fun _ => by decide, by first | rfl | assumption⟩) | (exact ⟨by assumption, by omega, by omega⟩) | (unfold inI; omega) | omega), ?_⟩; conv => whnf) | (refine ⟨fun c => ?_, fun c => ?_⟩) | (intro c) | fail))
                · have z4 : FS st h3 (sG (sG h3 st 2 (N + 1)) st 1 (c1 + 1)) := (FS.refl.s (Or.inl (sp_s (by omega)))).s (Or.inl (sp_s (by omega)))
                  have gm : ∀ (r : Nat) (i : Int), ¬ (r = st ∧ (i = 1 ∨ i = 2)) → gG (sG (sG h3 st 2 (N + 1)) st 1 (c1 + 1)) r i = gG h3 r i := fun r i x => by rw [gG_sG, if_neg (by omega), gG_sG, if_neg (by omega)]
                  have q := hq1 _ e3 _ hr4.symm (hN3.o rfl (fun _ => rfl) (fun r i x y _ => gm r i (by omega))) (CS_push (h' := sG (sG h3 st 2 (N + 1)) st 1 (c1 + 1)) hI hCS ht2 v2 v3 g_same (by rw [g_ne (by omega), g_same]) (by rw [gm _ _ (by omega), if_neg cw]; exact p3) (fun j x y => by rw [gm _ _ (by omega)]; exact w0 _ _ (by omega) (by omega)) (fun x => absurd x cw) (by rw [gm _ _ (by omega)]; exact p6) (ct3.c (fun r x y => gm _ _ (by omega))) (fun r k x y x0 x1 => by rw [gm _ _ (by omega)]; exact w0 _ _ (by omega) (by omega))) (z3.trans z4)
                  have u3 : ∀ y, gG (sG h3 st 2 y) st 1 = c1 := fun y => by rw [g_ne (by omega)]; exact p1
                  (repeat' (first | (exact q) | (rw [gR_sG]) | (rw [s3_3]) | (rw [p2]) | (rw [u3]) | (refine Ex_step ?_; conv => whnf) | (refine ⟨?_, trivial⟩) | (refine (show den _ _ _ _ _ _ _ _ from ?_); conv => whnf) | (refine ⟨fun c => False.elim (by omega), fun c => ?_⟩) | (refine ⟨fun c => ?_, fun c => False.elim (by omega)⟩) | (refine ⟨by (first | assumption | rfl | (exact Nat.le_of_ble_eq_true rfl) | (exact ⟨fun h01 => absurd h01 (by decide), by first | rfl | assumption⟩) | (exact ⟨fun _ => by decide, by first | rfl | assumption⟩) | (exact ⟨by assumption, by omega, by omega⟩) | (unfold inI; omega) | omega), ?_⟩; conv => whnf) | (refine ⟨fun c => ?_, fun c => ?_⟩) | (intro c) | fail))
          (repeat' (first | (exact rest _ (Or.inl ⟨by omega, rfl⟩)) | (exact rest _ (Or.inr ⟨by omega, rfl⟩)) | (rw [s0_0]) | (rw [a1]) | (rw [s3_0]) | (rw [q1]) | (rw [q2]) | (rw [q3]) | (refine w_beginsStep (by omega) (fun _ => ?_) (fun q => absurd ct q)) | (refine Ex_step ?_; conv => whnf) | (refine ⟨?_, trivial⟩) | (refine (show den _ _ _ _ _ _ _ _ from ?_); conv => whnf) | (refine ⟨fun c => False.elim (by omega), fun c => ?_⟩) | (refine ⟨fun c => ?_, fun c => False.elim (by omega)⟩) | (refine ⟨by (first | assumption | rfl | (exact Nat.le_of_ble_eq_true rfl) | (exact ⟨fun h01 => absurd h01 (by decide), by first | rfl | assumption⟩) | (exact ⟨fun _ => by decide, by first | rfl | assumption⟩) | (exact ⟨by assumption, by omega, by omega⟩) | (unfold inI; omega) | omega), ?_⟩; conv => whnf) | (refine ⟨fun c => ?_, fun c => ?_⟩) | (intro c) | fail))
    · rw [if_pos ct] at hr
      (repeat' (first | (exact q') | (rw [s0_0]) | (rw [a1]) | (refine w_beginsStep (by omega) (fun q => absurd q ct) (fun _ => ?_)) | (refine rf _ _ _ (by omega) hr (fun h' g' q' => ?_)) | (refine Ex_step ?_; conv => whnf) | (refine ⟨?_, trivial⟩) | (refine (show den _ _ _ _ _ _ _ _ from ?_); conv => whnf) | (refine ⟨fun c => False.elim (by omega), fun c => ?_⟩) | (refine ⟨fun c => ?_, fun c => False.elim (by omega)⟩) | (refine ⟨by (first | assumption | rfl | (exact Nat.le_of_ble_eq_true rfl) | (exact ⟨fun h01 => absurd h01 (by decide), by first | rfl | assumption⟩) | (exact ⟨fun _ => by decide, by first | rfl | assumption⟩) | (exact ⟨by assumption, by omega, by omega⟩) | (unfold inI; omega) | omega), ?_⟩; conv => whnf) | (refine ⟨fun c => ?_, fun c => ?_⟩) | (intro c) | fail))
