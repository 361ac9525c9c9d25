/-! LEVEL 2: texts: rows of decades, the class -/
/-- rows as the class has read them so far -/
def CS (h : Mem) (st : Nat) (R : Int → Int → Int) (N c D : Int) (O : Int → Int) : Prop := (gG h st 1 = c ∧ gG h st 2 = N ∧ gG h 56 2 = D) ∧ (∀ j, 0 ≤ j → j < D → gG h 57 j = O j) ∧ (∀ k, 0 ≤ k → k < N → gG h (st + 1) k = cwd (R k 0) ∧ CT h st k (R k)) ∧ (∀ k, 0 ≤ k → k < N → (R k 0 = 22 ∨ (isO (R k 0) ∧ ∀ j, 0 ≤ j → j < D → ¬ O j = k)) → gG h (st + 6) k = R k 4)
def FS (st : Nat) (h h' : Mem) : Prop := h'.1 = h.1 ∧ h'.2.2 = h.2.2 ∧ ∀ r i, ¬ SP st r → ¬ (r = 10 ∧ ¬ i = 0 ∧ ¬ i = 3 ∧ ¬ i = 4 ∧ ¬ i = 6) → ¬ (r = 12 ∨ r = 13 ∨ r = 14) → ¬ (r = 56 ∧ i = 2) → ¬ r = 57 → gG h' r i = gG h r i
def FSf (st : Nat) (h h' : Mem) (x : Int × Int) : Prop := h'.1 = h.1 ∧ h'.2.2 = h.2.2 ∧ (∀ r i, ¬ SP st r → ¬ (r = 10 ∧ ¬ i = 0 ∧ ¬ i = 6) → ¬ (r = 12 ∨ r = 13 ∨ r = 14) → ¬ (r = 56 ∧ i = 2) → ¬ r = 57 → gG h' r i = gG h r i) ∧ gG h' 10 3 = x.1 ∧ gG h' 10 4 = x.2
theorem FS.refl {st : Nat} {h : Mem} : FS st h h := ⟨rfl, rfl, fun _ _ _ _ _ _ _ => rfl⟩
theorem FS.trans {st : Nat} {h h' h'' : Mem} (a : FS st h h') (b : FS st h' h'') : FS st h h'' := ⟨b.1.trans a.1, b.2.1.trans a.2.1, fun r i p q t u v => (b.2.2 r i p q t u v).trans (a.2.2 r i p q t u v)⟩
theorem FX.S {st : Nat} {h h' : Mem} (a : FX h h') : FS st h h' := ⟨a.1, a.2.1, fun r i _ q t _ _ => a.2.2 r i q t⟩
theorem FW.S {st : Nat} {row : Int} {h h' : Mem} (a : FW st row h h') : FS st h h' := ⟨a.1, a.2.1, fun r i p q t _ _ => a.2.2 r i q t (fun e => p ⟨by omega, by omega⟩)⟩
theorem FS.s {st : Nat} {h h' : Mem} {r : Nat} {i z : Int} (a : FS st h h') (q : SP st r ∨ (r = 56 ∧ i = 2) ∨ r = 57) : FS st h (sG h' r i z) := ⟨a.1, a.2.1, fun r' i' p t u v w => by
  rw [gG_sG, if_neg (fun e => by
    rcases q with q | q | q
    · exact p (by rw [e.1]; exact q)
    · exact v ⟨by rw [e.1]; exact q.1, by rw [e.2]; exact q.2⟩
    · exact w (by rw [e.1]; exact q))]
  exact a.2.2 r' i' p t u v w⟩
theorem FS.f {st : Nat} {h h' h'' : Mem} {x : Int × Int} (a : FS st h h') (b : Ff h' h'' x) : FSf st h h'' x := ⟨b.1.trans a.1, b.2.1.trans a.2.1, fun r i p q t u v => (b.2.2.1 r i q t).trans (a.2.2 r i p (by omega) t u v), b.2.2.2⟩
theorem FS.ff {st : Nat} {h h' h'' : Mem} {x : Int × Int} (a : FS st h h') (b : FSf st h' h'' x) : FSf st h h'' x := ⟨b.1.trans a.1, b.2.1.trans a.2.1, fun r i p q t u v => (b.2.2.1 r i p q t u v).trans (a.2.2 r i p (by omega) t u v), b.2.2.2⟩
theorem FS.w {st : Nat} {row : Int} {h h' h'' : Mem} {x : Int × Int} (a : FS st h h') (b : FWf st row h' h'' x) : FSf st h h'' x := ⟨b.1.trans a.1, b.2.1.trans a.2.1, fun r i p q t u v => (b.2.2.1 r i q t (fun e => p ⟨by omega, by omega⟩)).trans (a.2.2 r i p (by omega) t u v), b.2.2.2⟩
theorem sp_s {st : Nat} {r : Nat} (h : st ≤ r ∧ r ≤ st + 6) : SP st r := h
theorem CS.c {h h' : Mem} {st : Nat} {R : Int → Int → Int} {N c D : Int} {O : Int → Int} (q : CS h st R N c D O) (e1 : ∀ r i, st ≤ r → r ≤ st + 6 → gG h' r i = gG h r i) (e2 : gG h' 56 2 = gG h 56 2) (e3 : ∀ i, gG h' 57 i = gG h 57 i) : CS h' st R N c D O := by
  obtain ⟨⟨q1, q2, q3⟩, q4, q5, q6⟩ := q
  refine ⟨⟨(e1 _ _ (by omega) (by omega)).trans q1, (e1 _ _ (by omega) (by omega)).trans q2, e2.trans q3⟩, fun j a b => (e3 j).trans (q4 j a b), fun k a b => ⟨(e1 _ _ (by omega) (by omega)).trans (q5 k a b).1, (q5 k a b).2.c (fun r x y => e1 r k (by omega) (by omega))⟩, fun k a b x => (e1 _ _ (by omega) (by omega)).trans (q6 k a b x)⟩
theorem CS.x {h h' : Mem} {st : Nat} {R : Int → Int → Int} {N c D : Int} {O : Int → Int} (q : CS h st R N c D O) (hs : 15 ≤ st) (a : FX h h') : CS h' st R N c D O := q.c (fun r i x y => a.2.2 r i (by omega) (by omega)) (a.2.2 _ _ (by omega) (by omega)) (fun i => a.2.2 _ _ (by omega) (by omega))
theorem CT_w {h : Mem} {st : Nat} {row : Int} {rw : Int → Int} (h1 : rw 0 = 22) : CT h st row rw := by
  unfold CT
  rw [h1]
  exact ⟨fun q => by omega, fun q => by omega, fun q => by omega, fun q => by omega⟩
theorem CT_4 {h : Mem} {st : Nat} {row : Int} {r r' : Int → Int} (q : CT h st row r) (e : ∀ j, ¬ j = 4 → r' j = r j) : CT h st row r' := by
  unfold CT at *
  rw [e 0 (by omega), e 1 (by omega), e 2 (by omega), e 5 (by omega)]
  exact q
/-- an end is laid -/
theorem CS_end {h : Mem} {st : Nat} {A : Int → Int} {R : Int → Int → Int} {N c D : Int} {O : Int → Int} (hs : 58 < st ∨ st + 6 < 56) (hI : DI A R N c D O) (hD : ¬ D ≤ 0) (q : CS h st R N c D O) : CS (sG (sG (sG (sG (sG h 56 2 (D - 1)) (st + 1) N 23) (st + 6) N (O (D - 1))) (st + 6) (O (D - 1)) N) st 2 (N + 1)) st (clR R N (O (D - 1))) (N + 1) c (D - 1) O := by
  obtain ⟨⟨q1, q2, q3⟩, q4, q5, q6⟩ := q
  obtain ⟨h1, h2, h3, h4, h5, h6, -⟩ := hI
  obtain ⟨o0, o1, o2⟩ := h2 (D - 1) (by omega) (by omega)
  have e22 := isO_22 o2
  have l0 : ∀ k, ¬ k = N → clR R N (O (D - 1)) k 0 = R k 0 := fun k q => clR_j q (by omega)
  refine ⟨⟨?_, ?_, ?_⟩, fun j a b => ?_, fun k a b => ⟨?_, ?_⟩, fun k a b x => ?_⟩
  · rw [gG_sG, if_neg (by omega), gG_sG, if_neg (by omega), gG_sG, if_neg (by omega), gG_sG, if_neg (by omega), gG_sG, if_neg (by omega)]; exact q1
  · rw [g_same]
  · rw [gG_sG, if_neg (by omega), gG_sG, if_neg (by omega), gG_sG, if_neg (by omega), gG_sG, if_neg (by omega), g_same]
  · rw [gG_sG, if_neg (by omega), gG_sG, if_neg (by omega), gG_sG, if_neg (by omega), gG_sG, if_neg (by omega), gG_sG, if_neg (by omega)]; exact q4 j a (by omega)
  · rw [gG_sG, if_neg (by omega), gG_sG, if_neg (by omega), gG_sG, if_neg (by omega)]
    by_cases e : k = N
    · rw [e, g_same, clR_e.1]; rfl
    · rw [g_ne e, gG_sG, if_neg (by omega), l0 k e]; exact (q5 k a (by omega)).1
  · by_cases e : k = N
    · rw [e]; exact CT_w clR_e.1
    · refine CT_4 (r := R k) (CT.c (q5 k a (by omega)).2 (fun r x y => ?_)) (fun j q => clR_j e q)
      rw [gG_sG, if_neg (by omega), gG_sG, if_neg (by omega), gG_sG, if_neg (by omega), gG_sG, if_neg (by omega), gG_sG, if_neg (by omega)]
  · rw [gG_sG, if_neg (by omega)]
    by_cases eo : k = O (D - 1)
    · rw [eo, g_same, clR_o (by omega)]
    · rw [g_ne eo]
      by_cases e : k = N
      · rw [e, g_same, clR_e.2]
      · rw [g_ne e, gG_sG, if_neg (by omega), gG_sG, if_neg (by omega), clR_n e eo]
        refine q6 k a (by omega) ?_
        rw [l0 k e] at x
        rcases x with x | ⟨x, y⟩
        · exact Or.inl x
        · refine Or.inr ⟨x, fun j j0 j1 => ?_⟩
          by_cases ej : j = D - 1
          · rw [ej]; exact fun q => eo q.symm
          · exact y j j0 (by omega)
/-- a step is laid -/
theorem CS_push {h h' : Mem} {st : Nat} {A : Int → Int} {R : Int → Int → Int} {N c D t : Int} {O rw : Int → Int} (hI : DI A R N c D O) (q : CS h st R N c D O) (ht : cwd (rw 0) = t) (h22 : ¬ rw 0 = 22) (ho : (t = 20 ∨ t = 22) ↔ (rw 0 = 21 ∨ 2000 ≤ rw 0)) (e1 : gG h' st 1 = c + 1) (e2 : gG h' st 2 = N + 1) (e3 : gG h' 56 2 = if t = 20 ∨ t = 22 then D + 1 else D) (e4 : ∀ j, 0 ≤ j → j < D → gG h' 57 j = gG h 57 j) (e5 : (t = 20 ∨ t = 22) → gG h' 57 D = N) (e6 : gG h' (st + 1) N = t) (e7 : CT h' st N rw) (e8 : ∀ (r : Nat) (k : Int), st + 1 ≤ r → r ≤ st + 6 → 0 ≤ k → k < N → gG h' r k = gG h r k) : CS h' st (opR R N rw) (N + 1) (c + 1) (if t = 20 ∨ t = 22 then D + 1 else D) (if t = 20 ∨ t = 22 then pu O D N else O) := by
  obtain ⟨⟨q1, q2, q3⟩, q4, q5, q6⟩ := q
  obtain ⟨h1, h2, -⟩ := hI
  refine ⟨⟨e1, e2, e3⟩, fun j a b => ?_, fun k a b => ?_, fun k a b x => ?_⟩
  · by_cases c0 : t = 20 ∨ t = 22
    · rw [if_pos c0] at b ⊢
      by_cases ej : j = D
      · rw [ej, pu_e]; exact e5 c0
      · rw [pu_n ej, e4 j a (by omega)]; exact q4 j a (by omega)
    · rw [if_neg c0] at b ⊢
      rw [e4 j a b]; exact q4 j a b
  · by_cases e : k = N
    · rw [e, opR_e]; exact ⟨by rw [e6, ht], e7⟩
    · rw [opR_n e, e8 _ k (by omega) (by omega) a (by omega)]
      exact ⟨(q5 k a (by omega)).1, (q5 k a (by omega)).2.c (fun r x y => e8 r k (by omega) (by omega) a (by omega))⟩
  · by_cases e : k = N
    · rw [e, opR_e] at x
      rcases x with x | ⟨x, y⟩
      · exact absurd x h22
      · have c0 := ho.mpr x
        rw [if_pos c0, if_pos c0] at y
        have := y D (by omega) (by omega)
        rw [pu_e] at this
        exact absurd rfl this
    · rw [opR_n e] at x ⊢
      rw [e8 _ k (by omega) (by omega) a (by omega)]
      refine q6 k a (by omega) ?_
      rcases x with x | ⟨x, y⟩
      · exact Or.inl x
      · refine Or.inr ⟨x, fun j j0 j1 => ?_⟩
        by_cases c0 : t = 20 ∨ t = 22
        · have := y j j0 (by rw [if_pos c0]; omega)
          rw [if_pos c0, pu_n (by omega)] at this
          exact this
        · have := y j j0 (by rw [if_neg c0]; exact j1)
          rw [if_neg c0] at this
          exact this
set_option maxHeartbeats 1600000 in
theorem w_beginsStep {X : Int → Int} {XL : Int} {d : Nat} {h : Mem} {Q : RetP} {t : Int} (hd : 1 ≤ d) (hq1 : t = 1 ∨ (14 ≤ t ∧ t ≤ 20) ∨ t = 22 ∨ t = 24 → Q (some (vI 1)) h) (hq0 : ¬ (t = 1 ∨ (14 ≤ t ∧ t ≤ 20) ∨ t = 22 ∨ t = 24) → Q (some (vI 0)) h) : WP X XL d 86 [vI t] h Q := by
  refine eX4_beginsStep hd ?_
  by_cases ct : t = 1 ∨ (14 ≤ t ∧ t ≤ 20) ∨ t = 22 ∨ t = 24
  · have q := hq1 ct
    rcases (show t = 1 ∨ t = 14 ∨ t = 15 ∨ t = 16 ∨ t = 17 ∨ t = 18 ∨ t = 19 ∨ t = 20 ∨ t = 22 ∨ t = 24 by omega) with e | e | e | e | e | e | e | e | e | e
    all_goals ((repeat' (first | (exact q) | (refine Ex_step ?_; conv => whnf) | (refine ⟨?_, trivial⟩) | (refine (show den _ _ _ _ _ _ _ _ from ?_); conv => whnf) | (refine ⟨fun c => False.elim (by omega), fun c => ?_⟩) | (refine ⟨fun c => ?_, fun c => False.elim (by omega)⟩) | (refine ⟨by (first | assumption | rfl | (exact Nat.le_of_ble_eq_true rfl) | (exact ⟨fun h01 => absurd h01 (by decide), by first | rfl | assumption⟩) | (exact ⟨fun _ => by decide, by first | rfl | assumption⟩) | (exact ⟨by assumption, by omega, by omega⟩) | (unfold inI; omega) | omega), ?_⟩; conv => whnf) | (refine ⟨fun c => ?_, fun c => ?_⟩) | (intro c) | fail)))
  · have q := hq0 ct
    (repeat' (first | (exact q) | (refine Ex_step ?_; conv => whnf) | (refine ⟨?_, trivial⟩) | (refine (show den _ _ _ _ _ _ _ _ from ?_); conv => whnf) | (refine ⟨fun c => False.elim (by omega), fun c => ?_⟩) | (refine ⟨fun c => ?_, fun c => False.elim (by omega)⟩) | (refine ⟨by (first | assumption | rfl | (exact Nat.le_of_ble_eq_true rfl) | (exact ⟨fun h01 => absurd h01 (by decide), by first | rfl | assumption⟩) | (exact ⟨fun _ => by decide, by first | rfl | assumption⟩) | (exact ⟨by assumption, by omega, by omega⟩) | (unfold inI; omega) | omega), ?_⟩; conv => whnf) | (refine ⟨fun c => ?_, fun c => ?_⟩) | (intro c) | fail))
set_option maxHeartbeats 1600000 in
theorem w_te49 {X : Int → Int} {XL : Int} {d : Nat} {h : Mem} {Q : RetP} {v st : Nat} {S1 : List (Nat × Nat)} {N D o : Int} (hS : SR h st v) (hO : SOk h st) (hsr : 58 < st ∨ st + 6 < 56) (hS1 : h.1 = S1) (p2 : gG h st 2 = N) (p3 : gG h 56 2 = D) (p4 : gG h 57 (D - 1) = o) (hD : 0 < D ∧ D ≤ 3) (hN : 0 ≤ N ∧ N < 60) (ho : 0 ≤ o ∧ o < 60) (q : Q (some (vI 1)) (sG (sG (sG (sG (sG h 56 2 (D - 1)) (st + 1) N 23) (st + 6) N o) (st + 6) o N) st 2 (N + 1))) : Ex (WP X XL d) KX4_takeEnd S1 Q 49 [some (vR 56), none] [] h := by
  obtain ⟨k56, -, ⟨s1, k57, l57⟩, s3, -⟩ := id hS
  have ks := hO.1
  obtain ⟨sr1, sk1, sl1⟩ := hO.2.1
  obtain ⟨sr6, sk6, sl6⟩ := hO.2.2.2.2.2.2
  have u1 : gG (sG h 56 2 (D - 1)) st 2 = N := by rw [gG_sG, if_neg (by omega)]; exact p2
  have u2 : gG (sG (sG h 56 2 (D - 1)) (st + 1) N 23) 56 2 = D - 1 := by rw [gG_sG, if_neg (by omega), g_same]
  have u3 : gG (sG (sG h 56 2 (D - 1)) (st + 1) N 23) 57 (D - 1) = o := by rw [gG_sG, if_neg (by omega), gG_sG, if_neg (by omega)]; exact p4
  have u4 : gG (sG (sG (sG h 56 2 (D - 1)) (st + 1) N 23) (st + 6) N o) 56 2 = D - 1 := by rw [gG_sG, if_neg (by omega)]; exact u2
  have u5 : gG (sG (sG (sG h 56 2 (D - 1)) (st + 1) N 23) (st + 6) N o) 57 (D - 1) = o := by rw [gG_sG, if_neg (by omega)]; exact u3
  have u6 : gG (sG (sG (sG (sG h 56 2 (D - 1)) (st + 1) N 23) (st + 6) N o) (st + 6) o N) st 2 = N := by rw [gG_sG, if_neg (by omega), gG_sG, if_neg (by omega), gG_sG, if_neg (by omega)]; exact u1
  (repeat' (first | (exact q) | (rw [gR_sG]) | (rw [s3]) | (rw [s1]) | (rw [sr1]) | (rw [sr6]) | (rw [p3]) | (rw [u1]) | (rw [u2]) | (rw [u3]) | (rw [u4]) | (rw [u5]) | (rw [u6]) | (refine ⟨⟨sk1, by omega, Int.lt_of_lt_of_le (by omega : _ < (60 : Int)) (Int.le_of_eq sl1.symm)⟩, ?_⟩; conv => whnf) | (refine ⟨⟨sk6, by omega, Int.lt_of_lt_of_le (by omega : _ < (60 : Int)) (Int.le_of_eq sl6.symm)⟩, ?_⟩; conv => whnf) | (refine ⟨⟨k57, by omega, Int.lt_of_lt_of_le (by omega : _ < (3 : Int)) (Int.le_of_eq l57.symm)⟩, ?_⟩; conv => whnf) | (refine Ex_step ?_; conv => whnf) | (refine ⟨?_, trivial⟩) | (refine (show den _ _ _ _ _ _ _ _ from ?_); conv => whnf) | (refine ⟨fun c => False.elim (by omega), fun c => ?_⟩) | (refine ⟨fun c => ?_, fun c => False.elim (by omega)⟩) | (refine ⟨by (first | assumption | rfl | (exact Nat.le_of_ble_eq_true rfl) | (exact ⟨fun h01 => absurd h01 (by decide), by first | rfl | assumption⟩) | (exact ⟨fun _ => by decide, by first | rfl | assumption⟩) | (exact ⟨by assumption, by omega, by omega⟩) | (unfold inI; omega) | omega), ?_⟩; conv => whnf) | (refine ⟨fun c => ?_, fun c => ?_⟩) | (intro c) | fail))
set_option maxHeartbeats 1600000 in
theorem w_takeEnd {X : Int → Int} {XL : Int} {d : Nat} {h : Mem} {Q : RetP} {K : Int} {A Nm : Int → Int} {v st : Nat} {P : Int → Int} {n e : Int} {c : Nat} {R : Int → Int → Int} {N c1 D : Int} {O : Int → Int} {r : (Int × Int) ⊕ (DS × Int)} (hd : 4 ≤ d) (hS : SR h st v) (hO : SOk h st) (hst : 15 ≤ st ∧ 15 ≤ v ∧ (st + 6 < v ∨ v + 12 < st)) (hA : At h P n e c) (hV : Vr K h v A) (hT : VAt h v) (hNm : gG h (v + 4) = Nm) (hsr : 58 < st ∨ st + 6 < 56) (hvr : 58 < v ∨ v + 12 < 56) (hI : DI A R N c1 D O) (hCS : CS h st R N c1 D O) (hc : c ≤ 2) (h23 : tC P n e = 23) (hr : (if D ≤ 0 then .inl (fltK P n e 2, tF P n e) else bd (pTok P n (tE P n e) 28) (fun e2 => .inr (dEnd R N c1 D O, e2))) = r) (hq0 : ∀ x h', r = .inl x → FSf st h h' x → Q (some (vI 0)) h') (hq1 : ∀ e' h', r = .inr (dEnd R N c1 D O, e') → Nx h' P n e' → CS h' st (clR R N (O (D - 1))) (N + 1) c1 (D - 1) O → FS st h h' → Q (some (vI 1)) h') : WP X XL d 87 [vR 56] h Q := by
  have k56_0 := (hS.z rfl rfl).1; have s0_0 := (hS.z rfl rfl).2.1; have s3_0 := (hS.z rfl rfl).2.2.2.1; have ks_0 := (hO.z rfl rfl).1
  have k10 := hA.X
  obtain ⟨⟨q1, q2, q3⟩, -⟩ := id hCS
  obtain ⟨i1, i2, -⟩ := id hI
  refine eX4_takeEnd (by omega) ?_
  by_cases cD : D ≤ 0
  · rw [if_pos cD] at hr
    (repeat' (first | (rw [q3]) | (rw [s0_0]) | (refine Ex_step ?_; conv => whnf) | (refine ⟨?_, trivial⟩) | (refine (show den _ _ _ _ _ _ _ _ from ?_); conv => whnf) | (refine ⟨fun c => False.elim (by omega), fun c => ?_⟩) | (refine ⟨fun c => ?_, fun c => False.elim (by omega)⟩) | (refine ⟨by (first | assumption | rfl | (exact Nat.le_of_ble_eq_true rfl) | (exact ⟨fun h01 => absurd h01 (by decide), by first | rfl | assumption⟩) | (exact ⟨fun _ => by decide, by first | rfl | assumption⟩) | (exact ⟨by assumption, by omega, by omega⟩) | (unfold inI; omega) | omega), ?_⟩; conv => whnf) | (refine ⟨fun c => ?_, fun c => ?_⟩) | fail))
    refine k_refuse (by omega) hA hr (fun x h1 er ff => ?_)
    have q := hq0 x h1 er (FS.refl.f ff)
    have g1 := ff.1
    (repeat' (first | (exact q) | (refine Ex_step ?_; conv => whnf) | (refine ⟨?_, trivial⟩) | (refine (show den _ _ _ _ _ _ _ _ from ?_); conv => whnf) | (refine ⟨fun c => False.elim (by omega), fun c => ?_⟩) | (refine ⟨fun c => ?_, fun c => False.elim (by omega)⟩) | (refine ⟨by (first | assumption | rfl | (exact Nat.le_of_ble_eq_true rfl) | (exact ⟨fun h01 => absurd h01 (by decide), by first | rfl | assumption⟩) | (exact ⟨fun _ => by decide, by first | rfl | assumption⟩) | (exact ⟨by assumption, by omega, by omega⟩) | (unfold inI; omega) | omega), ?_⟩; conv => whnf) | (refine ⟨fun c => ?_, fun c => ?_⟩) | (intro c) | fail))
  · rw [if_neg cD] at hr
    obtain ⟨o0, o1, -⟩ := i2 (D - 1) (by omega) (by omega)
    (repeat' (first | (rw [q3]) | (rw [s3_0]) | (rw [q2]) | (rw [s0_0]) | (refine Ex_step ?_; conv => whnf) | (refine ⟨?_, trivial⟩) | (refine (show den _ _ _ _ _ _ _ _ from ?_); conv => whnf) | (refine ⟨fun c => False.elim (by omega), fun c => ?_⟩) | (refine ⟨fun c => ?_, fun c => False.elim (by omega)⟩) | (refine ⟨by (first | assumption | rfl | (exact Nat.le_of_ble_eq_true rfl) | (exact ⟨fun h01 => absurd h01 (by decide), by first | rfl | assumption⟩) | (exact ⟨fun _ => by decide, by first | rfl | assumption⟩) | (exact ⟨by assumption, by omega, by omega⟩) | (unfold inI; omega) | omega), ?_⟩; conv => whnf) | (refine ⟨fun c => ?_, fun c => ?_⟩) | fail))
    refine w_advA (by omega) hA (by omega) (by rw [h23]; unfold isE; omega) (fun h1 hA1 f1 => ?_)
    have z1 : FS st h h1 := f1.S
    clear k56_0 s0_0 s3_0 ks_0 k10
    have k56_1 := (hS.z z1.1 z1.2.1).1; have s0_1 := (hS.z z1.1 z1.2.1).2.1; have s3_1 := (hS.z z1.1 z1.2.1).2.2.2.1; have ks_1 := (hO.z z1.1 z1.2.1).1
    have k101 := hA1.X
    (repeat' (first | (rw [s0_1]) | (refine Ex_step ?_; conv => whnf) | (refine ⟨?_, trivial⟩) | (refine (show den _ _ _ _ _ _ _ _ from ?_); conv => whnf) | (refine ⟨fun c => False.elim (by omega), fun c => ?_⟩) | (refine ⟨fun c => ?_, fun c => False.elim (by omega)⟩) | (refine ⟨by (first | assumption | rfl | (exact Nat.le_of_ble_eq_true rfl) | (exact ⟨fun h01 => absurd h01 (by decide), by first | rfl | assumption⟩) | (exact ⟨fun _ => by decide, by first | rfl | assumption⟩) | (exact ⟨by assumption, by omega, by omega⟩) | (unfold inI; omega) | omega), ?_⟩; conv => whnf) | (refine ⟨fun c => ?_, fun c => ?_⟩) | fail))
    refine k_semi (by omega) hA1 hr (fun x h2 er ff => ?_) (fun e2 h2 hr2 hN2 f2 => ?_)
    · have q := hq0 x h2 er (z1.f ff)
      have g2 := ff.1.trans z1.1
      (repeat' (first | (exact q) | (refine Ex_step ?_; conv => whnf) | (refine ⟨?_, trivial⟩) | (refine (show den _ _ _ _ _ _ _ _ from ?_); conv => whnf) | (refine ⟨fun c => False.elim (by omega), fun c => ?_⟩) | (refine ⟨fun c => ?_, fun c => False.elim (by omega)⟩) | (refine ⟨by (first | assumption | rfl | (exact Nat.le_of_ble_eq_true rfl) | (exact ⟨fun h01 => absurd h01 (by decide), by first | rfl | assumption⟩) | (exact ⟨fun _ => by decide, by first | rfl | assumption⟩) | (exact ⟨by assumption, by omega, by omega⟩) | (unfold inI; omega) | omega), ?_⟩; conv => whnf) | (refine ⟨fun c => ?_, fun c => ?_⟩) | (intro c) | fail))
    · have z2 := z1.trans (st := st) f2.S
      have hC2 := (hCS.x hst.1 f1).x hst.1 f2
      have z3 : FS st h2 (sG (sG (sG (sG (sG h2 56 2 (D - 1)) (st + 1) N 23) (st + 6) N (O (D - 1))) (st + 6) (O (D - 1)) N) st 2 (N + 1)) := ((((FS.refl.s (Or.inr (Or.inl ⟨rfl, rfl⟩))).s (Or.inl (sp_s (by omega)))).s (Or.inl (sp_s (by omega)))).s (Or.inl (sp_s (by omega)))).s (Or.inl (sp_s (by omega)))
      have q := hq1 e2 (sG (sG (sG (sG (sG h2 56 2 (D - 1)) (st + 1) N 23) (st + 6) N (O (D - 1))) (st + 6) (O (D - 1)) N) st 2 (N + 1)) hr2.symm (hN2.o rfl (fun _ => rfl) (fun r i x y _ => by rw [gG_sG, if_neg (by omega), gG_sG, if_neg (by omega), gG_sG, if_neg (by omega), gG_sG, if_neg (by omega), gG_sG, if_neg (by omega)])) (CS_end hsr hI cD hC2) (z2.trans z3)
      have l := w_te49 (X := X) (XL := XL) (d := d - 1) (hS.z z2.1 z2.2.1) (hO.z z2.1 z2.2.1) hsr z2.1 hC2.1.2.1 hC2.1.2.2 (hC2.2.1 (D - 1) (by omega) (by omega)) (by omega) (by omega) (by omega) q
      (repeat' (first | (exact l) | (refine Ex_step ?_; conv => whnf) | (refine ⟨?_, trivial⟩) | (refine (show den _ _ _ _ _ _ _ _ from ?_); conv => whnf) | (refine ⟨fun c => False.elim (by omega), fun c => ?_⟩) | (refine ⟨fun c => ?_, fun c => False.elim (by omega)⟩) | (refine ⟨by (first | assumption | rfl | (exact Nat.le_of_ble_eq_true rfl) | (exact ⟨fun h01 => absurd h01 (by decide), by first | rfl | assumption⟩) | (exact ⟨fun _ => by decide, by first | rfl | assumption⟩) | (exact ⟨by assumption, by omega, by omega⟩) | (unfold inI; omega) | omega), ?_⟩; conv => whnf) | (refine ⟨fun c => ?_, fun c => ?_⟩) | (intro c) | fail))
theorem bd_r {α : Type} {a : (Int × Int) ⊕ α} : bd a Sum.inr = a := by cases a <;> rfl
theorem cwd_t {A : Int → Int} {P : Int → Int} {n e t : Int} {Nm : Int → Int} {q : (Int → Int) × Int} (ht : t = 1 ∨ (14 ≤ t ∧ t ≤ 20) ∨ t = 22 ∨ t = 24) (h1 : 0 ≤ A 1) (h : dRest P n e A Nm t = .inr q) : cwd (q.1 0) = t := by
  obtain ⟨w14, w17, w19, w24, -⟩ := wR_v
  by_cases c20 : t = 20
  · have hd : dRest P n e A Nm t = dTest P n e A Nm := by
      unfold dRest
      rw [if_neg (by omega), if_neg (by omega), if_neg (by omega), if_neg (by omega), if_neg (by omega), if_neg (by omega), if_pos c20]
    rw [hd] at h
    have := (dTest_v h1 h).2
    unfold cwd
    rw [if_pos this, c20]
  · have hw : q.1 0 < 2000 ∧ (q.1 0 = t ∧ t ≤ 19 ∨ q.1 0 = 21 ∧ t = 22 ∨ q.1 0 = 23 ∧ t = 24) := by
      unfold dRest at h
      split at h
      · rename_i c
        obtain ⟨a1, x1, h⟩ := bd_i h
        have ew : wR t = t := by rcases c with e | e <;> rw [e] <;> assumption
        rw [← Sum.inr.inj h]; show wR t < 2000 ∧ (wR t = t ∧ _ ∨ _ ∨ _); omega
      · split at h
        · obtain ⟨a1, x1, h⟩ := bd_i h
          obtain ⟨a2, x2, h⟩ := bd_i h
          rw [← Sum.inr.inj h]; show (15 : Int) < 2000 ∧ ((15 : Int) = t ∧ _ ∨ _ ∨ _); omega
        · split at h
          · obtain ⟨a1, x1, h⟩ := bd_i h
            rw [← Sum.inr.inj h]; show (16 : Int) < 2000 ∧ ((16 : Int) = t ∧ _ ∨ _ ∨ _); omega
          · split at h
            · obtain ⟨a1, x1, h⟩ := bd_i h
              rw [← Sum.inr.inj h]; show (18 : Int) < 2000 ∧ ((18 : Int) = t ∧ _ ∨ _ ∨ _); omega
            · split at h
              · obtain ⟨a1, x1, h⟩ := bd_i h
                rw [← Sum.inr.inj h]; show (1 : Int) < 2000 ∧ ((1 : Int) = t ∧ _ ∨ _ ∨ _); omega
              · split at h
                · obtain ⟨a1, x1, h⟩ := bd_i h
                  rw [← Sum.inr.inj h]; show (21 : Int) < 2000 ∧ ((21 : Int) = t ∧ _ ∨ (21 : Int) = 21 ∧ _ ∨ _); omega
                · have ew : (t = 19 ∧ wR t = 19) ∨ (t = 24 ∧ wR t = 23) := by
                    rcases (show t = 19 ∨ t = 24 by omega) with e | e
                    · exact Or.inl ⟨e, by rw [e]; exact w19⟩
                    · exact Or.inr ⟨e, by rw [e]; exact w24⟩
                  rw [← Sum.inr.inj h]; show wR t < 2000 ∧ (wR t = t ∧ _ ∨ wR t = 21 ∧ _ ∨ wR t = 23 ∧ _); omega
    unfold cwd
    rw [if_neg (by omega)]
    split <;> omega
