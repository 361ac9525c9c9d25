/-! LEVEL 2: texts: the class's reading -/
def eN (P : Int → Int) (n e0 : Int) : Nat → Int
  | 0 => e0
  | j + 1 => tE P n (eN P n e0 j)
theorem eN_b {P : Int → Int} {n e0 : Int} (h : 0 ≤ e0 ∧ e0 ≤ n) : ∀ j, 0 ≤ eN P n e0 j ∧ eN P n e0 j ≤ n := by
  intro j; induction j with
  | zero => exact h
  | succ j ih =>
    have := tE_b (P := P) ih.2
    have := tF_b (P := P) ih.2
    show 0 ≤ tE P n (eN P n e0 j) ∧ tE P n (eN P n e0 j) ≤ n
    omega
def isE (c : Int) : Prop := c = 28 ∨ c = 32 ∨ c = 33
/-- T tokens gathered from e0 on -/
def Gth (h : Mem) (P : Int → Int) (n e0 : Int) (T : Nat) : Prop := (0 ≤ e0 ∧ e0 ≤ n) ∧ TxM h P n ∧ gG h 10 11 = T ∧ gG h 10 7 = eN P n e0 T ∧ ∀ j : Nat, j < T → gG h 12 j = tC P n (eN P n e0 j) ∧ gG h 13 j = tF P n (eN P n e0 j) ∧ TokV P n (eN P n e0 j) (gG h 14 j)
/-- what reading changes, faults apart -/
def FX (h h' : Mem) : Prop := h'.1 = h.1 ∧ h'.2.2 = h.2.2 ∧ ∀ r i, ¬ (r = 10 ∧ ¬ i = 0 ∧ ¬ i = 3 ∧ ¬ i = 4 ∧ ¬ i = 6) → ¬ (r = 12 ∨ r = 13 ∨ r = 14) → gG h' r i = gG h r i
theorem FX.refl {h : Mem} : FX h h := ⟨rfl, rfl, fun _ _ _ _ => rfl⟩
theorem FX.trans {h h' h'' : Mem} (a : FX h h') (b : FX h' h'') : FX h h'' := ⟨b.1.trans a.1, b.2.1.trans a.2.1, fun r i p q => (b.2.2 r i p q).trans (a.2.2 r i p q)⟩
theorem FX.s {h h' : Mem} {r : Nat} {i z : Int} (a : FX h h') (q : (r = 10 ∧ ¬ i = 0 ∧ ¬ i = 3 ∧ ¬ i = 4 ∧ ¬ i = 6) ∨ r = 12 ∨ r = 13 ∨ r = 14) : FX h (sG h' r i z) := ⟨a.1, a.2.1, fun r' i' p t => by rw [gG_sG, if_neg (by omega)]; exact a.2.2 r' i' p t⟩
theorem Ft.X {s : Int} {h h' : Mem} (a : Ft s h h') : FX h h' := ⟨a.1, a.2.1, fun r i p q => a.2.2 r i (by omega) (by omega) (by omega)⟩
theorem FX.M {h h' : Mem} {P : Int → Int} {n : Int} (a : FX h h') (hM : TxM h P n) : TxM h' P n := hM.c a.1 (fun i => by unfold gR; rw [a.2.1]) (a.2.2 _ _ (by omega) (by omega)) (fun i => a.2.2 _ _ (by omega) (by omega))
/-- the token at e stands next, the c-th of its sentence -/
def At (h : Mem) (P : Int → Int) (n e : Int) (c : Nat) : Prop := ∃ e0 T, Gth h P n e0 T ∧ eN P n e0 c = e ∧ (c < T ∧ T ≤ 12) ∧ (∀ j, j + 1 < T → ¬ isE (tC P n (eN P n e0 j))) ∧ (T < 12 → isE (tC P n (eN P n e0 (T - 1)))) ∧ gG h 10 12 = c ∧ gG h 10 1 = tC P n e ∧ gG h 10 13 = tF P n e ∧ TokV P n e (gG h 10 2)
/-- between two sentences: e is to be read on from -/
def Nx (h : Mem) (P : Int → Int) (n e : Int) : Prop := TxM h P n ∧ (0 ≤ e ∧ e ≤ n) ∧ gG h 10 7 = e
theorem At.M {h : Mem} {P : Int → Int} {n e : Int} {c : Nat} (a : At h P n e c) : TxM h P n ∧ (0 ≤ e ∧ e ≤ n) ∧ gG h 10 1 = tC P n e ∧ gG h 10 13 = tF P n e ∧ TokV P n e (gG h 10 2) := by
  obtain ⟨e0, T, g, ee, -, -, -, -, a1, a2, a3⟩ := a
  exact ⟨g.2.1, by rw [← ee]; exact eN_b g.1 c, a1, a2, a3⟩
/-- other cells may change -/
theorem At.o {h h' : Mem} {P : Int → Int} {n e : Int} {c : Nat} (a : At h P n e c) (e1 : h'.1 = h.1) (e2 : ∀ i, gR h' 10 i = gR h 10 i) (e3 : ∀ r i, 10 ≤ r → r ≤ 14 → ¬ (r = 10 ∧ (i = 0 ∨ i = 3 ∨ i = 4)) → gG h' r i = gG h r i) : At h' P n e c := by
  obtain ⟨e0, T, ⟨g1, g2, g3, g4, g5⟩, ee, hc, t1, t2, a0, a1, a2, a3⟩ := a
  refine ⟨e0, T, ⟨g1, g2.c e1 e2 (e3 _ _ (by omega) (by omega) (by omega)) (fun i => e3 _ _ (by omega) (by omega) (by omega)), (e3 _ _ (by omega) (by omega) (by omega)).trans g3, (e3 _ _ (by omega) (by omega) (by omega)).trans g4, fun j hj => ?_⟩, ee, hc, t1, t2, (e3 _ _ (by omega) (by omega) (by omega)).trans a0, (e3 _ _ (by omega) (by omega) (by omega)).trans a1, (e3 _ _ (by omega) (by omega) (by omega)).trans a2, by rw [e3 _ _ (by omega) (by omega) (by omega)]; exact a3⟩
  rw [e3 _ _ (by omega) (by omega) (by omega), e3 _ _ (by omega) (by omega) (by omega), e3 _ _ (by omega) (by omega) (by omega)]
  exact g5 j hj
theorem Nx.o {h h' : Mem} {P : Int → Int} {n e : Int} (a : Nx h P n e) (e1 : h'.1 = h.1) (e2 : ∀ i, gR h' 10 i = gR h 10 i) (e3 : ∀ r i, 10 ≤ r → r ≤ 14 → ¬ (r = 10 ∧ (i = 0 ∨ i = 3 ∨ i = 4)) → gG h' r i = gG h r i) : Nx h' P n e := ⟨a.1.c e1 e2 (e3 _ _ (by omega) (by omega) (by omega)) (fun i => e3 _ _ (by omega) (by omega) (by omega)), a.2.1, (e3 _ _ (by omega) (by omega) (by omega)).trans a.2.2⟩
/-- advance, in its raw form -/
def adv (h : Mem) (c : Int) (co va pl : Int) : Mem := sG (sG (sG (sG h 10 12 c) 10 1 co) 10 2 va) 10 13 pl
set_option maxHeartbeats 4000000 in
theorem w_advance {X : Int → Int} {XL : Int} {d : Nat} {h : Mem} {Q : RetP} {P : Int → Int} {n c T : Int} (hd : 1 ≤ d) (hM : TxM h P n) (e12 : gG h 10 12 = c) (e11 : gG h 10 11 = T) (hc : -1 ≤ c ∧ c ≤ 100) (hT : 0 ≤ T ∧ T ≤ 12) (hq1 : c + 1 < T → Q none (adv h (c + 1) (gG h 12 (c + 1)) (gG h 14 (c + 1)) (gG h 13 (c + 1)))) (hq0 : ¬ c + 1 < T → Q none (adv h (c + 1) 32 0 n)) : WP X XL d 68 [vR 10] h Q := by
  obtain ⟨⟨k10, r5, k11, l11⟩, ⟨r8, k12, l12⟩, ⟨r9, k13, l13⟩, ⟨r10, k14, l14⟩, e6, hn, hP⟩ := id hM
  unfold adv at hq1 hq0
  have a12 : gG (sG h 10 12 (c + 1)) 10 12 = c + 1 := g_same
  have a11 : gG (sG h 10 12 (c + 1)) 10 11 = T := by rw [g_ne (by omega)]; exact e11
  have b12 : ∀ z, gG (sG (sG h 10 12 (c + 1)) 10 1 z) 10 12 = c + 1 := fun z => by rw [g_ne (by omega)]; exact a12
  have c12 : ∀ z y, gG (sG (sG (sG h 10 12 (c + 1)) 10 1 z) 10 2 y) 10 12 = c + 1 := fun z y => by rw [g_ne (by omega)]; exact b12 z
  have c6 : ∀ z y, gG (sG (sG (sG h 10 12 (c + 1)) 10 1 z) 10 2 y) 10 6 = n := fun z y => by rw [g_ne (by omega), g_ne (by omega), g_ne (by omega)]; exact e6
  have v12 : gG (sG h 10 12 (c + 1)) 12 (c + 1) = gG h 12 (c + 1) := by rw [gG_sG, if_neg (by omega)]
  have v14 : ∀ z, gG (sG (sG h 10 12 (c + 1)) 10 1 z) 14 (c + 1) = gG h 14 (c + 1) := fun z => by rw [gG_sG, if_neg (by omega), gG_sG, if_neg (by omega)]
  have v13 : ∀ z y, gG (sG (sG (sG h 10 12 (c + 1)) 10 1 z) 10 2 y) 13 (c + 1) = gG h 13 (c + 1) := fun z y => by rw [gG_sG, if_neg (by omega), gG_sG, if_neg (by omega), gG_sG, if_neg (by omega)]
  refine eX5_advance (by omega) ?_
  by_cases cT : c + 1 < T
  · have q := hq1 cT
    (repeat' (first | (exact q) | (rw [e12]) | (rw [a12]) | (rw [a11]) | (rw [gR_sG]) | (rw [r8]) | (rw [r9]) | (rw [r10]) | (rw [b12]) | (rw [c12]) | (rw [v12]) | (rw [v14]) | (rw [v13]) | (refine ⟨⟨k12, by omega, Int.lt_of_lt_of_le (by omega : _ < (12 : Int)) (Int.le_of_eq l12.symm)⟩, ?_⟩; conv => whnf) | (refine ⟨⟨k13, by omega, Int.lt_of_lt_of_le (by omega : _ < (12 : Int)) (Int.le_of_eq l13.symm)⟩, ?_⟩; conv => whnf) | (refine ⟨⟨k14, by omega, Int.lt_of_lt_of_le (by omega : _ < (12 : Int)) (Int.le_of_eq l14.symm)⟩, ?_⟩; conv => whnf) | (refine Ex_step ?_; conv => whnf) | (refine ⟨?_, trivial⟩) | (refine (show den _ _ _ _ _ _ _ _ from ?_); conv => whnf) | (refine ⟨fun c => False.elim (by omega), fun c => ?_⟩) | (refine ⟨fun c => ?_, fun c => False.elim (by omega)⟩) | (refine ⟨by (first | assumption | rfl | (exact Nat.le_of_ble_eq_true rfl) | (exact ⟨fun h01 => absurd h01 (by decide), by first | rfl | assumption⟩) | (exact ⟨fun _ => by decide, by first | rfl | assumption⟩) | (exact ⟨by assumption, by omega, by omega⟩) | (unfold inI; omega) | omega), ?_⟩; conv => whnf) | (refine ⟨fun c => ?_, fun c => ?_⟩) | (intro c) | fail))
  · have q := hq0 cT
    (repeat' (first | (exact q) | (rw [lc0]) | (rw [e12]) | (rw [a12]) | (rw [a11]) | (rw [c6]) | (refine Ex_step ?_; conv => whnf) | (refine ⟨?_, trivial⟩) | (refine (show den _ _ _ _ _ _ _ _ from ?_); conv => whnf) | (refine ⟨fun c => False.elim (by omega), fun c => ?_⟩) | (refine ⟨fun c => ?_, fun c => False.elim (by omega)⟩) | (refine ⟨by (first | assumption | rfl | (exact Nat.le_of_ble_eq_true rfl) | (exact ⟨fun h01 => absurd h01 (by decide), by first | rfl | assumption⟩) | (exact ⟨fun _ => by decide, by first | rfl | assumption⟩) | (exact ⟨by assumption, by omega, by omega⟩) | (unfold inI; omega) | omega), ?_⟩; conv => whnf) | (refine ⟨fun c => ?_, fun c => ?_⟩) | (intro c) | fail))
theorem adv_X {h : Mem} {c co va pl : Int} : FX h (adv h c co va pl) := (((FX.refl.s (Or.inl (by omega))).s (Or.inl (by omega))).s (Or.inl (by omega))).s (Or.inl (by omega))
theorem adv_o {h : Mem} {c co va pl : Int} {r : Nat} {i : Int} (q : ¬ (r = 10 ∧ (i = 12 ∨ i = 1 ∨ i = 2 ∨ i = 13))) : gG (adv h c co va pl) r i = gG h r i := by
  unfold adv
  rw [gG_sG, if_neg (by omega), gG_sG, if_neg (by omega), gG_sG, if_neg (by omega), gG_sG, if_neg (by omega)]
theorem adv_v {h : Mem} {c co va pl : Int} : gG (adv h c co va pl) 10 12 = c ∧ gG (adv h c co va pl) 10 1 = co ∧ gG (adv h c co va pl) 10 2 = va ∧ gG (adv h c co va pl) 10 13 = pl := by
  unfold adv
  exact ⟨by rw [g_ne (by omega), g_ne (by omega), g_ne (by omega), g_same], by rw [g_ne (by omega), g_ne (by omega), g_same], by rw [g_ne (by omega), g_same], g_same⟩
theorem Gth.adv {h : Mem} {P : Int → Int} {n e0 c co va pl : Int} {T : Nat} (g : Gth h P n e0 T) : Gth (adv h c co va pl) P n e0 T := by
  obtain ⟨g1, g2, g3, g4, g5⟩ := g
  refine ⟨g1, adv_X.M g2, by rw [adv_o (by omega)]; exact g3, by rw [adv_o (by omega)]; exact g4, fun j hj => ?_⟩
  rw [adv_o (by omega), adv_o (by omega), adv_o (by omega)]
  exact g5 j hj
/-- to the next token of a sentence -/
theorem w_advA {X : Int → Int} {XL : Int} {d : Nat} {h : Mem} {Q : RetP} {P : Int → Int} {n e : Int} {c : Nat} (hd : 1 ≤ d) (hA : At h P n e c) (hc : c ≤ 10) (he : ¬ isE (tC P n e)) (hq : ∀ h', At h' P n (tE P n e) (c + 1) → FX h h' → Q none h') : WP X XL d 68 [vR 10] h Q := by
  obtain ⟨e0, T, g, ee, hcT, t1, t2, a0, a1, a2, a3⟩ := hA
  have hlt : c + 1 < T := by
    by_cases q : c + 1 < T
    · exact q
    · have e1 : T - 1 = c := by omega
      have := t2 (by omega)
      rw [e1, ee] at this
      exact absurd this he
  refine w_advance hd g.2.1 a0 g.2.2.1 (by omega) (by omega) (fun _ => ?_) (fun q => absurd (by omega) q)
  have ge := g.2.2.2.2 (c + 1) hlt
  rw [show ((c + 1 : Nat) : Int) = (c : Int) + 1 by omega] at ge
  have ee2 : eN P n e0 (c + 1) = tE P n e := by show tE P n (eN P n e0 c) = _; rw [ee]
  rw [ee2] at ge
  refine hq _ ⟨e0, T, g.adv, ee2, ⟨hlt, hcT.2⟩, t1, t2, by rw [adv_v.1]; omega, by rw [adv_v.2.1]; exact ge.1, by rw [adv_v.2.2.2]; exact ge.2.1, by rw [adv_v.2.2.1]; exact ge.2.2⟩ adv_X
/-- past a sentence's end -/
theorem w_advN {X : Int → Int} {XL : Int} {d : Nat} {h : Mem} {Q : RetP} {P : Int → Int} {n e : Int} {c : Nat} (hd : 1 ≤ d) (hA : At h P n e c) (he : tC P n e = 28) (hq : ∀ h', Nx h' P n (tE P n e) → FX h h' → Q none h') : WP X XL d 68 [vR 10] h Q := by
  obtain ⟨e0, T, g, ee, hcT, t1, t2, a0, a1, a2, a3⟩ := hA
  have hlt : ¬ c + 1 < T := fun q => t1 c q (by rw [ee]; exact Or.inl he)
  refine w_advance hd g.2.1 a0 g.2.2.1 (by omega) (by omega) (fun q => absurd (by omega) hlt) (fun _ => ?_)
  have ee2 : eN P n e0 T = tE P n e := by
    rw [show T = c + 1 by omega]
    show tE P n (eN P n e0 c) = _
    rw [ee]
  exact hq _ ⟨adv_X.M g.2.1, by rw [← ee2]; exact eN_b g.1 T, by rw [adv_o (by omega), ← ee2]; exact g.2.2.2.1⟩ adv_X
set_option maxHeartbeats 4000000 in
theorem w_gather {X : Int → Int} {XL : Int} {d : Nat} {h : Mem} {Q : RetP} {P : Int → Int} {n e0 : Int} (hd : 10 ≤ d) (hN : Nx h P n e0) (hq : ∀ h', At h' P n e0 0 → FX h h' → Q none h') : WP X XL d 60 [vR 10] h Q := by
  obtain ⟨hM, he0, e7⟩ := hN
  have k10 := hM.1.1
  have out : ∀ (T : Nat) (w1 w2 : Int) (w3 : Option MV) (hj : Mem), Gth hj P n e0 T → (1 ≤ T ∧ T ≤ 12) → (∀ j, j + 1 < T → ¬ isE (tC P n (eN P n e0 j))) → (T < 12 → isE (tC P n (eN P n e0 (T - 1)))) → FX h hj → Ex (WP X XL (d - 1)) KX5_gather h.1 Q 72 [some (vR 10), some (vI w1), some (vI w2), w3] [] hj := by
    intro T w1 w2 w3 hj g hT t1 t2 fj
    have k10j := g.2.1.1.1
    have gj := fj.1
    have f1 : FX hj (sG hj 10 12 (-1)) := FX.refl.s (Or.inl (by omega))
    have g1 : gG (sG hj 10 12 (-1)) 10 11 = T := by rw [g_ne (by omega)]; exact g.2.2.1
    have ge := g.2.2.2.2 0 (by omega)
    have gs : Gth (sG hj 10 12 (-1)) P n e0 T := ⟨g.1, f1.M g.2.1, g1, by rw [g_ne (by omega)]; exact g.2.2.2.1, fun j q => by rw [gG_sG, if_neg (by omega), gG_sG, if_neg (by omega), gG_sG, if_neg (by omega)]; exact g.2.2.2.2 j q⟩
    have av : ∀ (d' : Nat) (Q' : RetP), 1 ≤ d' → (∀ h', h'.1 = h.1 → Q none h' → Q' none h') → WP X XL d' 68 [vR 10] (sG hj 10 12 (-1)) Q' := fun d' Q' x y => by
      refine w_advance x gs.2.1 g_same g1 (by omega) (by omega) (fun _ => ?_) (fun q => absurd (by omega) q)
      have gz := gs.2.2.2.2 0 (by omega)
      refine y _ (adv_X.1.trans (f1.1.trans gj)) (hq _ ⟨e0, T, gs.adv, rfl, by omega, t1, t2, by rw [adv_v.1]; rfl, by rw [adv_v.2.1]; exact gz.1, by rw [adv_v.2.2.2]; exact gz.2.1, by rw [adv_v.2.2.1]; exact gz.2.2⟩ (fj.trans (f1.trans adv_X)))
    (repeat' (first | (assumption) | (refine av _ _ (by omega) (fun h' g' q' => ?_)) | (refine Ex_step ?_; conv => whnf) | (refine ⟨?_, trivial⟩) | (refine (show den _ _ _ _ _ _ _ _ from ?_); conv => whnf) | (refine ⟨fun c => False.elim (by omega), fun c => ?_⟩) | (refine ⟨fun c => ?_, fun c => False.elim (by omega)⟩) | (refine ⟨by (first | assumption | rfl | (exact Nat.le_of_ble_eq_true rfl) | (exact ⟨fun h01 => absurd h01 (by decide), by first | rfl | assumption⟩) | (exact ⟨fun _ => by decide, by first | rfl | assumption⟩) | (exact ⟨by assumption, by omega, by omega⟩) | (unfold inI; omega) | omega), ?_⟩; conv => whnf) | (refine ⟨fun c => ?_, fun c => ?_⟩) | (intro c) | fail))
  have loop : ∀ (m T : Nat) (w1 : Int) (w3 : Option MV) (hj : Mem), T + m = 12 → Gth hj P n e0 T → (∀ j, j + 1 < T → ¬ isE (tC P n (eN P n e0 j))) → ((w1 = 1 ∧ 1 ≤ T ∧ isE (tC P n (eN P n e0 (T - 1)))) ∨ (w1 = 0 ∧ (1 ≤ T → ¬ isE (tC P n (eN P n e0 (T - 1)))))) → FX h hj → Ex (WP X XL (d - 1)) KX5_gather h.1 Q 9 [some (vR 10), some (vI w1), some (vI (T : Int)), w3] [] hj := by
    intro m; induction m with
    | zero =>
      intro T w1 w3 hj hm g t1 hw fj
      have o := out T w1 T w3 hj g (by omega) t1 (fun q => by omega) fj
      refine Ex_step ?_; conv => whnf
      (repeat' (first | (exact o) | (refine Ex_step ?_; conv => whnf) | (refine ⟨?_, trivial⟩) | (refine (show den _ _ _ _ _ _ _ _ from ?_); conv => whnf) | (refine ⟨fun c => False.elim (by omega), fun c => ?_⟩) | (refine ⟨fun c => ?_, fun c => False.elim (by omega)⟩) | (refine ⟨by (first | assumption | rfl | (exact Nat.le_of_ble_eq_true rfl) | (exact ⟨fun h01 => absurd h01 (by decide), by first | rfl | assumption⟩) | (exact ⟨fun _ => by decide, by first | rfl | assumption⟩) | (exact ⟨by assumption, by omega, by omega⟩) | (unfold inI; omega) | omega), ?_⟩; conv => whnf) | (refine ⟨fun c => ?_, fun c => ?_⟩) | (intro c) | fail))
    | succ m ih =>
      intro T w1 w3 hj hm g t1 hw fj
      rcases hw with ⟨w, wT, wi⟩ | ⟨w, wi⟩
      · have o := out T w1 T w3 hj g (by omega) t1 (fun _ => wi) fj
        refine Ex_step ?_; conv => whnf
        (repeat' (first | (exact o) | (refine Ex_step ?_; conv => whnf) | (refine ⟨?_, trivial⟩) | (refine (show den _ _ _ _ _ _ _ _ from ?_); conv => whnf) | (refine ⟨fun c => False.elim (by omega), fun c => ?_⟩) | (refine ⟨fun c => ?_, fun c => False.elim (by omega)⟩) | (refine ⟨by (first | assumption | rfl | (exact Nat.le_of_ble_eq_true rfl) | (exact ⟨fun h01 => absurd h01 (by decide), by first | rfl | assumption⟩) | (exact ⟨fun _ => by decide, by first | rfl | assumption⟩) | (exact ⟨by assumption, by omega, by omega⟩) | (unfold inI; omega) | omega), ?_⟩; conv => whnf) | (refine ⟨fun c => ?_, fun c => ?_⟩) | (intro c) | fail))
      · obtain ⟨⟨k10j, r5, k11, l11⟩, ⟨r8, k12, l12⟩, -, -, -⟩ := id g.2.1
        have eb := eN_b (P := P) g.1 T
        have ft : ∀ (d' : Nat) (Q' : RetP), 8 ≤ d' → (∀ h', Ft (T : Int) hj h' → gG h' 10 7 = tE P n (eN P n e0 T) → gG h' 13 T = tF P n (eN P n e0 T) → TokV P n (eN P n e0 T) (gG h' 14 T) → Q' (some (vI (tC P n (eN P n e0 T)))) h') → WP X XL d' 61 [vR 10, vI T] hj Q' := fun d' Q' x y => w_findToken x g.2.1 (by omega) g.2.2.2.1 eb y
        have nxt : ∀ (h1 : Mem) (w : Int), Ft (T : Int) hj h1 → gG h1 10 7 = tE P n (eN P n e0 T) → gG h1 13 T = tF P n (eN P n e0 T) → TokV P n (eN P n e0 T) (gG h1 14 T) → ((w = 1 ∧ isE (tC P n (eN P n e0 T))) ∨ (w = 0 ∧ ¬ isE (tC P n (eN P n e0 T)))) → Ex (WP X XL (d - 1)) KX5_gather h.1 Q 9 [some (vR 10), some (vI w), some (vI ((T : Int) + 1)), some (vI (tC P n (eN P n e0 T)))] [] (sG (sG h1 12 T (tC P n (eN P n e0 T))) 10 11 ((T : Int) + 1)) := by
          intro h1 w f1 x7 x13 xv hw1
          have gg : ∀ (r : Nat) (i : Int), ¬ (r = 12 ∧ i = T) → ¬ (r = 10 ∧ i = 11) → gG (sG (sG h1 12 T (tC P n (eN P n e0 T))) 10 11 ((T : Int) + 1)) r i = gG h1 r i := fun r i a b => by rw [gG_sG, if_neg b, gG_sG, if_neg a]
          have fx : FX hj (sG (sG h1 12 T (tC P n (eN P n e0 T))) 10 11 ((T : Int) + 1)) := (f1.X.s (Or.inr (Or.inl rfl))).s (Or.inl (by omega))
          have := ih (T + 1) w (some (vI (tC P n (eN P n e0 T)))) _ (by omega) (⟨g.1, fx.M g.2.1, by rw [g_same]; omega, by rw [gg _ _ (by omega) (by omega)]; exact x7, fun j hj2 => ?_⟩ : Gth (sG (sG h1 12 T (tC P n (eN P n e0 T))) 10 11 ((T : Int) + 1)) P n e0 (T + 1)) (fun j q => ?_) ?_ (fj.trans fx)
          · rw [show ((T + 1 : Nat) : Int) = (T : Int) + 1 by omega] at this
            exact this
          · by_cases ej : j = T
            · subst ej
              rw [gG_sG, if_neg (by omega), g_same, gg _ _ (by omega) (by omega), gg _ _ (by omega) (by omega)]
              exact ⟨rfl, x13, xv⟩
            · have := g.2.2.2.2 j (by omega)
              rw [gg _ _ (by omega) (by omega), gg _ _ (by omega) (by omega), gg _ _ (by omega) (by omega), f1.2.2 _ _ (by omega) (by omega) (by omega), f1.2.2 _ _ (by omega) (by omega) (by omega), f1.2.2 _ _ (by omega) (by omega) (by omega)]
              exact this
          · by_cases q2 : j + 1 < T
            · exact t1 j q2
            · have := wi (by omega)
              rw [show T - 1 = j by omega] at this
              exact this
          · rw [show T + 1 - 1 = T by omega]
            rcases hw1 with x | x
            · exact Or.inl ⟨x.1, by omega, x.2⟩
            · exact Or.inr ⟨x.1, fun _ => x.2⟩
        have e11 := g.2.2.1
        have f11 : ∀ h1, Ft (T : Int) hj h1 → gG (sG h1 12 T (tC P n (eN P n e0 T))) 10 11 = T := fun h1 f1 => by rw [gG_sG, if_neg (by omega), f1.2.2 _ _ (by omega) (by omega) (by omega)]; exact e11
        have fk : ∀ h1, Ft (T : Int) hj h1 → kd h1 10 = 5 ∧ gR h1 10 8 = 12 ∧ kd h1 12 = 100 ∧ ln h1 12 = 12 := fun h1 f1 => by unfold kd ln gR; rw [f1.1, f1.2.1]; exact ⟨k10j, r8, k12, l12⟩
        have iE := fun c => (show isE c ↔ c = 28 ∨ c = 32 ∨ c = 33 from Iff.rfl)
        refine Ex_step ?_; conv => whnf
        (repeat' (first | (refine nxt _ _ f1 x7 x13 xv (Or.inl ⟨rfl, (iE _).mpr (by omega)⟩)) | (refine nxt _ _ f1 x7 x13 xv (Or.inr ⟨rfl, fun z => by have := (iE _).mp z; omega⟩)) | (rw [f11 h1 f1]) | (rw [r81]) | (refine ft _ _ (by omega) (fun h1 f1 x7 x13 xv => ?_); obtain ⟨k101, r81, k121, l121⟩ := fk h1 f1) | (refine ⟨⟨k121, by omega, Int.lt_of_lt_of_le (by omega : _ < (12 : Int)) (Int.le_of_eq l121.symm)⟩, ?_⟩; conv => whnf) | (refine Ex_step ?_; conv => whnf) | (refine ⟨?_, trivial⟩) | (refine (show den _ _ _ _ _ _ _ _ from ?_); conv => whnf) | (refine ⟨fun c => False.elim (by omega), fun c => ?_⟩) | (refine ⟨fun c => ?_, fun c => False.elim (by omega)⟩) | (refine ⟨by (first | assumption | rfl | (exact Nat.le_of_ble_eq_true rfl) | (exact ⟨fun h01 => absurd h01 (by decide), by first | rfl | assumption⟩) | (exact ⟨fun _ => by decide, by first | rfl | assumption⟩) | (exact ⟨by assumption, by omega, by omega⟩) | (unfold inI; omega) | omega), ?_⟩; conv => whnf) | (refine ⟨fun c => ?_, fun c => ?_⟩) | (intro c) | fail))
  have f1 : FX h (sG h 10 11 0) := FX.refl.s (Or.inl (by omega))
  have l0 := loop 12 0 0 none (sG h 10 11 0) (by omega) ⟨he0, f1.M hM, g_same, by rw [g_ne (by omega)]; exact e7, fun j q => by omega⟩ (fun j q => by omega) (Or.inr ⟨rfl, fun q => by omega⟩) f1
  refine eX5_gather (by omega) ?_
  (repeat' (first | (exact l0) | (refine Ex_step ?_; conv => whnf) | (refine ⟨?_, trivial⟩) | (refine (show den _ _ _ _ _ _ _ _ from ?_); conv => whnf) | (refine ⟨fun c => False.elim (by omega), fun c => ?_⟩) | (refine ⟨fun c => ?_, fun c => False.elim (by omega)⟩) | (refine ⟨by (first | assumption | rfl | (exact Nat.le_of_ble_eq_true rfl) | (exact ⟨fun h01 => absurd h01 (by decide), by first | rfl | assumption⟩) | (exact ⟨fun _ => by decide, by first | rfl | assumption⟩) | (exact ⟨by assumption, by omega, by omega⟩) | (unfold inI; omega) | omega), ?_⟩; conv => whnf) | (refine ⟨fun c => ?_, fun c => ?_⟩) | (intro c) | fail))
