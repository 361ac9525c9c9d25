/-! LEVEL 2: texts: a row of decades, the class -/
set_option maxHeartbeats 1600000 in
theorem w_tr157y {X : Int → Int} {XL : Int} {d : Nat} {h : Mem} {Q : RetP} {v st : Nat} {S1 : List (Nat × Nat)} {N D c1 t : Int} (hS : SR h st v) (hO : SOk h st) (hsr : 58 < st ∨ st + 6 < 56) (hS1 : h.1 = S1) (p1 : gG h st 1 = c1) (p2 : gG h st 2 = N) (p3 : gG h 56 2 = D) (hD : 0 ≤ D ∧ D < 3) (hN : 0 ≤ N ∧ N < 60) (hc : 0 ≤ c1 ∧ c1 ≤ 30) (q : Q (some (vI 1)) (sG (sG (sG (sG h 57 D N) 56 2 (D + 1)) st 2 (N + 1)) st 1 (c1 + 1))) : Ex (WP X XL d) KX4_takeRow S1 Q 157 [some (vR 56), some (vI t), some (vI 1), some (vI N)] [] h := by
  obtain ⟨k56, -, ⟨s1, k57, l57⟩, s3, -⟩ := id hS
  have ks := hO.1
  have u1 : gG (sG h 57 D N) 56 2 = D := by rw [gG_sG, if_neg (by omega)]; exact p3
  have u2 : gG (sG (sG h 57 D N) 56 2 (D + 1)) st 2 = N := by rw [gG_sG, if_neg (by omega), gG_sG, if_neg (by omega)]; exact p2
  have u3 : gG (sG (sG (sG h 57 D N) 56 2 (D + 1)) st 2 (N + 1)) st 1 = c1 := by rw [g_ne (by omega), gG_sG, if_neg (by omega), gG_sG, if_neg (by omega)]; exact p1
  (repeat' (first | (exact q) | (rw [gR_sG]) | (rw [s1]) | (rw [s3]) | (rw [p3]) | (rw [u1]) | (rw [u2]) | (rw [u3]) | (refine ⟨⟨k57, by omega, Int.lt_of_lt_of_le (by omega : _ < (3 : Int)) (Int.le_of_eq l57.symm)⟩, ?_⟩; conv => whnf) | (refine Ex_step ?_; conv => whnf) | (refine ⟨?_, trivial⟩) | (refine (show den _ _ _ _ _ _ _ _ from ?_); conv => whnf) | (refine ⟨fun c => False.elim (by omega), fun c => ?_⟩) | (refine ⟨fun c => ?_, fun c => False.elim (by omega)⟩) | (refine ⟨by (first | assumption | rfl | (exact Nat.le_of_ble_eq_true rfl) | (exact ⟨fun h01 => absurd h01 (by decide), by first | rfl | assumption⟩) | (exact ⟨fun _ => by decide, by first | rfl | assumption⟩) | (exact ⟨by assumption, by omega, by omega⟩) | (unfold inI; omega) | omega), ?_⟩; conv => whnf) | (refine ⟨fun c => ?_, fun c => ?_⟩) | (intro c) | fail))
set_option maxHeartbeats 1600000 in
theorem w_tr157n {X : Int → Int} {XL : Int} {d : Nat} {h : Mem} {Q : RetP} {v st : Nat} {S1 : List (Nat × Nat)} {N c1 t : Int} (hS : SR h st v) (hO : SOk h st) (hS1 : h.1 = S1) (p1 : gG h st 1 = c1) (p2 : gG h st 2 = N) (hN : 0 ≤ N ∧ N < 60) (hc : 0 ≤ c1 ∧ c1 ≤ 30) (q : Q (some (vI 1)) (sG (sG h st 2 (N + 1)) st 1 (c1 + 1))) : Ex (WP X XL d) KX4_takeRow S1 Q 157 [some (vR 56), some (vI t), some (vI 0), some (vI N)] [] h := by
  have k56 := hS.1
  have s3 := hS.2.2.2.1
  have ks := hO.1
  have u3 : gG (sG h st 2 (N + 1)) st 1 = c1 := by rw [g_ne (by omega)]; exact p1
  (repeat' (first | (exact q) | (rw [gR_sG]) | (rw [s3]) | (rw [p2]) | (rw [u3]) | (refine Ex_step ?_; conv => whnf) | (refine ⟨?_, trivial⟩) | (refine (show den _ _ _ _ _ _ _ _ from ?_); conv => whnf) | (refine ⟨fun c => False.elim (by omega), fun c => ?_⟩) | (refine ⟨fun c => ?_, fun c => False.elim (by omega)⟩) | (refine ⟨by (first | assumption | rfl | (exact Nat.le_of_ble_eq_true rfl) | (exact ⟨fun h01 => absurd h01 (by decide), by first | rfl | assumption⟩) | (exact ⟨fun _ => by decide, by first | rfl | assumption⟩) | (exact ⟨by assumption, by omega, by omega⟩) | (unfold inI; omega) | omega), ?_⟩; conv => whnf) | (refine ⟨fun c => ?_, fun c => ?_⟩) | (intro c) | fail))
set_option maxHeartbeats 1600000 in
theorem w_tr109 {X : Int → Int} {XL : Int} {d : Nat} {h : Mem} {Q : RetP} {K : Int} {A Nm : Int → Int} {v st : Nat} {P : Int → Int} {n e : Int} {c : Nat} {R : Int → Int → Int} {N c1 D : Int} {O : Int → Int} {w2 : Int} {r : (Int × Int) ⊕ (DS × Int)} (hd : 8 ≤ d) (hS : SR h st v) (hO : SOk h st) (hst : 15 ≤ st ∧ 15 ≤ v ∧ (st + 6 < v ∨ v + 12 < st)) (hA : At h P n e c) (hV : Vr K h v A) (hT : VAt h v) (hNm : gG h (v + 4) = Nm) (hsr : 58 < st ∨ st + 6 < 56) (hvr : 58 < v ∨ v + 12 < 56) (hI : DI A R N c1 D O) (hCS : CS h st R N c1 D O) (hc : c = 0) (ct : tC P n e = 1 ∨ (14 ≤ tC P n e ∧ tC P n e ≤ 20) ∨ tC P n e = 22 ∨ tC P n e = 24) (c30 : ¬ 30 ≤ c1) (co : ¬ ((tC P n e = 20 ∨ tC P n e = 22) ∧ 3 ≤ D)) (hr : bd (dRest P n (tE P n e) A Nm (tC P n e)) (fun q => bd (pTok P n q.2 28) (fun e5 => .inr (dPush R N c1 D O (tC P n e) q.1, e5))) = r) (hq0 : ∀ x h', r = .inl x → FSf st h h' x → Q (some (vI 0)) h') (hq1 : ∀ S e' h', r = .inr (S, e') → Nx h' P n e' → CS h' st S.1 S.2.1 S.2.2.1 S.2.2.2.1 S.2.2.2.2 → FS st h h' → Q (some (vI 1)) h') (hw2 : ((tC P n e = 20 ∨ tC P n e = 22) ∧ w2 = 1) ∨ (¬ (tC P n e = 20 ∨ tC P n e = 22) ∧ w2 = 0)) : Ex (WP X XL (d - 1)) KX4_takeRow h.1 Q 109 [some (vR 56), some (vI (tC P n e)), some (vI w2), none] [] h := by
  have k56_0 := (hS.z rfl rfl).1; have s0_0 := (hS.z rfl rfl).2.1; have s3_0 := (hS.z rfl rfl).2.2.2.1; have ks_0 := (hO.z rfl rfl).1
  obtain ⟨sr1_0, sk1_0, sl1_0⟩ := hO.2.1
  have hs0 := hst.1
  have b1 := hV.2.2.2.1
  obtain ⟨⟨q1, q2, q3⟩, -⟩ := id hCS
  have i1 := hI.1
  have z0 : FS st h (sG h (st + 1) N (tC P n e)) := FS.refl.s (Or.inl (sp_s (by omega)))
  have hA0 : At (sG h (st + 1) N (tC P n e)) P n e c := hA.s (by omega)
  have k100 := hA0.X
  (repeat' (first | (rw [gR_sG]) | (rw [s3_0]) | (rw [q2]) | (rw [sr1_0]) | (rw [s0_0]) | (refine ⟨⟨sk1_0, by omega, Int.lt_of_lt_of_le (by omega : _ < (60 : Int)) (Int.le_of_eq sl1_0.symm)⟩, ?_⟩; conv => whnf) | (refine Ex_step ?_; conv => whnf) | (refine ⟨?_, trivial⟩) | (refine (show den _ _ _ _ _ _ _ _ from ?_); conv => whnf) | (refine ⟨fun c => False.elim (by omega), fun c => ?_⟩) | (refine ⟨fun c => ?_, fun c => False.elim (by omega)⟩) | (refine ⟨by (first | assumption | rfl | (exact Nat.le_of_ble_eq_true rfl) | (exact ⟨fun h01 => absurd h01 (by decide), by first | rfl | assumption⟩) | (exact ⟨fun _ => by decide, by first | rfl | assumption⟩) | (exact ⟨by assumption, by omega, by omega⟩) | (unfold inI; omega) | omega), ?_⟩; conv => whnf) | (refine ⟨fun c => ?_, fun c => ?_⟩) | fail))
  refine w_advA (by omega) hA0 (by omega) (by unfold isE; omega) (fun h1 hA1 f1 => ?_)
  have z1 := z0.trans (st := st) f1.S
  clear k56_0 s0_0 s3_0 ks_0 sr1_0 sk1_0 sl1_0 k100
  have k56_1 := (hS.z z1.1 z1.2.1).1; have s0_1 := (hS.z z1.1 z1.2.1).2.1; have s3_1 := (hS.z z1.1 z1.2.1).2.2.2.1; have ks_1 := (hO.z z1.1 z1.2.1).1
  have hT1 : VAt h1 v := hT.z z1.2.1
  have hV1 : Vr K h1 v A := hV.eq z1.1 (fun i => by unfold gR; rw [z1.2.1]) hT (fun r i x y => z1.2.2 r i (by unfold SP; omega) (by omega) (by omega) (by omega) (by omega))
  have hNm1 : gG h1 (v + 4) = Nm := by
    rw [← hNm]
    funext i
    exact z1.2.2 _ i (by unfold SP; omega) (by omega) (by omega) (by omega) (by omega)
  (repeat' (first | (refine Ex_step ?_; conv => whnf) | (refine ⟨?_, trivial⟩) | (refine (show den _ _ _ _ _ _ _ _ from ?_); conv => whnf) | (refine ⟨fun c => False.elim (by omega), fun c => ?_⟩) | (refine ⟨fun c => ?_, fun c => False.elim (by omega)⟩) | (refine ⟨by (first | assumption | rfl | (exact Nat.le_of_ble_eq_true rfl) | (exact ⟨fun h01 => absurd h01 (by decide), by first | rfl | assumption⟩) | (exact ⟨fun _ => by decide, by first | rfl | assumption⟩) | (exact ⟨by assumption, by omega, by omega⟩) | (unfold inI; omega) | omega), ?_⟩; conv => whnf) | (refine ⟨fun c => ?_, fun c => ?_⟩) | fail))
  refine w_takeRest (f := Sum.inr) (by omega) (hS.z z1.1 z1.2.1) (hO.z z1.1 z1.2.1) hst hA1 hV1 hT1 hNm1 (by omega) (by omega) ct bd_r (fun x h2 er ff => ?_) (fun rw2 e2 h2 c2 hc2 hr2 hA2 ct2 f2 => ?_)
  · have q := hq0 x h2 (by rw [← hr, er]; rfl) (z1.w ff)
    have g2 := ff.1.trans z1.1
    clear k56_1 s0_1 s3_1 ks_1
    (repeat' (first | (exact q) | (refine Ex_step ?_; conv => whnf) | (refine ⟨?_, trivial⟩) | (refine (show den _ _ _ _ _ _ _ _ from ?_); conv => whnf) | (refine ⟨fun c => False.elim (by omega), fun c => ?_⟩) | (refine ⟨fun c => ?_, fun c => False.elim (by omega)⟩) | (refine ⟨by (first | assumption | rfl | (exact Nat.le_of_ble_eq_true rfl) | (exact ⟨fun h01 => absurd h01 (by decide), by first | rfl | assumption⟩) | (exact ⟨fun _ => by decide, by first | rfl | assumption⟩) | (exact ⟨by assumption, by omega, by omega⟩) | (unfold inI; omega) | omega), ?_⟩; conv => whnf) | (refine ⟨fun c => ?_, fun c => ?_⟩) | (intro c) | fail))
  · have z2 := z1.trans f2.S
    clear k56_1 s0_1 s3_1 ks_1
    have k56_2 := (hS.z z2.1 z2.2.1).1; have s0_2 := (hS.z z2.1 z2.2.1).2.1; have s3_2 := (hS.z z2.1 z2.2.1).2.2.2.1; have ks_2 := (hO.z z2.1 z2.2.1).1
    have k102 := hA2.X
    obtain ⟨v1, v2, v3⟩ := dRest_v b1.1 ct hr2.symm
    have ht2 := cwd_t ct b1.1 hr2.symm
    rw [← hr2] at hr
    have hr3 : bd (pTok P n e2 28) (fun e5 => .inr (dPush R N c1 D O (tC P n e) rw2, e5)) = r := hr
    (repeat' (first | (rw [s0_2]) | (refine Ex_step ?_; conv => whnf) | (refine ⟨?_, trivial⟩) | (refine (show den _ _ _ _ _ _ _ _ from ?_); conv => whnf) | (refine ⟨fun c => False.elim (by omega), fun c => ?_⟩) | (refine ⟨fun c => ?_, fun c => False.elim (by omega)⟩) | (refine ⟨by (first | assumption | rfl | (exact Nat.le_of_ble_eq_true rfl) | (exact ⟨fun h01 => absurd h01 (by decide), by first | rfl | assumption⟩) | (exact ⟨fun _ => by decide, by first | rfl | assumption⟩) | (exact ⟨by assumption, by omega, by omega⟩) | (unfold inI; omega) | omega), ?_⟩; conv => whnf) | (refine ⟨fun c => ?_, fun c => ?_⟩) | fail))
    refine k_semi (by omega) hA2 hr3 (fun x h3 er ff => ?_) (fun e3 h3 hr4 hN3 f3 => ?_)
    · have q := hq0 x h3 er (z2.f ff)
      have g3 := ff.1.trans z2.1
      clear k56_2 s0_2 s3_2 ks_2 k102
      (repeat' (first | (exact q) | (refine Ex_step ?_; conv => whnf) | (refine ⟨?_, trivial⟩) | (refine (show den _ _ _ _ _ _ _ _ from ?_); conv => whnf) | (refine ⟨fun c => False.elim (by omega), fun c => ?_⟩) | (refine ⟨fun c => ?_, fun c => False.elim (by omega)⟩) | (refine ⟨by (first | assumption | rfl | (exact Nat.le_of_ble_eq_true rfl) | (exact ⟨fun h01 => absurd h01 (by decide), by first | rfl | assumption⟩) | (exact ⟨fun _ => by decide, by first | rfl | assumption⟩) | (exact ⟨by assumption, by omega, by omega⟩) | (unfold inI; omega) | omega), ?_⟩; conv => whnf) | (refine ⟨fun c => ?_, fun c => ?_⟩) | (intro c) | fail))
    · have z3 := z2.trans (st := st) f3.S
      clear k56_2 s0_2 s3_2 ks_2 k102
      have w0 : ∀ (r : Nat) (k : Int), 15 ≤ r → ¬ (st + 1 ≤ r ∧ r ≤ st + 5 ∧ k = N) → gG h3 r k = gG h r k := fun r k x y => by
        rw [f3.2.2 _ _ (by omega) (by omega), f2.2.2 _ _ (by omega) (by omega) (by omega), f1.2.2 _ _ (by omega) (by omega), gG_sG, if_neg (by omega)]
      have p1 : gG h3 st 1 = c1 := (w0 _ _ (by omega) (by omega)).trans q1
      have p2 : gG h3 st 2 = N := (w0 _ _ (by omega) (by omega)).trans q2
      have p3 : gG h3 56 2 = D := (w0 _ _ (by omega) (by omega)).trans q3
      have p6 : gG h3 (st + 1) N = tC P n e := by rw [f3.2.2 _ _ (by omega) (by omega), f2.2.2 _ _ (by omega) (by omega) (by omega), f1.2.2 _ _ (by omega) (by omega), g_same]
      have ct3 : CT h3 st N rw2 := ct2.c (fun r x y => f3.2.2 _ _ (by omega) (by omega))
      rcases hw2 with ⟨cw, ew⟩ | ⟨cw, ew⟩
      · have z4 : FS st h3 (sG (sG (sG (sG h3 57 D N) 56 2 (D + 1)) st 2 (N + 1)) st 1 (c1 + 1)) := (((FS.refl.s (Or.inr (Or.inr rfl))).s (Or.inr (Or.inl ⟨rfl, rfl⟩))).s (Or.inl (sp_s (by omega)))).s (Or.inl (sp_s (by omega)))
        have gm : ∀ (r : Nat) (i : Int), ¬ (r = st ∧ (i = 1 ∨ i = 2)) → ¬ (r = 56 ∧ i = 2) → ¬ (r = 57 ∧ i = D) → gG (sG (sG (sG (sG h3 57 D N) 56 2 (D + 1)) st 2 (N + 1)) st 1 (c1 + 1)) r i = gG h3 r i := fun r i x y z => by rw [gG_sG, if_neg (by omega), gG_sG, if_neg (by omega), gG_sG, if_neg (by omega), gG_sG, if_neg (by omega)]
        have q := hq1 _ e3 (sG (sG (sG (sG h3 57 D N) 56 2 (D + 1)) st 2 (N + 1)) st 1 (c1 + 1)) hr4.symm (hN3.o rfl (fun _ => rfl) (fun r i x y _ => gm r i (by omega) (by omega) (by omega))) (CS_push (h' := sG (sG (sG (sG h3 57 D N) 56 2 (D + 1)) st 2 (N + 1)) st 1 (c1 + 1)) hI hCS ht2 v2 v3 g_same (by rw [g_ne (by omega), g_same]) (by rw [gG_sG, if_neg (by omega), gG_sG, if_neg (by omega), g_same, if_pos cw]) (fun j x y => by rw [gm _ _ (by omega) (by omega) (by omega)]; exact w0 _ _ (by omega) (by omega)) (fun _ => by rw [gG_sG, if_neg (by omega), gG_sG, if_neg (by omega), gG_sG, if_neg (by omega), g_same]) (by rw [gm _ _ (by omega) (by omega) (by omega)]; exact p6) (ct3.c (fun r x y => gm _ _ (by omega) (by omega) (by omega))) (fun r k x y x0 x1 => by rw [gm _ _ (by omega) (by omega) (by omega)]; exact w0 _ _ (by omega) (by omega))) (z3.trans z4)
        have l := w_tr157y (X := X) (XL := XL) (d := d - 1) (t := tC P n e) (hS.z z3.1 z3.2.1) (hO.z z3.1 z3.2.1) hsr z3.1 p1 p2 p3 (by omega) (by omega) (by omega) q
        subst ew
        (repeat' (first | (exact l) | (refine Ex_step ?_; conv => whnf) | (refine ⟨?_, trivial⟩) | (refine (show den _ _ _ _ _ _ _ _ from ?_); conv => whnf) | (refine ⟨fun c => False.elim (by omega), fun c => ?_⟩) | (refine ⟨fun c => ?_, fun c => False.elim (by omega)⟩) | (refine ⟨by (first | assumption | rfl | (exact Nat.le_of_ble_eq_true rfl) | (exact ⟨fun h01 => absurd h01 (by decide), by first | rfl | assumption⟩) | (exact ⟨fun _ => by decide, by first | rfl | assumption⟩) | (exact ⟨by assumption, by omega, by omega⟩) | (unfold inI; omega) | omega), ?_⟩; conv => whnf) | (refine ⟨fun c => ?_, fun c => ?_⟩) | (intro c) | fail))
      · have z4 : FS st h3 (sG (sG h3 st 2 (N + 1)) st 1 (c1 + 1)) := (FS.refl.s (Or.inl (sp_s (by omega)))).s (Or.inl (sp_s (by omega)))
        have gm : ∀ (r : Nat) (i : Int), ¬ (r = st ∧ (i = 1 ∨ i = 2)) → gG (sG (sG h3 st 2 (N + 1)) st 1 (c1 + 1)) r i = gG h3 r i := fun r i x => by rw [gG_sG, if_neg (by omega), gG_sG, if_neg (by omega)]
        have q := hq1 _ e3 (sG (sG h3 st 2 (N + 1)) st 1 (c1 + 1)) hr4.symm (hN3.o rfl (fun _ => rfl) (fun r i x y _ => gm r i (by omega))) (CS_push (h' := sG (sG h3 st 2 (N + 1)) st 1 (c1 + 1)) hI hCS ht2 v2 v3 g_same (by rw [g_ne (by omega), g_same]) (by rw [gm _ _ (by omega), if_neg cw]; exact p3) (fun j x y => by rw [gm _ _ (by omega)]; exact w0 _ _ (by omega) (by omega)) (fun x => absurd x cw) (by rw [gm _ _ (by omega)]; exact p6) (ct3.c (fun r x y => gm _ _ (by omega))) (fun r k x y x0 x1 => by rw [gm _ _ (by omega)]; exact w0 _ _ (by omega) (by omega))) (z3.trans z4)
        have l := w_tr157n (X := X) (XL := XL) (d := d - 1) (t := tC P n e) (hS.z z3.1 z3.2.1) (hO.z z3.1 z3.2.1) z3.1 p1 p2 (by omega) (by omega) q
        subst ew
        (repeat' (first | (exact l) | (refine Ex_step ?_; conv => whnf) | (refine ⟨?_, trivial⟩) | (refine (show den _ _ _ _ _ _ _ _ from ?_); conv => whnf) | (refine ⟨fun c => False.elim (by omega), fun c => ?_⟩) | (refine ⟨fun c => ?_, fun c => False.elim (by omega)⟩) | (refine ⟨by (first | assumption | rfl | (exact Nat.le_of_ble_eq_true rfl) | (exact ⟨fun h01 => absurd h01 (by decide), by first | rfl | assumption⟩) | (exact ⟨fun _ => by decide, by first | rfl | assumption⟩) | (exact ⟨by assumption, by omega, by omega⟩) | (unfold inI; omega) | omega), ?_⟩; conv => whnf) | (refine ⟨fun c => ?_, fun c => ?_⟩) | (intro c) | fail))
set_option maxHeartbeats 1600000 in
theorem w_takeRow {X : Int → Int} {XL : Int} {d : Nat} {h : Mem} {Q : RetP} {K : Int} {A Nm : Int → Int} {v st : Nat} {P : Int → Int} {n e : Int} {c : Nat} {R : Int → Int → Int} {N c1 D : Int} {O : Int → Int} {r : (Int × Int) ⊕ (DS × Int)} (hd : 8 ≤ d) (hS : SR h st v) (hO : SOk h st) (hst : 15 ≤ st ∧ 15 ≤ v ∧ (st + 6 < v ∨ v + 12 < st)) (hA : At h P n e c) (hV : Vr K h v A) (hT : VAt h v) (hNm : gG h (v + 4) = Nm) (hsr : 58 < st ∨ st + 6 < 56) (hvr : 58 < v ∨ v + 12 < 56) (hI : DI A R N c1 D O) (hCS : CS h st R N c1 D O) (hc : c = 0) (hr : dStep P n e A Nm R N c1 D O = r) (hq0 : ∀ x h', r = .inl x → FSf st h h' x → Q (some (vI 0)) h') (hq1 : ∀ S e' h', r = .inr (S, e') → Nx h' P n e' → CS h' st S.1 S.2.1 S.2.2.1 S.2.2.2.1 S.2.2.2.2 → FS st h h' → Q (some (vI 1)) h') : WP X XL d 85 [vR 56] h Q := by
  have k56_0 := (hS.z rfl rfl).1; have s0_0 := (hS.z rfl rfl).2.1; have s3_0 := (hS.z rfl rfl).2.2.2.1; have ks_0 := (hO.z rfl rfl).1
  have k10 := hA.X
  have a1 := hA.M.2.2.1
  have hs0 := hst.1
  obtain ⟨⟨q1, q2, q3⟩, -⟩ := id hCS
  have i1 := hI.1
  unfold dStep at hr
  refine eX4_takeRow (by omega) ?_
  by_cases c23 : tC P n e = 23
  · rw [if_pos c23] at hr
    have go : ∀ (d' : Nat) (Q' : RetP), 4 ≤ d' → (∀ h' b, h'.1 = h.1 → (b = 0 ∨ b = 1) → Q (some (vI b)) h' → Q' (some (vI b)) h') → WP X XL d' 87 [vR 56] h Q' := fun d' Q' x y => w_takeEnd x hS hO hst hA hV hT hNm hsr hvr hI hCS (by omega) c23 hr (fun x h2 er ff => y h2 0 ff.1 (Or.inl rfl) (hq0 x h2 er ff)) (fun e2 h2 hr2 hN2 hC2 f2 => y h2 1 f2.1 (Or.inr rfl) (hq1 _ e2 h2 hr2 hN2 hC2 f2))
    (repeat' (first | (exact q') | (rw [s0_0]) | (rw [a1]) | (refine go _ _ (by omega) (fun h' b g' hb' q' => ?_)) | (refine ⟨⟨fun _ => hb', g'⟩, ?_⟩) | (refine Ex_step ?_; conv => whnf) | (refine ⟨?_, trivial⟩) | (refine (show den _ _ _ _ _ _ _ _ from ?_); conv => whnf) | (refine ⟨fun c => False.elim (by omega), fun c => ?_⟩) | (refine ⟨fun c => ?_, fun c => False.elim (by omega)⟩) | (refine ⟨by (first | assumption | rfl | (exact Nat.le_of_ble_eq_true rfl) | (exact ⟨fun h01 => absurd h01 (by decide), by first | rfl | assumption⟩) | (exact ⟨fun _ => by decide, by first | rfl | assumption⟩) | (exact ⟨by assumption, by omega, by omega⟩) | (unfold inI; omega) | omega), ?_⟩; conv => whnf) | (refine ⟨fun c => ?_, fun c => ?_⟩) | (intro c) | fail))
  · rw [if_neg c23] at hr
    have rf : ∀ (k : Int) (d' : Nat) (Q' : RetP), 1 ≤ d' → .inl (fltK P n e k, tF P n e) = r → (∀ h', h'.1 = h.1 → Q (some (vI 0)) h' → Q' (some (vI 0)) h') → WP X XL d' 69 [vR 10, vI k] h Q' := fun k d' Q' x z y => k_refuse x hA z (fun x h1 er ff => y h1 ff.1 (hq0 x h1 er (FS.refl.f ff)))
    by_cases ct : tC P n e = 1 ∨ (14 ≤ tC P n e ∧ tC P n e ≤ 20) ∨ tC P n e = 22 ∨ tC P n e = 24
    · rw [if_neg (fun q => q ct)] at hr
      by_cases c30 : 30 ≤ c1
      · rw [if_pos c30] at hr
        (repeat' (first | (exact q') | (rw [s0_0]) | (rw [a1]) | (rw [s3_0]) | (rw [q1]) | (rw [q2]) | (refine w_beginsStep (by omega) (fun _ => ?_) (fun q => absurd ct q)) | (refine rf _ _ _ (by omega) hr (fun h' g' q' => ?_)) | (refine Ex_step ?_; conv => whnf) | (refine ⟨?_, trivial⟩) | (refine (show den _ _ _ _ _ _ _ _ from ?_); conv => whnf) | (refine ⟨fun c => False.elim (by omega), fun c => ?_⟩) | (refine ⟨fun c => ?_, fun c => False.elim (by omega)⟩) | (refine ⟨by (first | assumption | rfl | (exact Nat.le_of_ble_eq_true rfl) | (exact ⟨fun h01 => absurd h01 (by decide), by first | rfl | assumption⟩) | (exact ⟨fun _ => by decide, by first | rfl | assumption⟩) | (exact ⟨by assumption, by omega, by omega⟩) | (unfold inI; omega) | omega), ?_⟩; conv => whnf) | (refine ⟨fun c => ?_, fun c => ?_⟩) | (intro c) | fail))
      · rw [if_neg c30] at hr
        by_cases co : (tC P n e = 20 ∨ tC P n e = 22) ∧ 3 ≤ D
        · rw [if_pos co] at hr
          have co1 := co.1
          have co2 := co.2
          (repeat' (first | (exact q') | (rw [s0_0]) | (rw [a1]) | (rw [s3_0]) | (rw [q1]) | (rw [q2]) | (rw [q3]) | (refine w_beginsStep (by omega) (fun _ => ?_) (fun q => absurd ct q)) | (refine rf _ _ _ (by omega) hr (fun h' g' q' => ?_)) | (refine Ex_step ?_; conv => whnf) | (refine ⟨?_, trivial⟩) | (refine (show den _ _ _ _ _ _ _ _ from ?_); conv => whnf) | (refine ⟨fun c => False.elim (by omega), fun c => ?_⟩) | (refine ⟨fun c => ?_, fun c => False.elim (by omega)⟩) | (refine ⟨by (first | assumption | rfl | (exact Nat.le_of_ble_eq_true rfl) | (exact ⟨fun h01 => absurd h01 (by decide), by first | rfl | assumption⟩) | (exact ⟨fun _ => by decide, by first | rfl | assumption⟩) | (exact ⟨by assumption, by omega, by omega⟩) | (unfold inI; omega) | omega), ?_⟩; conv => whnf) | (refine ⟨fun c => ?_, fun c => ?_⟩) | (intro c) | fail))
        · rw [if_neg co] at hr
          have rest := fun w2 => w_tr109 (X := X) (XL := XL) (w2 := w2) hd hS hO hst hA hV hT hNm hsr hvr hI hCS hc ct c30 co hr hq0 hq1
          (repeat' (first | (exact rest _ (Or.inl ⟨by omega, rfl⟩)) | (exact rest _ (Or.inr ⟨by omega, rfl⟩)) | (rw [s0_0]) | (rw [a1]) | (rw [s3_0]) | (rw [q1]) | (rw [q2]) | (rw [q3]) | (refine w_beginsStep (by omega) (fun _ => ?_) (fun q => absurd ct q)) | (refine Ex_step ?_; conv => whnf) | (refine ⟨?_, trivial⟩) | (refine (show den _ _ _ _ _ _ _ _ from ?_); conv => whnf) | (refine ⟨fun c => False.elim (by omega), fun c => ?_⟩) | (refine ⟨fun c => ?_, fun c => False.elim (by omega)⟩) | (refine ⟨by (first | assumption | rfl | (exact Nat.le_of_ble_eq_true rfl) | (exact ⟨fun h01 => absurd h01 (by decide), by first | rfl | assumption⟩) | (exact ⟨fun _ => by decide, by first | rfl | assumption⟩) | (exact ⟨by assumption, by omega, by omega⟩) | (unfold inI; omega) | omega), ?_⟩; conv => whnf) | (refine ⟨fun c => ?_, fun c => ?_⟩) | (intro c) | fail))
    · rw [if_pos ct] at hr
      (repeat' (first | (exact q') | (rw [s0_0]) | (rw [a1]) | (refine w_beginsStep (by omega) (fun q => absurd q ct) (fun _ => ?_)) | (refine rf _ _ _ (by omega) hr (fun h' g' q' => ?_)) | (refine Ex_step ?_; conv => whnf) | (refine ⟨?_, trivial⟩) | (refine (show den _ _ _ _ _ _ _ _ from ?_); conv => whnf) | (refine ⟨fun c => False.elim (by omega), fun c => ?_⟩) | (refine ⟨fun c => ?_, fun c => False.elim (by omega)⟩) | (refine ⟨by (first | assumption | rfl | (exact Nat.le_of_ble_eq_true rfl) | (exact ⟨fun h01 => absurd h01 (by decide), by first | rfl | assumption⟩) | (exact ⟨fun _ => by decide, by first | rfl | assumption⟩) | (exact ⟨by assumption, by omega, by omega⟩) | (unfold inI; omega) | omega), ?_⟩; conv => whnf) | (refine ⟨fun c => ?_, fun c => ?_⟩) | (intro c) | fail))
