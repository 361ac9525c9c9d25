/-! LEVEL 2: decades, the class -/
def FD (st : Nat) (h h' : Mem) : Prop := h'.1 = h.1 ∧ (∀ r i, ¬ (r = 56 ∧ (i = 3 ∨ i = 4)) → gR h' r i = gR h r i) ∧ ∀ r i, ¬ SP st r → ¬ (r = 10 ∧ ¬ i = 0 ∧ ¬ i = 6) → ¬ (r = 12 ∨ r = 13 ∨ r = 14) → ¬ (r = 56 ∧ i = 2) → ¬ r = 57 → gG h' r i = gG h r i
def sr0 (h : Mem) (st v : Nat) : Mem := sG (sG (sG (sG (sR (sR h 56 3 st) 56 4 v) st 0 0) st 1 0) st 2 0) 56 2 0
theorem sr0_g {h : Mem} {st v : Nat} {r : Nat} {i : Int} (q : ¬ (r = st ∧ (i = 0 ∨ i = 1 ∨ i = 2)) ∧ ¬ (r = 56 ∧ i = 2)) : gG (sr0 h st v) r i = gG h r i := by
  unfold sr0
  rw [gG_sG, if_neg (by omega), gG_sG, if_neg (by omega), gG_sG, if_neg (by omega), gG_sG, if_neg (by omega)]
  rfl
theorem sr0_r {h : Mem} {st v : Nat} {r : Nat} {i : Int} (q : ¬ (r = 56 ∧ (i = 3 ∨ i = 4))) : gR (sr0 h st v) r i = gR h r i := by
  unfold sr0
  rw [gR_sG, gR_sG, gR_sG, gR_sG, gR_sR, if_neg (by omega), gR_sR, if_neg (by omega)]
theorem FS.d {st v : Nat} {h h' : Mem} (a : FS st (sr0 h st v) h') : FD st h h' := ⟨a.1, fun r i q => (show gR h' r i = gR (sr0 h st v) r i by unfold gR; rw [a.2.1]).trans (sr0_r q), fun r i p q t u w => by
  rw [a.2.2 r i p (by omega) t u w]
  exact sr0_g (by unfold SP at p; omega)⟩
theorem FSf.d {st v : Nat} {h h' : Mem} {x : Int × Int} (a : FSf st (sr0 h st v) h' x) : FD st h h' := ⟨a.1, fun r i q => (show gR h' r i = gR (sr0 h st v) r i by unfold gR; rw [a.2.1]).trans (sr0_r q), fun r i p q t u w => by
  rw [a.2.2.1 r i p q t u w]
  exact sr0_g (by unfold SP at p; omega)⟩
def S00 : DS := (fun _ _ => 0, 0, 0, 0, fun _ => 0)
/-- the reader's own cells, what it reads into apart -/
def SR1 (h : Mem) : Prop := kd h 56 = 4 ∧ gR h 56 0 = 10 ∧ (gR h 56 1 = 57 ∧ kd h 57 = 100 ∧ ln h 57 = 3)
theorem FS.V {K : Int} {h h' : Mem} {v st : Nat} {A : Int → Int} (hst : 15 ≤ st ∧ 15 ≤ v ∧ (st + 6 < v ∨ v + 12 < st)) (hvr : 58 < v ∨ v + 12 < 56) (z : FS st h h') (hV : Vr K h v A) (hT : VAt h v) : Vr K h' v A := hV.eq z.1 (fun i => by unfold gR; rw [z.2.1]) hT (fun r i x y => z.2.2 r i (by unfold SP; omega) (by omega) (by omega) (by omega) (by omega))
theorem FS.N {h h' : Mem} {v st : Nat} (hst : 15 ≤ st ∧ 15 ≤ v ∧ (st + 6 < v ∨ v + 12 < st)) (hvr : 58 < v ∨ v + 12 < 56) (z : FS st h h') : gG h' (v + 4) = gG h (v + 4) := by
  funext i
  exact z.2.2 _ i (by unfold SP; omega) (by omega) (by omega) (by omega) (by omega)
theorem CS.t {h : Mem} {st : Nat} {R : Int → Int → Int} {N c D z : Int} {O : Int → Int} (hsr : 58 < st ∨ st + 6 < 56) (q : CS h st R N c D O) : CS (sG h st 0 z) st R N c D O := by
  obtain ⟨⟨q1, q2, q3⟩, q4, q5, q6⟩ := q
  exact ⟨⟨by rw [g_ne (by omega)]; exact q1, by rw [g_ne (by omega)]; exact q2, by rw [gG_sG, if_neg (by omega)]; exact q3⟩, fun j a b => by rw [gG_sG, if_neg (by omega)]; exact q4 j a b, fun k a b => ⟨by rw [gG_sG, if_neg (by omega)]; exact (q5 k a b).1, (q5 k a b).2.c (fun r x y => by rw [gG_sG, if_neg (by omega)])⟩, fun k a b x => by rw [gG_sG, if_neg (by omega)]; exact q6 k a b x⟩
set_option maxHeartbeats 1600000 in
theorem w_stEnd {X : Int → Int} {XL : Int} {d : Nat} {h : Mem} {Q : RetP} {v st : Nat} {P : Int → Int} {n e i D : Int} {S1 : List (Nat × Nat)} {r : (Int × Int) ⊕ DS} (hd : 2 ≤ d) (hS : SR h st v) (hO : SOk h st) (hs0 : 15 ≤ st) (hS1 : h.1 = S1) (hA : At h P n e 0) (c32 : tC P n e = 32) (p3 : gG h 56 2 = D) (hr : ¬ D = 0 → .inl (fltK P n e 2, tF P n e) = r) (hq0 : ∀ x h', ¬ D = 0 → r = .inl x → Ff (sG h st 0 0) h' x → Q (some (vI 0)) h') (hq1 : D = 0 → Q (some (vI 1)) (sG h st 0 1)) : den (WP X XL (d - 1)) (Ex (WP X XL (d - 1)) KX4_readInto S1 Q) Q S1 [(.aload_n 0, i0), (.getfield 9, (4, 0, 2, [])), (.getfield 41, (5, 1, 0, [])), (.bipush 32, i0), (.if_icmp .ne 49, (96, 0, 0, [])), (.aload_n 0, i0), (.getfield 15, (4, 3, 2, [])), (.aload_n 0, i0), (.getfield 32, (4, 2, 0, [])), (.ifCond .ne 7, (65, 0, 0, [])), (.iconst 1, i0), (.goto 4, (66, 0, 0, []))] [some (vR 56), some (vR st), some (vR v), some (vI i)] [] h := by
  have k56 := hS.1
  have s0 := hS.2.1
  have s3 := hS.2.2.2.1
  have ks := hO.1
  have k10 := hA.X
  have a1 := hA.M.2.2.1
  by_cases cD : D = 0
  · have q := hq1 cD
    have u1 : gG (sG h st 0 1) st 0 = 1 := g_same
    (repeat' (first | (exact q) | (rw [gR_sG]) | (rw [s0]) | (rw [a1]) | (rw [s3]) | (rw [p3]) | (rw [u1]) | (refine ⟨Or.inr rfl, ?_⟩; conv => whnf) | (refine Ex_step ?_; conv => whnf) | (refine ⟨?_, trivial⟩) | (refine (show den _ _ _ _ _ _ _ _ from ?_); conv => whnf) | (refine ⟨fun c => False.elim (by omega), fun c => ?_⟩) | (refine ⟨fun c => ?_, fun c => False.elim (by omega)⟩) | (refine ⟨by (first | assumption | rfl | (exact Nat.le_of_ble_eq_true rfl) | (exact ⟨fun h01 => absurd h01 (by decide), by first | rfl | assumption⟩) | (exact ⟨fun _ => by decide, by first | rfl | assumption⟩) | (exact ⟨by assumption, by omega, by omega⟩) | (unfold inI; omega) | omega), ?_⟩; conv => whnf) | (refine ⟨fun c => ?_, fun c => ?_⟩) | (intro c) | fail))
  · have hA2 : At (sG h st 0 0) P n e 0 := hA.s (by omega)
    have u1 : gG (sG h st 0 0) st 0 = 0 := g_same
    (repeat' (first | (rw [gR_sG]) | (rw [s0]) | (rw [a1]) | (rw [s3]) | (rw [p3]) | (rw [u1]) | (refine ⟨Or.inl rfl, ?_⟩; conv => whnf) | (refine Ex_step ?_; conv => whnf) | (refine ⟨?_, trivial⟩) | (refine (show den _ _ _ _ _ _ _ _ from ?_); conv => whnf) | (refine ⟨fun c => False.elim (by omega), fun c => ?_⟩) | (refine ⟨fun c => ?_, fun c => False.elim (by omega)⟩) | (refine ⟨by (first | assumption | rfl | (exact Nat.le_of_ble_eq_true rfl) | (exact ⟨fun h01 => absurd h01 (by decide), by first | rfl | assumption⟩) | (exact ⟨fun _ => by decide, by first | rfl | assumption⟩) | (exact ⟨by assumption, by omega, by omega⟩) | (unfold inI; omega) | omega), ?_⟩; conv => whnf) | (refine ⟨fun c => ?_, fun c => ?_⟩) | fail))
    refine k_refuse (by omega) hA2 (hr cD) (fun x h3 er ff => ?_)
    have q := hq0 x h3 cD er ff
    have g3 : h3.1 = S1 := ff.1.trans hS1
    (repeat' (first | (exact q) | (refine Ex_step ?_; conv => whnf) | (refine ⟨?_, trivial⟩) | (refine (show den _ _ _ _ _ _ _ _ from ?_); conv => whnf) | (refine ⟨fun c => False.elim (by omega), fun c => ?_⟩) | (refine ⟨fun c => ?_, fun c => False.elim (by omega)⟩) | (refine ⟨by (first | assumption | rfl | (exact Nat.le_of_ble_eq_true rfl) | (exact ⟨fun h01 => absurd h01 (by decide), by first | rfl | assumption⟩) | (exact ⟨fun _ => by decide, by first | rfl | assumption⟩) | (exact ⟨by assumption, by omega, by omega⟩) | (unfold inI; omega) | omega), ?_⟩; conv => whnf) | (refine ⟨fun c => ?_, fun c => ?_⟩) | (intro c) | fail))
set_option maxHeartbeats 1600000 in
theorem w_stLoop {X : Int → Int} {XL : Int} {d : Nat} {h : Mem} {Q : RetP} {K : Int} {A : Int → Int} {v : Nat} {Nm P : Int → Int} {n : Int} {st : Nat} {S1 : List (Nat × Nat)} {r : (Int × Int) ⊕ DS} (hd : 12 ≤ d) (hS : SR h st v) (hO : SOk h st) (hS1 : h.1 = S1) (hst : 15 ≤ st ∧ 15 ≤ v ∧ (st + 6 < v ∨ v + 12 < st)) (hsr : 58 < st ∨ st + 6 < 56) (hvr : 58 < v ∨ v + 12 < 56) (hn : n ≤ 300) (hV : Vr K h v A) (hT : VAt h v) (hNm : gG h (v + 4) = Nm) (hq0 : ∀ x h', r = .inl x → FSf st h h' x → Q (some (vI 0)) h') (hq1 : ∀ S h', r = .inr S → gG h' st 0 = 1 → CS h' st S.1 S.2.1 S.2.2.1 S.2.2.2.1 S.2.2.2.2 → S.2.2.2.1 = 0 → DI A S.1 S.2.1 S.2.2.1 S.2.2.2.1 S.2.2.2.2 → FS st h h' → Q (some (vI 1)) h') : ∀ (f : Nat) (i e : Int) (S : DS) (hj : Mem), i + f = 301 → 0 ≤ i → i ≤ e → dRd P n A Nm f e S = r → Nx hj P n e → CS hj st S.1 S.2.1 S.2.2.1 S.2.2.2.1 S.2.2.2.2 → DI A S.1 S.2.1 S.2.2.1 S.2.2.2.1 S.2.2.2.2 → FS st h hj → Ex (WP X XL (d - 1)) KX4_readInto S1 Q 24 [some (vR 56), some (vR st), some (vR v), some (vI i)] [] hj := by
  intro f; induction f with
  | zero =>
    intro i e S hj hi h0 hie her hNj hCj hIj zj
    have := hNj.2.1
    omega
  | succ f ih =>
    intro i e S hj hi h0 hie her hNj hCj hIj zj
    rw [dRd_s] at her
    have k56_j := (hS.z zj.1 zj.2.1).1
    have s0_j := (hS.z zj.1 zj.2.1).2.1
    have k10j := hNj.1.1.1
    refine Ex_step ?_; conv => whnf
    (repeat' (first | (rw [s0_j]) | (refine Ex_step ?_; conv => whnf) | (refine ⟨?_, trivial⟩) | (refine (show den _ _ _ _ _ _ _ _ from ?_); conv => whnf) | (refine ⟨fun c => False.elim (by omega), fun c => ?_⟩) | (refine ⟨fun c => ?_, fun c => False.elim (by omega)⟩) | (refine ⟨by (first | assumption | rfl | (exact Nat.le_of_ble_eq_true rfl) | (exact ⟨fun h01 => absurd h01 (by decide), by first | rfl | assumption⟩) | (exact ⟨fun _ => by decide, by first | rfl | assumption⟩) | (exact ⟨by assumption, by omega, by omega⟩) | (unfold inI; omega) | omega), ?_⟩; conv => whnf) | (refine ⟨fun c => ?_, fun c => ?_⟩) | fail))
    refine w_gather (by omega) hNj (fun h1 hA1 f1 => ?_)
    have z1 := zj.trans (st := st) f1.S
    have hC1 := hCj.x hst.1 f1
    have hS1' := hS.z z1.1 z1.2.1
    have hO1' := hO.z z1.1 z1.2.1
    have g1 := z1.1.trans hS1
    clear k56_j s0_j k10j
    by_cases c32 : tC P n e = 32
    · rw [if_pos c32] at her
      refine (show den _ _ _ _ _ _ _ _ from w_stEnd (D := S.2.2.2.1) (r := r) (by omega) hS1' hO1' hst.1 g1 hA1 c32 hC1.1.2.2 (fun cD => by rw [if_neg cD] at her; exact her) (fun x h3 cD er ff => ?_) (fun cD => ?_))
      · have z2 : FS st h (sG h1 st 0 0) := z1.s (Or.inl (sp_s (by omega)))
        exact hq0 x h3 er (z2.f ff)
      · rw [if_pos cD] at her
        exact hq1 S (sG h1 st 0 1) her.symm g_same (hC1.t hsr) cD hIj (z1.s (Or.inl (sp_s (by omega))))
    · rw [if_neg c32] at her
      have a1 := hA1.M.2.2.1
      have k101 := hA1.X
      have k561 := hS1'.1
      have s01 := hS1'.2.1
      (repeat' (first | (rw [s01]) | (rw [a1]) | (refine Ex_step ?_; conv => whnf) | (refine ⟨?_, trivial⟩) | (refine (show den _ _ _ _ _ _ _ _ from ?_); conv => whnf) | (refine ⟨fun c => False.elim (by omega), fun c => ?_⟩) | (refine ⟨fun c => ?_, fun c => False.elim (by omega)⟩) | (refine ⟨by (first | assumption | rfl | (exact Nat.le_of_ble_eq_true rfl) | (exact ⟨fun h01 => absurd h01 (by decide), by first | rfl | assumption⟩) | (exact ⟨fun _ => by decide, by first | rfl | assumption⟩) | (exact ⟨by assumption, by omega, by omega⟩) | (unfold inI; omega) | omega), ?_⟩; conv => whnf) | (refine ⟨fun c => ?_, fun c => ?_⟩) | fail))
      refine w_takeRow (by omega) hS1' hO1' hst hA1 (z1.V hst hvr hV hT) (hT.z z1.2.1) ((z1.N hst hvr).trans hNm) hsr hvr hIj hC1 rfl rfl (fun x h2 er ff => ?_) (fun S2 e2 h2 er hN2 hC2 f2 => ?_)
      · rw [er] at her
        have z2 := z1.ff ff
        have q := hq0 x h2 her.symm z2
        have g2 := z2.1.trans hS1
        clear a1 k101 k561 s01 g1
        (repeat' (first | (exact q) | (refine Ex_step ?_; conv => whnf) | (refine ⟨?_, trivial⟩) | (refine (show den _ _ _ _ _ _ _ _ from ?_); conv => whnf) | (refine ⟨fun c => False.elim (by omega), fun c => ?_⟩) | (refine ⟨fun c => ?_, fun c => False.elim (by omega)⟩) | (refine ⟨by (first | assumption | rfl | (exact Nat.le_of_ble_eq_true rfl) | (exact ⟨fun h01 => absurd h01 (by decide), by first | rfl | assumption⟩) | (exact ⟨fun _ => by decide, by first | rfl | assumption⟩) | (exact ⟨by assumption, by omega, by omega⟩) | (unfold inI; omega) | omega), ?_⟩; conv => whnf) | (refine ⟨fun c => ?_, fun c => ?_⟩) | (intro c) | fail))
      · have lt := dStep_lt hA1.M.2.1.2 c32 er
        have hI2 := dStep_i hV.2.2.2.1.1 hIj er
        rw [er] at her
        have hn2 := hN2.2.1
        have nx := ih (i + 1) e2 S2 h2 (by omega) (by omega) (by have : e < e2 := lt.1; omega) her hN2 hC2 hI2 (z1.trans f2)
        clear a1 k101 k561 s01 g1
        (repeat' (first | (exact nx) | (refine Ex_step ?_; conv => whnf) | (refine ⟨?_, trivial⟩) | (refine (show den _ _ _ _ _ _ _ _ from ?_); conv => whnf) | (refine ⟨fun c => False.elim (by omega), fun c => ?_⟩) | (refine ⟨fun c => ?_, fun c => False.elim (by omega)⟩) | (refine ⟨by (first | assumption | rfl | (exact Nat.le_of_ble_eq_true rfl) | (exact ⟨fun h01 => absurd h01 (by decide), by first | rfl | assumption⟩) | (exact ⟨fun _ => by decide, by first | rfl | assumption⟩) | (exact ⟨by assumption, by omega, by omega⟩) | (unfold inI; omega) | omega), ?_⟩; conv => whnf) | (refine ⟨fun c => ?_, fun c => ?_⟩) | (intro c) | fail))
set_option maxHeartbeats 1600000 in
theorem w_stRead {X : Int → Int} {XL : Int} {d : Nat} {h : Mem} {Q : RetP} {K : Int} {A : Int → Int} {v : Nat} {Nm P : Int → Int} {n : Int} {st : Nat} {r : (Int × Int) ⊕ DS} (hd : 12 ≤ d) (hS1 : SR1 h) (hO1 : SOk h st) (hst : 15 ≤ st ∧ 15 ≤ v ∧ (st + 6 < v ∨ v + 12 < st)) (hsr : 58 < st ∨ st + 6 < 56) (hvr : 58 < v ∨ v + 12 < 56) (hN : Nx h P n 0) (hn : n ≤ 300) (hV0 : Vr K h v A) (hT0 : VAt h v) (hNm0 : gG h (v + 4) = Nm) (hr : dRd P n A Nm 301 0 S00 = r) (hq0 : ∀ x h', r = .inl x → FD st h h' → gG h' 10 3 = x.1 → gG h' 10 4 = x.2 → Q (some (vI 0)) h') (hq1 : ∀ S h', r = .inr S → gG h' st 0 = 1 → CS h' st S.1 S.2.1 S.2.2.1 S.2.2.2.1 S.2.2.2.2 → S.2.2.2.1 = 0 → DI A S.1 S.2.1 S.2.2.1 S.2.2.2.1 S.2.2.2.2 → FD st h h' → gG h' 10 3 = gG h 10 3 → gG h' 10 4 = gG h 10 4 → Q (some (vI 1)) h') : WP X XL d 84 [vR 56, vR st, vR v] h Q := by
  obtain ⟨k56, s0, s1, k57, l57⟩ := id hS1
  have ks := hO1.1
  have hS : SR (sr0 h st v) st v := by
    refine ⟨k56, ?_, ⟨?_, k57, l57⟩, ?_, ?_⟩
    · rw [sr0_r (by omega)]; exact s0
    · rw [sr0_r (by omega)]; exact s1
    · unfold sr0; rw [gR_sG, gR_sG, gR_sG, gR_sG, gR_sR, if_neg (by omega), gR_sR, if_pos ⟨rfl, rfl⟩]
    · unfold sr0; rw [gR_sG, gR_sG, gR_sG, gR_sG, gR_sR, if_pos ⟨rfl, rfl⟩]
  have hO : SOk (sr0 h st v) st := hO1.eq (by rfl) (fun i => sr0_r (by omega))
  have hT : VAt (sr0 h st v) v := hT0.eq (fun i => sr0_r (by omega))
  have hV : Vr K (sr0 h st v) v A := hV0.eq (by rfl) (fun i => sr0_r (by omega)) hT0 (fun r i x y => sr0_g (by omega))
  have hNm : gG (sr0 h st v) (v + 4) = Nm := by rw [← hNm0]; funext i; exact sr0_g (by omega)
  have hNx : Nx (sr0 h st v) P n 0 := hN.o (by rfl) (fun i => sr0_r (by omega)) (fun r i x y _ => sr0_g (by omega))
  have hC0 : CS (sr0 h st v) st S00.1 S00.2.1 S00.2.2.1 S00.2.2.2.1 S00.2.2.2.2 := ⟨⟨by unfold sr0; rw [gG_sG, if_neg (by omega), g_ne (by omega), g_same]; rfl, by unfold sr0; rw [gG_sG, if_neg (by omega), g_same]; rfl, by unfold sr0; rw [g_same]; rfl⟩, fun j a b => absurd b (by show ¬ j < 0; omega), fun k a b => absurd b (by show ¬ k < 0; omega), fun k a b => absurd b (by show ¬ k < 0; omega)⟩
  have l0 := w_stLoop (X := X) (XL := XL) (Q := Q) (S1 := h.1) (r := r) hd hS hO rfl hst hsr hvr hn hV hT hNm (fun x h' er ff => hq0 x h' er ff.d ff.2.2.2.1 ff.2.2.2.2) (fun S h' er t0 hC hD hI f => hq1 S h' er t0 hC hD hI f.d (by rw [f.2.2 _ _ (by unfold SP; omega) (by omega) (by omega) (by omega) (by omega)]; exact sr0_g (by omega)) (by rw [f.2.2 _ _ (by unfold SP; omega) (by omega) (by omega) (by omega) (by omega)]; exact sr0_g (by omega))) 301 0 0 S00 (sr0 h st v) (by omega) (by omega) (by omega) hr hNx hC0 DI_0 FS.refl
  unfold sr0 at l0
  have ks4 : kd (sR (sR h 56 3 st) 56 4 v) st = 3 := ks
  have r3 : gR (sR (sR h 56 3 st) 56 4 v) 56 3 = st := by rw [gR_sR, if_neg (by omega), gR_sR, if_pos ⟨rfl, rfl⟩]
  clear hS hO hT hV hNm hNx hC0 s0 s1 k57 l57
  refine eX4_readInto (by omega) ?_
  (repeat' (first | (exact l0) | (rw [r3]) | (refine w_stClear (by omega) ks4 ?_) | (refine Ex_step ?_; conv => whnf) | (refine ⟨?_, trivial⟩) | (refine (show den _ _ _ _ _ _ _ _ from ?_); conv => whnf) | (refine ⟨fun c => False.elim (by omega), fun c => ?_⟩) | (refine ⟨fun c => ?_, fun c => False.elim (by omega)⟩) | (refine ⟨by (first | assumption | rfl | (exact Nat.le_of_ble_eq_true rfl) | (exact ⟨fun h01 => absurd h01 (by decide), by first | rfl | assumption⟩) | (exact ⟨fun _ => by decide, by first | rfl | assumption⟩) | (exact ⟨by assumption, by omega, by omega⟩) | (unfold inI; omega) | omega), ?_⟩; conv => whnf) | (refine ⟨fun c => ?_, fun c => ?_⟩) | (intro c) | fail))
set_option maxHeartbeats 1600000 in
theorem c_decadesN {X : Int → Int} {XL : Int} {d : Nat} {h : Mem} {Q : RetP} {c n : Int} {P : Int → Int} (hd : 2 ≤ d) (k0 : kd h 0 = 9) (r4 : gR h 0 4 = 10) (hT : TxT h c P) (hn : ¬ (0 ≤ n ∧ n ≤ c ∧ n ≤ 300)) (hq : Q (some (vI (-1))) (sG h 0 0 1)) : WP X XL d 127 [vR 0, vI n] h Q := by
  have k10 := hT.1.1
  have e0 := hT.2.2.2.2.1
  refine eX9_decades (by omega) ?_
  (repeat' (first | (exact hq) | (rw [lc0]) | (rw [r4]) | (rw [e0]) | (refine w_within (by omega) (fun c => ?_) (fun c => False.elim (by omega))) | (refine w_within (by omega) (fun c => False.elim (by omega)) (fun c => ?_)) | (refine w_within (by omega) (fun c => ?_) (fun c => ?_)) | (refine w_none (by omega) k0 ?_) | (refine Ex_step ?_; conv => whnf) | (refine ⟨?_, trivial⟩) | (refine (show den _ _ _ _ _ _ _ _ from ?_); conv => whnf) | (refine ⟨fun c => False.elim (by omega), fun c => ?_⟩) | (refine ⟨fun c => ?_, fun c => False.elim (by omega)⟩) | (refine ⟨by (first | assumption | rfl | (exact Nat.le_of_ble_eq_true rfl) | (exact ⟨fun h01 => absurd h01 (by decide), by first | rfl | assumption⟩) | (exact ⟨fun _ => by decide, by first | rfl | assumption⟩) | (exact ⟨by assumption, by omega, by omega⟩) | (unfold inI; omega) | omega), ?_⟩; conv => whnf) | (refine ⟨fun c => ?_, fun c => ?_⟩) | (intro c) | fail))
set_option maxHeartbeats 1600000 in
theorem c_decades {X : Int → Int} {XL : Int} {d : Nat} {h : Mem} {Q : RetP} {c n K : Int} {P A Nm : Int → Int} {v sp st : Nat} {r : (Int × Int) ⊕ DS} (hd : 14 ≤ d) (k0 : kd h 0 = 9) (r4 : gR h 0 4 = 10) (r6 : gR h 0 6 = 56) (r7 : gR h 0 7 = v) (r9 : gR h 0 9 = st) (r10 : gR h 0 10 = sp) (hS1 : SR1 h) (hT : TxT h c P) (hO : SOk h sp) (hst : 15 ≤ sp ∧ 15 ≤ v ∧ (sp + 6 < v ∨ v + 12 < sp)) (hsr : 58 < sp ∨ sp + 6 < 56) (hvr : 58 < v ∨ v + 12 < 56) (hV : Vr K h v A) (hVT : VAt h v) (hNm : gG h (v + 4) = Nm) (hn : 0 ≤ n ∧ n ≤ c ∧ n ≤ 300) (hr : dRd P n A Nm 301 0 S00 = r) (hq0 : ∀ x h', r = .inl x → FD sp (opn h n) h' → gG h' 10 3 = x.1 → gG h' 10 4 = x.2 → Q (some (vI (-1))) (sG (sG h' 10 0 0) 0 0 9)) (hq1 : ∀ S h', r = .inr S → gG h' sp 0 = 1 → CS h' sp S.1 S.2.1 S.2.2.1 S.2.2.2.1 S.2.2.2.2 → S.2.2.2.1 = 0 → DI A S.1 S.2.1 S.2.2.1 S.2.2.2.1 S.2.2.2.2 → FD sp (opn h n) h' → gG h' 10 3 = 0 → gG h' 10 4 = -1 → Q (some (vI S.2.2.1)) (sG (sR (sR (sG h' 10 0 0) 0 9 sp) 0 10 st) 0 0 0)) : WP X XL d 127 [vR 0, vI n] h Q := by
  have k10 := hT.1.1
  have e0 := hT.2.2.2.2.1
  have hc := hT.2.2.2.2.2.1
  have k56 := hS1.1
  have hN := hT.opn (n := n) (by omega)
  have ksp := hO.1
  refine eX9_decades (by omega) ?_
  (repeat' (first | (rw [lc0]) | (rw [r4]) | (rw [e0]) | (refine w_within (by omega) (fun c => ?_) (fun c => False.elim (by omega))) | (refine w_within (by omega) (fun c => False.elim (by omega)) (fun c => ?_)) | (refine w_within (by omega) (fun c => ?_) (fun c => ?_)) | (refine w_open (by omega) k10 (by omega) ?_) | (refine Ex_step ?_; conv => whnf) | (refine ⟨?_, trivial⟩) | (refine (show den _ _ _ _ _ _ _ _ from ?_); conv => whnf) | (refine ⟨fun c => False.elim (by omega), fun c => ?_⟩) | (refine ⟨fun c => ?_, fun c => False.elim (by omega)⟩) | (refine ⟨by (first | assumption | rfl | (exact Nat.le_of_ble_eq_true rfl) | (exact ⟨fun h01 => absurd h01 (by decide), by first | rfl | assumption⟩) | (exact ⟨fun _ => by decide, by first | rfl | assumption⟩) | (exact ⟨by assumption, by omega, by omega⟩) | (unfold inI; omega) | omega), ?_⟩; conv => whnf) | (refine ⟨fun c => ?_, fun c => ?_⟩) | fail))
  have p6 : gR (opn h n) 0 6 = 56 := r6
  have p7 : gR (opn h n) 0 7 = v := r7
  have p10 : gR (opn h n) 0 10 = sp := r10
  have pk : kd (opn h n) 0 = 9 := k0
  have pk56 : kd (opn h n) 56 = 4 := k56
  have oV : Vr K (opn h n) v A := hV.eq (by rfl) (fun _ => by rfl) hVT (fun r i x y => opn_g (by omega))
  have oN : gG (opn h n) (v + 4) = Nm := by rw [← hNm]; funext i; exact opn_g (by omega)
  (repeat' (first | (rw [p6]) | (rw [p7]) | (rw [p10]) | (refine Ex_step ?_; conv => whnf) | (refine ⟨?_, trivial⟩) | (refine (show den _ _ _ _ _ _ _ _ from ?_); conv => whnf) | (refine ⟨fun c => False.elim (by omega), fun c => ?_⟩) | (refine ⟨fun c => ?_, fun c => False.elim (by omega)⟩) | (refine ⟨by (first | assumption | rfl | (exact Nat.le_of_ble_eq_true rfl) | (exact ⟨fun h01 => absurd h01 (by decide), by first | rfl | assumption⟩) | (exact ⟨fun _ => by decide, by first | rfl | assumption⟩) | (exact ⟨by assumption, by omega, by omega⟩) | (unfold inI; omega) | omega), ?_⟩; conv => whnf) | (refine ⟨fun c => ?_, fun c => ?_⟩) | fail))
  refine w_stRead (by omega) (show SR1 (opn h n) from hS1) (show SOk (opn h n) sp from hO) hst hsr hvr hN (by omega) oV (show VAt (opn h n) v from hVT) oN hr (fun x h2 er ff f3 f4 => ?_) (fun S h2 er t0 hC2 hD2 hI2 f2 f3 f4 => ?_)
  · have q := hq0 x h2 er ff f3 f4
    have g2 : h2.1 = h.1 := ff.1
    have k02 : kd h2 0 = 9 := by unfold kd; rw [g2]; exact k0
    have k102 : kd h2 10 = 5 := by unfold kd; rw [g2]; exact k10
    have r42 : gR h2 0 4 = 10 := (ff.2.1 0 4 (by omega)).trans r4
    (repeat' (first | (exact q) | (rw [r42]) | (refine w_none (by omega) k02 ?_) | (refine Ex_step ?_; conv => whnf) | (refine ⟨?_, trivial⟩) | (refine (show den _ _ _ _ _ _ _ _ from ?_); conv => whnf) | (refine ⟨fun c => False.elim (by omega), fun c => ?_⟩) | (refine ⟨fun c => ?_, fun c => False.elim (by omega)⟩) | (refine ⟨by (first | assumption | rfl | (exact Nat.le_of_ble_eq_true rfl) | (exact ⟨fun h01 => absurd h01 (by decide), by first | rfl | assumption⟩) | (exact ⟨fun _ => by decide, by first | rfl | assumption⟩) | (exact ⟨by assumption, by omega, by omega⟩) | (unfold inI; omega) | omega), ?_⟩; conv => whnf) | (refine ⟨fun c => ?_, fun c => ?_⟩) | (intro c) | fail))
  · have o3 : gG (opn h n) 10 3 = 0 := by unfold opn; rw [g_ne (by omega), g_same]
    have o4 : gG (opn h n) 10 4 = -1 := by unfold opn; rw [g_same]
    have q := hq1 S h2 er t0 hC2 hD2 hI2 f2 (f3.trans o3) (f4.trans o4)
    have g2 : h2.1 = h.1 := f2.1
    have k02 : kd h2 0 = 9 := by unfold kd; rw [g2]; exact k0
    have k102 : kd h2 10 = 5 := by unfold kd; rw [g2]; exact k10
    have ksp2 : kd h2 sp = 3 := by unfold kd; rw [g2]; exact ksp
    have gr : ∀ (i : Int), gR h2 0 i = gR h 0 i := fun i => f2.2.1 0 i (by omega)
    have r42 : gR h2 0 4 = 10 := (gr 4).trans r4
    have r92 : gR (sG h2 10 0 0) 0 9 = st := (gr 9).trans r9
    have r102 : gR (sG h2 10 0 0) 0 10 = sp := (gr 10).trans r10
    have r93 : gR (sR (sR (sG h2 10 0 0) 0 9 sp) 0 10 st) 0 9 = sp := by rw [gR_sR, if_neg (by omega), gR_sR, if_pos ⟨rfl, rfl⟩]
    have g5 : gG (sR (sR (sG h2 10 0 0) 0 9 sp) 0 10 st) sp 1 = S.2.2.1 := by
      show gG (sG h2 10 0 0) sp 1 = _
      rw [gG_sG, if_neg (by omega)]
      exact hC2.1.1
    (repeat' (first | (exact q) | (rw [r42]) | (rw [r92]) | (rw [r102]) | (rw [r93]) | (rw [g5]) | (refine w_given (by omega) k02 ?_) | (refine Ex_step ?_; conv => whnf) | (refine ⟨?_, trivial⟩) | (refine (show den _ _ _ _ _ _ _ _ from ?_); conv => whnf) | (refine ⟨fun c => False.elim (by omega), fun c => ?_⟩) | (refine ⟨fun c => ?_, fun c => False.elim (by omega)⟩) | (refine ⟨by (first | assumption | rfl | (exact Nat.le_of_ble_eq_true rfl) | (exact ⟨fun h01 => absurd h01 (by decide), by first | rfl | assumption⟩) | (exact ⟨fun _ => by decide, by first | rfl | assumption⟩) | (exact ⟨by assumption, by omega, by omega⟩) | (unfold inI; omega) | omega), ?_⟩; conv => whnf) | (refine ⟨fun c => ?_, fun c => ?_⟩) | (intro c) | fail))
