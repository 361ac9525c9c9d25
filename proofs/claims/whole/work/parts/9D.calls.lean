/-! LEVEL 2: viaduct, the class -/
def opn (h : Mem) (n : Int) : Mem := sG (sG (sG (sG h 10 6 n) 10 7 0) 10 3 0) 10 4 (-1)
set_option maxHeartbeats 4000000 in
theorem w_open {X : Int → Int} {XL : Int} {d : Nat} {h : Mem} {Q : RetP} {n : Int} (hd : 1 ≤ d) (k10 : kd h 10 = 5) (hn : 0 ≤ n ∧ n ≤ 900) (hq : Q none (opn h n)) : WP X XL d 59 [vR 10, vI n] h Q := by
  unfold opn at hq
  have e : min n 900 = n := by omega
  refine eX5_open (by omega) ?_
  (repeat' (first | (exact hq) | (rw [e]) | (refine Ex_step ?_; conv => whnf) | (refine ⟨?_, trivial⟩) | (refine (show den _ _ _ _ _ _ _ _ from ?_); conv => whnf) | (refine ⟨fun c => False.elim (by omega), fun c => ?_⟩) | (refine ⟨fun c => ?_, fun c => False.elim (by omega)⟩) | (refine ⟨by (first | assumption | rfl | (exact Nat.le_of_ble_eq_true rfl) | (exact ⟨fun h01 => absurd h01 (by decide), by first | rfl | assumption⟩) | (exact ⟨fun _ => by decide, by first | rfl | assumption⟩) | (exact ⟨by assumption, by omega, by omega⟩) | (unfold inI; omega) | omega), ?_⟩; conv => whnf) | (refine ⟨fun c => ?_, fun c => ?_⟩) | (intro c) | fail))
set_option maxHeartbeats 4000000 in
theorem w_stClear {X : Int → Int} {XL : Int} {d : Nat} {h : Mem} {Q : RetP} {st : Nat} (hd : 1 ≤ d) (ks : kd h st = 3) (hq : Q none (sG (sG (sG h st 0 0) st 1 0) st 2 0)) : WP X XL d 73 [vR st] h Q := by
  refine eX3_clear (by omega) ?_
  (repeat' (first | (exact hq) | (refine ⟨Or.inl rfl, ?_⟩; conv => whnf) | (refine Ex_step ?_; conv => whnf) | (refine ⟨?_, trivial⟩) | (refine (show den _ _ _ _ _ _ _ _ from ?_); conv => whnf) | (refine ⟨fun c => False.elim (by omega), fun c => ?_⟩) | (refine ⟨fun c => ?_, fun c => False.elim (by omega)⟩) | (refine ⟨by (first | assumption | rfl | (exact Nat.le_of_ble_eq_true rfl) | (exact ⟨fun h01 => absurd h01 (by decide), by first | rfl | assumption⟩) | (exact ⟨fun _ => by decide, by first | rfl | assumption⟩) | (exact ⟨by assumption, by omega, by omega⟩) | (unfold inI; omega) | omega), ?_⟩; conv => whnf) | (refine ⟨fun c => ?_, fun c => ?_⟩) | (intro c) | fail))
/-- the class's text cells, and c bytes P on the tape -/
def TxT (h : Mem) (c : Int) (P : Int → Int) : Prop := (kd h 10 = 5 ∧ gR h 10 5 = 11 ∧ kd h 11 = 102 ∧ ln h 11 = 900) ∧ (gR h 10 8 = 12 ∧ kd h 12 = 100 ∧ ln h 12 = 12) ∧ (gR h 10 9 = 13 ∧ kd h 13 = 100 ∧ ln h 13 = 12) ∧ (gR h 10 10 = 14 ∧ kd h 14 = 101 ∧ ln h 14 = 12) ∧ gG h 10 0 = c ∧ (0 ≤ c ∧ c ≤ 900) ∧ ∀ i, 0 ≤ i → i < c → gG h 11 i = P i ∧ -128 ≤ P i ∧ P i ≤ 127
theorem TxT.opn {h : Mem} {c n : Int} {P : Int → Int} (q : TxT h c P) (hn : 0 ≤ n ∧ n ≤ c) : Nx (opn h n) P n 0 := by
  obtain ⟨q1, q2, q3, q4, q5, q6, q7⟩ := q
  refine ⟨⟨q1, q2, q3, q4, ?_, by omega, fun i a b => ⟨?_, (q7 i a (by omega)).2⟩⟩, by omega, ?_⟩
  · show gG (sG (sG (sG (sG h 10 6 n) 10 7 0) 10 3 0) 10 4 (-1)) 10 6 = n
    rw [g_ne (by omega), g_ne (by omega), g_ne (by omega), g_same]
  · show gG (sG (sG (sG (sG h 10 6 n) 10 7 0) 10 3 0) 10 4 (-1)) 11 i = P i
    rw [gG_sG, if_neg (by omega), gG_sG, if_neg (by omega), gG_sG, if_neg (by omega), gG_sG, if_neg (by omega)]
    exact (q7 i a (by omega)).1
  · show gG (sG (sG (sG (sG h 10 6 n) 10 7 0) 10 3 0) 10 4 (-1)) 10 7 = 0
    rw [g_ne (by omega), g_ne (by omega), g_same]
/-- what a Viaduct that was read leaves -/
def cvM (h : Mem) (sp v st : Nat) : Mem := sG (sG (sG (sG (sR (sR (sG h 10 0 0) 0 7 sp) 0 8 v) st 0 0) st 1 0) st 2 0) 0 0 0
theorem opn_g {h : Mem} {n : Int} {r : Nat} {i : Int} (q : ¬ r = 10) : gG (opn h n) r i = gG h r i := by
  unfold opn
  rw [gG_sG, if_neg (by omega), gG_sG, if_neg (by omega), gG_sG, if_neg (by omega), gG_sG, if_neg (by omega)]
set_option maxHeartbeats 4000000 in
theorem c_viaductN {X : Int → Int} {XL : Int} {d : Nat} {h : Mem} {Q : RetP} {c n : Int} {P : Int → Int} (hd : 2 ≤ d) (k0 : kd h 0 = 9) (r4 : gR h 0 4 = 10) (hT : TxT h c P) (hn : ¬ (0 ≤ n ∧ n ≤ c)) (hq : Q (some (vI (-1))) (sG h 0 0 1)) : WP X XL d 126 [vR 0, vI n] h Q := by
  have k10 := hT.1.1
  have e0 := hT.2.2.2.2.1
  refine eX9_viaduct (by omega) ?_
  (repeat' (first | (exact hq) | (rw [lc0]) | (rw [r4]) | (rw [e0]) | (refine w_within (by omega) (fun c => ?_) (fun c => False.elim (by omega))) | (refine w_within (by omega) (fun c => False.elim (by omega)) (fun c => ?_)) | (refine w_within (by omega) (fun c => ?_) (fun c => ?_)) | (refine w_none (by omega) k0 ?_) | (refine Ex_step ?_; conv => whnf) | (refine ⟨?_, trivial⟩) | (refine (show den _ _ _ _ _ _ _ _ from ?_); conv => whnf) | (refine ⟨fun c => False.elim (by omega), fun c => ?_⟩) | (refine ⟨fun c => ?_, fun c => False.elim (by omega)⟩) | (refine ⟨by (first | assumption | rfl | (exact Nat.le_of_ble_eq_true rfl) | (exact ⟨fun h01 => absurd h01 (by decide), by first | rfl | assumption⟩) | (exact ⟨fun _ => by decide, by first | rfl | assumption⟩) | (exact ⟨by assumption, by omega, by omega⟩) | (unfold inI; omega) | omega), ?_⟩; conv => whnf) | (refine ⟨fun c => ?_, fun c => ?_⟩) | (intro c) | fail))
set_option maxHeartbeats 4000000 in
theorem c_viaduct {X : Int → Int} {XL : Int} {d : Nat} {h : Mem} {Q : RetP} {c n K : Int} {P : Int → Int} {v sp st : Nat} {r : (Int × Int) ⊕ ((Int → Int) × (Int → Int))} (hd : 13 ≤ d) (k0 : kd h 0 = 9) (r4 : gR h 0 4 = 10) (r5 : gR h 0 5 = 55) (r7 : gR h 0 7 = v) (r8 : gR h 0 8 = sp) (r9 : gR h 0 9 = st) (ks : kd h st = 3) (hRd : Rd h) (hT : TxT h c P) (hO : VOk h sp) (hS : VAt h sp) (hv : 15 ≤ sp) (hv2 : sp + 12 < 55) (hst : sp + 12 < st) (hK : 0 ≤ K ∧ K ≤ 30000000) (hn : 0 ≤ n ∧ n ≤ c) (hr : vRd P n 901 0 plain0 (gG h (sp + 4)) 0 = r) (hq0 : ∀ x h', r = .inl x → FZf sp (opn h n) h' x → Q (some (vI (-1))) (sG (sG h' 10 0 0) 0 0 9)) (hq1 : ∀ A' N' h', r = .inr (A', N') → Vr K h' sp A' → gG h' (sp + 4) = N' → FZp sp (opn h n) h' → Q (some (vI (A' 1))) (cvM h' sp v st)) : WP X XL d 126 [vR 0, vI n] h Q := by
  have k10 := hT.1.1
  have e0 := hT.2.2.2.2.1
  have hc := hT.2.2.2.2.2.1
  have k55 := hRd.1
  have hN := hT.opn hn
  have hr2 : vRd P n 901 0 plain0 (gG (opn h n) (sp + 4)) 0 = r := by
    rw [show gG (opn h n) (sp + 4) = gG h (sp + 4) from funext (fun i => opn_g (by omega))]
    exact hr
  have kO := hO.1
  refine eX9_viaduct (by omega) ?_
  (repeat' (first | (rw [lc0]) | (rw [r4]) | (rw [e0]) | (rw [r5]) | (rw [r8]) | (refine w_within (by omega) (fun c => ?_) (fun c => False.elim (by omega))) | (refine w_within (by omega) (fun c => False.elim (by omega)) (fun c => ?_)) | (refine w_within (by omega) (fun c => ?_) (fun c => ?_)) | (refine w_open (by omega) k10 (by omega) ?_) | (refine Ex_step ?_; conv => whnf) | (refine ⟨?_, trivial⟩) | (refine (show den _ _ _ _ _ _ _ _ from ?_); conv => whnf) | (refine ⟨fun c => False.elim (by omega), fun c => ?_⟩) | (refine ⟨fun c => ?_, fun c => False.elim (by omega)⟩) | (refine ⟨by (first | assumption | rfl | (exact Nat.le_of_ble_eq_true rfl) | (exact ⟨fun h01 => absurd h01 (by decide), by first | rfl | assumption⟩) | (exact ⟨fun _ => by decide, by first | rfl | assumption⟩) | (exact ⟨by assumption, by omega, by omega⟩) | (unfold inI; omega) | omega), ?_⟩; conv => whnf) | (refine ⟨fun c => ?_, fun c => ?_⟩) | fail))
  have o1 : (opn h n).1 = h.1 := rfl
  have o2 : (opn h n).2.2 = h.2.2 := rfl
  have p5 : gR (opn h n) 0 5 = 55 := r5
  have p8 : gR (opn h n) 0 8 = sp := r8
  have pk : kd (opn h n) 0 = 9 := k0
  have pk55 : kd (opn h n) 55 = 8 := k55
  (repeat' (first | (rw [p5]) | (rw [p8]) | (refine Ex_step ?_; conv => whnf) | (refine ⟨?_, trivial⟩) | (refine (show den _ _ _ _ _ _ _ _ from ?_); conv => whnf) | (refine ⟨fun c => False.elim (by omega), fun c => ?_⟩) | (refine ⟨fun c => ?_, fun c => False.elim (by omega)⟩) | (refine ⟨by (first | assumption | rfl | (exact Nat.le_of_ble_eq_true rfl) | (exact ⟨fun h01 => absurd h01 (by decide), by first | rfl | assumption⟩) | (exact ⟨fun _ => by decide, by first | rfl | assumption⟩) | (exact ⟨by assumption, by omega, by omega⟩) | (unfold inI; omega) | omega), ?_⟩; conv => whnf) | (refine ⟨fun c => ?_, fun c => ?_⟩) | fail))
  refine w_readInto (A := plain0) (by omega) (show Rd (opn h n) from hRd) hN (show VOk (opn h n) sp from hO) (show VAt (opn h n) sp from hS) hv hv2 hK hr2 (fun x h2 er ff => ?_) (fun A2 N2 h2 er hV2 hN2 f2 => ?_)
  · have q := hq0 x h2 er ff
    have g2 : h2.1 = h.1 := ff.1
    have k02 : kd h2 0 = 9 := by unfold kd; rw [g2]; exact k0
    have k102 : kd h2 10 = 5 := by unfold kd; rw [g2]; exact k10
    have r42 : gR h2 0 4 = 10 := by unfold gR; rw [ff.2.1]; exact r4
    (repeat' (first | (exact q) | (rw [r42]) | (refine w_none (by omega) k02 ?_) | (refine Ex_step ?_; conv => whnf) | (refine ⟨?_, trivial⟩) | (refine (show den _ _ _ _ _ _ _ _ from ?_); conv => whnf) | (refine ⟨fun c => False.elim (by omega), fun c => ?_⟩) | (refine ⟨fun c => ?_, fun c => False.elim (by omega)⟩) | (refine ⟨by (first | assumption | rfl | (exact Nat.le_of_ble_eq_true rfl) | (exact ⟨fun h01 => absurd h01 (by decide), by first | rfl | assumption⟩) | (exact ⟨fun _ => by decide, by first | rfl | assumption⟩) | (exact ⟨by assumption, by omega, by omega⟩) | (unfold inI; omega) | omega), ?_⟩; conv => whnf) | (refine ⟨fun c => ?_, fun c => ?_⟩) | (intro c) | fail))
  · have q := hq1 A2 N2 h2 er hV2 hN2 f2
    unfold cvM at q
    have g2 : h2.1 = h.1 := f2.1
    have k02 : kd h2 0 = 9 := by unfold kd; rw [g2]; exact k0
    have k102 : kd h2 10 = 5 := by unfold kd; rw [g2]; exact k10
    have ks2 : kd h2 st = 3 := by unfold kd; rw [g2]; exact ks
    have gr : ∀ (i : Int), gR h2 0 i = gR h 0 i := fun i => by unfold gR; rw [f2.2.1, o2]
    have r42 : gR h2 0 4 = 10 := (gr 4).trans r4
    have r72 : gR (sG h2 10 0 0) 0 7 = v := (gr 7).trans r7
    have r82 : gR (sG h2 10 0 0) 0 8 = sp := (gr 8).trans r8
    have r92 : gR (sR (sR (sG h2 10 0 0) 0 7 sp) 0 8 v) 0 9 = st := by rw [gR_sR, if_neg (by omega), gR_sR, if_neg (by omega)]; exact (gr 9).trans r9
    have r73 : gR (sG (sG (sG (sR (sR (sG h2 10 0 0) 0 7 sp) 0 8 v) st 0 0) st 1 0) st 2 0) 0 7 = sp := by rw [gR_sG, gR_sG, gR_sG, gR_sR, if_neg (by omega), gR_sR, if_pos ⟨rfl, rfl⟩]
    have g5 : gG (sG (sG (sG (sR (sR (sG h2 10 0 0) 0 7 sp) 0 8 v) st 0 0) st 1 0) st 2 0) sp 5 = A2 1 := by
      rw [gG_sG, if_neg (by omega), gG_sG, if_neg (by omega), gG_sG, if_neg (by omega)]
      show gG (sG h2 10 0 0) sp 5 = A2 1
      rw [gG_sG, if_neg (by omega)]
      exact hV2.2.1.1.2.1
    have ksp := hV2.1.1
    (repeat' (first | (exact q) | (rw [r42]) | (rw [r72]) | (rw [r82]) | (rw [r92]) | (rw [r73]) | (rw [g5]) | (refine w_stClear (by omega) ks2 ?_) | (refine w_given (by omega) k02 ?_) | (refine Ex_step ?_; conv => whnf) | (refine ⟨?_, trivial⟩) | (refine (show den _ _ _ _ _ _ _ _ from ?_); conv => whnf) | (refine ⟨fun c => False.elim (by omega), fun c => ?_⟩) | (refine ⟨fun c => ?_, fun c => False.elim (by omega)⟩) | (refine ⟨by (first | assumption | rfl | (exact Nat.le_of_ble_eq_true rfl) | (exact ⟨fun h01 => absurd h01 (by decide), by first | rfl | assumption⟩) | (exact ⟨fun _ => by decide, by first | rfl | assumption⟩) | (exact ⟨by assumption, by omega, by omega⟩) | (unfold inI; omega) | omega), ?_⟩; conv => whnf) | (refine ⟨fun c => ?_, fun c => ?_⟩) | (intro c) | fail))
