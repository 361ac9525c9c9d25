/-! LEVEL 2: calls, class and reference: what only looks -/
/-- the class's object with its Viaduct at n -/
def Cls (K : Int) (n : Nat) (h : Mem) (A : Int → Int) : Prop := (kd h 0 = 9 ∧ gR h 0 7 = n ∧ VAt h n) ∧ Vr K h n A
/-- a call of the class that answers o, its Viaduct then is A' -/
def CV (X : Int → Int) (XL : Int) (d y : Nat) (args : List MV) (A A' : Int → Int) (o : Int × Int) : Prop := ∀ (K : Int) (n : Nat) (h : Mem) (Q : RetP), Cls K n h A → K + 25000 ≤ 30000000 → (∀ h', Vr (K + 25000) h' n A' → Fr (VP n) h h' → Q (some (vI o.1)) (sG h' 0 0 o.2)) → WP X XL d y (vR 0 :: args) h Q
def FrH (h h' : Mem) : Prop := h'.1 = h.1 ∧ h'.2.2 = h.2.2 ∧ (∀ r, (r < 127 ∨ r = 129 ∨ r = 130 ∨ r = 131 ∨ r = 132 ∨ r = 133 ∨ r = 143 ∨ 145 ≤ r) → ∀ i, gG h' r i = gG h r i) ∧ (∀ j, 90 ≤ j → j < 1832 → gG h' 128 j = gG h 128 j) ∧ (∀ i, (i = 2 ∨ i = 3 ∨ i = 4 ∨ i = 10 ∨ i = 16 ∨ i = 17 ∨ i = 37 ∨ i = 38) → gG h' 127 i = gG h 127 i)
theorem FrH.refl {h : Mem} : FrH h h := ⟨rfl, rfl, fun _ _ _ => rfl, fun _ _ _ => rfl, fun _ _ => rfl⟩
theorem FrH.trans {h h' h'' : Mem} (a : FrH h h') (b : FrH h' h'') : FrH h h'' := ⟨b.1.trans a.1, b.2.1.trans a.2.1, fun r hr i => (b.2.2.1 r hr i).trans (a.2.2.1 r hr i), fun j h0 h1 => (b.2.2.2.1 j h0 h1).trans (a.2.2.2.1 j h0 h1), fun i hi => (b.2.2.2.2 i hi).trans (a.2.2.2.2 i hi)⟩
theorem FrA.H {h h' : Mem} (a : FrA h h') : FrH h h' := ⟨a.1.1, a.1.2.1, fun r hr i => a.1.2.2 r (by omega) i, fun j h0 _ => a.2 j (Or.inr h0), fun i _ => a.1.2.2 127 (by omega) i⟩
/-- a call of the reference likewise -/
def CR (X : Int → Int) (XL : Int) (d y : Nat) (args : List MV) (A A' : Int → Int) (o : Int × Int) : Prop := ∀ (K : Int) (h : Mem) (Q : RetP), Rr K h A → K + 25000 ≤ 30000000 → (∀ h', Rr (K + 25000) h' A' → FrH h h' → Q (some (vI o.1)) (sG h' 127 2 o.2)) → WP X XL d y (vR 127 :: args) h Q
def o_strain (A : Int → Int) (p a : Int) : Int × Int := if (0 ≤ p ∧ p < A 1) ∧ 0 ≤ a ∧ a < A 0 then (sAl A p a, 0) else (-1, 1)
set_option maxHeartbeats 4000000 in
theorem c_strain {X : Int → Int} {XL : Int} {d : Nat} {A : Int → Int} {p a : Int} (hd : 9 ≤ d) : CV X XL d 143 [vI p, vI a] A A (o_strain A p a) := by
  intro K n h Q hC hK hq
  obtain ⟨⟨k00, r7, hT⟩, hV⟩ := id hC; have kn := hV.1.1; have hA := hV.2.2
  have hq := hq h (Vr_K hV (by omega) (by omega)) Fr.refl
  unfold o_strain at hq
  refine eX9_strain (by omega) ?_
  (repeat' (first | (rw [r7]) | (refine w_hasPerson (by omega) hV (fun c => ?_) (fun c => ?_)) | (refine w_hasArch (by omega) hV (fun c => ?_) (fun c => ?_)) | (refine w_strainAlone (by omega) hV (by omega) (by omega) (by omega) (by omega) ?_) | (refine w_given (by omega) k00 ?_) | (refine w_none (by omega) k00 ?_) | (refine Ex_step ?_; conv => whnf) | (refine ⟨?_, trivial⟩) | (refine (show den _ _ _ _ _ _ _ _ from ?_); conv => whnf) | (refine ⟨by (first | assumption | rfl | (exact Nat.le_of_ble_eq_true rfl) | (exact ⟨fun h01 => absurd h01 (by decide), by first | rfl | assumption⟩) | (exact ⟨fun _ => by decide, by first | rfl | assumption⟩) | (exact ⟨by assumption, by omega, by omega⟩) | (unfold inI; omega) | omega), ?_⟩; conv => whnf) | (refine ⟨fun c => False.elim (by omega), fun c => ?_⟩) | (refine ⟨fun c => ?_, fun c => False.elim (by omega)⟩) | (refine ⟨fun c => ?_, fun c => ?_⟩) | (intro c) | fail))
  (all_goals (first | exact hq | (rw [if_pos (by omega)] at hq; exact hq) | (rw [if_neg (by omega)] at hq; exact hq) | (rw [if_neg (by omega), if_pos (by omega)] at hq; exact hq) | (rw [if_neg (by omega), if_neg (by omega)] at hq; exact hq) | (rw [if_pos (by omega), if_pos (by omega)] at hq; exact hq) | (rw [if_pos (by omega), if_neg (by omega)] at hq; exact hq) | (exfalso; omega)))
set_option maxHeartbeats 4000000 in
theorem m_strain {X : Int → Int} {XL : Int} {d : Nat} {A : Int → Int} {p a : Int} (hd : 9 ≤ d) : CR X XL d 286 [vI p, vI a] A A (o_strain A p a) := by
  intro K h Q hR hK hq
  have hq := hq h (Rr_K hR (by omega) (by omega)) FrH.refl; have kq := hR.1.1; have hA := hR.2.2
  unfold o_strain at hq
  refine eX10_strain (by omega) ?_
  (repeat' (first | (refine r_isPerson (by omega) hR (fun c => ?_) (fun c => ?_)) | (refine r_isArch (by omega) hR (fun c => ?_) (fun c => ?_)) | (refine r_strainBy (by omega) hR (by omega) (by omega) (by omega) (by omega) ?_) | (refine r_gives (by omega) kq ?_) | (refine r_refuse (by omega) kq ?_) | (refine Ex_step ?_; conv => whnf) | (refine ⟨?_, trivial⟩) | (refine (show den _ _ _ _ _ _ _ _ from ?_); conv => whnf) | (refine ⟨by (first | assumption | rfl | (exact Nat.le_of_ble_eq_true rfl) | (exact ⟨fun h01 => absurd h01 (by decide), by first | rfl | assumption⟩) | (exact ⟨fun _ => by decide, by first | rfl | assumption⟩) | (exact ⟨by assumption, by omega, by omega⟩) | (unfold inI; omega) | omega), ?_⟩; conv => whnf) | (refine ⟨fun c => False.elim (by omega), fun c => ?_⟩) | (refine ⟨fun c => ?_, fun c => False.elim (by omega)⟩) | (refine ⟨fun c => ?_, fun c => ?_⟩) | (intro c) | fail))
  (all_goals (first | exact hq | (rw [if_pos (by omega)] at hq; exact hq) | (rw [if_neg (by omega)] at hq; exact hq) | (rw [if_neg (by omega), if_pos (by omega)] at hq; exact hq) | (rw [if_neg (by omega), if_neg (by omega)] at hq; exact hq) | (rw [if_pos (by omega), if_pos (by omega)] at hq; exact hq) | (rw [if_pos (by omega), if_neg (by omega)] at hq; exact hq) | (exfalso; omega)))
def o_strainOf (A : Int → Int) (p o a : Int) : Int × Int := if ((0 ≤ p ∧ p < A 1) ∧ (0 ≤ o ∧ o < A 1) ∧ ¬ p = o) ∧ 0 ≤ a ∧ a < A 0 then (sRo A p o a, 0) else (-1, 1)
set_option maxHeartbeats 4000000 in
theorem c_strainOf {X : Int → Int} {XL : Int} {d : Nat} {A : Int → Int} {p o a : Int} (hd : 9 ≤ d) : CV X XL d 144 [vI p, vI o, vI a] A A (o_strainOf A p o a) := by
  intro K n h Q hC hK hq
  obtain ⟨⟨k00, r7, hT⟩, hV⟩ := id hC; have kn := hV.1.1; have hA := hV.2.2
  have hq := hq h (Vr_K hV (by omega) (by omega)) Fr.refl
  unfold o_strainOf at hq
  refine eX9_strainOf (by omega) ?_
  (repeat' (first | (rw [r7]) | (refine w_hasTwo (by omega) hV (fun c => ?_) (fun c => ?_)) | (refine w_hasArch (by omega) hV (fun c => ?_) (fun c => ?_)) | (refine w_strainRoped (by omega) hV (by omega) (by omega) (by omega) (by omega) (by omega) (by omega) ?_) | (refine w_given (by omega) k00 ?_) | (refine w_none (by omega) k00 ?_) | (refine Ex_step ?_; conv => whnf) | (refine ⟨?_, trivial⟩) | (refine (show den _ _ _ _ _ _ _ _ from ?_); conv => whnf) | (refine ⟨by (first | assumption | rfl | (exact Nat.le_of_ble_eq_true rfl) | (exact ⟨fun h01 => absurd h01 (by decide), by first | rfl | assumption⟩) | (exact ⟨fun _ => by decide, by first | rfl | assumption⟩) | (exact ⟨by assumption, by omega, by omega⟩) | (unfold inI; omega) | omega), ?_⟩; conv => whnf) | (refine ⟨fun c => False.elim (by omega), fun c => ?_⟩) | (refine ⟨fun c => ?_, fun c => False.elim (by omega)⟩) | (refine ⟨fun c => ?_, fun c => ?_⟩) | (intro c) | fail))
  (all_goals (first | exact hq | (rw [if_pos (by omega)] at hq; exact hq) | (rw [if_neg (by omega)] at hq; exact hq) | (rw [if_neg (by omega), if_pos (by omega)] at hq; exact hq) | (rw [if_neg (by omega), if_neg (by omega)] at hq; exact hq) | (rw [if_pos (by omega), if_pos (by omega)] at hq; exact hq) | (rw [if_pos (by omega), if_neg (by omega)] at hq; exact hq) | (exfalso; omega)))
set_option maxHeartbeats 4000000 in
theorem m_strainOf {X : Int → Int} {XL : Int} {d : Nat} {A : Int → Int} {p o a : Int} (hd : 9 ≤ d) : CR X XL d 287 [vI p, vI o, vI a] A A (o_strainOf A p o a) := by
  intro K h Q hR hK hq
  have hq := hq h (Rr_K hR (by omega) (by omega)) FrH.refl; have kq := hR.1.1; have hA := hR.2.2
  unfold o_strainOf at hq
  refine eX10_strainOf (by omega) ?_
  (repeat' (first | (refine r_isPerson (by omega) hR (fun c => ?_) (fun c => ?_)) | (refine r_isArch (by omega) hR (fun c => ?_) (fun c => ?_)) | (refine r_strainBoth (by omega) hR (by omega) (by omega) (by omega) (by omega) (by omega) (by omega) ?_) | (refine r_gives (by omega) kq ?_) | (refine r_refuse (by omega) kq ?_) | (refine Ex_step ?_; conv => whnf) | (refine ⟨?_, trivial⟩) | (refine (show den _ _ _ _ _ _ _ _ from ?_); conv => whnf) | (refine ⟨by (first | assumption | rfl | (exact Nat.le_of_ble_eq_true rfl) | (exact ⟨fun h01 => absurd h01 (by decide), by first | rfl | assumption⟩) | (exact ⟨fun _ => by decide, by first | rfl | assumption⟩) | (exact ⟨by assumption, by omega, by omega⟩) | (unfold inI; omega) | omega), ?_⟩; conv => whnf) | (refine ⟨fun c => False.elim (by omega), fun c => ?_⟩) | (refine ⟨fun c => ?_, fun c => False.elim (by omega)⟩) | (refine ⟨fun c => ?_, fun c => ?_⟩) | (intro c) | fail))
  (all_goals (first | exact hq | (rw [if_pos (by omega)] at hq; exact hq) | (rw [if_neg (by omega)] at hq; exact hq) | (rw [if_neg (by omega), if_pos (by omega)] at hq; exact hq) | (rw [if_neg (by omega), if_neg (by omega)] at hq; exact hq) | (rw [if_pos (by omega), if_pos (by omega)] at hq; exact hq) | (rw [if_pos (by omega), if_neg (by omega)] at hq; exact hq) | (exfalso; omega)))
def o_stops (A : Int → Int) (p : Int) : Int × Int := if 0 ≤ p ∧ p < A 1 then (if rrS A p p < A 0 then (rrS A p p, 0) else (-1, 6)) else (-1, 1)
set_option maxHeartbeats 4000000 in
theorem w_givenIfArch {X : Int → Int} {XL : Int} {d : Nat} {h : Mem} {Q : RetP} {K : Int} {A : Int → Int} {v : Nat} {z : Int} (hd : 2 ≤ d) (hC : Cls K v h A) (hq1 : 0 ≤ z ∧ z < A 0 → Q (some (vI z)) (sG h 0 0 0)) (hq0 : ¬ (0 ≤ z ∧ z < A 0) → Q (some (vI (-1))) (sG h 0 0 6)) : WP X XL d 177 [vR 0, vI z] h Q := by
  obtain ⟨⟨k00, r7, hT⟩, hV⟩ := id hC; have kn := hV.1.1; have hA := hV.2.2
  refine eX9_givenIfArch (by omega) ?_
  (repeat' (first | (rw [r7]) | (refine w_hasArch (by omega) hV (fun c => ?_) (fun c => ?_)) | (refine w_given (by omega) k00 ?_) | (refine w_none (by omega) k00 ?_) | (refine Ex_step ?_; conv => whnf) | (refine ⟨?_, trivial⟩) | (refine (show den _ _ _ _ _ _ _ _ from ?_); conv => whnf) | (refine ⟨by (first | assumption | rfl | (exact Nat.le_of_ble_eq_true rfl) | (exact ⟨fun h01 => absurd h01 (by decide), by first | rfl | assumption⟩) | (exact ⟨fun _ => by decide, by first | rfl | assumption⟩) | (exact ⟨by assumption, by omega, by omega⟩) | (unfold inI; omega) | omega), ?_⟩; conv => whnf) | (refine ⟨fun c => False.elim (by omega), fun c => ?_⟩) | (refine ⟨fun c => ?_, fun c => False.elim (by omega)⟩) | (refine ⟨fun c => ?_, fun c => ?_⟩) | (intro c) | fail))
  all_goals first | (exact hq1 (by omega)) | (exact hq0 (by omega))
theorem rrS_b {K : Int} {A : Int → Int} (hA : AOk K A) {p o : Int} (hp0 : 0 ≤ p) (hp1 : p < A 1) : 0 ≤ rrS A p o ∧ pA A p 3 ≤ rrS A p o ∧ rrS A p o ≤ A 0 := by
  have hb := hA.2.2.2.2.2.2.2.2.2.2.1 p hp0 hp1
  have := stN_rng (n := A 0) (ok := okB A p o) _ (pA A p 3) rfl (by omega)
  unfold rrS
  omega
theorem rrS_1 {A : Int → Int} {p : Int} : rrS A p p = stN (A 0) (okBy A p (pA A p 1) (A 4)) (pA A p 3) := by unfold rrS; rw [okB_1]
set_option maxHeartbeats 4000000 in
theorem c_stops {X : Int → Int} {XL : Int} {d : Nat} {A : Int → Int} {p : Int} (hd : 9 ≤ d) : CV X XL d 147 [vI p] A A (o_stops A p) := by
  intro K n h Q hC hK hq
  obtain ⟨⟨k00, r7, hT⟩, hV⟩ := id hC; have kn := hV.1.1; have hA := hV.2.2
  have hq := hq h (Vr_K hV (by omega) (by omega)) Fr.refl
  unfold o_stops at hq
  by_cases hp : 0 ≤ p ∧ p < A 1
  · have hb := rrS_b hA (o := p) hp.1 hp.2
    rw [rrS_1] at hq hb
    refine eX9_stops (by omega) ?_
    (repeat' (first | (rw [r7]) | (refine w_hasPerson (by omega) hV (fun c => ?_) (fun c => ?_)) | (refine w_stopAlone (by omega) hV (by omega) (by omega) ?_) | (refine w_givenIfArch (by omega) hC (fun c => ?_) (fun c => ?_)) | (refine w_given (by omega) k00 ?_) | (refine w_none (by omega) k00 ?_) | (refine Ex_step ?_; conv => whnf) | (refine ⟨?_, trivial⟩) | (refine (show den _ _ _ _ _ _ _ _ from ?_); conv => whnf) | (refine ⟨by (first | assumption | rfl | (exact Nat.le_of_ble_eq_true rfl) | (exact ⟨fun h01 => absurd h01 (by decide), by first | rfl | assumption⟩) | (exact ⟨fun _ => by decide, by first | rfl | assumption⟩) | (exact ⟨by assumption, by omega, by omega⟩) | (unfold inI; omega) | omega), ?_⟩; conv => whnf) | (refine ⟨fun c => False.elim (by omega), fun c => ?_⟩) | (refine ⟨fun c => ?_, fun c => False.elim (by omega)⟩) | (refine ⟨fun c => ?_, fun c => ?_⟩) | (intro c) | fail))
    (all_goals (first | exact hq | (rw [if_pos (by omega)] at hq; exact hq) | (rw [if_neg (by omega)] at hq; exact hq) | (rw [if_neg (by omega), if_pos (by omega)] at hq; exact hq) | (rw [if_neg (by omega), if_neg (by omega)] at hq; exact hq) | (rw [if_pos (by omega), if_pos (by omega)] at hq; exact hq) | (rw [if_pos (by omega), if_neg (by omega)] at hq; exact hq) | (exfalso; omega)))
  · refine eX9_stops (by omega) ?_
    (repeat' (first | (rw [r7]) | (refine w_hasPerson (by omega) hV (fun c => ?_) (fun c => ?_)) | (refine w_given (by omega) k00 ?_) | (refine w_none (by omega) k00 ?_) | (refine Ex_step ?_; conv => whnf) | (refine ⟨?_, trivial⟩) | (refine (show den _ _ _ _ _ _ _ _ from ?_); conv => whnf) | (refine ⟨by (first | assumption | rfl | (exact Nat.le_of_ble_eq_true rfl) | (exact ⟨fun h01 => absurd h01 (by decide), by first | rfl | assumption⟩) | (exact ⟨fun _ => by decide, by first | rfl | assumption⟩) | (exact ⟨by assumption, by omega, by omega⟩) | (unfold inI; omega) | omega), ?_⟩; conv => whnf) | (refine ⟨fun c => False.elim (by omega), fun c => ?_⟩) | (refine ⟨fun c => ?_, fun c => False.elim (by omega)⟩) | (refine ⟨fun c => ?_, fun c => ?_⟩) | (intro c) | fail))
    (all_goals (first | exact hq | (rw [if_pos (by omega)] at hq; exact hq) | (rw [if_neg (by omega)] at hq; exact hq) | (rw [if_neg (by omega), if_pos (by omega)] at hq; exact hq) | (rw [if_neg (by omega), if_neg (by omega)] at hq; exact hq) | (rw [if_pos (by omega), if_pos (by omega)] at hq; exact hq) | (rw [if_pos (by omega), if_neg (by omega)] at hq; exact hq) | (exfalso; omega)))
theorem nonN_1 {n s : Int} (h0 : 0 ≤ s) : (s < n → nonN n s = s ∧ ¬ nonN n s = -1) ∧ (n ≤ s → nonN n s = -1) := by
  unfold nonN
  split <;> omega
set_option maxHeartbeats 4000000 in
theorem m_stops {X : Int → Int} {XL : Int} {d : Nat} {A : Int → Int} {p : Int} (hd : 9 ≤ d) : CR X XL d 292 [vI p] A A (o_stops A p) := by
  intro K h Q hR hK hq
  have hq := hq h (Rr_K hR (by omega) (by omega)) FrH.refl; have kq := hR.1.1; have hA := hR.2.2
  unfold o_stops at hq
  have b0 := hA.1
  have b1 := hA.2.1
  by_cases hp : 0 ≤ p ∧ p < A 1
  · have hb := rrS_b hA (o := p) hp.1 hp.2
    have hn := nonN_1 (n := A 0) hb.1
    have hp3 := hA.2.2.2.2.2.2.2.2.2.2.1 p hp.1 hp.2
    unfold rrS at *
    refine eX10_stops (by omega) ?_
    (repeat' (first | (refine r_isPerson (by omega) hR (fun c => ?_) (fun c => ?_)) | (refine r_personOf (by omega) hR (by omega) (by omega) ?_) | (refine r_stopOf (by omega) hR (by omega) (by omega) (by omega) (by omega) (by omega) (by omega) ?_) | (refine r_orNone (by omega) kq (fun c => ?_) (fun c => ?_)) | (refine r_gives (by omega) kq ?_) | (refine r_refuse (by omega) kq ?_) | (refine Ex_step ?_; conv => whnf) | (refine ⟨?_, trivial⟩) | (refine (show den _ _ _ _ _ _ _ _ from ?_); conv => whnf) | (refine ⟨by (first | assumption | rfl | (exact Nat.le_of_ble_eq_true rfl) | (exact ⟨fun h01 => absurd h01 (by decide), by first | rfl | assumption⟩) | (exact ⟨fun _ => by decide, by first | rfl | assumption⟩) | (exact ⟨by assumption, by omega, by omega⟩) | (unfold inI; omega) | omega), ?_⟩; conv => whnf) | (refine ⟨fun c => False.elim (by omega), fun c => ?_⟩) | (refine ⟨fun c => ?_, fun c => False.elim (by omega)⟩) | (refine ⟨fun c => ?_, fun c => ?_⟩) | (intro c) | fail))
    all_goals first | (exfalso; omega) | (rw [if_pos (by omega), if_neg (by omega)] at hq; exact hq) | (rw [if_pos (by omega), if_pos (by omega)] at hq; rw [(hn.1 (by omega)).1]; exact hq)
  · refine eX10_stops (by omega) ?_
    (repeat' (first | (refine r_isPerson (by omega) hR (fun c => ?_) (fun c => ?_)) | (refine r_gives (by omega) kq ?_) | (refine r_refuse (by omega) kq ?_) | (refine Ex_step ?_; conv => whnf) | (refine ⟨?_, trivial⟩) | (refine (show den _ _ _ _ _ _ _ _ from ?_); conv => whnf) | (refine ⟨by (first | assumption | rfl | (exact Nat.le_of_ble_eq_true rfl) | (exact ⟨fun h01 => absurd h01 (by decide), by first | rfl | assumption⟩) | (exact ⟨fun _ => by decide, by first | rfl | assumption⟩) | (exact ⟨by assumption, by omega, by omega⟩) | (unfold inI; omega) | omega), ?_⟩; conv => whnf) | (refine ⟨fun c => False.elim (by omega), fun c => ?_⟩) | (refine ⟨fun c => ?_, fun c => False.elim (by omega)⟩) | (refine ⟨fun c => ?_, fun c => ?_⟩) | (intro c) | fail))
    (all_goals (first | exact hq | (rw [if_pos (by omega)] at hq; exact hq) | (rw [if_neg (by omega)] at hq; exact hq) | (rw [if_neg (by omega), if_pos (by omega)] at hq; exact hq) | (rw [if_neg (by omega), if_neg (by omega)] at hq; exact hq) | (rw [if_pos (by omega), if_pos (by omega)] at hq; exact hq) | (rw [if_pos (by omega), if_neg (by omega)] at hq; exact hq) | (exfalso; omega)))
