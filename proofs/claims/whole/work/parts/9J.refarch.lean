/-! LEVEL 2: texts: arches and plants of a Viaduct, the reference -/
/-- the reference's new state -/
def RN (h : Mem) (A : Int → Int) : Prop := ∀ j, 0 ≤ j → j < 90 → gG h 128 (1832 + j) = A j
def bA (A : Int → Int) : Prop := (0 ≤ A 0 ∧ A 0 ≤ 9) ∧ (0 ≤ A 1 ∧ A 1 ≤ 6) ∧ (0 ≤ A 2 ∧ A 2 ≤ 8) ∧ ∀ j, 37 + 6 * A 1 ≤ j → j < 73 → A j = 0
/-- the next token and the new state have changed -/
def FA (h h' : Mem) : Prop := h'.1 = h.1 ∧ h'.2.2 = h.2.2 ∧ ∀ r i, ¬ (r = 127 ∧ 12 ≤ i ∧ i ≤ 15) → ¬ (r = 128 ∧ 1832 ≤ i ∧ i < 2290) → gG h' r i = gG h r i
theorem FA.trans {h h' h'' : Mem} (a : FA h h') (b : FA h' h'') : FA h h'' := ⟨b.1.trans a.1, b.2.1.trans a.2.1, fun r i p q => (b.2.2 r i p q).trans (a.2.2 r i p q)⟩
theorem Fq.A {h h' : Mem} (a : Fq h h') : FA h h' := ⟨a.1, a.2.1, fun r i p _ => a.2.2 r i p⟩
theorem FA.R {h h' : Mem} (a : FA h h') : FR h h' := ⟨a.1, a.2.1, fun r i p => a.2.2 r i (fun e => p (Or.inl ⟨e.1, Or.inl e.2⟩)) (fun e => p (Or.inr (Or.inl e)))⟩
theorem FA.s {h h' : Mem} {i z : Int} (a : FA h h') (q : 1832 ≤ i ∧ i < 2290) : FA h (sG h' 128 i z) := ⟨a.1, a.2.1, fun r j p t => by rw [gG_sG, if_neg (by omega)]; exact a.2.2 r j p t⟩
theorem Fq.Aw {h h' : Mem} {i z : Int} (a : Fq (sG h 128 i z) h') (q : 1832 ≤ i ∧ i < 2290) : FA h h' := ⟨a.1, a.2.1, fun r j p t => by rw [a.2.2 r j p, gG_sG, if_neg (by omega)]⟩
theorem RN.q {h h' : Mem} {A : Int → Int} (q : RN h A) (f : Fq h h') : RN h' A := fun j x y => (f.2.2 _ _ (by omega)).trans (q j x y)
theorem g_if {h : Mem} {r : Nat} {i j z : Int} : gG (sG h r i z) r j = if j = i then z else gG h r j := by
  by_cases e : j = i
  · rw [e, g_same, if_pos rfl]
  · rw [g_ne e, if_neg e]
def vArchF {β : Type} (P : Int → Int) (n e : Int) (A : Int → Int) (f : (Int → Int) × Int → (Int × Int) ⊕ β) : (Int × Int) ⊕ β := if 9 ≤ A 0 then .inl (fltK P n e 6, tF P n e) else bd (pTok P n (tE P n e) 4) (fun e1 => bd (pNum P n e1 0 60) (fun q => bd (pOpt P n q.2 5 9 (arcA A q.1 1) (moP (arcA A q.1 1) (A 0))) (fun u => bd (pOpt P n u.2 6 9 u.1 (toP u.1 (A 0))) f)))
theorem vArch_f {P : Int → Int} {n e : Int} {A : Int → Int} : vArchF P n e A (fun w => bd (pTok P n w.2 28) (fun e5 => .inr (w.1, e5))) = vArch P n e A := rfl
set_option maxHeartbeats 4000000 in
theorem r_anArch {X : Int → Int} {XL : Int} {d : Nat} {h : Mem} {Q : RetP} {P : Int → Int} {n e : Int} {A : Int → Int} {β : Type} {f : (Int → Int) × Int → (Int × Int) ⊕ β} {r : (Int × Int) ⊕ β} (hd : 10 ≤ d) (hA : Aq h P n e) (hX : RA h) (hN : RN h A) (hb : bA A) (hr : vArchF P n e A f = r) (hq0 : ∀ x h', r = .inl x → FRf h h' x → Q (some (vI 0)) h') (hq1 : ∀ A' e' h', f (A', e') = r → Aq h' P n e' → RN h' A' → bA A' → A' 1 = A 1 → FA h h' → Q (some (vI 1)) h') : WP X XL d 233 [vR 127] h Q := by
  have kq := hA.1.1.1
  obtain ⟨x0, xk, xl⟩ := id hX
  obtain ⟨b0, b1, b2, bz⟩ := id hb
  have n0 : gG h 128 (1832 + 0) = A 0 := hN 0 (by omega) (by omega)
  have n00 : gG h 128 1832 = A 0 := n0
  unfold vArchF at hr
  refine eX10_anArch (by omega) ?_
  by_cases c9 : 9 ≤ A 0
  · rw [if_pos c9] at hr
    (repeat' (first | (refine r_isFull (by omega) kq hX (by omega) n0 (fun _ => ?_) (fun q => False.elim (by omega))) | (refine Ex_step ?_; conv => whnf) | (refine ⟨?_, trivial⟩) | (refine (show den _ _ _ _ _ _ _ _ from ?_); conv => whnf) | (refine ⟨fun c => False.elim (by omega), fun c => ?_⟩) | (refine ⟨fun c => ?_, fun c => False.elim (by omega)⟩) | (refine ⟨by (first | assumption | rfl | (exact Nat.le_of_ble_eq_true rfl) | (exact ⟨fun h01 => absurd h01 (by decide), by first | rfl | assumption⟩) | (exact ⟨fun _ => by decide, by first | rfl | assumption⟩) | (exact ⟨by assumption, by omega, by omega⟩) | (unfold inI; omega) | omega), ?_⟩; conv => whnf) | (refine ⟨fun c => ?_, fun c => ?_⟩) | fail))
    refine q_fails (by omega) hA (by omega) hr (fun x h1 er ff => ?_)
    have q := hq0 x h1 er ff
    have g1 := ff.1
    (repeat' (first | (exact q) | (refine Ex_step ?_; conv => whnf) | (refine ⟨?_, trivial⟩) | (refine (show den _ _ _ _ _ _ _ _ from ?_); conv => whnf) | (refine ⟨fun c => False.elim (by omega), fun c => ?_⟩) | (refine ⟨fun c => ?_, fun c => False.elim (by omega)⟩) | (refine ⟨by (first | assumption | rfl | (exact Nat.le_of_ble_eq_true rfl) | (exact ⟨fun h01 => absurd h01 (by decide), by first | rfl | assumption⟩) | (exact ⟨fun _ => by decide, by first | rfl | assumption⟩) | (exact ⟨by assumption, by omega, by omega⟩) | (unfold inI; omega) | omega), ?_⟩; conv => whnf) | (refine ⟨fun c => ?_, fun c => ?_⟩) | (intro c) | fail))
  · rw [if_neg c9] at hr
    (repeat' (first | (refine r_isFull (by omega) kq hX (by omega) n0 (fun q => False.elim (by omega)) (fun _ => ?_)) | (rw [x0]) | (rw [n00]) | (refine ⟨⟨xk, by omega, Int.lt_of_lt_of_le (by omega : _ < (3198 : Int)) (Int.le_of_eq xl.symm)⟩, ?_⟩; conv => whnf) | (refine r_archRow (by omega) (by omega) ?_) | (refine Ex_step ?_; conv => whnf) | (refine ⟨?_, trivial⟩) | (refine (show den _ _ _ _ _ _ _ _ from ?_); conv => whnf) | (refine ⟨fun c => False.elim (by omega), fun c => ?_⟩) | (refine ⟨fun c => ?_, fun c => False.elim (by omega)⟩) | (refine ⟨by (first | assumption | rfl | (exact Nat.le_of_ble_eq_true rfl) | (exact ⟨fun h01 => absurd h01 (by decide), by first | rfl | assumption⟩) | (exact ⟨fun _ => by decide, by first | rfl | assumption⟩) | (exact ⟨by assumption, by omega, by omega⟩) | (unfold inI; omega) | omega), ?_⟩; conv => whnf) | (refine ⟨fun c => ?_, fun c => ?_⟩) | fail))
    refine q_ahead (by omega) hA (fun h1 hA1 f1 => ?_)
    have kq1 := hA1.1.1.1
    (repeat' (first | (refine Ex_step ?_; conv => whnf) | (refine ⟨?_, trivial⟩) | (refine (show den _ _ _ _ _ _ _ _ from ?_); conv => whnf) | (refine ⟨fun c => False.elim (by omega), fun c => ?_⟩) | (refine ⟨fun c => ?_, fun c => False.elim (by omega)⟩) | (refine ⟨by (first | assumption | rfl | (exact Nat.le_of_ble_eq_true rfl) | (exact ⟨fun h01 => absurd h01 (by decide), by first | rfl | assumption⟩) | (exact ⟨fun _ => by decide, by first | rfl | assumption⟩) | (exact ⟨by assumption, by omega, by omega⟩) | (unfold inI; omega) | omega), ?_⟩; conv => whnf) | (refine ⟨fun c => ?_, fun c => ?_⟩) | fail))
    refine q_word (w := 4) (by omega) hA1 (by omega) (by decide) hr (fun x h2 er ff => ?_) (fun e2 h2 hr2 hA2 f2 => ?_)
    · have q := hq0 x h2 er (f1.R.f ff)
      have g2 := ff.1.trans f1.1
      (repeat' (first | (exact q) | (refine Ex_step ?_; conv => whnf) | (refine ⟨?_, trivial⟩) | (refine (show den _ _ _ _ _ _ _ _ from ?_); conv => whnf) | (refine ⟨fun c => False.elim (by omega), fun c => ?_⟩) | (refine ⟨fun c => ?_, fun c => False.elim (by omega)⟩) | (refine ⟨by (first | assumption | rfl | (exact Nat.le_of_ble_eq_true rfl) | (exact ⟨fun h01 => absurd h01 (by decide), by first | rfl | assumption⟩) | (exact ⟨fun _ => by decide, by first | rfl | assumption⟩) | (exact ⟨by assumption, by omega, by omega⟩) | (unfold inI; omega) | omega), ?_⟩; conv => whnf) | (refine ⟨fun c => ?_, fun c => ?_⟩) | (intro c) | fail))
    · have a2 := f1.A.trans f2.A
      have kq2 := hA2.1.1.1
      (repeat' (first | (refine Ex_step ?_; conv => whnf) | (refine ⟨?_, trivial⟩) | (refine (show den _ _ _ _ _ _ _ _ from ?_); conv => whnf) | (refine ⟨fun c => False.elim (by omega), fun c => ?_⟩) | (refine ⟨fun c => ?_, fun c => False.elim (by omega)⟩) | (refine ⟨by (first | assumption | rfl | (exact Nat.le_of_ble_eq_true rfl) | (exact ⟨fun h01 => absurd h01 (by decide), by first | rfl | assumption⟩) | (exact ⟨fun _ => by decide, by first | rfl | assumption⟩) | (exact ⟨by assumption, by omega, by omega⟩) | (unfold inI; omega) | omega), ?_⟩; conv => whnf) | (refine ⟨fun c => ?_, fun c => ?_⟩) | fail))
      refine q_num (by omega) hA2 (hX.z a2.1 a2.2.1) (by omega) hr2 (fun x h3 er ff => ?_) (fun m e3 h3 m0 m0' m1 hr3 hA3 f3 => ?_)
      · have q := hq0 x h3 er (a2.R.f ff)
        have g3 := ff.1.trans a2.1
        (repeat' (first | (exact q) | (refine Ex_step ?_; conv => whnf) | (refine ⟨?_, trivial⟩) | (refine (show den _ _ _ _ _ _ _ _ from ?_); conv => whnf) | (refine ⟨fun c => False.elim (by omega), fun c => ?_⟩) | (refine ⟨fun c => ?_, fun c => False.elim (by omega)⟩) | (refine ⟨by (first | assumption | rfl | (exact Nat.le_of_ble_eq_true rfl) | (exact ⟨fun h01 => absurd h01 (by decide), by first | rfl | assumption⟩) | (exact ⟨fun _ => by decide, by first | rfl | assumption⟩) | (exact ⟨by assumption, by omega, by omega⟩) | (unfold inI; omega) | omega), ?_⟩; conv => whnf) | (refine ⟨fun c => ?_, fun c => ?_⟩) | (intro c) | fail))
      · have a3 := a2.trans (f3.Aw (by omega))
        have kq3 := hA3.1.1.1
        have w1 : arcA A m 1 (10 + 3 * A 0 + 1) = 0 := by unfold arcA; rw [pu_n (by omega), pu_n (by omega), pu_e]
        have w2 : arcA A m 1 (10 + 3 * A 0 + 2) = 1 := by unfold arcA; rw [pu_n (by omega), pu_e]
        (repeat' (first | (refine Ex_step ?_; conv => whnf) | (refine ⟨?_, trivial⟩) | (refine (show den _ _ _ _ _ _ _ _ from ?_); conv => whnf) | (refine ⟨fun c => False.elim (by omega), fun c => ?_⟩) | (refine ⟨fun c => ?_, fun c => False.elim (by omega)⟩) | (refine ⟨by (first | assumption | rfl | (exact Nat.le_of_ble_eq_true rfl) | (exact ⟨fun h01 => absurd h01 (by decide), by first | rfl | assumption⟩) | (exact ⟨fun _ => by decide, by first | rfl | assumption⟩) | (exact ⟨by assumption, by omega, by omega⟩) | (unfold inI; omega) | omega), ?_⟩; conv => whnf) | (refine ⟨fun c => ?_, fun c => ?_⟩) | fail))
        refine q_perh (w := 5) (idx := 10 + 3 * A 0 + 1) (by omega) hA3 (hX.z a3.1 a3.2.1) (by omega) (by omega) (by decide) (fun _ => rfl) w1 hr3 (fun x h4 er ff => ?_) (fun v1 e4 h4 b4 hr4 hA4 f4 => ?_)
        · have q := hq0 x h4 er (a3.R.f ff)
          have g4 := ff.1.trans a3.1
          (repeat' (first | (exact q) | (refine Ex_step ?_; conv => whnf) | (refine ⟨?_, trivial⟩) | (refine (show den _ _ _ _ _ _ _ _ from ?_); conv => whnf) | (refine ⟨fun c => False.elim (by omega), fun c => ?_⟩) | (refine ⟨fun c => ?_, fun c => False.elim (by omega)⟩) | (refine ⟨by (first | assumption | rfl | (exact Nat.le_of_ble_eq_true rfl) | (exact ⟨fun h01 => absurd h01 (by decide), by first | rfl | assumption⟩) | (exact ⟨fun _ => by decide, by first | rfl | assumption⟩) | (exact ⟨by assumption, by omega, by omega⟩) | (unfold inI; omega) | omega), ?_⟩; conv => whnf) | (refine ⟨fun c => ?_, fun c => ?_⟩) | (intro c) | fail))
        · have a4 := a3.trans (f4.Aw (by omega))
          have kq4 := hA4.1.1.1
          have w3 : pu (arcA A m 1) (10 + 3 * A 0 + 1) v1 (10 + 3 * A 0 + 2) = 1 := by rw [pu_n (by omega)]; exact w2
          (repeat' (first | (refine Ex_step ?_; conv => whnf) | (refine ⟨?_, trivial⟩) | (refine (show den _ _ _ _ _ _ _ _ from ?_); conv => whnf) | (refine ⟨fun c => False.elim (by omega), fun c => ?_⟩) | (refine ⟨fun c => ?_, fun c => False.elim (by omega)⟩) | (refine ⟨by (first | assumption | rfl | (exact Nat.le_of_ble_eq_true rfl) | (exact ⟨fun h01 => absurd h01 (by decide), by first | rfl | assumption⟩) | (exact ⟨fun _ => by decide, by first | rfl | assumption⟩) | (exact ⟨by assumption, by omega, by omega⟩) | (unfold inI; omega) | omega), ?_⟩; conv => whnf) | (refine ⟨fun c => ?_, fun c => ?_⟩) | fail))
          refine q_perh (w := 6) (idx := 10 + 3 * A 0 + 2) (by omega) hA4 (hX.z a4.1 a4.2.1) (by omega) (by omega) (by decide) (fun _ => rfl) w3 hr4 (fun x h5 er ff => ?_) (fun v2 e5 h5 b5 hr5 hA5 f5 => ?_)
          · have q := hq0 x h5 er (a4.R.f ff)
            have g5 := ff.1.trans a4.1
            (repeat' (first | (exact q) | (refine Ex_step ?_; conv => whnf) | (refine ⟨?_, trivial⟩) | (refine (show den _ _ _ _ _ _ _ _ from ?_); conv => whnf) | (refine ⟨fun c => False.elim (by omega), fun c => ?_⟩) | (refine ⟨fun c => ?_, fun c => False.elim (by omega)⟩) | (refine ⟨by (first | assumption | rfl | (exact Nat.le_of_ble_eq_true rfl) | (exact ⟨fun h01 => absurd h01 (by decide), by first | rfl | assumption⟩) | (exact ⟨fun _ => by decide, by first | rfl | assumption⟩) | (exact ⟨by assumption, by omega, by omega⟩) | (unfold inI; omega) | omega), ?_⟩; conv => whnf) | (refine ⟨fun c => ?_, fun c => ?_⟩) | (intro c) | fail))
          · have a5 := a4.trans (f5.Aw (by omega))
            have kq5 := hA5.1.1.1
            obtain ⟨y0, yk, yl⟩ := hX.z a5.1 a5.2.1
            have s2 : ∀ j, gG h2 128 j = gG h 128 j := fun j => (f2.2.2 _ _ (by omega)).trans (f1.2.2 _ _ (by omega))
            have s3 := f3.g
            have s4 := f4.g
            have s5 := f5.g
            have n5 : gG h5 128 1832 = A 0 := by rw [s5, if_neg (by omega), s4, if_neg (by omega), s3, if_neg (by omega), s2]; exact n00
            have g5 := a5.1
            have e1 : arcA A m 1 1 = A 1 ∧ arcA A m 1 2 = A 2 ∧ arcA A m 1 0 = A 0 + 1 := by simp only [arcA, pu]; exact ⟨by (repeat (first | rw [if_neg (by omega)] | rw [if_pos (by omega)] | rw [if_pos trivial])), by (repeat (first | rw [if_neg (by omega)] | rw [if_pos (by omega)] | rw [if_pos trivial])), by (repeat (first | rw [if_neg (by omega)] | rw [if_pos (by omega)] | rw [if_pos trivial]))⟩
            have q := hq1 _ e5 (sG h5 128 1832 (A 0 + 1)) hr5 hA5.a (fun j j0 j1 => by
              have e := hN j j0 j1
              rw [g_if, s5, s4, s3, s2, e]
              simp only [arcA, pu]
              repeat' split
              all_goals omega) (by
              refine ⟨?_, ?_, ?_, fun j j0 j1 => ?_⟩
              · rw [pu_n (by omega), pu_n (by omega), e1.2.2]; omega
              · rw [pu_n (by omega), pu_n (by omega), e1.1]; omega
              · rw [pu_n (by omega), pu_n (by omega), e1.2.1]; omega
              · rw [pu_n (by omega), pu_n (by omega), e1.1] at j0
                have := bz j j0 j1
                rw [pu_n (by omega), pu_n (by omega)]
                simp only [arcA, pu]
                (repeat (first | rw [if_neg (by omega)] | rw [if_pos (by omega)] | rw [if_pos trivial]))
                exact this) (by rw [pu_n (by omega), pu_n (by omega), e1.1]) (a5.s (by omega))
            (repeat' (first | (exact q) | (rw [y0]) | (rw [n5]) | (refine ⟨⟨yk, by omega, Int.lt_of_lt_of_le (by omega : _ < (3198 : Int)) (Int.le_of_eq yl.symm)⟩, ?_⟩; conv => whnf) | (refine Ex_step ?_; conv => whnf) | (refine ⟨?_, trivial⟩) | (refine (show den _ _ _ _ _ _ _ _ from ?_); conv => whnf) | (refine ⟨fun c => False.elim (by omega), fun c => ?_⟩) | (refine ⟨fun c => ?_, fun c => False.elim (by omega)⟩) | (refine ⟨by (first | assumption | rfl | (exact Nat.le_of_ble_eq_true rfl) | (exact ⟨fun h01 => absurd h01 (by decide), by first | rfl | assumption⟩) | (exact ⟨fun _ => by decide, by first | rfl | assumption⟩) | (exact ⟨by assumption, by omega, by omega⟩) | (unfold inI; omega) | omega), ?_⟩; conv => whnf) | (refine ⟨fun c => ?_, fun c => ?_⟩) | (intro c) | fail))
def vPlantF {β : Type} (P : Int → Int) (n e : Int) (A : Int → Int) (f : (Int → Int) × Int → (Int × Int) ⊕ β) : (Int × Int) ⊕ β := if 8 ≤ A 2 then .inl (fltK P n e 6, tF P n e) else bd (pNum P n (tE P n e) 1 30) (fun q => bd (pTok P n q.2 13) (fun e2 => bd (pNum P n e2 0 99) (fun u => f (plnA A q.1 u.1, u.2))))
theorem vPlant_f {P : Int → Int} {n e : Int} {A : Int → Int} : vPlantF P n e A (fun w => bd (pTok P n w.2 28) (fun e5 => .inr (w.1, e5))) = vPlant P n e A := rfl
set_option maxHeartbeats 4000000 in
theorem r_aPlant {X : Int → Int} {XL : Int} {d : Nat} {h : Mem} {Q : RetP} {P : Int → Int} {n e : Int} {A : Int → Int} {β : Type} {f : (Int → Int) × Int → (Int × Int) ⊕ β} {r : (Int × Int) ⊕ β} (hd : 10 ≤ d) (hA : Aq h P n e) (hX : RA h) (hN : RN h A) (hb : bA A) (hr : vPlantF P n e A f = r) (hq0 : ∀ x h', r = .inl x → FRf h h' x → Q (some (vI 0)) h') (hq1 : ∀ A' e' h', f (A', e') = r → Aq h' P n e' → RN h' A' → bA A' → A' 1 = A 1 → FA h h' → Q (some (vI 1)) h') : WP X XL d 235 [vR 127] h Q := by
  have kq := hA.1.1.1
  obtain ⟨x0, xk, xl⟩ := id hX
  obtain ⟨b0, b1, b2, bz⟩ := id hb
  have n0 : gG h 128 (1832 + 2) = A 2 := hN 2 (by omega) (by omega)
  have n00 : gG h 128 1834 = A 2 := n0
  unfold vPlantF at hr
  refine eX10_aPlant (by omega) ?_
  by_cases c9 : 8 ≤ A 2
  · rw [if_pos c9] at hr
    (repeat' (first | (refine r_isFull (by omega) kq hX (by omega) n0 (fun _ => ?_) (fun q => False.elim (by omega))) | (refine Ex_step ?_; conv => whnf) | (refine ⟨?_, trivial⟩) | (refine (show den _ _ _ _ _ _ _ _ from ?_); conv => whnf) | (refine ⟨fun c => False.elim (by omega), fun c => ?_⟩) | (refine ⟨fun c => ?_, fun c => False.elim (by omega)⟩) | (refine ⟨by (first | assumption | rfl | (exact Nat.le_of_ble_eq_true rfl) | (exact ⟨fun h01 => absurd h01 (by decide), by first | rfl | assumption⟩) | (exact ⟨fun _ => by decide, by first | rfl | assumption⟩) | (exact ⟨by assumption, by omega, by omega⟩) | (unfold inI; omega) | omega), ?_⟩; conv => whnf) | (refine ⟨fun c => ?_, fun c => ?_⟩) | fail))
    refine q_fails (by omega) hA (by omega) hr (fun x h1 er ff => ?_)
    have q := hq0 x h1 er ff
    have g1 := ff.1
    (repeat' (first | (exact q) | (refine Ex_step ?_; conv => whnf) | (refine ⟨?_, trivial⟩) | (refine (show den _ _ _ _ _ _ _ _ from ?_); conv => whnf) | (refine ⟨fun c => False.elim (by omega), fun c => ?_⟩) | (refine ⟨fun c => ?_, fun c => False.elim (by omega)⟩) | (refine ⟨by (first | assumption | rfl | (exact Nat.le_of_ble_eq_true rfl) | (exact ⟨fun h01 => absurd h01 (by decide), by first | rfl | assumption⟩) | (exact ⟨fun _ => by decide, by first | rfl | assumption⟩) | (exact ⟨by assumption, by omega, by omega⟩) | (unfold inI; omega) | omega), ?_⟩; conv => whnf) | (refine ⟨fun c => ?_, fun c => ?_⟩) | (intro c) | fail))
  · rw [if_neg c9] at hr
    (repeat' (first | (refine r_isFull (by omega) kq hX (by omega) n0 (fun q => False.elim (by omega)) (fun _ => ?_)) | (rw [x0]) | (rw [n00]) | (refine ⟨⟨xk, by omega, Int.lt_of_lt_of_le (by omega : _ < (3198 : Int)) (Int.le_of_eq xl.symm)⟩, ?_⟩; conv => whnf) | (refine r_plantRow (by omega) (by omega) ?_) | (refine Ex_step ?_; conv => whnf) | (refine ⟨?_, trivial⟩) | (refine (show den _ _ _ _ _ _ _ _ from ?_); conv => whnf) | (refine ⟨fun c => False.elim (by omega), fun c => ?_⟩) | (refine ⟨fun c => ?_, fun c => False.elim (by omega)⟩) | (refine ⟨by (first | assumption | rfl | (exact Nat.le_of_ble_eq_true rfl) | (exact ⟨fun h01 => absurd h01 (by decide), by first | rfl | assumption⟩) | (exact ⟨fun _ => by decide, by first | rfl | assumption⟩) | (exact ⟨by assumption, by omega, by omega⟩) | (unfold inI; omega) | omega), ?_⟩; conv => whnf) | (refine ⟨fun c => ?_, fun c => ?_⟩) | fail))
    refine q_ahead (by omega) hA (fun h1 hA1 f1 => ?_)
    have kq1 := hA1.1.1.1
    (repeat' (first | (refine Ex_step ?_; conv => whnf) | (refine ⟨?_, trivial⟩) | (refine (show den _ _ _ _ _ _ _ _ from ?_); conv => whnf) | (refine ⟨fun c => False.elim (by omega), fun c => ?_⟩) | (refine ⟨fun c => ?_, fun c => False.elim (by omega)⟩) | (refine ⟨by (first | assumption | rfl | (exact Nat.le_of_ble_eq_true rfl) | (exact ⟨fun h01 => absurd h01 (by decide), by first | rfl | assumption⟩) | (exact ⟨fun _ => by decide, by first | rfl | assumption⟩) | (exact ⟨by assumption, by omega, by omega⟩) | (unfold inI; omega) | omega), ?_⟩; conv => whnf) | (refine ⟨fun c => ?_, fun c => ?_⟩) | fail))
    refine q_num (by omega) hA1 (hX.z f1.1 f1.2.1) (by omega) hr (fun x h2 er ff => ?_) (fun m e2 h2 m0 m0' m1 hr2 hA2 f2 => ?_)
    · have q := hq0 x h2 er (f1.R.f ff)
      have g2 := ff.1.trans f1.1
      (repeat' (first | (exact q) | (refine Ex_step ?_; conv => whnf) | (refine ⟨?_, trivial⟩) | (refine (show den _ _ _ _ _ _ _ _ from ?_); conv => whnf) | (refine ⟨fun c => False.elim (by omega), fun c => ?_⟩) | (refine ⟨fun c => ?_, fun c => False.elim (by omega)⟩) | (refine ⟨by (first | assumption | rfl | (exact Nat.le_of_ble_eq_true rfl) | (exact ⟨fun h01 => absurd h01 (by decide), by first | rfl | assumption⟩) | (exact ⟨fun _ => by decide, by first | rfl | assumption⟩) | (exact ⟨by assumption, by omega, by omega⟩) | (unfold inI; omega) | omega), ?_⟩; conv => whnf) | (refine ⟨fun c => ?_, fun c => ?_⟩) | (intro c) | fail))
    · have a2 := f1.A.trans (f2.Aw (by omega))
      have kq2 := hA2.1.1.1
      (repeat' (first | (refine Ex_step ?_; conv => whnf) | (refine ⟨?_, trivial⟩) | (refine (show den _ _ _ _ _ _ _ _ from ?_); conv => whnf) | (refine ⟨fun c => False.elim (by omega), fun c => ?_⟩) | (refine ⟨fun c => ?_, fun c => False.elim (by omega)⟩) | (refine ⟨by (first | assumption | rfl | (exact Nat.le_of_ble_eq_true rfl) | (exact ⟨fun h01 => absurd h01 (by decide), by first | rfl | assumption⟩) | (exact ⟨fun _ => by decide, by first | rfl | assumption⟩) | (exact ⟨by assumption, by omega, by omega⟩) | (unfold inI; omega) | omega), ?_⟩; conv => whnf) | (refine ⟨fun c => ?_, fun c => ?_⟩) | fail))
      refine q_word (w := 13) (by omega) hA2 (by omega) (by decide) hr2 (fun x h3 er ff => ?_) (fun e3 h3 hr3 hA3 f3 => ?_)
      · have q := hq0 x h3 er (a2.R.f ff)
        have g3 := ff.1.trans a2.1
        (repeat' (first | (exact q) | (refine Ex_step ?_; conv => whnf) | (refine ⟨?_, trivial⟩) | (refine (show den _ _ _ _ _ _ _ _ from ?_); conv => whnf) | (refine ⟨fun c => False.elim (by omega), fun c => ?_⟩) | (refine ⟨fun c => ?_, fun c => False.elim (by omega)⟩) | (refine ⟨by (first | assumption | rfl | (exact Nat.le_of_ble_eq_true rfl) | (exact ⟨fun h01 => absurd h01 (by decide), by first | rfl | assumption⟩) | (exact ⟨fun _ => by decide, by first | rfl | assumption⟩) | (exact ⟨by assumption, by omega, by omega⟩) | (unfold inI; omega) | omega), ?_⟩; conv => whnf) | (refine ⟨fun c => ?_, fun c => ?_⟩) | (intro c) | fail))
      · have a3 := a2.trans f3.A
        have kq3 := hA3.1.1.1
        (repeat' (first | (refine Ex_step ?_; conv => whnf) | (refine ⟨?_, trivial⟩) | (refine (show den _ _ _ _ _ _ _ _ from ?_); conv => whnf) | (refine ⟨fun c => False.elim (by omega), fun c => ?_⟩) | (refine ⟨fun c => ?_, fun c => False.elim (by omega)⟩) | (refine ⟨by (first | assumption | rfl | (exact Nat.le_of_ble_eq_true rfl) | (exact ⟨fun h01 => absurd h01 (by decide), by first | rfl | assumption⟩) | (exact ⟨fun _ => by decide, by first | rfl | assumption⟩) | (exact ⟨by assumption, by omega, by omega⟩) | (unfold inI; omega) | omega), ?_⟩; conv => whnf) | (refine ⟨fun c => ?_, fun c => ?_⟩) | fail))
        refine q_num (by omega) hA3 (hX.z a3.1 a3.2.1) (by omega) hr3 (fun x h4 er ff => ?_) (fun j4 e4 h4 j0 j0' j1 hr4 hA4 f4 => ?_)
        · have q := hq0 x h4 er (a3.R.f ff)
          have g4 := ff.1.trans a3.1
          (repeat' (first | (exact q) | (refine Ex_step ?_; conv => whnf) | (refine ⟨?_, trivial⟩) | (refine (show den _ _ _ _ _ _ _ _ from ?_); conv => whnf) | (refine ⟨fun c => False.elim (by omega), fun c => ?_⟩) | (refine ⟨fun c => ?_, fun c => False.elim (by omega)⟩) | (refine ⟨by (first | assumption | rfl | (exact Nat.le_of_ble_eq_true rfl) | (exact ⟨fun h01 => absurd h01 (by decide), by first | rfl | assumption⟩) | (exact ⟨fun _ => by decide, by first | rfl | assumption⟩) | (exact ⟨by assumption, by omega, by omega⟩) | (unfold inI; omega) | omega), ?_⟩; conv => whnf) | (refine ⟨fun c => ?_, fun c => ?_⟩) | (intro c) | fail))
        · have a4 := a3.trans (f4.Aw (by omega))
          have kq4 := hA4.1.1.1
          obtain ⟨y0, yk, yl⟩ := hX.z a4.1 a4.2.1
          have s1 : ∀ j, gG h1 128 j = gG h 128 j := fun j => f1.2.2 _ _ (by omega)
          have s2 := f2.g
          have s3 : ∀ j, gG h3 128 j = gG h2 128 j := fun j => f3.2.2 _ _ (by omega)
          have s4 := f4.g
          have n5 : gG h4 128 1834 = A 2 := by rw [s4, if_neg (by omega), s3, s2, if_neg (by omega), s1]; exact n00
          have g4 := a4.1
          have e1 : plnA A m j4 0 = A 0 ∧ plnA A m j4 1 = A 1 ∧ plnA A m j4 2 = A 2 + 1 := by simp only [plnA, pu]; exact ⟨by (repeat (first | rw [if_neg (by omega)] | rw [if_pos (by omega)] | rw [if_pos trivial])), by (repeat (first | rw [if_neg (by omega)] | rw [if_pos (by omega)] | rw [if_pos trivial])), by (repeat (first | rw [if_neg (by omega)] | rw [if_pos (by omega)] | rw [if_pos trivial]))⟩
          have q := hq1 _ e4 (sG h4 128 1834 (A 2 + 1)) hr4 hA4.a (fun j j0 j1 => by
            have e := hN j j0 j1
            rw [g_if, s4, s3, s2, s1, e]
            simp only [plnA, pu]
            repeat' split
            all_goals omega) (by
            refine ⟨?_, ?_, ?_, fun j j0 j1 => ?_⟩
            · rw [e1.1]; omega
            · rw [e1.2.1]; omega
            · rw [e1.2.2]; omega
            · rw [e1.2.1] at j0
              have := bz j j0 j1
              simp only [plnA, pu]
              (repeat (first | rw [if_neg (by omega)] | rw [if_pos (by omega)] | rw [if_pos trivial]))
              exact this) e1.2.1 (a4.s (by omega))
          (repeat' (first | (exact q) | (rw [y0]) | (rw [n5]) | (refine ⟨⟨yk, by omega, Int.lt_of_lt_of_le (by omega : _ < (3198 : Int)) (Int.le_of_eq yl.symm)⟩, ?_⟩; conv => whnf) | (refine Ex_step ?_; conv => whnf) | (refine ⟨?_, trivial⟩) | (refine (show den _ _ _ _ _ _ _ _ from ?_); conv => whnf) | (refine ⟨fun c => False.elim (by omega), fun c => ?_⟩) | (refine ⟨fun c => ?_, fun c => False.elim (by omega)⟩) | (refine ⟨by (first | assumption | rfl | (exact Nat.le_of_ble_eq_true rfl) | (exact ⟨fun h01 => absurd h01 (by decide), by first | rfl | assumption⟩) | (exact ⟨fun _ => by decide, by first | rfl | assumption⟩) | (exact ⟨by assumption, by omega, by omega⟩) | (unfold inI; omega) | omega), ?_⟩; conv => whnf) | (refine ⟨fun c => ?_, fun c => ?_⟩) | (intro c) | fail))
