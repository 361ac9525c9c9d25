/-! LEVEL 2: texts: people of a Viaduct, the reference -/
def vPersonF {β : Type} (P : Int → Int) (n e : Int) (A N : Int → Int) (f : (Int → Int) × Int → (Int × Int) ⊕ β) : (Int × Int) ⊕ β := if 6 ≤ A 1 then .inl (fltK P n e 6, tF P n e) else if ¬ tC P n (tE P n e) = 25 then .inl (fltK P n (tE P n e) 2, tF P n (tE P n e)) else if ¬ nmI (A 1) N (c32 (tW P n (tE P n e))) = -1 then .inl (fltK P n (tE P n e) 3, tF P n (tE P n e)) else bd (pTok P n (tE P n (tE P n e)) 8) (fun e2 => bd (pNum P n e2 1 40) (fun q => bd (pOpt P n q.2 9 9 (perA A q.1) (dbP (perA A q.1) (A 1))) (fun u => bd (pOpt P n u.2 10 9 u.1 (loP u.1 (A 1))) (fun w => bd (pOpt P n w.2 11 (A 0) w.1 (bhP w.1 (A 1))) f))))
theorem vPerson_f {P : Int → Int} {n e : Int} {A N : Int → Int} : vPersonF P n e A N (fun w => bd (pTok P n w.2 28) (fun e5 => .inr (w.1, e5))) = vPerson P n e A N := rfl
/-- names of the class and of the reference's new state -/
def nmT (h : Mem) (N : Int → Int) (m : Int) : Prop := ∀ i, 0 ≤ i → i < m → nmP (N i) (gG h 129 (24 + i))
theorem FA.nm {h h' : Mem} (a : FA h h') (i : Int) : gG h' 129 i = gG h 129 i := a.2.2 _ _ (by omega) (by omega)
/-- names may change too -/
def FN (p : Int) (h h' : Mem) : Prop := h'.1 = h.1 ∧ h'.2.2 = h.2.2 ∧ ∀ r i, ¬ (r = 127 ∧ 12 ≤ i ∧ i ≤ 15) → ¬ (r = 128 ∧ 1832 ≤ i ∧ i < 2290) → ¬ (r = 129 ∧ i = 24 + p) → gG h' r i = gG h r i
theorem FA.N {p : Int} {h h' : Mem} (a : FA h h') : FN p h h' := ⟨a.1, a.2.1, fun r i x y _ => a.2.2 r i x y⟩
theorem FN.trans {p : Int} {h h' h'' : Mem} (a : FN p h h') (b : FN p h' h'') : FN p h h'' := ⟨b.1.trans a.1, b.2.1.trans a.2.1, fun r i x y z => (b.2.2 r i x y z).trans (a.2.2 r i x y z)⟩
theorem FN.s {p : Int} {h h' : Mem} {i z : Int} (a : FN p h h') (q : 1832 ≤ i ∧ i < 2290) : FN p h (sG h' 128 i z) := ⟨a.1, a.2.1, fun r j x y t => by rw [gG_sG, if_neg (by omega)]; exact a.2.2 r j x y t⟩
theorem FN.n {p : Int} {h h' : Mem} {z : Int} (a : FN p h h') : FN p h (sG h' 129 (24 + p) z) := ⟨a.1, a.2.1, fun r j x y t => by rw [gG_sG, if_neg t]; exact a.2.2 r j x y t⟩
theorem FN.R {p : Int} {h h' : Mem} (hp : 0 ≤ p ∧ p < 6) (a : FN p h h') : FR h h' := ⟨a.1, a.2.1, fun r i q => a.2.2 r i (fun e => q (Or.inl ⟨e.1, Or.inl e.2⟩)) (fun e => q (Or.inr (Or.inl e))) (fun e => q (Or.inr (Or.inr (Or.inl ⟨e.1, by omega, by omega⟩))))⟩
set_option maxHeartbeats 4000000 in
theorem r_aPerson {X : Int → Int} {XL : Int} {d : Nat} {h : Mem} {Q : RetP} {P : Int → Int} {n e : Int} {A N : Int → Int} {β : Type} {f : (Int → Int) × Int → (Int × Int) ⊕ β} {r : (Int × Int) ⊕ β} (hd : 10 ≤ d) (hA : Aq h P n e) (hX : RA h) (hY : RM h) (hN : RN h A) (hb : bA A) (hT : nmT h N (A 1)) (hr : vPersonF P n e A N f = r) (hq0 : ∀ x h', r = .inl x → FRf h h' x → Q (some (vI 0)) h') (hq1 : ∀ A' e' h', f (A', e') = r → Aq h' P n e' → RN h' A' → bA A' → A' 1 = A 1 + 1 → nmT h' (fun i => if i = A 1 then c32 (tW P n (tE P n e)) else N i) (A 1 + 1) → FR h h' → gG h' 127 20 = gG h 127 20 → Q (some (vI 1)) h') : WP X XL d 234 [vR 127] h Q := by
  have kq := hA.1.1.1
  obtain ⟨x0, xk, xl⟩ := id hX
  obtain ⟨b0, b1, b2, bz⟩ := id hb
  have n0 : gG h 128 (1832 + 1) = A 1 := hN 1 (by omega) (by omega)
  have n00 : gG h 128 1833 = A 1 := n0
  unfold vPersonF at hr
  refine eX10_aPerson (by omega) ?_
  by_cases c9 : 6 ≤ A 1
  · rw [if_pos c9] at hr
    (repeat' (first | (refine r_isFull (by omega) kq hX (by omega) n0 (fun _ => ?_) (fun q => False.elim (by omega))) | (rw [x0]) | (rw [n00]) | (refine ⟨⟨xk, by omega, Int.lt_of_lt_of_le (by omega : _ < (3198 : Int)) (Int.le_of_eq xl.symm)⟩, ?_⟩; conv => whnf) | (refine r_personRow (by omega) (by omega) ?_) | (refine Ex_step ?_; conv => whnf) | (refine ⟨?_, trivial⟩) | (refine (show den _ _ _ _ _ _ _ _ from ?_); conv => whnf) | (refine ⟨fun c => False.elim (by omega), fun c => ?_⟩) | (refine ⟨fun c => ?_, fun c => False.elim (by omega)⟩) | (refine ⟨by (first | assumption | rfl | (exact Nat.le_of_ble_eq_true rfl) | (exact ⟨fun h01 => absurd h01 (by decide), by first | rfl | assumption⟩) | (exact ⟨fun _ => by decide, by first | rfl | assumption⟩) | (exact ⟨by assumption, by omega, by omega⟩) | (unfold inI; omega) | omega), ?_⟩; conv => whnf) | (refine ⟨fun c => ?_, fun c => ?_⟩) | fail))
    refine q_fails (by omega) hA (by omega) hr (fun x h1 er ff => ?_)
    have q := hq0 x h1 er ff
    have g1 := ff.1
    (repeat' (first | (exact q) | (refine Ex_step ?_; conv => whnf) | (refine ⟨?_, trivial⟩) | (refine (show den _ _ _ _ _ _ _ _ from ?_); conv => whnf) | (refine ⟨fun c => False.elim (by omega), fun c => ?_⟩) | (refine ⟨fun c => ?_, fun c => False.elim (by omega)⟩) | (refine ⟨by (first | assumption | rfl | (exact Nat.le_of_ble_eq_true rfl) | (exact ⟨fun h01 => absurd h01 (by decide), by first | rfl | assumption⟩) | (exact ⟨fun _ => by decide, by first | rfl | assumption⟩) | (exact ⟨by assumption, by omega, by omega⟩) | (unfold inI; omega) | omega), ?_⟩; conv => whnf) | (refine ⟨fun c => ?_, fun c => ?_⟩) | (intro c) | fail))
  · rw [if_neg c9] at hr
    have hp : 0 ≤ A 1 ∧ A 1 < 6 := by omega
    (repeat' (first | (refine r_isFull (by omega) kq hX (by omega) n0 (fun q => False.elim (by omega)) (fun _ => ?_)) | (rw [x0]) | (rw [n00]) | (refine ⟨⟨xk, by omega, Int.lt_of_lt_of_le (by omega : _ < (3198 : Int)) (Int.le_of_eq xl.symm)⟩, ?_⟩; conv => whnf) | (refine r_personRow (by omega) (by omega) ?_) | (refine Ex_step ?_; conv => whnf) | (refine ⟨?_, trivial⟩) | (refine (show den _ _ _ _ _ _ _ _ from ?_); conv => whnf) | (refine ⟨fun c => False.elim (by omega), fun c => ?_⟩) | (refine ⟨fun c => ?_, fun c => False.elim (by omega)⟩) | (refine ⟨by (first | assumption | rfl | (exact Nat.le_of_ble_eq_true rfl) | (exact ⟨fun h01 => absurd h01 (by decide), by first | rfl | assumption⟩) | (exact ⟨fun _ => by decide, by first | rfl | assumption⟩) | (exact ⟨by assumption, by omega, by omega⟩) | (unfold inI; omega) | omega), ?_⟩; conv => whnf) | (refine ⟨fun c => ?_, fun c => ?_⟩) | fail))
    refine q_ahead (by omega) hA (fun h1 hA1 f1 => ?_)
    have kq1 := hA1.1.1.1
    by_cases c25 : tC P n (tE P n e) = 25
    · rw [if_neg (fun q => q c25)] at hr
      have hw := tW_ok hA1.2.1.2 c25
      have hY1 := hY.z f1.1 f1.2.1
      have nt : nmI (A 1) (fun i => gG h1 129 (24 + i)) (c256 (tW P n (tE P n e))) = nmI (A 1) N (c32 (tW P n (tE P n e))) := nmI_t (fun i i0 i1 => by rw [f1.2.2 _ _ (by omega)]; exact hT i i0 i1) hw
      by_cases cn : nmI (A 1) N (c32 (tW P n (tE P n e))) = -1
      · rw [if_neg (fun q => q cn)] at hr
        rw [cn] at nt
        obtain ⟨z1, zk, zl⟩ := id hY1
        (repeat' (first | (refine r_isName (by omega) hA1 (fun _ => ?_) (fun q => absurd c25 q)) | (refine r_findHere (by omega) hA1 c25 hY1 (by omega) (by omega) ?_) | (rw [nt]) | (rw [z1]) | (refine r_nameHere (by omega) hA1 c25 ?_) | (refine ⟨⟨zk, by omega, Int.lt_of_lt_of_le (by omega : _ < (36 : Int)) (Int.le_of_eq zl.symm)⟩, ?_⟩; conv => whnf) | (refine Ex_step ?_; conv => whnf) | (refine ⟨?_, trivial⟩) | (refine (show den _ _ _ _ _ _ _ _ from ?_); conv => whnf) | (refine ⟨fun c => False.elim (by omega), fun c => ?_⟩) | (refine ⟨fun c => ?_, fun c => False.elim (by omega)⟩) | (refine ⟨by (first | assumption | rfl | (exact Nat.le_of_ble_eq_true rfl) | (exact ⟨fun h01 => absurd h01 (by decide), by first | rfl | assumption⟩) | (exact ⟨fun _ => by decide, by first | rfl | assumption⟩) | (exact ⟨by assumption, by omega, by omega⟩) | (unfold inI; omega) | omega), ?_⟩; conv => whnf) | (refine ⟨fun c => ?_, fun c => ?_⟩) | fail))
        have hA1' : Aq (sG h1 129 (24 + A 1) (c256 (tW P n (tE P n e)))) P n (tE P n e) := hA1.o rfl rfl (fun r j q => by rw [gG_sG, if_neg (by omega)])
        refine q_ahead (by omega) hA1' (fun h2 hA2 f2 => ?_)
        have a2 : FN (A 1) h h2 := (f1.A.N.n).trans f2.A.N
        have kq2 := hA2.1.1.1
        (repeat' (first | (refine Ex_step ?_; conv => whnf) | (refine ⟨?_, trivial⟩) | (refine (show den _ _ _ _ _ _ _ _ from ?_); conv => whnf) | (refine ⟨fun c => False.elim (by omega), fun c => ?_⟩) | (refine ⟨fun c => ?_, fun c => False.elim (by omega)⟩) | (refine ⟨by (first | assumption | rfl | (exact Nat.le_of_ble_eq_true rfl) | (exact ⟨fun h01 => absurd h01 (by decide), by first | rfl | assumption⟩) | (exact ⟨fun _ => by decide, by first | rfl | assumption⟩) | (exact ⟨by assumption, by omega, by omega⟩) | (unfold inI; omega) | omega), ?_⟩; conv => whnf) | (refine ⟨fun c => ?_, fun c => ?_⟩) | fail))
        refine q_word (w := 8) (by omega) hA2 (by omega) (by decide) hr (fun x h3 er ff => ?_) (fun e3 h3 hr3 hA3 f3 => ?_)
        · have q := hq0 x h3 er ((a2.R hp).f ff)
          have g3 := ff.1.trans a2.1
          (repeat' (first | (exact q) | (refine Ex_step ?_; conv => whnf) | (refine ⟨?_, trivial⟩) | (refine (show den _ _ _ _ _ _ _ _ from ?_); conv => whnf) | (refine ⟨fun c => False.elim (by omega), fun c => ?_⟩) | (refine ⟨fun c => ?_, fun c => False.elim (by omega)⟩) | (refine ⟨by (first | assumption | rfl | (exact Nat.le_of_ble_eq_true rfl) | (exact ⟨fun h01 => absurd h01 (by decide), by first | rfl | assumption⟩) | (exact ⟨fun _ => by decide, by first | rfl | assumption⟩) | (exact ⟨by assumption, by omega, by omega⟩) | (unfold inI; omega) | omega), ?_⟩; conv => whnf) | (refine ⟨fun c => ?_, fun c => ?_⟩) | (intro c) | fail))
        · have a3 := a2.trans f3.A.N
          have kq3 := hA3.1.1.1
          (repeat' (first | (refine Ex_step ?_; conv => whnf) | (refine ⟨?_, trivial⟩) | (refine (show den _ _ _ _ _ _ _ _ from ?_); conv => whnf) | (refine ⟨fun c => False.elim (by omega), fun c => ?_⟩) | (refine ⟨fun c => ?_, fun c => False.elim (by omega)⟩) | (refine ⟨by (first | assumption | rfl | (exact Nat.le_of_ble_eq_true rfl) | (exact ⟨fun h01 => absurd h01 (by decide), by first | rfl | assumption⟩) | (exact ⟨fun _ => by decide, by first | rfl | assumption⟩) | (exact ⟨by assumption, by omega, by omega⟩) | (unfold inI; omega) | omega), ?_⟩; conv => whnf) | (refine ⟨fun c => ?_, fun c => ?_⟩) | fail))
          refine q_num (by omega) hA3 (hX.z a3.1 a3.2.1) (by omega) hr3 (fun x h4 er ff => ?_) (fun m e4 h4 m0 m0' m1 hr4 hA4 f4 => ?_)
          · have q := hq0 x h4 er ((a3.R hp).f ff)
            have g4 := ff.1.trans a3.1
            (repeat' (first | (exact q) | (refine Ex_step ?_; conv => whnf) | (refine ⟨?_, trivial⟩) | (refine (show den _ _ _ _ _ _ _ _ from ?_); conv => whnf) | (refine ⟨fun c => False.elim (by omega), fun c => ?_⟩) | (refine ⟨fun c => ?_, fun c => False.elim (by omega)⟩) | (refine ⟨by (first | assumption | rfl | (exact Nat.le_of_ble_eq_true rfl) | (exact ⟨fun h01 => absurd h01 (by decide), by first | rfl | assumption⟩) | (exact ⟨fun _ => by decide, by first | rfl | assumption⟩) | (exact ⟨by assumption, by omega, by omega⟩) | (unfold inI; omega) | omega), ?_⟩; conv => whnf) | (refine ⟨fun c => ?_, fun c => ?_⟩) | (intro c) | fail))
          · have a4 := a3.trans (f4.Aw (by omega)).N
            have kq4 := hA4.1.1.1
            have w1 : perA A m (37 + 6 * A 1 + 1) = 1 := by simp only [perA]; (repeat (first | rw [if_neg (by omega)] | rw [if_pos (by omega)] | rw [if_pos trivial]))
            have w2 : perA A m (37 + 6 * A 1 + 2) = 0 := by simp only [perA]; (repeat (first | rw [if_neg (by omega)] | rw [if_pos (by omega)] | rw [if_pos trivial]))
            have w3 : perA A m (37 + 6 * A 1 + 3) = 0 := by simp only [perA]; (repeat (first | rw [if_neg (by omega)] | rw [if_pos (by omega)] | rw [if_pos trivial]))
            (repeat' (first | (refine Ex_step ?_; conv => whnf) | (refine ⟨?_, trivial⟩) | (refine (show den _ _ _ _ _ _ _ _ from ?_); conv => whnf) | (refine ⟨fun c => False.elim (by omega), fun c => ?_⟩) | (refine ⟨fun c => ?_, fun c => False.elim (by omega)⟩) | (refine ⟨by (first | assumption | rfl | (exact Nat.le_of_ble_eq_true rfl) | (exact ⟨fun h01 => absurd h01 (by decide), by first | rfl | assumption⟩) | (exact ⟨fun _ => by decide, by first | rfl | assumption⟩) | (exact ⟨by assumption, by omega, by omega⟩) | (unfold inI; omega) | omega), ?_⟩; conv => whnf) | (refine ⟨fun c => ?_, fun c => ?_⟩) | fail))
            refine q_perh (w := 9) (idx := 37 + 6 * A 1 + 1) (by omega) hA4 (hX.z a4.1 a4.2.1) (by omega) (by omega) (by decide) (fun _ => rfl) w1 hr4 (fun x h5 er ff => ?_) (fun v1 e5 h5 b5 hr5 hA5 f5 => ?_)
            · have q := hq0 x h5 er ((a4.R hp).f ff)
              have g5 := ff.1.trans a4.1
              (repeat' (first | (exact q) | (refine Ex_step ?_; conv => whnf) | (refine ⟨?_, trivial⟩) | (refine (show den _ _ _ _ _ _ _ _ from ?_); conv => whnf) | (refine ⟨fun c => False.elim (by omega), fun c => ?_⟩) | (refine ⟨fun c => ?_, fun c => False.elim (by omega)⟩) | (refine ⟨by (first | assumption | rfl | (exact Nat.le_of_ble_eq_true rfl) | (exact ⟨fun h01 => absurd h01 (by decide), by first | rfl | assumption⟩) | (exact ⟨fun _ => by decide, by first | rfl | assumption⟩) | (exact ⟨by assumption, by omega, by omega⟩) | (unfold inI; omega) | omega), ?_⟩; conv => whnf) | (refine ⟨fun c => ?_, fun c => ?_⟩) | (intro c) | fail))
            · have a5 := a4.trans (f5.Aw (by omega)).N
              have kq5 := hA5.1.1.1
              have w4 : pu (perA A m) (37 + 6 * A 1 + 1) v1 (37 + 6 * A 1 + 2) = 0 := by rw [pu_n (by omega)]; exact w2
              (repeat' (first | (refine Ex_step ?_; conv => whnf) | (refine ⟨?_, trivial⟩) | (refine (show den _ _ _ _ _ _ _ _ from ?_); conv => whnf) | (refine ⟨fun c => False.elim (by omega), fun c => ?_⟩) | (refine ⟨fun c => ?_, fun c => False.elim (by omega)⟩) | (refine ⟨by (first | assumption | rfl | (exact Nat.le_of_ble_eq_true rfl) | (exact ⟨fun h01 => absurd h01 (by decide), by first | rfl | assumption⟩) | (exact ⟨fun _ => by decide, by first | rfl | assumption⟩) | (exact ⟨by assumption, by omega, by omega⟩) | (unfold inI; omega) | omega), ?_⟩; conv => whnf) | (refine ⟨fun c => ?_, fun c => ?_⟩) | fail))
              refine q_perh (w := 10) (idx := 37 + 6 * A 1 + 2) (by omega) hA5 (hX.z a5.1 a5.2.1) (by omega) (by omega) (by decide) (fun _ => rfl) w4 hr5 (fun x h6 er ff => ?_) (fun v2 e6 h6 b6 hr6 hA6 f6 => ?_)
              · have q := hq0 x h6 er ((a5.R hp).f ff)
                have g6 := ff.1.trans a5.1
                (repeat' (first | (exact q) | (refine Ex_step ?_; conv => whnf) | (refine ⟨?_, trivial⟩) | (refine (show den _ _ _ _ _ _ _ _ from ?_); conv => whnf) | (refine ⟨fun c => False.elim (by omega), fun c => ?_⟩) | (refine ⟨fun c => ?_, fun c => False.elim (by omega)⟩) | (refine ⟨by (first | assumption | rfl | (exact Nat.le_of_ble_eq_true rfl) | (exact ⟨fun h01 => absurd h01 (by decide), by first | rfl | assumption⟩) | (exact ⟨fun _ => by decide, by first | rfl | assumption⟩) | (exact ⟨by assumption, by omega, by omega⟩) | (unfold inI; omega) | omega), ?_⟩; conv => whnf) | (refine ⟨fun c => ?_, fun c => ?_⟩) | (intro c) | fail))
              · have a6 := a5.trans (f6.Aw (by omega)).N
                have kq6 := hA6.1.1.1
                obtain ⟨y0, yk, yl⟩ := hX.z a6.1 a6.2.1
                have s1 : ∀ j, gG h3 128 j = gG h 128 j := fun j => by
                  rw [f3.2.2 _ _ (by omega), f2.2.2 _ _ (by omega), gG_sG, if_neg (by omega), f1.2.2 _ _ (by omega)]
                have s4 := f4.g
                have s5 := f5.g
                have s6 := f6.g
                have n6 : gG h6 128 1832 = A 0 := by rw [s6, if_neg (by omega), s5, if_neg (by omega), s4, if_neg (by omega), s1]; exact hN 0 (by omega) (by omega)
                have w5 : pu (pu (perA A m) (37 + 6 * A 1 + 1) v1) (37 + 6 * A 1 + 2) v2 (37 + 6 * A 1 + 3) = 0 := by rw [pu_n (by omega), pu_n (by omega)]; exact w3
                (repeat' (first | (rw [y0]) | (rw [n6]) | (refine ⟨⟨yk, by omega, Int.lt_of_lt_of_le (by omega : _ < (3198 : Int)) (Int.le_of_eq yl.symm)⟩, ?_⟩; conv => whnf) | (refine Ex_step ?_; conv => whnf) | (refine ⟨?_, trivial⟩) | (refine (show den _ _ _ _ _ _ _ _ from ?_); conv => whnf) | (refine ⟨fun c => False.elim (by omega), fun c => ?_⟩) | (refine ⟨fun c => ?_, fun c => False.elim (by omega)⟩) | (refine ⟨by (first | assumption | rfl | (exact Nat.le_of_ble_eq_true rfl) | (exact ⟨fun h01 => absurd h01 (by decide), by first | rfl | assumption⟩) | (exact ⟨fun _ => by decide, by first | rfl | assumption⟩) | (exact ⟨by assumption, by omega, by omega⟩) | (unfold inI; omega) | omega), ?_⟩; conv => whnf) | (refine ⟨fun c => ?_, fun c => ?_⟩) | fail))
                refine q_perh (w := 11) (idx := 37 + 6 * A 1 + 3) (by omega) hA6 (hX.z a6.1 a6.2.1) (by omega) (by omega) (by decide) (fun _ => rfl) w5 hr6 (fun x h7 er ff => ?_) (fun v3 e7 h7 b7 hr7 hA7 f7 => ?_)
                · have q := hq0 x h7 er ((a6.R hp).f ff)
                  have g7 := ff.1.trans a6.1
                  (repeat' (first | (exact q) | (refine Ex_step ?_; conv => whnf) | (refine ⟨?_, trivial⟩) | (refine (show den _ _ _ _ _ _ _ _ from ?_); conv => whnf) | (refine ⟨fun c => False.elim (by omega), fun c => ?_⟩) | (refine ⟨fun c => ?_, fun c => False.elim (by omega)⟩) | (refine ⟨by (first | assumption | rfl | (exact Nat.le_of_ble_eq_true rfl) | (exact ⟨fun h01 => absurd h01 (by decide), by first | rfl | assumption⟩) | (exact ⟨fun _ => by decide, by first | rfl | assumption⟩) | (exact ⟨by assumption, by omega, by omega⟩) | (unfold inI; omega) | omega), ?_⟩; conv => whnf) | (refine ⟨fun c => ?_, fun c => ?_⟩) | (intro c) | fail))
                · have a7 := a6.trans (f7.Aw (by omega)).N
                  have kq7 := hA7.1.1.1
                  obtain ⟨y0', yk', yl'⟩ := hX.z a7.1 a7.2.1
                  have s7 := f7.g
                  have n7 : gG h7 128 1833 = A 1 := by rw [s7, if_neg (by omega), s6, if_neg (by omega), s5, if_neg (by omega), s4, if_neg (by omega), s1]; exact n00
                  have g7 := a7.1
                  have e1 : perA A m 0 = A 0 ∧ perA A m 1 = A 1 + 1 ∧ perA A m 2 = A 2 := by simp only [perA]; exact ⟨by (repeat (first | rw [if_neg (by omega)] | rw [if_pos (by omega)] | rw [if_pos trivial])), by (repeat (first | rw [if_neg (by omega)] | rw [if_pos (by omega)] | rw [if_pos trivial])), by (repeat (first | rw [if_neg (by omega)] | rw [if_pos (by omega)] | rw [if_pos trivial]))⟩
                  have m9 : ∀ i, gG h7 129 i = if i = 24 + A 1 then c256 (tW P n (tE P n e)) else gG h 129 i := fun i => by
                    rw [(f7.Aw (by omega)).nm, (f6.Aw (by omega)).nm, (f5.Aw (by omega)).nm, (f4.Aw (by omega)).nm, f3.A.nm, f2.A.nm, gG_sG]
                    by_cases ei : i = 24 + A 1
                    · rw [if_pos ⟨rfl, ei⟩, if_pos ei]
                    · rw [if_neg (fun q => ei q.2), if_neg ei, f1.A.nm]
                  have z0 := bz (37 + 6 * A 1 + 4) (by omega) (by omega)
                  have z1 := bz (37 + 6 * A 1 + 5) (by omega) (by omega)
                  have q := hq1 _ e7 (sG h7 128 1833 (A 1 + 1)) hr7 hA7.a (fun j j0 j1 => by
                    have e := hN j j0 j1
                    rw [g_if, s7, s6, s5, s4, s1, e]
                    by_cases j4 : j = 37 + 6 * A 1 + 4
                    · subst j4
                      simp only [perA, pu]
                      (repeat (first | rw [if_neg (by omega)] | rw [if_pos (by omega)] | rw [if_pos trivial]))
                      exact z0
                    · by_cases j5 : j = 37 + 6 * A 1 + 5
                      · subst j5
                        simp only [perA, pu]
                        (repeat (first | rw [if_neg (by omega)] | rw [if_pos (by omega)] | rw [if_pos trivial]))
                        exact z1
                      · simp only [perA, pu]
                        repeat' split
                        all_goals omega) (by
                    refine ⟨?_, ?_, ?_, fun j j0 j1 => ?_⟩
                    · rw [pu_n (by omega), pu_n (by omega), pu_n (by omega), e1.1]; omega
                    · rw [pu_n (by omega), pu_n (by omega), pu_n (by omega), e1.2.1]; omega
                    · rw [pu_n (by omega), pu_n (by omega), pu_n (by omega), e1.2.2]; omega
                    · rw [pu_n (by omega), pu_n (by omega), pu_n (by omega), e1.2.1] at j0
                      have := bz j (by omega) j1
                      rw [pu_n (by omega), pu_n (by omega), pu_n (by omega)]
                      simp only [perA]
                      (repeat (first | rw [if_neg (by omega)] | rw [if_pos (by omega)] | rw [if_pos trivial]))
                      exact this) (by rw [pu_n (by omega), pu_n (by omega), pu_n (by omega), e1.2.1]) (fun i i0 i1 => by
                    rw [gG_sG, if_neg (by omega), m9]
                    by_cases ei : i = A 1
                    · rw [if_pos (by omega)]
                      show nmP (if i = A 1 then _ else _) _
                      rw [if_pos ei]
                      exact Or.inr ⟨_, hw, rfl, rfl⟩
                    · rw [if_neg (by omega)]
                      show nmP (if i = A 1 then _ else _) _
                      rw [if_neg ei]
                      exact hT i i0 (by omega)) ((a7.s (by omega)).R hp) ((a7.s (by omega)).2.2 127 20 (by omega) (by omega) (by omega))
                  (repeat' (first | (exact q) | (rw [y0']) | (rw [n7]) | (refine ⟨⟨yk', by omega, Int.lt_of_lt_of_le (by omega : _ < (3198 : Int)) (Int.le_of_eq yl'.symm)⟩, ?_⟩; conv => whnf) | (refine Ex_step ?_; conv => whnf) | (refine ⟨?_, trivial⟩) | (refine (show den _ _ _ _ _ _ _ _ from ?_); conv => whnf) | (refine ⟨fun c => False.elim (by omega), fun c => ?_⟩) | (refine ⟨fun c => ?_, fun c => False.elim (by omega)⟩) | (refine ⟨by (first | assumption | rfl | (exact Nat.le_of_ble_eq_true rfl) | (exact ⟨fun h01 => absurd h01 (by decide), by first | rfl | assumption⟩) | (exact ⟨fun _ => by decide, by first | rfl | assumption⟩) | (exact ⟨by assumption, by omega, by omega⟩) | (unfold inI; omega) | omega), ?_⟩; conv => whnf) | (refine ⟨fun c => ?_, fun c => ?_⟩) | (intro c) | fail))
      · rw [if_pos cn] at hr
        have nt2 : ¬ nmI (A 1) (fun i => gG h1 129 (24 + i)) (c256 (tW P n (tE P n e))) = -1 := by rw [nt]; exact cn
        (repeat' (first | (refine r_isName (by omega) hA1 (fun _ => ?_) (fun q => absurd c25 q)) | (refine r_findHere (by omega) hA1 c25 hY1 (by omega) (by omega) ?_) | (refine Ex_step ?_; conv => whnf) | (refine ⟨?_, trivial⟩) | (refine (show den _ _ _ _ _ _ _ _ from ?_); conv => whnf) | (refine ⟨fun c => False.elim (by omega), fun c => ?_⟩) | (refine ⟨fun c => ?_, fun c => False.elim (by omega)⟩) | (refine ⟨by (first | assumption | rfl | (exact Nat.le_of_ble_eq_true rfl) | (exact ⟨fun h01 => absurd h01 (by decide), by first | rfl | assumption⟩) | (exact ⟨fun _ => by decide, by first | rfl | assumption⟩) | (exact ⟨by assumption, by omega, by omega⟩) | (unfold inI; omega) | omega), ?_⟩; conv => whnf) | (refine ⟨fun c => ?_, fun c => ?_⟩) | fail))
        refine q_fails (by omega) hA1 (by omega) hr (fun x h2 er ff => ?_)
        have q := hq0 x h2 er (f1.R.f ff)
        have g2 := ff.1.trans f1.1
        (repeat' (first | (exact q) | (refine Ex_step ?_; conv => whnf) | (refine ⟨?_, trivial⟩) | (refine (show den _ _ _ _ _ _ _ _ from ?_); conv => whnf) | (refine ⟨fun c => False.elim (by omega), fun c => ?_⟩) | (refine ⟨fun c => ?_, fun c => False.elim (by omega)⟩) | (refine ⟨by (first | assumption | rfl | (exact Nat.le_of_ble_eq_true rfl) | (exact ⟨fun h01 => absurd h01 (by decide), by first | rfl | assumption⟩) | (exact ⟨fun _ => by decide, by first | rfl | assumption⟩) | (exact ⟨by assumption, by omega, by omega⟩) | (unfold inI; omega) | omega), ?_⟩; conv => whnf) | (refine ⟨fun c => ?_, fun c => ?_⟩) | (intro c) | fail))
    · rw [if_pos c25] at hr
      (repeat' (first | (refine r_isName (by omega) hA1 (fun q => absurd q c25) (fun _ => ?_)) | (refine Ex_step ?_; conv => whnf) | (refine ⟨?_, trivial⟩) | (refine (show den _ _ _ _ _ _ _ _ from ?_); conv => whnf) | (refine ⟨fun c => False.elim (by omega), fun c => ?_⟩) | (refine ⟨fun c => ?_, fun c => False.elim (by omega)⟩) | (refine ⟨by (first | assumption | rfl | (exact Nat.le_of_ble_eq_true rfl) | (exact ⟨fun h01 => absurd h01 (by decide), by first | rfl | assumption⟩) | (exact ⟨fun _ => by decide, by first | rfl | assumption⟩) | (exact ⟨by assumption, by omega, by omega⟩) | (unfold inI; omega) | omega), ?_⟩; conv => whnf) | (refine ⟨fun c => ?_, fun c => ?_⟩) | fail))
      refine q_fails (by omega) hA1 (by omega) hr (fun x h2 er ff => ?_)
      have q := hq0 x h2 er (f1.R.f ff)
      have g2 := ff.1.trans f1.1
      (repeat' (first | (exact q) | (refine Ex_step ?_; conv => whnf) | (refine ⟨?_, trivial⟩) | (refine (show den _ _ _ _ _ _ _ _ from ?_); conv => whnf) | (refine ⟨fun c => False.elim (by omega), fun c => ?_⟩) | (refine ⟨fun c => ?_, fun c => False.elim (by omega)⟩) | (refine ⟨by (first | assumption | rfl | (exact Nat.le_of_ble_eq_true rfl) | (exact ⟨fun h01 => absurd h01 (by decide), by first | rfl | assumption⟩) | (exact ⟨fun _ => by decide, by first | rfl | assumption⟩) | (exact ⟨by assumption, by omega, by omega⟩) | (unfold inI; omega) | omega), ?_⟩; conv => whnf) | (refine ⟨fun c => ?_, fun c => ?_⟩) | (intro c) | fail))
