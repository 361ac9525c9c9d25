/-! LEVEL 2: decades as they are lived: the reference's ends -/
def skN (R : Int → Int → Int) (N : Int) : Nat → Int → (Int → Int) → Int × (Int → Int)
  | 0, k, L => (k, L)
  | m + 1, k, L => if k < N ∧ R k 0 = 22 then skN R N m (eK R L k) (eL R L k) else (k, L)
/-- the reference's rows -/
def RSt (h : Mem) (R : Int → Int → Int) (N : Int) : Prop := gG h 128 7 = N ∧ ∀ k j, 0 ≤ k → k < N → 0 ≤ j → j ≤ 5 → gG h 128 (90 + 6 * k + j) = R k j
def LRr (h : Mem) (L : Int → Int) : Prop := ∀ o, 0 ≤ o → o < 60 → gG h 143 o = L o ∧ 0 ≤ L o ∧ L o ≤ 100
theorem LRr.p {h : Mem} {L : Int → Int} {k z : Int} (q : LRr h L) (hz : 0 ≤ z ∧ z ≤ 100) : LRr (sG h 143 k z) (pu L k z) := fun o h0 h1 => by
  unfold pu
  by_cases e : o = k
  · rw [e, g_same, if_pos rfl]; exact ⟨rfl, hz⟩
  · rw [g_ne e, if_neg e]; exact q o h0 h1
theorem sk_s {R : Int → Int → Int} {N : Int} {m : Nat} {k : Int} {L : Int → Int} : skN R N (m + 1) k L = (if k < N ∧ R k 0 = 22 then skN R N m (eK R L k) (eL R L k) else (k, L)) := rfl
set_option maxHeartbeats 4000000 in
theorem r_behindEnds {X : Int → Int} {XL : Int} {d : Nat} {h : Mem} {Q : RetP} {K : Int} {A : Int → Int} {R : Int → Int → Int} {N k0 k' : Int} {L0 L' : Int → Int} {m0 : Nat} (hd : 1 ≤ d) (hR : Rr K h A) (hX : RK h) (hRS : RSt h R N) (hN : 0 ≤ N ∧ N ≤ 60) (hL : LRr h L0) (hk0 : 0 ≤ k0 ∧ k0 ≤ N) (hVR : ∀ k, 0 ≤ k → k < N → VRow A R N k) (hm : skN R N m0 k0 L0 = (k', L')) (hend : ¬ (k' < N ∧ R k' 0 = 22)) (hq : ∀ h', LRr h' L' → Fr (fun r => r = 143) h h' → Q (some (vI k')) h') : WP X XL d 343 [vR 127, vI k0] h Q := by
  obtain ⟨⟨kq0, r00, kt0, lt0⟩, -, -⟩ := id hR
  have loop : ∀ (m : Nat) (k : Int) (L : Int → Int) (w3 w4 : Option MV) (hj : Mem), 0 ≤ k ∧ k ≤ N → skN R N m k L = (k', L') → LRr hj L → Fr (fun r => r = 143) h hj → Ex (WP X XL (d - 1)) KX10_behindEnds h.1 Q 2 [some (vR 127), some (vI k0), some (vI k), w3, w4] [] hj := by
    have stop : ∀ (k : Int) (L : Int → Int) (w3 w4 : Option MV) (hj : Mem), 0 ≤ k ∧ k ≤ N → ¬ (k < N ∧ R k 0 = 22) → k = k' → L = L' → LRr hj L → Fr (fun r => r = 143) h hj → Ex (WP X XL (d - 1)) KX10_behindEnds h.1 Q 2 [some (vR 127), some (vI k0), some (vI k), w3, w4] [] hj := by
      intro k L w3 w4 hj hk hn e1 e2 hLj fj
      subst e1; subst e2
      have gj := fj.1
      have r0 := (gR_fr fj 127 0).trans r00
      have kq := (kd_fr fj 127).trans kq0
      have kt := (kd_fr fj 128).trans kt0
      have lt := (ln_fr fj 128).trans lt0
      have e7 : gG hj 128 7 = N := (fj.2.2 128 (by omega) 7).trans hRS.1
      by_cases hkN : k < N
      · have e0 : gG hj 128 (90 + 6 * k) = R k 0 := by
          have := hRS.2 k 0 hk.1 hkN (by omega) (by omega)
          rw [Int.add_zero] at this
          exact (fj.2.2 128 (by omega) _).trans this
        have hw : ¬ R k 0 = 22 := fun q => hn ⟨hkN, q⟩
        (repeat' (first | (rw [r0]) | (rw [e7]) | (rw [e0]) | (refine ⟨⟨kt, by omega, Int.lt_of_lt_of_le (by omega : _ < (3198 : Int)) (Int.le_of_eq lt.symm)⟩, ?_⟩; conv => whnf) | (refine Ex_step ?_; conv => whnf) | (refine ⟨?_, trivial⟩) | (refine (show den _ _ _ _ _ _ _ _ from ?_); conv => whnf) | (refine ⟨fun c => False.elim (by omega), fun c => ?_⟩) | (refine ⟨fun c => ?_, fun c => False.elim (by omega)⟩) | (refine ⟨by (first | assumption | rfl | (exact Nat.le_of_ble_eq_true rfl) | (exact ⟨fun h01 => absurd h01 (by decide), by first | rfl | assumption⟩) | (exact ⟨fun _ => by decide, by first | rfl | assumption⟩) | (exact ⟨by assumption, by omega, by omega⟩) | (unfold inI; omega) | omega), ?_⟩; conv => whnf) | (refine ⟨fun c => ?_, fun c => ?_⟩) | (intro c) | fail))
        exact hq hj hLj fj
      · (repeat' (first | (rw [r0]) | (rw [e7]) | (refine ⟨⟨kt, by omega, Int.lt_of_lt_of_le (by omega : _ < (3198 : Int)) (Int.le_of_eq lt.symm)⟩, ?_⟩; conv => whnf) | (refine Ex_step ?_; conv => whnf) | (refine ⟨?_, trivial⟩) | (refine (show den _ _ _ _ _ _ _ _ from ?_); conv => whnf) | (refine ⟨fun c => False.elim (by omega), fun c => ?_⟩) | (refine ⟨fun c => ?_, fun c => False.elim (by omega)⟩) | (refine ⟨by (first | assumption | rfl | (exact Nat.le_of_ble_eq_true rfl) | (exact ⟨fun h01 => absurd h01 (by decide), by first | rfl | assumption⟩) | (exact ⟨fun _ => by decide, by first | rfl | assumption⟩) | (exact ⟨by assumption, by omega, by omega⟩) | (unfold inI; omega) | omega), ?_⟩; conv => whnf) | (refine ⟨fun c => ?_, fun c => ?_⟩) | (intro c) | fail))
        exact hq hj hLj fj
    intro m; induction m with
    | zero =>
      intro k L w3 w4 hj hk hs hLj fj
      have e1 : k = k' := congrArg Prod.fst hs
      have e2 : L = L' := congrArg Prod.snd hs
      exact stop k L w3 w4 hj hk (by rw [e1]; exact hend) e1 e2 hLj fj
    | succ m ih =>
      intro k L w3 w4 hj hk hs hLj fj
      rw [sk_s] at hs
      by_cases hc : k < N ∧ R k 0 = 22
      · rw [if_pos hc] at hs
        have r0 := (gR_fr fj 127 0).trans r00
        have kq := (kd_fr fj 127).trans kq0
        have kt := (kd_fr fj 128).trans kt0
        have lt := (ln_fr fj 128).trans lt0
        have x34 := (gR_fr fj 127 34).trans hX.2.2.2.2.2.2.2.2.2.2.2.1.1
        have xk := (kd_fr fj 143).trans hX.2.2.2.2.2.2.2.2.2.2.2.1.2.1
        have xl := (ln_fr fj 143).trans hX.2.2.2.2.2.2.2.2.2.2.2.1.2.2
        have e7 : gG hj 128 7 = N := (fj.2.2 128 (by omega) 7).trans hRS.1
        have hv := (hVR k hk.1 hc.1).2.2.2.2.2 hc.2
        have e0 : gG hj 128 (90 + 6 * k) = R k 0 := by
          have := hRS.2 k 0 hk.1 hc.1 (by omega) (by omega)
          rw [Int.add_zero] at this
          exact (fj.2.2 128 (by omega) _).trans this
        have e4 : gG hj 128 (90 + 6 * k + 4) = R k 4 := (fj.2.2 128 (by omega) _).trans (hRS.2 k 4 hk.1 hc.1 (by omega) (by omega))
        have eo : gG hj 128 (90 + 6 * R k 4) = R (R k 4) 0 := by
          have := hRS.2 (R k 4) 0 hv.1 (by omega) (by omega) (by omega)
          rw [Int.add_zero] at this
          exact (fj.2.2 128 (by omega) _).trans this
        have hl := hLj (R k 4) hv.1 (by omega)
        have hw := hc.2
        by_cases hg : R (R k 4) 0 = 21 ∧ 0 < L (R k 4)
        · rw [show eK R L k = R k 4 + 1 from if_pos hg, show eL R L k = pu L (R k 4) (L (R k 4) - 1) from if_pos hg] at hs
          have ih2 := fun w3 w4 => ih (R k 4 + 1) _ w3 w4 (sG hj 143 (R k 4) (L (R k 4) - 1)) (by omega) hs (hLj.p (by omega)) (fj.sG rfl)
          refine Ex_step ?_; conv => whnf
          (repeat' (first | (refine ih2 _ _) | (rw [r0]) | (rw [x34]) | (rw [e7]) | (rw [e4]) | (rw [eo]) | (rw [e0]) | (rw [hl.1]) | (refine ⟨⟨kt, by omega, Int.lt_of_lt_of_le (by omega : _ < (3198 : Int)) (Int.le_of_eq lt.symm)⟩, ?_⟩; conv => whnf) | (refine ⟨⟨xk, by omega, Int.lt_of_lt_of_le (by omega : _ < (80 : Int)) (Int.le_of_eq xl.symm)⟩, ?_⟩; conv => whnf) | (refine Ex_step ?_; conv => whnf) | (refine ⟨?_, trivial⟩) | (refine (show den _ _ _ _ _ _ _ _ from ?_); conv => whnf) | (refine ⟨fun c => False.elim (by omega), fun c => ?_⟩) | (refine ⟨fun c => ?_, fun c => False.elim (by omega)⟩) | (refine ⟨by (first | assumption | rfl | (exact Nat.le_of_ble_eq_true rfl) | (exact ⟨fun h01 => absurd h01 (by decide), by first | rfl | assumption⟩) | (exact ⟨fun _ => by decide, by first | rfl | assumption⟩) | (exact ⟨by assumption, by omega, by omega⟩) | (unfold inI; omega) | omega), ?_⟩; conv => whnf) | (refine ⟨fun c => ?_, fun c => ?_⟩) | (intro c) | fail))
        · rw [show eK R L k = k + 1 from if_neg hg, show eL R L k = L from if_neg hg] at hs
          have ih2 := fun w3 w4 => ih (k + 1) _ w3 w4 (sG hj 143 (R k 4) (L (R k 4) - 0)) (by omega) hs (by have := hLj.p (k := R k 4) (z := L (R k 4) - 0) (by omega); rw [pu_id (show L (R k 4) = L (R k 4) - 0 by omega)] at this; exact this) (fj.sG rfl)
          refine Ex_step ?_; conv => whnf
          (repeat' (first | (refine ih2 _ _) | (rw [r0]) | (rw [x34]) | (rw [e7]) | (rw [e4]) | (rw [eo]) | (rw [e0]) | (rw [hl.1]) | (refine ⟨⟨kt, by omega, Int.lt_of_lt_of_le (by omega : _ < (3198 : Int)) (Int.le_of_eq lt.symm)⟩, ?_⟩; conv => whnf) | (refine ⟨⟨xk, by omega, Int.lt_of_lt_of_le (by omega : _ < (80 : Int)) (Int.le_of_eq xl.symm)⟩, ?_⟩; conv => whnf) | (refine Ex_step ?_; conv => whnf) | (refine ⟨?_, trivial⟩) | (refine (show den _ _ _ _ _ _ _ _ from ?_); conv => whnf) | (refine ⟨fun c => False.elim (by omega), fun c => ?_⟩) | (refine ⟨fun c => ?_, fun c => False.elim (by omega)⟩) | (refine ⟨by (first | assumption | rfl | (exact Nat.le_of_ble_eq_true rfl) | (exact ⟨fun h01 => absurd h01 (by decide), by first | rfl | assumption⟩) | (exact ⟨fun _ => by decide, by first | rfl | assumption⟩) | (exact ⟨by assumption, by omega, by omega⟩) | (unfold inI; omega) | omega), ?_⟩; conv => whnf) | (refine ⟨fun c => ?_, fun c => ?_⟩) | (intro c) | fail))
      · rw [if_neg hc] at hs
        exact stop k L w3 w4 hj hk hc (congrArg Prod.fst hs) (congrArg Prod.snd hs) hLj fj
  have l0 := loop m0 k0 L0 none none h hk0 hm hL Fr.refl
  refine eX10_behindEnds (by omega) ?_
  (repeat' (first | (exact l0) | (refine Ex_step ?_; conv => whnf) | (refine ⟨?_, trivial⟩) | (refine (show den _ _ _ _ _ _ _ _ from ?_); conv => whnf) | (refine ⟨fun c => False.elim (by omega), fun c => ?_⟩) | (refine ⟨fun c => ?_, fun c => False.elim (by omega)⟩) | (refine ⟨by (first | assumption | rfl | (exact Nat.le_of_ble_eq_true rfl) | (exact ⟨fun h01 => absurd h01 (by decide), by first | rfl | assumption⟩) | (exact ⟨fun _ => by decide, by first | rfl | assumption⟩) | (exact ⟨by assumption, by omega, by omega⟩) | (unfold inI; omega) | omega), ?_⟩; conv => whnf) | (refine ⟨fun c => ?_, fun c => ?_⟩) | (intro c) | fail))
