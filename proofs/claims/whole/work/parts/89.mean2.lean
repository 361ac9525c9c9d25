/-! LEVEL 2: mean, the reference -/
/-- what a mean changes, the reference -/
def FrMr (h h' : Mem) : Prop := h'.1 = h.1 ∧ h'.2.2 = h.2.2 ∧ ∀ r i, ¬ (r = 128 ∧ 0 ≤ i ∧ i < 90) → ¬ (r = 128 ∧ 2290 ≤ i ∧ i < 2380) → ¬ (r = 127 ∧ (i = 32 ∨ i = 33)) → ¬ r = 143 → ¬ r = 144 → gG h' r i = gG h r i
theorem FrMr.trans {h h' h'' : Mem} (a : FrMr h h') (b : FrMr h' h'') : FrMr h h'' := ⟨b.1.trans a.1, b.2.1.trans a.2.1, fun r i p q t u w => (b.2.2 r i p q t u w).trans (a.2.2 r i p q t u w)⟩
theorem FrY.M {h h' : Mem} (a : FrY h h') : FrMr h h' := ⟨a.1, a.2.1, fun r i p _ t u w => a.2.2 r i p t u w⟩
theorem FrA.M {h h' : Mem} (a : FrA h h') : FrMr h h' := ⟨a.1.1, a.1.2.1, fun r i p _ _ _ _ => by
  by_cases e : r = 128
  · rw [e]; exact a.2 i (by omega)
  · exact a.1.2.2 r e i⟩
set_option maxHeartbeats 4000000 in
theorem m_meanN {X : Int → Int} {XL : Int} {d : Nat} {h : Mem} {Q : RetP} {K : Int} {A : Int → Int} {sd many : Int} (hd : 2 ≤ d) (hR : Rr K h A) (hi : inI sd ∧ inI many) (hb : ¬ ((0 ≤ sd ∧ sd ≤ 9999) ∧ (1 ≤ many ∧ many ≤ 20) ∧ sd + many - 1 ≤ 9999) ∨ A 7 = -1) (hq : Q (some (vI 0)) (sG h 127 2 (if (0 ≤ sd ∧ sd ≤ 9999) ∧ (1 ≤ many ∧ many ≤ 20) ∧ sd + many - 1 ≤ 9999 then 6 else 1))) : WP X XL d 347 [vR 127, vI sd, vI many] h Q := by
  obtain ⟨⟨kq, r0, kt, lt⟩, eA, hA⟩ := id hR
  have e7 := eA 7 (by omega) (by omega)
  refine eX10_mean (by omega) ?_
  by_cases c0 : (0 ≤ sd ∧ sd ≤ 9999) ∧ (1 ≤ many ∧ many ≤ 20) ∧ sd + many - 1 ≤ 9999
  · rw [if_pos c0] at hq
    (repeat' (first | (exact hq) | (rw [r0]) | (rw [e7]) | (refine r_isFrom (by omega) (fun c => ?_) (fun c => False.elim (by omega))) | (refine r_isFrom (by omega) (fun c => False.elim (by omega)) (fun c => ?_)) | (refine r_isFrom (by omega) (fun c => ?_) (fun c => ?_)) | (refine r_is (by omega) kq (fun c => False.elim (by omega)) (fun c => ?_)) | (refine ⟨⟨kt, by omega, Int.lt_of_lt_of_le (by omega : _ < (3198 : Int)) (Int.le_of_eq lt.symm)⟩, ?_⟩; conv => whnf) | (refine Ex_step ?_; conv => whnf) | (refine ⟨?_, trivial⟩) | (refine (show den _ _ _ _ _ _ _ _ from ?_); conv => whnf) | (refine ⟨fun c => False.elim (by omega), fun c => ?_⟩) | (refine ⟨fun c => ?_, fun c => False.elim (by omega)⟩) | (refine ⟨by (first | assumption | rfl | (exact Nat.le_of_ble_eq_true rfl) | (exact ⟨fun h01 => absurd h01 (by decide), by first | rfl | assumption⟩) | (exact ⟨fun _ => by decide, by first | rfl | assumption⟩) | (exact ⟨by assumption, by omega, by omega⟩) | (unfold inI; omega) | omega), ?_⟩; conv => whnf) | (refine ⟨fun c => ?_, fun c => ?_⟩) | (intro c) | fail))
  · rw [if_neg c0] at hq
    by_cases c1 : 0 ≤ sd ∧ sd ≤ 9999
    · by_cases c2 : 1 ≤ many ∧ many ≤ 20
      · (repeat' (first | (exact hq) | (refine r_isFrom (by omega) (fun c => ?_) (fun c => False.elim (by omega))) | (refine r_isFrom (by omega) (fun c => False.elim (by omega)) (fun c => ?_)) | (refine r_isFrom (by omega) (fun c => ?_) (fun c => ?_)) | (refine r_is (by omega) kq (fun c => False.elim (by omega)) (fun c => ?_)) | (refine Ex_step ?_; conv => whnf) | (refine ⟨?_, trivial⟩) | (refine (show den _ _ _ _ _ _ _ _ from ?_); conv => whnf) | (refine ⟨fun c => False.elim (by omega), fun c => ?_⟩) | (refine ⟨fun c => ?_, fun c => False.elim (by omega)⟩) | (refine ⟨by (first | assumption | rfl | (exact Nat.le_of_ble_eq_true rfl) | (exact ⟨fun h01 => absurd h01 (by decide), by first | rfl | assumption⟩) | (exact ⟨fun _ => by decide, by first | rfl | assumption⟩) | (exact ⟨by assumption, by omega, by omega⟩) | (unfold inI; omega) | omega), ?_⟩; conv => whnf) | (refine ⟨fun c => ?_, fun c => ?_⟩) | (intro c) | fail))
      · (repeat' (first | (exact hq) | (refine r_isFrom (by omega) (fun c => ?_) (fun c => False.elim (by omega))) | (refine r_isFrom (by omega) (fun c => False.elim (by omega)) (fun c => ?_)) | (refine r_isFrom (by omega) (fun c => ?_) (fun c => ?_)) | (refine r_is (by omega) kq (fun c => False.elim (by omega)) (fun c => ?_)) | (refine Ex_step ?_; conv => whnf) | (refine ⟨?_, trivial⟩) | (refine (show den _ _ _ _ _ _ _ _ from ?_); conv => whnf) | (refine ⟨fun c => False.elim (by omega), fun c => ?_⟩) | (refine ⟨fun c => ?_, fun c => False.elim (by omega)⟩) | (refine ⟨by (first | assumption | rfl | (exact Nat.le_of_ble_eq_true rfl) | (exact ⟨fun h01 => absurd h01 (by decide), by first | rfl | assumption⟩) | (exact ⟨fun _ => by decide, by first | rfl | assumption⟩) | (exact ⟨by assumption, by omega, by omega⟩) | (unfold inI; omega) | omega), ?_⟩; conv => whnf) | (refine ⟨fun c => ?_, fun c => ?_⟩) | (intro c) | fail))
    · (repeat' (first | (exact hq) | (refine r_isFrom (by omega) (fun c => ?_) (fun c => False.elim (by omega))) | (refine r_isFrom (by omega) (fun c => False.elim (by omega)) (fun c => ?_)) | (refine r_isFrom (by omega) (fun c => ?_) (fun c => ?_)) | (refine r_is (by omega) kq (fun c => False.elim (by omega)) (fun c => ?_)) | (refine Ex_step ?_; conv => whnf) | (refine ⟨?_, trivial⟩) | (refine (show den _ _ _ _ _ _ _ _ from ?_); conv => whnf) | (refine ⟨fun c => False.elim (by omega), fun c => ?_⟩) | (refine ⟨fun c => ?_, fun c => False.elim (by omega)⟩) | (refine ⟨by (first | assumption | rfl | (exact Nat.le_of_ble_eq_true rfl) | (exact ⟨fun h01 => absurd h01 (by decide), by first | rfl | assumption⟩) | (exact ⟨fun _ => by decide, by first | rfl | assumption⟩) | (exact ⟨by assumption, by omega, by omega⟩) | (unfold inI; omega) | omega), ?_⟩; conv => whnf) | (refine ⟨fun c => ?_, fun c => ?_⟩) | (intro c) | fail))
set_option maxHeartbeats 4000000 in
theorem m_mean {X : Int → Int} {XL : Int} {d : Nat} {h : Mem} {Q : RetP} {K : Int} {A : Int → Int} {R : Int → Int → Int} {N sd many : Int} {D L : Int → Int} (hd : 17 ≤ d) (hR : Rr K h A) (hK : K + 25000 ≤ 30000000) (hX : RK h) (hRS : RSt h R N) (hN : 0 ≤ N ∧ N ≤ 60) (hNs : Nst R N D) (hVR : ∀ k, 0 ≤ k → k < N → VRow A R N k) (hL : LRr h L) (hok : (0 ≤ sd ∧ sd ≤ 9999) ∧ (1 ≤ many ∧ many ≤ 20) ∧ sd + many - 1 ≤ 9999) (fin : ∀ h2, Rr K h2 A → FrMr h h2 → LRr h2 (mnF R N A sd many.toNat 0 L 0).2 → Q (some (vI 1)) (sG (sG (sG h2 127 3 (ldvZ (mnF R N A sd many.toNat 0 L 0).1 (gE (mnF R N A sd many.toNat 0 L 0).1 many))) 127 4 (ldvZ many (gE (mnF R N A sd many.toNat 0 L 0).1 many))) 127 2 0)) : WP X XL d 347 [vR 127, vI sd, vI many] h Q := by
  obtain ⟨⟨kq, r0, kt, lt⟩, eA, hA⟩ := id hR
  have e7 := hRS.1
  have e7A : A 7 = N := (eA 7 (by omega) (by omega)).symm.trans e7
  have loop : ∀ (k : Nat) (i s : Int) (Lj : Int → Int) (hj : Mem), many - i = k → 0 ≤ i → 0 ≤ s ∧ s ≤ 54 * i → mnF R N A sd k i Lj s = mnF R N A sd many.toNat 0 L 0 → Rr K hj A → FrMr h hj → Kp hj 2290 A → LRr hj Lj → Ex (WP X XL (d - 1)) KX10_mean h.1 Q 71 [some (vR 127), some (vI sd), some (vI many), some (vL s), none, some (vI i)] [] hj := by
    intro k; induction k with
    | zero =>
      intro i s Lj hj hk hi hs he hRj fj kp lj
      rw [← he] at fin
      have e1 := fin hj hRj fj lj
      obtain ⟨eu1, eu2⟩ := eu_mean (a := s) (b := many) (by omega) (by omega) (by omega) (by omega)
      have kqj := hRj.1.1
      have gj := fj.1
      (repeat' (first | (exact e1) | (refine r_tellsBy (by omega) kqj eu1 eu2 ?_) | (refine Ex_step ?_; conv => whnf) | (refine ⟨?_, trivial⟩) | (refine (show den _ _ _ _ _ _ _ _ from ?_); conv => whnf) | (refine ⟨fun c => False.elim (by omega), fun c => ?_⟩) | (refine ⟨fun c => ?_, fun c => False.elim (by omega)⟩) | (refine ⟨by (first | assumption | rfl | (exact Nat.le_of_ble_eq_true rfl) | (exact ⟨fun h01 => absurd h01 (by decide), by first | rfl | assumption⟩) | (exact ⟨fun _ => by decide, by first | rfl | assumption⟩) | (exact ⟨by assumption, by omega, by omega⟩) | (unfold inI; omega) | omega), ?_⟩; conv => whnf) | (refine ⟨fun c => ?_, fun c => ?_⟩) | (intro c) | fail))
    | succ k ih =>
      intro i s Lj hj hk hi hs he hRj fj kp lj
      rw [mn_s] at he
      have kqj := hRj.1.1
      have gj := fj.1
      have hXj := hX.eq fj.1 fj.2.1
      have hRSj : RSt hj R N := ⟨(hRj.2.1 7 (by omega) (by omega)).trans e7A, fun k j a b c d => (fj.2.2 128 _ (by omega) (by omega) (by omega) (by omega) (by omega)).trans (hRS.2 k j a b c d)⟩
      have lv : ∀ (d' : Nat) (Q' : RetP), 15 ≤ d' → (∀ h2, LvE hj h2 R N K (A 6) (totA A 5) (totA A 4) (rwN R N 10000 A (sd + i) Lj 0 0 0) → Q' none h2) → WP X XL d' 344 [vR 127, vI (sd + i)] hj Q' := fun d' Q' a b => r_lives a hRj (by omega) hXj hRSj hN hNs hVR lj (by omega) b
      refine Ex_step ?_; conv => whnf
      (repeat' (first | (refine lv _ _ (by omega) (fun h1 hE => ?_)) | (refine Ex_step ?_; conv => whnf) | (refine ⟨?_, trivial⟩) | (refine (show den _ _ _ _ _ _ _ _ from ?_); conv => whnf) | (refine ⟨fun c => False.elim (by omega), fun c => ?_⟩) | (refine ⟨fun c => ?_, fun c => False.elim (by omega)⟩) | (refine ⟨by (first | assumption | rfl | (exact Nat.le_of_ble_eq_true rfl) | (exact ⟨fun h01 => absurd h01 (by decide), by first | rfl | assumption⟩) | (exact ⟨fun _ => by decide, by first | rfl | assumption⟩) | (exact ⟨by assumption, by omega, by omega⟩) | (unfold inI; omega) | omega), ?_⟩; conv => whnf) | (refine ⟨fun c => ?_, fun c => ?_⟩) | fail))
      obtain ⟨hR1, fy, hL1, -, -, -, -, -, -, -⟩ := hE
      have kq1 := hR1.1.1
      have t3 := tot_3 hR1.2.2
      have g1 := fy.1
      have kp1 : Kp h1 2290 A := fun j a b => (fy.2.2 128 _ (by omega) (by omega) (by omega) (by omega)).trans (kp j a b)
      have nn : ∀ h2, Rr (K + 24900) h2 A → FrA h1 h2 → Ex (WP X XL (d - 1)) KX10_mean h.1 Q 71 [some (vR 127), some (vI sd), some (vI many), some (vL (ladZ s (totA (rwN R N 10000 A (sd + i) Lj 0 0 0).1 3))), none, some (vI (i + 1))] [] h2 := fun h2 hR2 f2 => by
        have n := ih (i + 1) (s + totA (rwN R N 10000 A (sd + i) Lj 0 0 0).1 3) _ h2 (by omega) (by omega) (by omega) he ⟨hR2.1, hR2.2.1, hA⟩ (fj.trans (fy.M.trans f2.M)) (fun j a b => (f2.2 _ (by omega)).trans (kp1 j a b)) (fun o a b => ⟨(f2.1.2.2 143 (by omega) o).trans (hL1 o a b).1, (hL1 o a b).2⟩)
        rw [← ladZ_e (a := s) (by unfold inI; omega) (by unfold inI; omega)] at n
        exact n
      (repeat' (first | (exact nn h2 hR2 f2) | (refine r_together (by omega) hR1 (by omega) ?_) | (refine r_restores (by omega) hR1 (by omega) (by omega) kp1 (AOk_K hA (by omega) (by omega)) (fun h2 hR2 f2 => ?_)) | (refine Ex_step ?_; conv => whnf) | (refine ⟨?_, trivial⟩) | (refine (show den _ _ _ _ _ _ _ _ from ?_); conv => whnf) | (refine ⟨fun c => False.elim (by omega), fun c => ?_⟩) | (refine ⟨fun c => ?_, fun c => False.elim (by omega)⟩) | (refine ⟨by (first | assumption | rfl | (exact Nat.le_of_ble_eq_true rfl) | (exact ⟨fun h01 => absurd h01 (by decide), by first | rfl | assumption⟩) | (exact ⟨fun _ => by decide, by first | rfl | assumption⟩) | (exact ⟨by assumption, by omega, by omega⟩) | (unfold inI; omega) | omega), ?_⟩; conv => whnf) | (refine ⟨fun c => ?_, fun c => ?_⟩) | (intro c) | fail))
  have l0 : ∀ h1, Rr K h1 A → Fr (fun r => r = 128) h h1 → Kp h1 2290 A → (∀ j, j < 2290 ∨ 2290 + 90 ≤ j → gG h1 128 j = gG h 128 j) → Ex (WP X XL (d - 1)) KX10_mean h.1 Q 71 [some (vR 127), some (vI sd), some (vI many), some (vL 0), none, some (vI 0)] [] h1 := fun h1 hR1 f1 kp1 gk => loop many.toNat 0 0 L h1 (by omega) (by omega) (by omega) rfl hR1 ⟨f1.1, f1.2.1, fun r i _ q _ _ _ => by
    by_cases e : r = 128
    · rw [e]; exact gk i (by omega)
    · exact f1.2.2 r e i⟩ kp1 (fun o a b => ⟨(f1.2.2 143 (by omega) o).trans (hL o a b).1, (hL o a b).2⟩)
  refine eX10_mean (by omega) ?_
  (repeat' (first | (exact l0 h1 hR1 f1 kp1 gk) | (rw [r0]) | (rw [e7]) | (refine r_keeps (by omega) hR (by omega) (by omega) (fun h1 hR1 f1 kp1 gk => ?_)) | (refine r_isFrom (by omega) (fun c => ?_) (fun c => False.elim (by omega))) | (refine r_isFrom (by omega) (fun c => False.elim (by omega)) (fun c => ?_)) | (refine r_isFrom (by omega) (fun c => ?_) (fun c => ?_)) | (refine ⟨⟨kt, by omega, Int.lt_of_lt_of_le (by omega : _ < (3198 : Int)) (Int.le_of_eq lt.symm)⟩, ?_⟩; conv => whnf) | (refine Ex_step ?_; conv => whnf) | (refine ⟨?_, trivial⟩) | (refine (show den _ _ _ _ _ _ _ _ from ?_); conv => whnf) | (refine ⟨fun c => False.elim (by omega), fun c => ?_⟩) | (refine ⟨fun c => ?_, fun c => False.elim (by omega)⟩) | (refine ⟨by (first | assumption | rfl | (exact Nat.le_of_ble_eq_true rfl) | (exact ⟨fun h01 => absurd h01 (by decide), by first | rfl | assumption⟩) | (exact ⟨fun _ => by decide, by first | rfl | assumption⟩) | (exact ⟨by assumption, by omega, by omega⟩) | (unfold inI; omega) | omega), ?_⟩; conv => whnf) | (refine ⟨fun c => ?_, fun c => ?_⟩) | (intro c) | fail))
