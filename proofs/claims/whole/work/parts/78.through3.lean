/-! LEVEL 2: decades as they are lived: the class goes through, whole -/
theorem eK_b {A : Int → Int} {R : Int → Int → Int} {L : Int → Int} {N k : Int} (hv : VRow A R N k) (hk : 0 ≤ k ∧ k < N) (hw : R k 0 = 22) : 0 ≤ eK R L k ∧ eK R L k ≤ N := by
  have := hv.2.2.2.2.2 hw
  unfold eK
  split <;> omega
theorem nK_b {A B : Int → Int} {R : Int → Int → Int} {N k : Int} (hv : VRow A R N k) (hk : 0 ≤ k ∧ k < N) : 0 ≤ nK R N B k ∧ nK R N B k ≤ N := by
  unfold nK
  split
  · omega
  · split
    · have := hv.2.2.2.2.1 (Or.inr (by assumption))
      split <;> omega
    · omega
/-- what stands when all is gone through -/
def ThE (h h2 : Mem) (v st : Nat) (R : Int → Int → Int) (N K0 : Int) (r : (Int → Int) × Int × (Int → Int) × Int × Int × Int) : Prop := Vr (K0 + 24900) h2 v r.1 ∧ ThC h2 v st R N ∧ FrW v h h2 ∧ LRel h2 r.2.2.1 ∧ gG h2 124 4 = r.2.1 ∧ gG h2 124 0 = r.2.2.2.1 ∧ gG h2 124 1 = r.2.2.2.2.1 ∧ gG h2 124 2 = r.2.2.2.2.2 ∧ (0 ≤ r.2.2.2.1 ∧ r.2.2.2.1 ≤ 300) ∧ (0 ≤ r.2.2.2.2.1 ∧ r.2.2.2.2.1 ≤ 300) ∧ (r.2.2.2.2.2 = 0 ∨ r.2.2.2.2.2 = 1)
set_option maxHeartbeats 4000000 in
theorem th_all {X : Int → Int} {XL : Int} {d : Nat} {h : Mem} {Q : RetP} {v st : Nat} {R : Int → Int → Int} {N K0 sd : Int} {r : (Int → Int) × Int × (Int → Int) × Int × Int × Int} (hd : 10 ≤ d) (hN : 0 ≤ N ∧ N ≤ 60) (hK0 : K0 + 24900 ≤ 30000000) (fin : ∀ h2, ThE h h2 v st R N K0 r → Q none h2) : ∀ (f : Nat) (i k dn mi x K : Int) (A L : Int → Int) (h1 : Mem), 10000 - i = f → 0 ≤ i → 0 ≤ k ∧ k ≤ N → K = K0 + 83 * dn → ThS h h1 v st R N K A L x dn mi → r = rwN R N f A x L k dn mi → Ex (WP X XL (d - 1)) KX2_goThrough h.1 Q 36 [some (vR 124), some (vR v), some (vR st), some (vI sd), some (vI k), some (vI i)] [] h1 := by
  intro f; induction f with
  | zero =>
    intro i k dn mi x K A L h1 hf h0 hk eK0 hS he
    obtain ⟨hV, hTh, fW, hLr, ⟨ex, hx0⟩, ⟨ed, em, el⟩, hdn, hmi, hK, hVR⟩ := id hS; obtain ⟨⟨c1, c2, c3⟩, hT, hLf, r5, hSo, eN, hCR⟩ := id hTh; obtain ⟨kl, r6, r3, k125, l125⟩ := id hLf; have ks := hSo.1; have gj := fW.1
    have e := fin h1 (by rw [he]; exact ⟨Vr_K hV (by omega) (by omega), hTh, fW, hLr, ex, ed, em, el, by show 0 ≤ dn ∧ dn ≤ 300; omega, by show 0 ≤ mi ∧ mi ≤ 300; omega, Or.inl rfl⟩)
    (repeat' (first | (refine Ex_step ?_; conv => whnf) | (refine ⟨?_, trivial⟩) | (refine (show den _ _ _ _ _ _ _ _ from ?_); conv => whnf) | (refine ⟨fun c => False.elim (by omega), fun c => ?_⟩) | (refine ⟨fun c => ?_, fun c => False.elim (by omega)⟩) | (refine ⟨by (first | assumption | rfl | (exact Nat.le_of_ble_eq_true rfl) | (exact ⟨fun h01 => absurd h01 (by decide), by first | rfl | assumption⟩) | (exact ⟨fun _ => by decide, by first | rfl | assumption⟩) | (exact ⟨by assumption, by omega, by omega⟩) | (unfold inI; omega) | omega), ?_⟩; conv => whnf) | (refine ⟨fun c => ?_, fun c => ?_⟩) | (intro c) | fail))
    exact e
  | succ f ih =>
    intro i k dn mi x K A L h1 hf h0 hk eK0 hS he
    have hS0 := hS
    obtain ⟨hV, hTh, fW, hLr, ⟨ex, hx0⟩, ⟨ed, em, el⟩, hdn, hmi, hK, hVR⟩ := id hS; obtain ⟨⟨c1, c2, c3⟩, hT, hLf, r5, hSo, eN, hCR⟩ := id hTh; obtain ⟨kl, r6, r3, k125, l125⟩ := id hLf; have ks := hSo.1; have gj := fW.1
    rw [rw_s] at he
    by_cases hkN : k < N
    · rw [if_neg (fun q => q hkN)] at he
      by_cases hw : R k 0 = 22
      · rw [if_pos hw] at he
        exact th_end (by omega) hS0 ⟨hk.1, hkN⟩ hN.2 (by omega) hw (fun h2 hS2 => ih (i + 1) _ dn mi x K A _ h2 (by omega) (by omega) (eK_b (hVR k hk.1 hkN) ⟨hk.1, hkN⟩ hw) eK0 hS2 he)
      · rw [if_neg hw] at he
        obtain ⟨ks0, ⟨sr1, sk1, sl1⟩, -⟩ := id hSo
        have hc := hCR k hk.1 hkN
        have ew : gG h1 (st + 1) k = cwd (R k 0) := hc.1
        have ew23 : ¬ cwd (R k 0) = 23 := by unfold cwd; split; omega; split <;> omega
        by_cases h3 : 300 ≤ dn
        · rw [if_pos h3] at he
          have f1 : FrW v h1 (sG h1 124 2 1) := FrW.refl.s (Or.inl rfl)
          have e := fin (sG h1 124 2 1) (by rw [he]; exact ⟨Vr_K (hV.eq (by exact rfl) (fun _ => by exact rfl) hT (fun r i h0 h1 => by rw [gG_sG, if_neg (by omega)])) (by omega) (by omega), hTh.w f1, fW.trans f1, hLr.c (fun i => by rw [gG_sG, if_neg (by omega)]), by rw [g_ne (by omega)]; exact ex, by rw [g_ne (by omega)]; exact ed, by rw [g_ne (by omega)]; exact em, g_same, by show 0 ≤ dn ∧ dn ≤ 300; omega, by show 0 ≤ mi ∧ mi ≤ 300; omega, Or.inr rfl⟩)
          (repeat' (first | (rw [r6]) | (rw [eN]) | (rw [sr1]) | (rw [ew]) | (rw [ed]) | (refine Ex_step ?_; conv => whnf) | (refine ⟨?_, trivial⟩) | (refine (show den _ _ _ _ _ _ _ _ from ?_); conv => whnf) | (refine ⟨fun c => False.elim (by omega), fun c => ?_⟩) | (refine ⟨fun c => ?_, fun c => False.elim (by omega)⟩) | (refine ⟨by (first | assumption | rfl | (exact Nat.le_of_ble_eq_true rfl) | (exact ⟨fun h01 => absurd h01 (by decide), by first | rfl | assumption⟩) | (exact ⟨fun _ => by decide, by first | rfl | assumption⟩) | (exact ⟨by assumption, by omega, by omega⟩) | (unfold inI; omega) | omega), ?_⟩; conv => whnf) | (refine ⟨fun c => ?_, fun c => ?_⟩) | (intro c) | fail))
          exact e
        · rw [if_neg h3] at he
          have l0 := ds_lo (x := x) hV.2.2 (hVR k hk.1 hkN).2.1 (Or.inl rfl)
          have l1 := ds_lo (x := x) hV.2.2 (hVR k hk.1 hkN).2.1 (Or.inr (Or.inl rfl))
          have st98 := th_step (X := X) (XL := XL) (d := d) (Q := Q) (sd := sd) (i := i) (by omega) hS0 ⟨hk.1, hkN⟩ hN.2 (by omega) hw (by omega) (fun h2 hS2 => th_next (by omega) hS2 ⟨hk.1, hkN⟩ hN.2 (by omega) hw (fun h3 hS3 => ih (i + 1) _ (dn + 1) _ _ (K + 83) _ _ h3 (by omega) (by omega) (nK_b (hVR k hk.1 hkN) ⟨hk.1, hkN⟩) (by omega) hS3 he))
          refine Ex_step ?_; conv => whnf
          (repeat' (first | (exact st98) | (rw [r6]) | (rw [eN]) | (rw [sr1]) | (rw [ew]) | (rw [ed]) | (refine Ex_step ?_; conv => whnf) | (refine ⟨?_, trivial⟩) | (refine (show den _ _ _ _ _ _ _ _ from ?_); conv => whnf) | (refine ⟨fun c => False.elim (by omega), fun c => ?_⟩) | (refine ⟨fun c => ?_, fun c => False.elim (by omega)⟩) | (refine ⟨by (first | assumption | rfl | (exact Nat.le_of_ble_eq_true rfl) | (exact ⟨fun h01 => absurd h01 (by decide), by first | rfl | assumption⟩) | (exact ⟨fun _ => by decide, by first | rfl | assumption⟩) | (exact ⟨by assumption, by omega, by omega⟩) | (unfold inI; omega) | omega), ?_⟩; conv => whnf) | (refine ⟨fun c => ?_, fun c => ?_⟩) | (intro c) | fail))
    · rw [if_pos hkN] at he
      have e := fin h1 (by rw [he]; exact ⟨Vr_K hV (by omega) (by omega), hTh, fW, hLr, ex, ed, em, el, by show 0 ≤ dn ∧ dn ≤ 300; omega, by show 0 ≤ mi ∧ mi ≤ 300; omega, Or.inl rfl⟩)
      (repeat' (first | (rw [r6]) | (rw [eN]) | (refine Ex_step ?_; conv => whnf) | (refine ⟨?_, trivial⟩) | (refine (show den _ _ _ _ _ _ _ _ from ?_); conv => whnf) | (refine ⟨fun c => False.elim (by omega), fun c => ?_⟩) | (refine ⟨fun c => ?_, fun c => False.elim (by omega)⟩) | (refine ⟨by (first | assumption | rfl | (exact Nat.le_of_ble_eq_true rfl) | (exact ⟨fun h01 => absurd h01 (by decide), by first | rfl | assumption⟩) | (exact ⟨fun _ => by decide, by first | rfl | assumption⟩) | (exact ⟨by assumption, by omega, by omega⟩) | (unfold inI; omega) | omega), ?_⟩; conv => whnf) | (refine ⟨fun c => ?_, fun c => ?_⟩) | (intro c) | fail))
      exact e
def th0 (h : Mem) (v st : Nat) (sd : Int) : Mem := sG (sG (sG (sG (sR (sR h 124 5 v) 124 6 st) 124 4 sd) 124 0 0) 124 1 0) 124 2 0
set_option maxHeartbeats 4000000 in
theorem w_goThrough {X : Int → Int} {XL : Int} {d : Nat} {h : Mem} {Q : RetP} {v st : Nat} {R : Int → Int → Int} {N K sd : Int} {A L : Int → Int} (hd : 10 ≤ d) (hN : 0 ≤ N ∧ N ≤ 60) (hK : K + 24900 ≤ 30000000) (kl : kd h 124 = 2) (hsd : 0 ≤ sd ∧ sd < 65536) (hS : ThS (th0 h v st sd) (th0 h v st sd) v st R N K A L sd 0 0) (fin : ∀ h2, ThE (th0 h v st sd) h2 v st R N K (rwN R N 10000 A sd L 0 0 0) → Q none h2) : WP X XL d 109 [vR 124, vR v, vR st, vI sd] h Q := by
  have l0 := th_all (X := X) (XL := XL) (d := d) (Q := Q) (sd := sd) hd hN hK fin 10000 0 0 0 0 sd K A L _ (by omega) (by omega) (by omega) (by omega) hS rfl
  refine eX2_goThrough (by omega) ?_
  (repeat' (first | (exact l0) | (refine Ex_step ?_; conv => whnf) | (refine ⟨?_, trivial⟩) | (refine (show den _ _ _ _ _ _ _ _ from ?_); conv => whnf) | (refine ⟨fun c => False.elim (by omega), fun c => ?_⟩) | (refine ⟨fun c => ?_, fun c => False.elim (by omega)⟩) | (refine ⟨by (first | assumption | rfl | (exact Nat.le_of_ble_eq_true rfl) | (exact ⟨fun h01 => absurd h01 (by decide), by first | rfl | assumption⟩) | (exact ⟨fun _ => by decide, by first | rfl | assumption⟩) | (exact ⟨by assumption, by omega, by omega⟩) | (unfold inI; omega) | omega), ?_⟩; conv => whnf) | (refine ⟨fun c => ?_, fun c => ?_⟩) | (intro c) | fail))
