/-! LEVEL 2: decades as they are lived: the reference, behind a step's deed -/
set_option maxHeartbeats 4000000 in
theorem lv_next {X : Int → Int} {XL : Int} {d : Nat} {h : Mem} {Q : RetP} {K : Int} {A : Int → Int} {h4 : Mem} {R : Int → Int → Int} {N sd fe pd k : Int} {D L Lr : Int → Int} (hd : 8 ≤ d) (hR : Rr K h4 A) (g4 : h4.1 = h.1) (hX : RK h4) (hRS : RSt h4 R N) (hN : 0 ≤ N ∧ N ≤ 60) (hNs : Nst R N D) (hk : 0 ≤ k ∧ k < N) (hVR : ∀ k, 0 ≤ k → k < N → VRow A R N k) (hLr : LRr h4 Lr) (hw22 : ¬ R k 0 = 22) (hw23 : ¬ R k 0 = 23) (hsk : ∀ k1, k1 = k + 1 ∨ (2000 ≤ R k 0 ∧ k1 = R k 4 + 1) → ∃ m, skN R N m k1 Lr = skN R N 4 k1 (lL R L k)) (next : ∀ h5, LRr h5 (skN R N 4 (nK R N A k) (lL R L k)).2 → Fr (fun r => r = 143) h4 h5 → Ex (WP X XL (d - 1)) KX10_lives h.1 Q 45 [some (vR 127), some (vI sd), some (vI fe), some (vI pd), some (vI (skN R N 4 (nK R N A k) (lL R L k)).1), some (vI (90 + 6 * k))] [] h5) : Ex (WP X XL (d - 1)) KX10_lives h.1 Q 174 [some (vR 127), some (vI sd), some (vI fe), some (vI pd), some (vI k), some (vI (90 + 6 * k))] [] h4 := by
  obtain ⟨⟨kq, r0, kt, lt⟩, eA, hA⟩ := id hR
  have hv := hVR k hk.1 hk.2
  have e0 : gG h4 128 (90 + 6 * k) = R k 0 := by
    have := hRS.2 k 0 hk.1 hk.2 (by omega) (by omega)
    rw [Int.add_zero] at this
    exact this
  have e1 := hRS.2 k 1 hk.1 hk.2 (by omega) (by omega)
  have e2 := hRS.2 k 2 hk.1 hk.2 (by omega) (by omega)
  have e4 := hRS.2 k 4 hk.1 hk.2 (by omega) (by omega)
  have e5 := hRS.2 k 5 hk.1 hk.2 (by omega) (by omega)
  have beh : ∀ (d' : Nat) (k1 : Int) (Q' : RetP), 1 ≤ d' → 0 ≤ k1 ∧ k1 ≤ N → nK R N A k = k1 → (k1 = k + 1 ∨ (2000 ≤ R k 0 ∧ k1 = R k 4 + 1)) → (∀ h5, Ex (WP X XL (d - 1)) KX10_lives h.1 Q 45 [some (vR 127), some (vI sd), some (vI fe), some (vI pd), some (vI (skN R N 4 (nK R N A k) (lL R L k)).1), some (vI (90 + 6 * k))] [] h5 → Q' (some (vI (skN R N 4 (nK R N A k) (lL R L k)).1)) h5) → WP X XL d' 343 [vR 127, vI k1] h4 Q' := by
    intro d' k1 Q' hd' hk1 en hor hq'
    obtain ⟨m, hm⟩ := hsk k1 hor
    have hend := sk_end hNs 3 k1 (lL R L k) (hNs.1 k1 hk1.1 hk1.2).2 hk1.1 hk1.2 (lL_ne hNs hk hor)
    rw [en] at hq' next
    exact r_behindEnds hd' hR hX hRS hN hLr hk1 hVR (hm.trans (show skN R N 4 k1 (lL R L k) = ((skN R N 4 k1 (lL R L k)).1, (skN R N 4 k1 (lL R L k)).2) from rfl)) hend.1 (fun h5 l5 f5 => hq' h5 (next h5 l5 f5))
  by_cases w20 : 2000 ≤ R k 0
  · have hH := hv.2.2.1 w20
    have ho := hv.2.2.2.2.1 (Or.inr w20)
    by_cases hh : hlP A (R k 0) (R k 1) (R k 2) (R k 5)
    · have en : nK R N A k = k + 1 := by unfold nK; rw [if_neg hw23, if_pos w20, if_pos (hlI_t hh)]
      (repeat' (first | (exact hx5) | (rw [r0]) | (rw [e0]) | (refine r_holds (by omega) hR (by omega) e0 e1 e2 e5 hH (fun q => ?_) (fun q => absurd hh q)) | (refine beh _ _ _ (by omega) (by omega) en (Or.inl rfl) (fun h5 hx5 => ?_)) | (refine ⟨⟨kt, by omega, Int.lt_of_lt_of_le (by omega : _ < (3198 : Int)) (Int.le_of_eq lt.symm)⟩, ?_⟩; conv => whnf) | (refine Ex_step ?_; conv => whnf) | (refine ⟨?_, trivial⟩) | (refine (show den _ _ _ _ _ _ _ _ from ?_); conv => whnf) | (refine ⟨fun c => False.elim (by omega), fun c => ?_⟩) | (refine ⟨fun c => ?_, fun c => False.elim (by omega)⟩) | (refine ⟨by (first | assumption | rfl | (exact Nat.le_of_ble_eq_true rfl) | (exact ⟨fun h01 => absurd h01 (by decide), by first | rfl | assumption⟩) | (exact ⟨fun _ => by decide, by first | rfl | assumption⟩) | (exact ⟨by assumption, by omega, by omega⟩) | (unfold inI; omega) | omega), ?_⟩; conv => whnf) | (refine ⟨fun c => ?_, fun c => ?_⟩) | (intro c) | fail))
    · have en : nK R N A k = R k 4 + 1 := by unfold nK; rw [if_neg hw23, if_pos w20, if_neg (by rw [hlI_f hh]; omega)]
      (repeat' (first | (exact hx5) | (rw [r0]) | (rw [e0]) | (rw [e4]) | (refine r_holds (by omega) hR (by omega) e0 e1 e2 e5 hH (fun q => absurd q hh) (fun q => ?_)) | (refine beh _ _ _ (by omega) (by omega) en (Or.inr ⟨w20, rfl⟩) (fun h5 hx5 => ?_)) | (refine ⟨⟨kt, by omega, Int.lt_of_lt_of_le (by omega : _ < (3198 : Int)) (Int.le_of_eq lt.symm)⟩, ?_⟩; conv => whnf) | (refine Ex_step ?_; conv => whnf) | (refine ⟨?_, trivial⟩) | (refine (show den _ _ _ _ _ _ _ _ from ?_); conv => whnf) | (refine ⟨fun c => False.elim (by omega), fun c => ?_⟩) | (refine ⟨fun c => ?_, fun c => False.elim (by omega)⟩) | (refine ⟨by (first | assumption | rfl | (exact Nat.le_of_ble_eq_true rfl) | (exact ⟨fun h01 => absurd h01 (by decide), by first | rfl | assumption⟩) | (exact ⟨fun _ => by decide, by first | rfl | assumption⟩) | (exact ⟨by assumption, by omega, by omega⟩) | (unfold inI; omega) | omega), ?_⟩; conv => whnf) | (refine ⟨fun c => ?_, fun c => ?_⟩) | (intro c) | fail))
  · have en : nK R N A k = k + 1 := by unfold nK; rw [if_neg hw23, if_neg w20]
    (repeat' (first | (exact hx5) | (rw [r0]) | (rw [e0]) | (refine beh _ _ _ (by omega) (by omega) en (Or.inl rfl) (fun h5 hx5 => ?_)) | (refine ⟨⟨kt, by omega, Int.lt_of_lt_of_le (by omega : _ < (3198 : Int)) (Int.le_of_eq lt.symm)⟩, ?_⟩; conv => whnf) | (refine Ex_step ?_; conv => whnf) | (refine ⟨?_, trivial⟩) | (refine (show den _ _ _ _ _ _ _ _ from ?_); conv => whnf) | (refine ⟨fun c => False.elim (by omega), fun c => ?_⟩) | (refine ⟨fun c => ?_, fun c => False.elim (by omega)⟩) | (refine ⟨by (first | assumption | rfl | (exact Nat.le_of_ble_eq_true rfl) | (exact ⟨fun h01 => absurd h01 (by decide), by first | rfl | assumption⟩) | (exact ⟨fun _ => by decide, by first | rfl | assumption⟩) | (exact ⟨by assumption, by omega, by omega⟩) | (unfold inI; omega) | omega), ?_⟩; conv => whnf) | (refine ⟨fun c => ?_, fun c => ?_⟩) | (intro c) | fail))
