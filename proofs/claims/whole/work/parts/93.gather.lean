/-! LEVEL 2: texts: tokens of the class, gathered -/
theorem lc0 : (((0 : Fin 2).val : Nat) : Int) = 0 := rfl
set_option maxHeartbeats 4000000 in
theorem w_findToken {X : Int → Int} {XL : Int} {d : Nat} {h : Mem} {Q : RetP} {P : Int → Int} {n e s : Int} (hd : 8 ≤ d) (hM : TxM h P n) (hs : 0 ≤ s ∧ s < 12) (e7 : gG h 10 7 = e) (he : 0 ≤ e ∧ e ≤ n) (hq : ∀ h', Ft s h h' → gG h' 10 7 = tE P n e → gG h' 13 s = tF P n e → TokV P n e (gG h' 14 s) → Q (some (vI (tC P n e))) h') : WP X XL d 61 [vR 10, vI s] h Q := by
  have hb := tF_b (P := P) he.2
  have out : ∀ (hj : Mem), F7 h hj → gG hj 10 7 = tF P n e → Ex (WP X XL (d - 1)) KX5_findToken h.1 Q 52 [some (vR 10), some (vI s)] [] hj := by
    intro hj fj ej
    have hMj := fj.M hM
    obtain ⟨⟨k10, r5, k11, l11⟩, ⟨r8, k12, l12⟩, ⟨r9, k13, l13⟩, ⟨r10, k14, l14⟩, e6, hn, hP⟩ := id hMj
    have gj := fj.1
    have ft2 : Ft s h (sG (sG hj 13 s (tF P n e)) 14 s 0) := (fj.t.s (Or.inr (Or.inl ⟨rfl, rfl⟩))).s (Or.inr (Or.inr ⟨rfl, rfl⟩))
    have hM2 : TxM (sG (sG hj 13 s (tF P n e)) 14 s 0) P n := ft2.M hM
    have a7 : gG (sG hj 13 s (tF P n e)) 10 7 = tF P n e := by rw [gG_sG, if_neg (by omega)]; exact ej
    have b7 : gG (sG (sG hj 13 s (tF P n e)) 14 s 0) 10 7 = tF P n e := by rw [gG_sG, if_neg (by omega)]; exact a7
    have b6 := hM2.2.2.2.2.1
    have b13 : gG (sG (sG hj 13 s (tF P n e)) 14 s 0) 13 s = tF P n e := by rw [gG_sG, if_neg (by omega), g_same]
    by_cases c : tF P n e < n
    · have hp := hM2.2.2.2.2.2.2 (tF P n e) (by omega) c
      have hp1 := hp.1
      by_cases l : lt P (tF P n e) = true
      · have ll := lt_t.mp l
        have eE : tE P n e = sc (lt P) n (tF P n e) := by unfold tE; rw [if_neg (fun q => q c), if_pos l]
        have eC : tC P n e = (if 8 < sc (lt P) n (tF P n e) - tF P n e then 26 else if kx CKW (fs P (tF P n e) (sc (lt P) n (tF P n e) - tF P n e).toNat) 0 = -1 then 25 else kx CKW (fs P (tF P n e) (sc (lt P) n (tF P n e) - tF P n e).toNat) 0) := by unfold tC tW; rw [if_neg (fun q => q c), if_pos l, eE]
        have fw : ∀ (d' : Nat) (Q' : RetP), 7 ≤ d' → (∀ h', h'.1 = h.1 → Q (some (vI (tC P n e))) h' → Q' (some (vI (tC P n e))) h') → WP X XL d' 62 [vR 10, vI s] (sG (sG hj 13 s (tF P n e)) 14 s 0) Q' := fun d' Q' x y => by
          refine w_findWord x hM2 hs b7 ⟨by omega, c⟩ (fun h' f' g7 gv g13 => ?_)
          rw [← eC]
          refine y h' (f'.1.trans ft2.1) (hq h' (ft2.trans f') (by rw [eE]; exact g7) ((g13 s).trans b13) ⟨fun q => ?_, fun q => ?_⟩)
          · have h8 : ¬ 8 < sc (lt P) n (tF P n e) - tF P n e := fun w => by rw [eC, if_pos w] at q; omega
            rw [gv (by omega)]
            unfold tW
            rw [eE]
          · exfalso
            rw [eC] at q
            have := kx_b CKW (fs P (tF P n e) (sc (lt P) n (tF P n e) - tF P n e).toNat) 0
            have hl : (CKW.length : Int) = 25 := by decide
            split at q
            · omega
            · split at q <;> omega
        (repeat' (first | (assumption) | (rw [lc0]) | (rw [ej]) | (rw [r9]) | (rw [gR_sG]) | (rw [r10]) | (rw [a7]) | (rw [b7]) | (rw [b6]) | (rw [r5]) | (rw [hp1]) | (refine w_isLetter (by omega) (fun q => ?_) (fun q => absurd ll q)) | (refine fw _ _ (by omega) (fun h' g' q' => ?_)) | (refine ⟨⟨k13, by omega, Int.lt_of_lt_of_le (by omega : _ < (12 : Int)) (Int.le_of_eq l13.symm)⟩, ?_⟩; conv => whnf) | (refine ⟨⟨k14, by omega, Int.lt_of_lt_of_le (by omega : _ < (12 : Int)) (Int.le_of_eq l14.symm)⟩, ?_⟩; conv => whnf) | (refine ⟨⟨k11, by omega, Int.lt_of_lt_of_le (by omega : _ < (900 : Int)) (Int.le_of_eq l11.symm)⟩, ?_⟩; conv => whnf) | (refine Ex_step ?_; conv => whnf) | (refine ⟨?_, trivial⟩) | (refine (show den _ _ _ _ _ _ _ _ from ?_); conv => whnf) | (refine ⟨fun c => False.elim (by omega), fun c => ?_⟩) | (refine ⟨fun c => ?_, fun c => False.elim (by omega)⟩) | (refine ⟨by (first | assumption | rfl | (exact Nat.le_of_ble_eq_true rfl) | (exact ⟨fun h01 => absurd h01 (by decide), by first | rfl | assumption⟩) | (exact ⟨fun _ => by decide, by first | rfl | assumption⟩) | (exact ⟨by assumption, by omega, by omega⟩) | (unfold inI; omega) | omega), ?_⟩; conv => whnf) | (refine ⟨fun c => ?_, fun c => ?_⟩) | (intro c) | fail))
      · have ll : ¬ (97 ≤ P (tF P n e) ∧ P (tF P n e) ≤ 122) := fun q => l (lt_t.mpr q)
        by_cases g : dg P (tF P n e) = true
        · have gg := dg_t.mp g
          have eE : tE P n e = sc (dg P) n (tF P n e) := by unfold tE; rw [if_neg (fun q => q c), if_neg l, if_pos g]
          have eC : tC P n e = (if 4 < sc (dg P) n (tF P n e) - tF P n e then 33 else 27) := by unfold tC; rw [if_neg (fun q => q c), if_neg l, if_pos g, eE]
          have fw : ∀ (d' : Nat) (Q' : RetP), 4 ≤ d' → (∀ h', h'.1 = h.1 → Q (some (vI (tC P n e))) h' → Q' (some (vI (tC P n e))) h') → WP X XL d' 63 [vR 10, vI s] (sG (sG hj 13 s (tF P n e)) 14 s 0) Q' := fun d' Q' x y => by
            refine w_findNumber x hM2 hs b7 ⟨by omega, c⟩ (fun h' f' g7 gv g13 => ?_)
            rw [← eC]
            refine y h' (f'.1.trans ft2.1) (hq h' (ft2.trans f') (by rw [eE]; exact g7) ((g13 s).trans b13) ⟨fun q => ?_, fun q => ?_⟩)
            · exfalso
              rw [eC] at q
              split at q <;> omega
            · have h4 : ¬ 4 < sc (dg P) n (tF P n e) - tF P n e := fun w => by rw [eC, if_pos w] at q; omega
              rw [gv (by omega), eE]
          (repeat' (first | (assumption) | (rw [lc0]) | (rw [ej]) | (rw [r9]) | (rw [gR_sG]) | (rw [r10]) | (rw [a7]) | (rw [b7]) | (rw [b6]) | (rw [r5]) | (rw [hp1]) | (refine w_isLetter (by omega) (fun q => absurd q ll) (fun q => ?_)) | (refine w_isDigit (by omega) (fun q => ?_) (fun q => absurd gg q)) | (refine fw _ _ (by omega) (fun h' g' q' => ?_)) | (refine ⟨⟨k13, by omega, Int.lt_of_lt_of_le (by omega : _ < (12 : Int)) (Int.le_of_eq l13.symm)⟩, ?_⟩; conv => whnf) | (refine ⟨⟨k14, by omega, Int.lt_of_lt_of_le (by omega : _ < (12 : Int)) (Int.le_of_eq l14.symm)⟩, ?_⟩; conv => whnf) | (refine ⟨⟨k11, by omega, Int.lt_of_lt_of_le (by omega : _ < (900 : Int)) (Int.le_of_eq l11.symm)⟩, ?_⟩; conv => whnf) | (refine Ex_step ?_; conv => whnf) | (refine ⟨?_, trivial⟩) | (refine (show den _ _ _ _ _ _ _ _ from ?_); conv => whnf) | (refine ⟨fun c => False.elim (by omega), fun c => ?_⟩) | (refine ⟨fun c => ?_, fun c => False.elim (by omega)⟩) | (refine ⟨by (first | assumption | rfl | (exact Nat.le_of_ble_eq_true rfl) | (exact ⟨fun h01 => absurd h01 (by decide), by first | rfl | assumption⟩) | (exact ⟨fun _ => by decide, by first | rfl | assumption⟩) | (exact ⟨by assumption, by omega, by omega⟩) | (unfold inI; omega) | omega), ?_⟩; conv => whnf) | (refine ⟨fun c => ?_, fun c => ?_⟩) | (intro c) | fail))
        · have gg : ¬ (48 ≤ P (tF P n e) ∧ P (tF P n e) ≤ 57) := fun q => g (dg_t.mpr q)
          have eE : tE P n e = tF P n e + 1 := by unfold tE; rw [if_neg (fun q => q c), if_neg l, if_neg g]
          have eC : tC P n e = sgC (P (tF P n e)) := by unfold tC; rw [if_neg (fun q => q c), if_neg l, if_neg g]
          have hsg : sgC (P (tF P n e)) = 28 ∨ sgC (P (tF P n e)) = 29 ∨ sgC (P (tF P n e)) = 30 ∨ sgC (P (tF P n e)) = 31 ∨ sgC (P (tF P n e)) = 33 := by
            unfold sgC
            split
            · omega
            · split
              · omega
              · split
                · omega
                · split <;> omega
          have q0 := hq (sG (sG (sG hj 13 s (tF P n e)) 14 s 0) 10 7 (tF P n e + 1)) (ft2.s (Or.inl ⟨rfl, rfl⟩)) (by rw [g_same, eE]) (by rw [gG_sG, if_neg (by omega)]; exact b13) ⟨fun q => by rw [eC] at q; omega, fun q => by rw [eC] at q; omega⟩
          rw [eC] at q0
          have c7 : gG (sG (sG (sG hj 13 s (tF P n e)) 14 s 0) 10 7 (tF P n e + 1)) 10 7 = tF P n e + 1 := g_same
          have hp2 : gG (sG (sG (sG hj 13 s (tF P n e)) 14 s 0) 10 7 (tF P n e + 1)) 11 (tF P n e + 1 - 1) = P (tF P n e) := by rw [gG_sG, if_neg (by omega), show tF P n e + 1 - 1 = tF P n e by omega]; exact hp1
          (repeat' (first | (exact q0) | (rw [lc0]) | (rw [ej]) | (rw [r9]) | (rw [gR_sG]) | (rw [r10]) | (rw [c7]) | (rw [a7]) | (rw [b7]) | (rw [b6]) | (rw [r5]) | (rw [hp2]) | (rw [hp1]) | (refine w_isLetter (by omega) (fun q => absurd q ll) (fun q => ?_)) | (refine w_isDigit (by omega) (fun q => absurd q gg) (fun q => ?_)) | (refine w_signCode (by omega) ?_) | (refine ⟨⟨k13, by omega, Int.lt_of_lt_of_le (by omega : _ < (12 : Int)) (Int.le_of_eq l13.symm)⟩, ?_⟩; conv => whnf) | (refine ⟨⟨k14, by omega, Int.lt_of_lt_of_le (by omega : _ < (12 : Int)) (Int.le_of_eq l14.symm)⟩, ?_⟩; conv => whnf) | (refine ⟨⟨k11, by omega, Int.lt_of_lt_of_le (by omega : _ < (900 : Int)) (Int.le_of_eq l11.symm)⟩, ?_⟩; conv => whnf) | (refine Ex_step ?_; conv => whnf) | (refine ⟨?_, trivial⟩) | (refine (show den _ _ _ _ _ _ _ _ from ?_); conv => whnf) | (refine ⟨fun c => False.elim (by omega), fun c => ?_⟩) | (refine ⟨fun c => ?_, fun c => False.elim (by omega)⟩) | (refine ⟨by (first | assumption | rfl | (exact Nat.le_of_ble_eq_true rfl) | (exact ⟨fun h01 => absurd h01 (by decide), by first | rfl | assumption⟩) | (exact ⟨fun _ => by decide, by first | rfl | assumption⟩) | (exact ⟨by assumption, by omega, by omega⟩) | (unfold inI; omega) | omega), ?_⟩; conv => whnf) | (refine ⟨fun c => ?_, fun c => ?_⟩) | (intro c) | fail))
    · have eE : tE P n e = tF P n e := by unfold tE; rw [if_pos c]
      have eC : tC P n e = 32 := by unfold tC; rw [if_pos c]
      have q0 := hq (sG (sG hj 13 s (tF P n e)) 14 s 0) ft2 (by rw [eE]; exact b7) b13 ⟨fun q => by rw [eC] at q; omega, fun q => by rw [eC] at q; omega⟩
      rw [eC] at q0
      (repeat' (first | (exact q0) | (rw [lc0]) | (rw [ej]) | (rw [r9]) | (rw [gR_sG]) | (rw [r10]) | (rw [a7]) | (rw [b7]) | (rw [b6]) | (refine ⟨⟨k13, by omega, Int.lt_of_lt_of_le (by omega : _ < (12 : Int)) (Int.le_of_eq l13.symm)⟩, ?_⟩; conv => whnf) | (refine ⟨⟨k14, by omega, Int.lt_of_lt_of_le (by omega : _ < (12 : Int)) (Int.le_of_eq l14.symm)⟩, ?_⟩; conv => whnf) | (refine Ex_step ?_; conv => whnf) | (refine ⟨?_, trivial⟩) | (refine (show den _ _ _ _ _ _ _ _ from ?_); conv => whnf) | (refine ⟨fun c => False.elim (by omega), fun c => ?_⟩) | (refine ⟨fun c => ?_, fun c => False.elim (by omega)⟩) | (refine ⟨by (first | assumption | rfl | (exact Nat.le_of_ble_eq_true rfl) | (exact ⟨fun h01 => absurd h01 (by decide), by first | rfl | assumption⟩) | (exact ⟨fun _ => by decide, by first | rfl | assumption⟩) | (exact ⟨by assumption, by omega, by omega⟩) | (unfold inI; omega) | omega), ?_⟩; conv => whnf) | (refine ⟨fun c => ?_, fun c => ?_⟩) | (intro c) | fail))
  have loop : ∀ (m : Nat) (k : Int) (hj : Mem), n - k = m → 0 ≤ k → sc (bk P) n k = tF P n e → F7 h hj → gG hj 10 7 = k → Ex (WP X XL (d - 1)) KX5_findToken h.1 Q 0 [some (vR 10), some (vI s)] [] hj := by
    intro m; induction m with
    | zero =>
      intro k hj hm hk hsc fj ej
      obtain ⟨⟨k10, r5, k11, l11⟩, -, -, -, e6, hn, hP⟩ := id (fj.M hM)
      have o := out hj fj (by rw [ej, ← hsc]; exact (sc_end (by omega)).symm)
      refine Ex_step ?_; conv => whnf
      (repeat' (first | (exact o) | (rw [ej]) | (rw [e6]) | (refine Ex_step ?_; conv => whnf) | (refine ⟨?_, trivial⟩) | (refine (show den _ _ _ _ _ _ _ _ from ?_); conv => whnf) | (refine ⟨fun c => False.elim (by omega), fun c => ?_⟩) | (refine ⟨fun c => ?_, fun c => False.elim (by omega)⟩) | (refine ⟨by (first | assumption | rfl | (exact Nat.le_of_ble_eq_true rfl) | (exact ⟨fun h01 => absurd h01 (by decide), by first | rfl | assumption⟩) | (exact ⟨fun _ => by decide, by first | rfl | assumption⟩) | (exact ⟨by assumption, by omega, by omega⟩) | (unfold inI; omega) | omega), ?_⟩; conv => whnf) | (refine ⟨fun c => ?_, fun c => ?_⟩) | (intro c) | fail))
    | succ m ih =>
      intro k hj hm hk hsc fj ej
      obtain ⟨⟨k10, r5, k11, l11⟩, -, -, -, e6, hn, hP⟩ := id (fj.M hM)
      have hp := hP k (by omega) (by omega)
      have hp1 := hp.1
      by_cases c : bk P k = true
      · have cc := bk_t.mp c
        rw [sc_go (by omega) c] at hsc
        have nx := ih (k + 1) (sG hj 10 7 (k + 1)) (by omega) (by omega) hsc fj.s g_same
        by_cases cx : P k = 10
        · refine Ex_step ?_; conv => whnf
          (repeat' (first | (exact nx) | (rw [ej]) | (rw [e6]) | (rw [r5]) | (rw [hp1]) | (refine ⟨⟨k11, by omega, Int.lt_of_lt_of_le (by omega : _ < (900 : Int)) (Int.le_of_eq l11.symm)⟩, ?_⟩; conv => whnf) | (refine Ex_step ?_; conv => whnf) | (refine ⟨?_, trivial⟩) | (refine (show den _ _ _ _ _ _ _ _ from ?_); conv => whnf) | (refine ⟨fun c => False.elim (by omega), fun c => ?_⟩) | (refine ⟨fun c => ?_, fun c => False.elim (by omega)⟩) | (refine ⟨by (first | assumption | rfl | (exact Nat.le_of_ble_eq_true rfl) | (exact ⟨fun h01 => absurd h01 (by decide), by first | rfl | assumption⟩) | (exact ⟨fun _ => by decide, by first | rfl | assumption⟩) | (exact ⟨by assumption, by omega, by omega⟩) | (unfold inI; omega) | omega), ?_⟩; conv => whnf) | (refine ⟨fun c => ?_, fun c => ?_⟩) | (intro c) | fail))
        · refine Ex_step ?_; conv => whnf
          (repeat' (first | (exact nx) | (rw [ej]) | (rw [e6]) | (rw [r5]) | (rw [hp1]) | (refine ⟨⟨k11, by omega, Int.lt_of_lt_of_le (by omega : _ < (900 : Int)) (Int.le_of_eq l11.symm)⟩, ?_⟩; conv => whnf) | (refine Ex_step ?_; conv => whnf) | (refine ⟨?_, trivial⟩) | (refine (show den _ _ _ _ _ _ _ _ from ?_); conv => whnf) | (refine ⟨fun c => False.elim (by omega), fun c => ?_⟩) | (refine ⟨fun c => ?_, fun c => False.elim (by omega)⟩) | (refine ⟨by (first | assumption | rfl | (exact Nat.le_of_ble_eq_true rfl) | (exact ⟨fun h01 => absurd h01 (by decide), by first | rfl | assumption⟩) | (exact ⟨fun _ => by decide, by first | rfl | assumption⟩) | (exact ⟨by assumption, by omega, by omega⟩) | (unfold inI; omega) | omega), ?_⟩; conv => whnf) | (refine ⟨fun c => ?_, fun c => ?_⟩) | (intro c) | fail))
      · have cc : ¬ (P k = 10 ∨ P k = 32) := fun q => c (bk_t.mpr q)
        have o := out hj fj (by rw [ej, ← hsc]; exact (sc_end (fun q => c q.2)).symm)
        refine Ex_step ?_; conv => whnf
        (repeat' (first | (exact o) | (rw [ej]) | (rw [e6]) | (rw [r5]) | (rw [hp1]) | (refine ⟨⟨k11, by omega, Int.lt_of_lt_of_le (by omega : _ < (900 : Int)) (Int.le_of_eq l11.symm)⟩, ?_⟩; conv => whnf) | (refine Ex_step ?_; conv => whnf) | (refine ⟨?_, trivial⟩) | (refine (show den _ _ _ _ _ _ _ _ from ?_); conv => whnf) | (refine ⟨fun c => False.elim (by omega), fun c => ?_⟩) | (refine ⟨fun c => ?_, fun c => False.elim (by omega)⟩) | (refine ⟨by (first | assumption | rfl | (exact Nat.le_of_ble_eq_true rfl) | (exact ⟨fun h01 => absurd h01 (by decide), by first | rfl | assumption⟩) | (exact ⟨fun _ => by decide, by first | rfl | assumption⟩) | (exact ⟨by assumption, by omega, by omega⟩) | (unfold inI; omega) | omega), ?_⟩; conv => whnf) | (refine ⟨fun c => ?_, fun c => ?_⟩) | (intro c) | fail))
  have l0 := loop (n - e).toNat e h (by omega) he.1 rfl F7.refl e7
  refine eX5_findToken (by omega) ?_
  exact l0
