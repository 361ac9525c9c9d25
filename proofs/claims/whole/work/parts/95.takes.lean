/-! LEVEL 2: texts: what the class's readers take -/
/-- a fault: its kind, its place -/
def fltK (P : Int → Int) (n e k : Int) : Int := if tC P n e = 33 then 1 else k
def rfs (h : Mem) (P : Int → Int) (n e k : Int) : Mem := sG (sG h 10 3 (fltK P n e k)) 10 4 (tF P n e)
/-- a number's value -/
def tNb (P : Int → Int) (n e : Int) : Int := nv P (tF P n e) (tE P n e - tF P n e).toNat
theorem tC_27 {P : Int → Int} {n e : Int} (he : e ≤ n) (h : tC P n e = 27) : tF P n e < n ∧ dg P (tF P n e) = true ∧ tE P n e = sc (dg P) n (tF P n e) ∧ tE P n e - tF P n e ≤ 4 ∧ 0 ≤ tNb P n e ∧ tNb P n e ≤ 9999 := by
  have hb := tF_b (P := P) he
  by_cases c : tF P n e < n
  · unfold tC at h
    rw [if_neg (fun q => q c)] at h
    by_cases l : lt P (tF P n e) = true
    · rw [if_pos l] at h
      have := kx_b CKW (tW P n e) 0
      have hl : (CKW.length : Int) = 25 := by decide
      split at h
      · omega
      · split at h <;> omega
    · rw [if_neg l] at h
      by_cases g : dg P (tF P n e) = true
      · rw [if_pos g] at h
        have e1 : tE P n e = sc (dg P) n (tF P n e) := by unfold tE; rw [if_neg (fun q => q c), if_neg l, if_pos g]
        have h4 : ¬ 4 < tE P n e - tF P n e := fun q => by rw [if_pos q] at h; omega
        obtain ⟨b1, b2, b3, b4⟩ := sc_b (p := dg P) (n := n) _ (tF P n e) rfl (by omega)
        have hv := nv_b (P := P) (a := tF P n e) (tE P n e - tF P n e).toNat (fun j h0 h1 => b3 j h0 (by omega))
        have hp := p10 (tE P n e - tF P n e).toNat (by omega)
        unfold tNb
        generalize (10 : Int) ^ (tE P n e - tF P n e).toNat = Y at hv hp
        exact ⟨c, g, e1, by omega, by omega, by omega⟩
      · rw [if_neg g] at h
        unfold sgC at h
        split at h
        · omega
        · split at h
          · omega
          · split at h
            · omega
            · split at h <;> omega
  · unfold tC at h
    rw [if_pos c] at h
    omega
theorem l2i_s {z : Int} (h0 : 0 ≤ z) (h1 : z ≤ 9999) : l2iZ z = z := by
  unfold l2iZ
  rw [Int64.toInt_toInt32, i64_to ⟨by omega, by omega⟩]
  rw [Int.bmod_eq_of_le (by omega) (by omega)]
set_option maxHeartbeats 4000000 in
theorem w_refuse {X : Int → Int} {XL : Int} {d : Nat} {h : Mem} {Q : RetP} {P : Int → Int} {n e k : Int} {c : Nat} (hd : 1 ≤ d) (hA : At h P n e c) (hq : Q (some (vI 0)) (rfs h P n e k)) : WP X XL d 69 [vR 10, vI k] h Q := by
  obtain ⟨hM, -, a1, a2, -⟩ := hA.M
  have k10 := hM.1.1
  have a13 : ∀ z, gG (sG h 10 3 z) 10 13 = tF P n e := fun z => by rw [g_ne (by omega)]; exact a2
  unfold rfs fltK at hq
  refine eX5_refuse (by omega) ?_
  by_cases c3 : tC P n e = 33
  · rw [if_pos c3] at hq
    (repeat' (first | (exact hq) | (rw [a1]) | (rw [a13]) | (refine Ex_step ?_; conv => whnf) | (refine ⟨?_, trivial⟩) | (refine (show den _ _ _ _ _ _ _ _ from ?_); conv => whnf) | (refine ⟨fun c => False.elim (by omega), fun c => ?_⟩) | (refine ⟨fun c => ?_, fun c => False.elim (by omega)⟩) | (refine ⟨by (first | assumption | rfl | (exact Nat.le_of_ble_eq_true rfl) | (exact ⟨fun h01 => absurd h01 (by decide), by first | rfl | assumption⟩) | (exact ⟨fun _ => by decide, by first | rfl | assumption⟩) | (exact ⟨by assumption, by omega, by omega⟩) | (unfold inI; omega) | omega), ?_⟩; conv => whnf) | (refine ⟨fun c => ?_, fun c => ?_⟩) | (intro c) | fail))
  · rw [if_neg c3] at hq
    (repeat' (first | (exact hq) | (rw [a1]) | (rw [a13]) | (refine Ex_step ?_; conv => whnf) | (refine ⟨?_, trivial⟩) | (refine (show den _ _ _ _ _ _ _ _ from ?_); conv => whnf) | (refine ⟨fun c => False.elim (by omega), fun c => ?_⟩) | (refine ⟨fun c => ?_, fun c => False.elim (by omega)⟩) | (refine ⟨by (first | assumption | rfl | (exact Nat.le_of_ble_eq_true rfl) | (exact ⟨fun h01 => absurd h01 (by decide), by first | rfl | assumption⟩) | (exact ⟨fun _ => by decide, by first | rfl | assumption⟩) | (exact ⟨by assumption, by omega, by omega⟩) | (unfold inI; omega) | omega), ?_⟩; conv => whnf) | (refine ⟨fun c => ?_, fun c => ?_⟩) | (intro c) | fail))
theorem rfs_g {h : Mem} {P : Int → Int} {n e k : Int} : (rfs h P n e k).1 = h.1 := rfl
set_option maxHeartbeats 4000000 in
theorem w_takeF {X : Int → Int} {XL : Int} {d : Nat} {h : Mem} {Q : RetP} {P : Int → Int} {n e w : Int} {c : Nat} (hd : 2 ≤ d) (hA : At h P n e c) (hw : ¬ tC P n e = w) (hq : Q (some (vI 0)) (rfs h P n e 2)) : WP X XL d 70 [vR 10, vI w] h Q := by
  obtain ⟨hM, -, a1, a2, -⟩ := hA.M
  have k10 := hM.1.1
  have g0 := rfs_g (h := h) (P := P) (n := n) (e := e) (k := 2)
  refine eX5_take (by omega) ?_
  (repeat' (first | (exact hq) | (rw [a1]) | (refine w_refuse (by omega) hA ?_) | (refine Ex_step ?_; conv => whnf) | (refine ⟨?_, trivial⟩) | (refine (show den _ _ _ _ _ _ _ _ from ?_); conv => whnf) | (refine ⟨fun c => False.elim (by omega), fun c => ?_⟩) | (refine ⟨fun c => ?_, fun c => False.elim (by omega)⟩) | (refine ⟨by (first | assumption | rfl | (exact Nat.le_of_ble_eq_true rfl) | (exact ⟨fun h01 => absurd h01 (by decide), by first | rfl | assumption⟩) | (exact ⟨fun _ => by decide, by first | rfl | assumption⟩) | (exact ⟨by assumption, by omega, by omega⟩) | (unfold inI; omega) | omega), ?_⟩; conv => whnf) | (refine ⟨fun c => ?_, fun c => ?_⟩) | (intro c) | fail))
set_option maxHeartbeats 4000000 in
theorem w_takeA {X : Int → Int} {XL : Int} {d : Nat} {h : Mem} {Q : RetP} {P : Int → Int} {n e w : Int} {c : Nat} (hd : 2 ≤ d) (hA : At h P n e c) (hc : c ≤ 10) (hw : tC P n e = w) (hi : ¬ isE w) (hq : ∀ h', At h' P n (tE P n e) (c + 1) → FX h h' → Q (some (vI 1)) h') : WP X XL d 70 [vR 10, vI w] h Q := by
  obtain ⟨hM, -, a1, a2, -⟩ := hA.M
  have k10 := hM.1.1
  refine eX5_take (by omega) ?_
  (repeat' (first | (exact hq h' a' f') | (rw [a1]) | (refine w_advA (by omega) hA hc (by rw [hw]; exact hi) (fun h' a' f' => ?_); have g' := f'.1) | (refine Ex_step ?_; conv => whnf) | (refine ⟨?_, trivial⟩) | (refine (show den _ _ _ _ _ _ _ _ from ?_); conv => whnf) | (refine ⟨fun c => False.elim (by omega), fun c => ?_⟩) | (refine ⟨fun c => ?_, fun c => False.elim (by omega)⟩) | (refine ⟨by (first | assumption | rfl | (exact Nat.le_of_ble_eq_true rfl) | (exact ⟨fun h01 => absurd h01 (by decide), by first | rfl | assumption⟩) | (exact ⟨fun _ => by decide, by first | rfl | assumption⟩) | (exact ⟨by assumption, by omega, by omega⟩) | (unfold inI; omega) | omega), ?_⟩; conv => whnf) | (refine ⟨fun c => ?_, fun c => ?_⟩) | (intro c) | fail))
set_option maxHeartbeats 4000000 in
theorem w_takeN {X : Int → Int} {XL : Int} {d : Nat} {h : Mem} {Q : RetP} {P : Int → Int} {n e : Int} {c : Nat} (hd : 2 ≤ d) (hA : At h P n e c) (hw : tC P n e = 28) (hq : ∀ h', Nx h' P n (tE P n e) → FX h h' → Q (some (vI 1)) h') : WP X XL d 70 [vR 10, vI 28] h Q := by
  obtain ⟨hM, -, a1, a2, -⟩ := hA.M
  have k10 := hM.1.1
  refine eX5_take (by omega) ?_
  (repeat' (first | (exact hq h' a' f') | (rw [a1]) | (refine w_advN (by omega) hA hw (fun h' a' f' => ?_); have g' := f'.1) | (refine Ex_step ?_; conv => whnf) | (refine ⟨?_, trivial⟩) | (refine (show den _ _ _ _ _ _ _ _ from ?_); conv => whnf) | (refine ⟨fun c => False.elim (by omega), fun c => ?_⟩) | (refine ⟨fun c => ?_, fun c => False.elim (by omega)⟩) | (refine ⟨by (first | assumption | rfl | (exact Nat.le_of_ble_eq_true rfl) | (exact ⟨fun h01 => absurd h01 (by decide), by first | rfl | assumption⟩) | (exact ⟨fun _ => by decide, by first | rfl | assumption⟩) | (exact ⟨by assumption, by omega, by omega⟩) | (unfold inI; omega) | omega), ?_⟩; conv => whnf) | (refine ⟨fun c => ?_, fun c => ?_⟩) | (intro c) | fail))
set_option maxHeartbeats 4000000 in
theorem w_takeNumber {X : Int → Int} {XL : Int} {d : Nat} {h : Mem} {Q : RetP} {P : Int → Int} {n e lo hi : Int} {c : Nat} (hd : 2 ≤ d) (hA : At h P n e c) (hc : c ≤ 10) (hq2 : ¬ tC P n e = 27 → Q (some (vI (-1))) (rfs h P n e 2)) (hq4 : tC P n e = 27 → tNb P n e < lo ∨ hi < tNb P n e → Q (some (vI (-1))) (rfs h P n e 4)) (hq : tC P n e = 27 → lo ≤ tNb P n e ∧ tNb P n e ≤ hi → ∀ h', At h' P n (tE P n e) (c + 1) → FX h h' → Q (some (vI (tNb P n e))) h') : WP X XL d 71 [vR 10, vI lo, vI hi] h Q := by
  obtain ⟨hM, he, a1, a2, av⟩ := hA.M
  have k10 := hM.1.1
  have g0 := rfs_g (h := h) (P := P) (n := n) (e := e) (k := 2)
  have g4 := rfs_g (h := h) (P := P) (n := n) (e := e) (k := 4)
  refine eX5_takeNumber (by omega) ?_
  by_cases c27 : tC P n e = 27
  · obtain ⟨-, -, -, -, v0, v1⟩ := tC_27 he.2 c27
    have ev : gG h 10 2 = tNb P n e := av.2 c27
    have c1 := cmpZ_s (tNb P n e) lo
    have c2 := cmpZ_s (tNb P n e) hi
    have el := l2i_s v0 v1
    by_cases cc : tNb P n e < lo ∨ hi < tNb P n e
    · have q := hq4 c27 cc
      (repeat' (first | (exact q) | (rw [a1]) | (rw [ev]) | (refine w_refuse (by omega) hA ?_) | (refine Ex_step ?_; conv => whnf) | (refine ⟨?_, trivial⟩) | (refine (show den _ _ _ _ _ _ _ _ from ?_); conv => whnf) | (refine ⟨fun c => False.elim (by omega), fun c => ?_⟩) | (refine ⟨fun c => ?_, fun c => False.elim (by omega)⟩) | (refine ⟨by (first | assumption | rfl | (exact Nat.le_of_ble_eq_true rfl) | (exact ⟨fun h01 => absurd h01 (by decide), by first | rfl | assumption⟩) | (exact ⟨fun _ => by decide, by first | rfl | assumption⟩) | (exact ⟨by assumption, by omega, by omega⟩) | (unfold inI; omega) | omega), ?_⟩; conv => whnf) | (refine ⟨fun c => ?_, fun c => ?_⟩) | (intro c) | fail))
    · have q := hq c27 (by omega)
      (repeat' (first | (exact q h' a' f') | (rw [a1]) | (rw [ev]) | (rw [el]) | (refine w_advA (by omega) hA hc (by rw [c27]; unfold isE; omega) (fun h' a' f' => ?_); have g' := f'.1) | (refine Ex_step ?_; conv => whnf) | (refine ⟨?_, trivial⟩) | (refine (show den _ _ _ _ _ _ _ _ from ?_); conv => whnf) | (refine ⟨fun c => False.elim (by omega), fun c => ?_⟩) | (refine ⟨fun c => ?_, fun c => False.elim (by omega)⟩) | (refine ⟨by (first | assumption | rfl | (exact Nat.le_of_ble_eq_true rfl) | (exact ⟨fun h01 => absurd h01 (by decide), by first | rfl | assumption⟩) | (exact ⟨fun _ => by decide, by first | rfl | assumption⟩) | (exact ⟨by assumption, by omega, by omega⟩) | (unfold inI; omega) | omega), ?_⟩; conv => whnf) | (refine ⟨fun c => ?_, fun c => ?_⟩) | (intro c) | fail))
  · have q := hq2 c27
    (repeat' (first | (exact q) | (rw [a1]) | (refine w_refuse (by omega) hA ?_) | (refine Ex_step ?_; conv => whnf) | (refine ⟨?_, trivial⟩) | (refine (show den _ _ _ _ _ _ _ _ from ?_); conv => whnf) | (refine ⟨fun c => False.elim (by omega), fun c => ?_⟩) | (refine ⟨fun c => ?_, fun c => False.elim (by omega)⟩) | (refine ⟨by (first | assumption | rfl | (exact Nat.le_of_ble_eq_true rfl) | (exact ⟨fun h01 => absurd h01 (by decide), by first | rfl | assumption⟩) | (exact ⟨fun _ => by decide, by first | rfl | assumption⟩) | (exact ⟨by assumption, by omega, by omega⟩) | (unfold inI; omega) | omega), ?_⟩; conv => whnf) | (refine ⟨fun c => ?_, fun c => ?_⟩) | (intro c) | fail))
