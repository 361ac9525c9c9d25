/-! LEVEL 2: texts: parts of a Viaduct, pure, and what the class takes of them -/
def bd {α β : Type} (r : (Int × Int) ⊕ α) (f : α → (Int × Int) ⊕ β) : (Int × Int) ⊕ β := match r with
  | .inl x => .inl x
  | .inr a => f a
def pTok (P : Int → Int) (n e w : Int) : (Int × Int) ⊕ Int := if tC P n e = w then .inr (tE P n e) else .inl (fltK P n e 2, tF P n e)
def pNum (P : Int → Int) (n e lo hi : Int) : (Int × Int) ⊕ (Int × Int) := if ¬ tC P n e = 27 then .inl (fltK P n e 2, tF P n e) else if tNb P n e < lo ∨ hi < tNb P n e then .inl (fltK P n e 4, tF P n e) else .inr (tNb P n e, tE P n e)
def pOpt (P : Int → Int) (n e w hi : Int) (A : Int → Int) (g : Int → Int → Int) : (Int × Int) ⊕ ((Int → Int) × Int) := if tC P n e = w then bd (pNum P n (tE P n e) 0 hi) (fun r => .inr (g r.1, r.2)) else .inr (A, e)
/-- reading failed: a fault x -/
def Ff (h h' : Mem) (x : Int × Int) : Prop := h'.1 = h.1 ∧ h'.2.2 = h.2.2 ∧ (∀ r i, ¬ (r = 10 ∧ ¬ i = 0 ∧ ¬ i = 6) → ¬ (r = 12 ∨ r = 13 ∨ r = 14) → gG h' r i = gG h r i) ∧ gG h' 10 3 = x.1 ∧ gG h' 10 4 = x.2
theorem rfs_f {h : Mem} {P : Int → Int} {n e k : Int} : Ff h (rfs h P n e k) (fltK P n e k, tF P n e) := ⟨rfl, rfl, fun r i p q => by unfold rfs; rw [gG_sG, if_neg (by omega), gG_sG, if_neg (by omega)], by unfold rfs; rw [g_ne (by omega), g_same], by unfold rfs; rw [g_same]⟩
theorem Ff.x {h h' h'' : Mem} {x : Int × Int} (a : FX h h') (b : Ff h' h'' x) : Ff h h'' x := ⟨b.1.trans a.1, b.2.1.trans a.2.1, fun r i p q => (b.2.2.1 r i p q).trans (a.2.2 r i (by omega) q), b.2.2.2⟩
-- with the pure continuation carried along
theorem k_refuse {X : Int → Int} {XL : Int} {d : Nat} {h : Mem} {Q : RetP} {P : Int → Int} {n e k : Int} {c : Nat} {β : Type} {r : (Int × Int) ⊕ β} (hd : 1 ≤ d) (hA : At h P n e c) (hr : .inl (fltK P n e k, tF P n e) = r) (hq : ∀ x h', r = .inl x → Ff h h' x → Q (some (vI 0)) h') : WP X XL d 69 [vR 10, vI k] h Q := w_refuse hd hA (hq _ _ hr.symm rfs_f)
theorem k_take {X : Int → Int} {XL : Int} {d : Nat} {h : Mem} {Q : RetP} {P : Int → Int} {n e w : Int} {c : Nat} {β : Type} {f : Int → (Int × Int) ⊕ β} {r : (Int × Int) ⊕ β} (hd : 2 ≤ d) (hA : At h P n e c) (hc : c ≤ 10) (hi : ¬ isE w) (hr : bd (pTok P n e w) f = r) (hq0 : ∀ x h', r = .inl x → Ff h h' x → Q (some (vI 0)) h') (hq1 : ∀ e' h', f e' = r → At h' P n e' (c + 1) → FX h h' → Q (some (vI 1)) h') : WP X XL d 70 [vR 10, vI w] h Q := by
  unfold pTok at hr
  by_cases cw : tC P n e = w
  · rw [if_pos cw] at hr
    exact w_takeA hd hA hc cw hi (fun h' a' f' => hq1 _ h' hr a' f')
  · rw [if_neg cw] at hr
    exact w_takeF hd hA cw (hq0 _ _ hr.symm rfs_f)
theorem k_semi {X : Int → Int} {XL : Int} {d : Nat} {h : Mem} {Q : RetP} {P : Int → Int} {n e : Int} {c : Nat} {β : Type} {f : Int → (Int × Int) ⊕ β} {r : (Int × Int) ⊕ β} (hd : 2 ≤ d) (hA : At h P n e c) (hr : bd (pTok P n e 28) f = r) (hq0 : ∀ x h', r = .inl x → Ff h h' x → Q (some (vI 0)) h') (hq1 : ∀ e' h', f e' = r → Nx h' P n e' → FX h h' → Q (some (vI 1)) h') : WP X XL d 70 [vR 10, vI 28] h Q := by
  unfold pTok at hr
  by_cases cw : tC P n e = 28
  · rw [if_pos cw] at hr
    exact w_takeN hd hA cw (fun h' a' f' => hq1 _ h' hr a' f')
  · rw [if_neg cw] at hr
    exact w_takeF hd hA cw (hq0 _ _ hr.symm rfs_f)
theorem k_num {X : Int → Int} {XL : Int} {d : Nat} {h : Mem} {Q : RetP} {P : Int → Int} {n e lo hi : Int} {c : Nat} {β : Type} {f : Int × Int → (Int × Int) ⊕ β} {r : (Int × Int) ⊕ β} (hd : 2 ≤ d) (hA : At h P n e c) (hc : c ≤ 10) (hr : bd (pNum P n e lo hi) f = r) (hq0 : ∀ x h', r = .inl x → Ff h h' x → Q (some (vI (-1))) h') (hq1 : ∀ m e' h', 0 ≤ m → lo ≤ m → m ≤ hi → f (m, e') = r → At h' P n e' (c + 1) → FX h h' → Q (some (vI m)) h') : WP X XL d 71 [vR 10, vI lo, vI hi] h Q := by
  unfold pNum at hr
  refine w_takeNumber hd hA hc (fun c2 => ?_) (fun c2 c4 => ?_) (fun c2 c4 h' a' f' => ?_)
  · rw [if_pos c2] at hr
    exact hq0 _ _ hr.symm rfs_f
  · rw [if_neg (fun q => q c2), if_pos c4] at hr
    exact hq0 _ _ hr.symm rfs_f
  · rw [if_neg (fun q => q c2), if_neg (by omega)] at hr
    obtain ⟨-, -, -, -, v0, v1⟩ := tC_27 hA.M.2.1.2 c2
    exact hq1 _ _ h' v0 c4.1 c4.2 hr a' f'
theorem At.X {h : Mem} {P : Int → Int} {n e : Int} {c : Nat} (hA : At h P n e c) : kd h 10 = 5 := hA.M.1.1.1
set_option maxHeartbeats 4000000 in
theorem k_opt {X : Int → Int} {XL : Int} {d : Nat} {h : Mem} {Q : RetP} {P : Int → Int} {n e w hi pl : Int} {row c : Nat} {A : Int → Int} {g : Int → Int → Int} {β : Type} {f : (Int → Int) × Int → (Int × Int) ⊕ β} {r : (Int × Int) ⊕ β} (hd : 4 ≤ d) (k55 : kd h 55 = 8) (r55 : gR h 55 0 = 10) (hA : At h P n e c) (hc : c + 1 ≤ 10) (hw : ¬ isE w) (hhi : 0 ≤ hi) (kr : kd h row = 100) (lr : 0 ≤ pl ∧ pl < ln h row) (hr : bd (pOpt P n e w hi A g) f = r) (hq0 : ∀ x h', r = .inl x → Ff h h' x → Q (some (vI 0)) h') (hqn : f (A, e) = r → Q (some (vI 1)) h) (hq1 : ∀ m e' h', 0 ≤ m → m ≤ hi → f (g m, e') = r → At h' P n e' (c + 2) → FX h h' → Q (some (vI 1)) (sG h' row pl m)) : WP X XL d 82 [vR 55, vI w, vI hi, vR row, vI pl] h Q := by
  have a1 := hA.M.2.2.1
  have k10 := hA.X
  unfold pOpt at hr
  refine eX8_takeOption (by omega) ?_
  by_cases cw : tC P n e = w
  · rw [if_pos cw] at hr
    have hr2 : bd (pNum P n (tE P n e) 0 hi) (fun q => f (g q.1, q.2)) = r := by
      rw [← hr]
      cases pNum P n (tE P n e) 0 hi with
      | inl x => rfl
      | inr a => rfl
    (repeat' (first | (rw [r55]) | (rw [a1]) | (refine Ex_step ?_; conv => whnf) | (refine ⟨?_, trivial⟩) | (refine (show den _ _ _ _ _ _ _ _ from ?_); conv => whnf) | (refine ⟨fun c => False.elim (by omega), fun c => ?_⟩) | (refine ⟨fun c => ?_, fun c => False.elim (by omega)⟩) | (refine ⟨by (first | assumption | rfl | (exact Nat.le_of_ble_eq_true rfl) | (exact ⟨fun h01 => absurd h01 (by decide), by first | rfl | assumption⟩) | (exact ⟨fun _ => by decide, by first | rfl | assumption⟩) | (exact ⟨by assumption, by omega, by omega⟩) | (unfold inI; omega) | omega), ?_⟩; conv => whnf) | (refine ⟨fun c => ?_, fun c => ?_⟩) | fail))
    refine w_advA (by omega) hA (by omega) (by rw [cw]; exact hw) (fun h1 hA1 f1 => ?_)
    have g1 := f1.1
    have k551 : kd h1 55 = 8 := by unfold kd; rw [g1]; exact k55
    have r551 : gR h1 55 0 = 10 := by unfold gR; rw [f1.2.1]; exact r55
    have k101 := hA1.X
    (repeat' (first | (rw [r551]) | (refine Ex_step ?_; conv => whnf) | (refine ⟨?_, trivial⟩) | (refine (show den _ _ _ _ _ _ _ _ from ?_); conv => whnf) | (refine ⟨fun c => False.elim (by omega), fun c => ?_⟩) | (refine ⟨fun c => ?_, fun c => False.elim (by omega)⟩) | (refine ⟨by (first | assumption | rfl | (exact Nat.le_of_ble_eq_true rfl) | (exact ⟨fun h01 => absurd h01 (by decide), by first | rfl | assumption⟩) | (exact ⟨fun _ => by decide, by first | rfl | assumption⟩) | (exact ⟨by assumption, by omega, by omega⟩) | (unfold inI; omega) | omega), ?_⟩; conv => whnf) | (refine ⟨fun c => ?_, fun c => ?_⟩) | fail))
    refine k_num (by omega) hA1 (by omega) hr2 (fun x h2 er ff => ?_) (fun m e2 h2 m0 m0' m1 hr3 hA2 f2 => ?_)
    · have g2 := ff.1.trans g1
      have q := hq0 x h2 er (Ff.x f1 ff)
      (repeat' (first | (exact q) | (refine Ex_step ?_; conv => whnf) | (refine ⟨?_, trivial⟩) | (refine (show den _ _ _ _ _ _ _ _ from ?_); conv => whnf) | (refine ⟨fun c => False.elim (by omega), fun c => ?_⟩) | (refine ⟨fun c => ?_, fun c => False.elim (by omega)⟩) | (refine ⟨by (first | assumption | rfl | (exact Nat.le_of_ble_eq_true rfl) | (exact ⟨fun h01 => absurd h01 (by decide), by first | rfl | assumption⟩) | (exact ⟨fun _ => by decide, by first | rfl | assumption⟩) | (exact ⟨by assumption, by omega, by omega⟩) | (unfold inI; omega) | omega), ?_⟩; conv => whnf) | (refine ⟨fun c => ?_, fun c => ?_⟩) | (intro c) | fail))
    · have g2 := f2.1.trans g1
      have q := hq1 m e2 h2 m0 m1 hr3 hA2 (f1.trans f2)
      have kr2 : kd h2 row = 100 := by unfold kd; rw [g2]; exact kr
      have lr2 : pl < ln h2 row := by unfold ln; rw [g2]; exact lr.2
      (repeat' (first | (exact q) | (refine ⟨⟨kr2, lr.1, lr2⟩, ?_⟩; conv => whnf) | (refine Ex_step ?_; conv => whnf) | (refine ⟨?_, trivial⟩) | (refine (show den _ _ _ _ _ _ _ _ from ?_); conv => whnf) | (refine ⟨fun c => False.elim (by omega), fun c => ?_⟩) | (refine ⟨fun c => ?_, fun c => False.elim (by omega)⟩) | (refine ⟨by (first | assumption | rfl | (exact Nat.le_of_ble_eq_true rfl) | (exact ⟨fun h01 => absurd h01 (by decide), by first | rfl | assumption⟩) | (exact ⟨fun _ => by decide, by first | rfl | assumption⟩) | (exact ⟨by assumption, by omega, by omega⟩) | (unfold inI; omega) | omega), ?_⟩; conv => whnf) | (refine ⟨fun c => ?_, fun c => ?_⟩) | (intro c) | fail))
  · rw [if_neg cw] at hr
    have q := hqn hr
    (repeat' (first | (exact q) | (rw [r55]) | (rw [a1]) | (refine Ex_step ?_; conv => whnf) | (refine ⟨?_, trivial⟩) | (refine (show den _ _ _ _ _ _ _ _ from ?_); conv => whnf) | (refine ⟨fun c => False.elim (by omega), fun c => ?_⟩) | (refine ⟨fun c => ?_, fun c => False.elim (by omega)⟩) | (refine ⟨by (first | assumption | rfl | (exact Nat.le_of_ble_eq_true rfl) | (exact ⟨fun h01 => absurd h01 (by decide), by first | rfl | assumption⟩) | (exact ⟨fun _ => by decide, by first | rfl | assumption⟩) | (exact ⟨by assumption, by omega, by omega⟩) | (unfold inI; omega) | omega), ?_⟩; conv => whnf) | (refine ⟨fun c => ?_, fun c => ?_⟩) | (intro c) | fail))
