/-! LEVEL 2: texts: steps of decades, the class -/
theorem bd_bd {α β γ : Type} {a : (Int × Int) ⊕ α} {g : α → (Int × Int) ⊕ γ} {f : γ → (Int × Int) ⊕ β} : bd (bd a g) f = bd a (fun q => bd (g q) f) := by cases a <;> rfl
/-- the reader's own cells -/
def SR (h : Mem) (st v : Nat) : Prop := kd h 56 = 4 ∧ gR h 56 0 = 10 ∧ (gR h 56 1 = 57 ∧ kd h 57 = 100 ∧ ln h 57 = 3) ∧ gR h 56 3 = st ∧ gR h 56 4 = v
theorem SR.z {h h' : Mem} {st v : Nat} (q : SR h st v) (e1 : h'.1 = h.1) (e2 : h'.2.2 = h.2.2) : SR h' st v := by unfold SR kd ln gR at *; rw [e1, e2]; exact q
theorem SOk.z {h h' : Mem} {st : Nat} (q : SOk h st) (e1 : h'.1 = h.1) (e2 : h'.2.2 = h.2.2) : SOk h' st := by unfold SOk kd ln gR at *; rw [e1, e2]; exact q
/-- one row of steps, and what reading changes -/
def FW (st : Nat) (row : Int) (h h' : Mem) : Prop := h'.1 = h.1 ∧ h'.2.2 = h.2.2 ∧ ∀ r i, ¬ (r = 10 ∧ ¬ i = 0 ∧ ¬ i = 3 ∧ ¬ i = 4 ∧ ¬ i = 6) → ¬ (r = 12 ∨ r = 13 ∨ r = 14) → ¬ (st + 2 ≤ r ∧ r ≤ st + 5 ∧ i = row) → gG h' r i = gG h r i
def FWf (st : Nat) (row : Int) (h h' : Mem) (x : Int × Int) : Prop := h'.1 = h.1 ∧ h'.2.2 = h.2.2 ∧ (∀ r i, ¬ (r = 10 ∧ ¬ i = 0 ∧ ¬ i = 6) → ¬ (r = 12 ∨ r = 13 ∨ r = 14) → ¬ (st + 2 ≤ r ∧ r ≤ st + 5 ∧ i = row) → gG h' r i = gG h r i) ∧ gG h' 10 3 = x.1 ∧ gG h' 10 4 = x.2
theorem FW.refl {st : Nat} {row : Int} {h : Mem} : FW st row h h := ⟨rfl, rfl, fun _ _ _ _ _ => rfl⟩
theorem FW.trans {st : Nat} {row : Int} {h h' h'' : Mem} (a : FW st row h h') (b : FW st row h' h'') : FW st row h h'' := ⟨b.1.trans a.1, b.2.1.trans a.2.1, fun r i p q t => (b.2.2 r i p q t).trans (a.2.2 r i p q t)⟩
theorem FX.W {st : Nat} {row : Int} {h h' : Mem} (a : FX h h') : FW st row h h' := ⟨a.1, a.2.1, fun r i p q _ => a.2.2 r i p q⟩
theorem FW.s {st : Nat} {row z : Int} {h h' : Mem} {r : Nat} (a : FW st row h h') (q : st + 2 ≤ r ∧ r ≤ st + 5) : FW st row h (sG h' r row z) := ⟨a.1, a.2.1, fun r' i' p t u => by rw [gG_sG, if_neg (by omega)]; exact a.2.2 r' i' p t u⟩
theorem FW.f {st : Nat} {row : Int} {h h' h'' : Mem} {x : Int × Int} (a : FW st row h h') (b : Ff h' h'' x) : FWf st row h h'' x := ⟨b.1.trans a.1, b.2.1.trans a.2.1, fun r i p q t => (b.2.2.1 r i p q).trans (a.2.2 r i (by omega) q t), b.2.2.2⟩
theorem FWf.s {st : Nat} {row z : Int} {h h' : Mem} {r : Nat} {x : Int × Int} (a : FWf st row h h' x) (hs : 15 ≤ st) (q : st + 2 ≤ r ∧ r ≤ st + 5) : FWf st row h (sG h' r row z) x := ⟨a.1, a.2.1, fun r' i' p t u => by rw [gG_sG, if_neg (by omega)]; exact a.2.2.1 r' i' p t u, by rw [gG_sG, if_neg (by omega)]; exact a.2.2.2.1, by rw [gG_sG, if_neg (by omega)]; exact a.2.2.2.2⟩
theorem FW.ff {st : Nat} {row : Int} {h h' h'' : Mem} {x : Int × Int} (a : FW st row h h') (b : FWf st row h' h'' x) : FWf st row h h'' x := ⟨b.1.trans a.1, b.2.1.trans a.2.1, fun r i p q t => (b.2.2.1 r i p q t).trans (a.2.2 r i (by omega) q t), b.2.2.2⟩
theorem At.s {h : Mem} {P : Int → Int} {n e : Int} {c r : Nat} {i z : Int} (a : At h P n e c) (hr : 15 ≤ r) : At (sG h r i z) P n e c := a.o rfl (fun _ => rfl) (fun r' i' _ q _ => by rw [gG_sG, if_neg (by omega)])
theorem Vr.w {K : Int} {h h' : Mem} {v st : Nat} {row : Int} {A : Int → Int} (hV : Vr K h v A) (hT : VAt h v) (hs : 15 ≤ st ∧ 15 ≤ v ∧ (st + 6 < v ∨ v + 12 < st)) (a : FW st row h h') : Vr K h' v A := hV.eq a.1 (fun i => by unfold gR; rw [a.2.1]) hT (fun r i x y => a.2.2 r i (by omega) (by omega) (by omega))
theorem FW.nm {h h' : Mem} {v st : Nat} {row : Int} (hs : 15 ≤ st ∧ 15 ≤ v ∧ (st + 6 < v ∨ v + 12 < st)) (a : FW st row h h') : gG h' (v + 4) = gG h (v + 4) := by funext i; exact a.2.2 _ _ (by omega) (by omega) (by omega)
set_option maxHeartbeats 4000000 in
theorem w_keep {X : Int → Int} {XL : Int} {d : Nat} {h : Mem} {Q : RetP} {col : Nat} {row z : Int} (hd : 1 ≤ d) (kc : kd h col = 100) (hr : 0 ≤ row ∧ row < ln h col) (hq1 : ¬ z = -1 → Q (some (vI 1)) (sG h col row z)) (hq0 : z = -1 → Q (some (vI 0)) (sG h col row z)) : WP X XL d 91 [vR col, vI row, vI z] h Q := by
  refine eX4_keep (by omega) ?_
  by_cases c : z = -1
  · have q := hq0 c
    (repeat' (first | (exact q) | (refine ⟨⟨kc, hr.1, hr.2⟩, ?_⟩; conv => whnf) | (refine Ex_step ?_; conv => whnf) | (refine ⟨?_, trivial⟩) | (refine (show den _ _ _ _ _ _ _ _ from ?_); conv => whnf) | (refine ⟨fun c => False.elim (by omega), fun c => ?_⟩) | (refine ⟨fun c => ?_, fun c => False.elim (by omega)⟩) | (refine ⟨by (first | assumption | rfl | (exact Nat.le_of_ble_eq_true rfl) | (exact ⟨fun h01 => absurd h01 (by decide), by first | rfl | assumption⟩) | (exact ⟨fun _ => by decide, by first | rfl | assumption⟩) | (exact ⟨by assumption, by omega, by omega⟩) | (unfold inI; omega) | omega), ?_⟩; conv => whnf) | (refine ⟨fun c => ?_, fun c => ?_⟩) | (intro c) | fail))
  · have q := hq1 c
    (repeat' (first | (exact q) | (refine ⟨⟨kc, hr.1, hr.2⟩, ?_⟩; conv => whnf) | (refine Ex_step ?_; conv => whnf) | (refine ⟨?_, trivial⟩) | (refine (show den _ _ _ _ _ _ _ _ from ?_); conv => whnf) | (refine ⟨fun c => False.elim (by omega), fun c => ?_⟩) | (refine ⟨fun c => ?_, fun c => False.elim (by omega)⟩) | (refine ⟨by (first | assumption | rfl | (exact Nat.le_of_ble_eq_true rfl) | (exact ⟨fun h01 => absurd h01 (by decide), by first | rfl | assumption⟩) | (exact ⟨fun _ => by decide, by first | rfl | assumption⟩) | (exact ⟨by assumption, by omega, by omega⟩) | (unfold inI; omega) | omega), ?_⟩; conv => whnf) | (refine ⟨fun c => ?_, fun c => ?_⟩) | (intro c) | fail))
set_option maxHeartbeats 4000000 in
theorem w_takeName {X : Int → Int} {XL : Int} {d : Nat} {h : Mem} {Q : RetP} {K : Int} {A Nm : Int → Int} {v st : Nat} {P : Int → Int} {n e : Int} {c : Nat} {β : Type} {f : Int × Int → (Int × Int) ⊕ β} {r : (Int × Int) ⊕ β} (hd : 3 ≤ d) (hS : SR h st v) (hA : At h P n e c) (hc : c ≤ 10) (hV : Vr K h v A) (hT : VAt h v) (hNm : gG h (v + 4) = Nm) (hr : bd (pName P n e (A 1) Nm) f = r) (hq0 : ∀ x h', r = .inl x → Ff h h' x → Q (some (vI (-1))) h') (hq1 : ∀ p e' h', 0 ≤ p → p < A 1 → f (p, e') = r → At h' P n e' (c + 1) → FX h h' → Q (some (vI p)) h') : WP X XL d 90 [vR 56] h Q := by
  obtain ⟨k56, s0, -, s3, s4⟩ := id hS
  have k10 := hA.X
  obtain ⟨-, -, a1, -, av⟩ := hA.M
  have kv := hV.1.1
  have b1 := hV.2.2.2.1
  unfold pName at hr
  refine eX4_takeName (by omega) ?_
  by_cases c25 : tC P n e = 25
  · rw [if_neg (fun q => q c25)] at hr
    have ev : gG h 10 2 = c32 (tW P n e) := av.1 (by omega)
    have pn : ∀ (d' : Nat) (Q' : RetP), 1 ≤ d' → Q' (some (vI (nmI (A 1) Nm (c32 (tW P n e))))) h → WP X XL d' 16 [vR v, vL (c32 (tW P n e))] h Q' := fun d' Q' x y => by
      refine w_personNamed x hV ?_
      rw [hT.2.2.2.1, hNm]
      exact y
    by_cases cn : nmI (A 1) Nm (c32 (tW P n e)) = -1
    · rw [if_pos cn] at hr
      (repeat' (first | (rw [s0]) | (rw [a1]) | (rw [s4]) | (rw [ev]) | (refine pn _ _ (by omega) ?_) | (refine Ex_step ?_; conv => whnf) | (refine ⟨?_, trivial⟩) | (refine (show den _ _ _ _ _ _ _ _ from ?_); conv => whnf) | (refine ⟨fun c => False.elim (by omega), fun c => ?_⟩) | (refine ⟨fun c => ?_, fun c => False.elim (by omega)⟩) | (refine ⟨by (first | assumption | rfl | (exact Nat.le_of_ble_eq_true rfl) | (exact ⟨fun h01 => absurd h01 (by decide), by first | rfl | assumption⟩) | (exact ⟨fun _ => by decide, by first | rfl | assumption⟩) | (exact ⟨by assumption, by omega, by omega⟩) | (unfold inI; omega) | omega), ?_⟩; conv => whnf) | (refine ⟨fun c => ?_, fun c => ?_⟩) | fail))
      refine k_refuse (by omega) hA hr (fun x h1 er ff => ?_)
      have q := hq0 x h1 er ff
      have g1 := ff.1
      (repeat' (first | (exact q) | (refine Ex_step ?_; conv => whnf) | (refine ⟨?_, trivial⟩) | (refine (show den _ _ _ _ _ _ _ _ from ?_); conv => whnf) | (refine ⟨fun c => False.elim (by omega), fun c => ?_⟩) | (refine ⟨fun c => ?_, fun c => False.elim (by omega)⟩) | (refine ⟨by (first | assumption | rfl | (exact Nat.le_of_ble_eq_true rfl) | (exact ⟨fun h01 => absurd h01 (by decide), by first | rfl | assumption⟩) | (exact ⟨fun _ => by decide, by first | rfl | assumption⟩) | (exact ⟨by assumption, by omega, by omega⟩) | (unfold inI; omega) | omega), ?_⟩; conv => whnf) | (refine ⟨fun c => ?_, fun c => ?_⟩) | (intro c) | fail))
    · rw [if_neg cn] at hr
      have nb := nmI_b b1.1 cn
      (repeat' (first | (rw [s0]) | (rw [a1]) | (rw [s4]) | (rw [ev]) | (refine pn _ _ (by omega) ?_) | (refine Ex_step ?_; conv => whnf) | (refine ⟨?_, trivial⟩) | (refine (show den _ _ _ _ _ _ _ _ from ?_); conv => whnf) | (refine ⟨fun c => False.elim (by omega), fun c => ?_⟩) | (refine ⟨fun c => ?_, fun c => False.elim (by omega)⟩) | (refine ⟨by (first | assumption | rfl | (exact Nat.le_of_ble_eq_true rfl) | (exact ⟨fun h01 => absurd h01 (by decide), by first | rfl | assumption⟩) | (exact ⟨fun _ => by decide, by first | rfl | assumption⟩) | (exact ⟨by assumption, by omega, by omega⟩) | (unfold inI; omega) | omega), ?_⟩; conv => whnf) | (refine ⟨fun c => ?_, fun c => ?_⟩) | fail))
      refine w_advA (by omega) hA hc (by rw [c25]; unfold isE; omega) (fun h1 hA1 f1 => ?_)
      have q := hq1 _ _ h1 nb.1 nb.2 hr hA1 f1
      have g1 := f1.1
      (repeat' (first | (exact q) | (refine Ex_step ?_; conv => whnf) | (refine ⟨?_, trivial⟩) | (refine (show den _ _ _ _ _ _ _ _ from ?_); conv => whnf) | (refine ⟨fun c => False.elim (by omega), fun c => ?_⟩) | (refine ⟨fun c => ?_, fun c => False.elim (by omega)⟩) | (refine ⟨by (first | assumption | rfl | (exact Nat.le_of_ble_eq_true rfl) | (exact ⟨fun h01 => absurd h01 (by decide), by first | rfl | assumption⟩) | (exact ⟨fun _ => by decide, by first | rfl | assumption⟩) | (exact ⟨by assumption, by omega, by omega⟩) | (unfold inI; omega) | omega), ?_⟩; conv => whnf) | (refine ⟨fun c => ?_, fun c => ?_⟩) | (intro c) | fail))
  · rw [if_pos c25] at hr
    (repeat' (first | (rw [s0]) | (rw [a1]) | (refine Ex_step ?_; conv => whnf) | (refine ⟨?_, trivial⟩) | (refine (show den _ _ _ _ _ _ _ _ from ?_); conv => whnf) | (refine ⟨fun c => False.elim (by omega), fun c => ?_⟩) | (refine ⟨fun c => ?_, fun c => False.elim (by omega)⟩) | (refine ⟨by (first | assumption | rfl | (exact Nat.le_of_ble_eq_true rfl) | (exact ⟨fun h01 => absurd h01 (by decide), by first | rfl | assumption⟩) | (exact ⟨fun _ => by decide, by first | rfl | assumption⟩) | (exact ⟨by assumption, by omega, by omega⟩) | (unfold inI; omega) | omega), ?_⟩; conv => whnf) | (refine ⟨fun c => ?_, fun c => ?_⟩) | fail))
    refine k_refuse (by omega) hA hr (fun x h1 er ff => ?_)
    have q := hq0 x h1 er ff
    have g1 := ff.1
    (repeat' (first | (exact q) | (refine Ex_step ?_; conv => whnf) | (refine ⟨?_, trivial⟩) | (refine (show den _ _ _ _ _ _ _ _ from ?_); conv => whnf) | (refine ⟨fun c => False.elim (by omega), fun c => ?_⟩) | (refine ⟨fun c => ?_, fun c => False.elim (by omega)⟩) | (refine ⟨by (first | assumption | rfl | (exact Nat.le_of_ble_eq_true rfl) | (exact ⟨fun h01 => absurd h01 (by decide), by first | rfl | assumption⟩) | (exact ⟨fun _ => by decide, by first | rfl | assumption⟩) | (exact ⟨by assumption, by omega, by omega⟩) | (unfold inI; omega) | omega), ?_⟩; conv => whnf) | (refine ⟨fun c => ?_, fun c => ?_⟩) | (intro c) | fail))
/-- what the class keeps of a row beside its word -/
def CT (h : Mem) (st : Nat) (row : Int) (rw : Int → Int) : Prop := (rw 0 = 1 ∨ (14 ≤ rw 0 ∧ rw 0 ≤ 18) ∨ rw 0 = 21 ∨ 2000 ≤ rw 0 → gG h (st + 2) row = rw 1) ∧ (rw 0 = 15 ∨ rw 0 = 2007 ∨ rw 0 = 2012 → gG h (st + 3) row = rw 2) ∧ (2000 ≤ rw 0 → (rw 0 = 2024 ∧ gG h (st + 4) row = 21) ∨ (rw 0 = 2012 ∧ gG h (st + 4) row = 11) ∨ (rw 0 = 2007 ∧ gG h (st + 4) row = 5)) ∧ (rw 0 = 2007 ∨ rw 0 = 2012 → (rw 5 = 60 ∧ gG h (st + 5) row = 29) ∨ (rw 5 = 62 ∧ gG h (st + 5) row = 30) ∨ (rw 5 = 61 ∧ gG h (st + 5) row = 31))
theorem CT.c {h h' : Mem} {st : Nat} {row : Int} {rw : Int → Int} (q : CT h st row rw) (e : ∀ r : Nat, st + 2 ≤ r → r ≤ st + 5 → gG h' r row = gG h r row) : CT h' st row rw := by
  unfold CT at *
  rw [e (st + 2) (by omega) (by omega), e (st + 3) (by omega) (by omega), e (st + 4) (by omega) (by omega), e (st + 5) (by omega) (by omega)]
  exact q
theorem CT_f {h : Mem} {st : Nat} {row w f : Int} (hw : w < 2000) (h15 : ¬ w = 15) (e : gG h (st + 2) row = f) : CT h st row (rwQ w f 0 0) := by
  obtain ⟨r0, r1, r2, r3, r4, r5⟩ := rwQ_v (w := w) (f := f) (s := 0) (g := 0)
  unfold CT
  rw [r0, r1, r2, r5]
  exact ⟨fun _ => e, fun q => by omega, fun q => by omega, fun q => by omega⟩
set_option maxHeartbeats 4000000 in
theorem w_tt145 {X : Int → Int} {XL : Int} {d : Nat} {h : Mem} {Q : RetP} {v st : Nat} {P : Int → Int} {n e : Int} {c : Nat} {S1 : List (Nat × Nat)} {row : Int} {β : Type} {f : (Int → Int) × Int → (Int × Int) ⊕ β} {r : (Int × Int) ⊕ β} {p t2 : Int} (hd : 5 ≤ d) (hS : SR h st v) (hO : SOk h st) (hs0 : 15 ≤ st) (hA : At h P n e c) (hS1 : h.1 = S1) (hc : c ≤ 4) (hrow : 0 ≤ row ∧ row < 60) (c29 : 29 ≤ tC P n e ∧ tC P n e ≤ 31) (g22 : gG h (st + 2) row = p) (g42 : gG h (st + 4) row = t2) (ew : (t2 = 11 ∧ wR t2 = 12) ∨ (t2 = 5 ∧ wR t2 = 7)) (hr : bd (pNum P n (tE P n e) 0 9) (fun q => bd (.inr (rwQ (2000 + wR t2) p q.1 (sgV (tC P n e)), q.2)) f) = r) (hq0 : ∀ x h', r = .inl x → FWf st row h h' x → Q (some (vI 0)) h') (hq1 : ∀ rw e' h' c', c' ≤ 10 → f (rw, e') = r → At h' P n e' c' → CT h' st row rw → FW st row h h' → Q (some (vI 1)) h') : Ex (WP X XL (d - 1)) KX4_takeTest S1 Q 145 [some (vR 56), some (vI row), some (vI t2), some (vI p), some (vI (tC P n e))] [] h := by
  have k56_2 := (hS.z rfl rfl).1; have s0_2 := (hS.z rfl rfl).2.1; have s3_2 := (hS.z rfl rfl).2.2.2.1; have ks_2 := (hO.z rfl rfl).1
  obtain ⟨sr5_2, sk5_2, sl5_2⟩ := (hO.z rfl rfl).2.2.2.2.2.1
  have hA3 : At (sG h (st + 5) row (tC P n e)) P n e c := hA.s (by omega)
  have z3 : FW st row h (sG h (st + 5) row (tC P n e)) := FW.refl.s (by omega)
  have k103 := hA3.X
  (repeat' (first | (rw [gR_sG]) | (rw [s0_2]) | (rw [s3_2]) | (rw [sr5_2]) | (refine ⟨⟨sk5_2, by omega, Int.lt_of_lt_of_le (by omega : _ < (60 : Int)) (Int.le_of_eq sl5_2.symm)⟩, ?_⟩; conv => whnf) | (refine Ex_step ?_; conv => whnf) | (refine ⟨?_, trivial⟩) | (refine (show den _ _ _ _ _ _ _ _ from ?_); conv => whnf) | (refine ⟨fun c => False.elim (by omega), fun c => ?_⟩) | (refine ⟨fun c => ?_, fun c => False.elim (by omega)⟩) | (refine ⟨by (first | assumption | rfl | (exact Nat.le_of_ble_eq_true rfl) | (exact ⟨fun h01 => absurd h01 (by decide), by first | rfl | assumption⟩) | (exact ⟨fun _ => by decide, by first | rfl | assumption⟩) | (exact ⟨by assumption, by omega, by omega⟩) | (unfold inI; omega) | omega), ?_⟩; conv => whnf) | (refine ⟨fun c => ?_, fun c => ?_⟩) | fail))
  refine w_advA (by omega) hA3 (by omega) (by unfold isE; omega) (fun h4 hA4 f4 => ?_)
  have z4 := z3.trans f4.W
  have k56_4 := (hS.z z4.1 z4.2.1).1; have s0_4 := (hS.z z4.1 z4.2.1).2.1; have s3_4 := (hS.z z4.1 z4.2.1).2.2.2.1; have ks_4 := (hO.z z4.1 z4.2.1).1
  obtain ⟨sr3_4, sk3_4, sl3_4⟩ := (hO.z z4.1 z4.2.1).2.2.2.1
  have k104 := hA4.X
  clear sr5_2 sk5_2 sl5_2 k56_2 s0_2 s3_2 ks_2 k103
  (repeat' (first | (rw [s0_4]) | (rw [s3_4]) | (rw [sr3_4]) | (refine Ex_step ?_; conv => whnf) | (refine ⟨?_, trivial⟩) | (refine (show den _ _ _ _ _ _ _ _ from ?_); conv => whnf) | (refine ⟨fun c => False.elim (by omega), fun c => ?_⟩) | (refine ⟨fun c => ?_, fun c => False.elim (by omega)⟩) | (refine ⟨by (first | assumption | rfl | (exact Nat.le_of_ble_eq_true rfl) | (exact ⟨fun h01 => absurd h01 (by decide), by first | rfl | assumption⟩) | (exact ⟨fun _ => by decide, by first | rfl | assumption⟩) | (exact ⟨by assumption, by omega, by omega⟩) | (unfold inI; omega) | omega), ?_⟩; conv => whnf) | (refine ⟨fun c => ?_, fun c => ?_⟩) | fail))
  refine k_num (by omega) hA4 (by omega) hr (fun x h5 er ff => ?_) (fun m e5 h5 m0 m0' m1 hr5 hA5 f5 => ?_)
  · have z5 := z4.f ff
    obtain ⟨sr3_5, sk3_5, sl3_5⟩ := (hO.z z5.1 z5.2.1).2.2.2.1
    have g5 := z5.1.trans hS1
    have q := hq0 x (sG h5 (st + 3) row (-1)) er (z5.s hs0 (by omega))
    (repeat' (first | (exact q) | (refine w_keep (by omega) sk3_5 ⟨hrow.1, by rw [sl3_5]; exact hrow.2⟩ (fun q => False.elim (by omega)) (fun _ => ?_)) | (refine Ex_step ?_; conv => whnf) | (refine ⟨?_, trivial⟩) | (refine (show den _ _ _ _ _ _ _ _ from ?_); conv => whnf) | (refine ⟨fun c => False.elim (by omega), fun c => ?_⟩) | (refine ⟨fun c => ?_, fun c => False.elim (by omega)⟩) | (refine ⟨by (first | assumption | rfl | (exact Nat.le_of_ble_eq_true rfl) | (exact ⟨fun h01 => absurd h01 (by decide), by first | rfl | assumption⟩) | (exact ⟨fun _ => by decide, by first | rfl | assumption⟩) | (exact ⟨by assumption, by omega, by omega⟩) | (unfold inI; omega) | omega), ?_⟩; conv => whnf) | (refine ⟨fun c => ?_, fun c => ?_⟩) | (intro c) | fail))
  · have z5 := z4.trans f5.W
    obtain ⟨sr3_5, sk3_5, sl3_5⟩ := (hO.z z5.1 z5.2.1).2.2.2.1
    have g5 := z5.1.trans hS1
    have x5 : ∀ (r' : Nat), 15 ≤ r' → gG h5 r' row = gG (sG h (st + 5) row (tC P n e)) r' row := fun r' q => by rw [f5.2.2 _ _ (by omega) (by omega), f4.2.2 _ _ (by omega) (by omega)]
    have sv := sgV_c (tC P n e)
    have q := hq1 _ e5 (sG h5 (st + 3) row m) (c + 2) (by omega) hr5 (hA5.s (by omega)) (by
      obtain ⟨r0, r1, r2, r3, r4, r5⟩ := rwQ_v (w := 2000 + wR t2) (f := p) (s := m) (g := sgV (tC P n e))
      show CT _ _ _ (rwQ (2000 + wR t2) p m (sgV (tC P n e)))
      have y2 : gG (sG h5 (st + 3) row m) (st + 2) row = p := by rw [gG_sG, if_neg (by omega), x5 _ (by omega), gG_sG, if_neg (by omega)]; exact g22
      have y4 : gG (sG h5 (st + 3) row m) (st + 4) row = t2 := by rw [gG_sG, if_neg (by omega), x5 _ (by omega), gG_sG, if_neg (by omega)]; exact g42
      have y5 : gG (sG h5 (st + 3) row m) (st + 5) row = tC P n e := by rw [gG_sG, if_neg (by omega), x5 _ (by omega), g_same]
      unfold CT
      rw [r0, r1, r2, r5, g_same, y2, y4, y5]
      exact ⟨fun _ => rfl, fun _ => rfl, fun _ => by omega, fun _ => by omega⟩) (z5.s (by omega))
    (repeat' (first | (exact q) | (refine w_keep (by omega) sk3_5 ⟨hrow.1, by rw [sl3_5]; exact hrow.2⟩ (fun _ => ?_) (fun q => False.elim (by omega))) | (refine Ex_step ?_; conv => whnf) | (refine ⟨?_, trivial⟩) | (refine (show den _ _ _ _ _ _ _ _ from ?_); conv => whnf) | (refine ⟨fun c => False.elim (by omega), fun c => ?_⟩) | (refine ⟨fun c => ?_, fun c => False.elim (by omega)⟩) | (refine ⟨by (first | assumption | rfl | (exact Nat.le_of_ble_eq_true rfl) | (exact ⟨fun h01 => absurd h01 (by decide), by first | rfl | assumption⟩) | (exact ⟨fun _ => by decide, by first | rfl | assumption⟩) | (exact ⟨by assumption, by omega, by omega⟩) | (unfold inI; omega) | omega), ?_⟩; conv => whnf) | (refine ⟨fun c => ?_, fun c => ?_⟩) | (intro c) | fail))
set_option maxHeartbeats 4000000 in
theorem w_tt98 {X : Int → Int} {XL : Int} {d : Nat} {h : Mem} {Q : RetP} {v st : Nat} {P : Int → Int} {n e : Int} {c : Nat} {S1 : List (Nat × Nat)} {row : Int} {β : Type} {f : (Int → Int) × Int → (Int × Int) ⊕ β} {r : (Int × Int) ⊕ β} {p t2 : Int} (hd : 5 ≤ d) (hS : SR h st v) (hO : SOk h st) (hs0 : 15 ≤ st) (hA : At h P n e c) (hS1 : h.1 = S1) (hc : c ≤ 4) (hrow : 0 ≤ row ∧ row < 60) (ht : t2 = 21 ∨ t2 = 11 ∨ t2 = 5) (g22 : gG h (st + 2) row = p) (g42 : gG h (st + 4) row = t2) (hr : bd (if t2 = 21 then .inr (rwQ 2024 p 0 0, e) else if ¬ (29 ≤ tC P n e ∧ tC P n e ≤ 31) then .inl (fltK P n e 2, tF P n e) else bd (pNum P n (tE P n e) 0 9) (fun u => .inr (rwQ (2000 + wR t2) p u.1 (sgV (tC P n e)), u.2))) f = r) (hq0 : ∀ x h', r = .inl x → FWf st row h h' x → Q (some (vI 0)) h') (hq1 : ∀ rw e' h' c', c' ≤ 10 → f (rw, e') = r → At h' P n e' c' → CT h' st row rw → FW st row h h' → Q (some (vI 1)) h') : Ex (WP X XL (d - 1)) KX4_takeTest S1 Q 98 [some (vR 56), some (vI row), some (vI t2), some (vI p), none] [] h := by
  have k56 := hS.1
  have s0 := hS.2.1
  have k10 := hA.X
  have a1 := hA.M.2.2.1
  by_cases c21 : t2 = 21
  · rw [if_pos c21] at hr
    have q := hq1 _ e h c (by omega) hr hA ⟨fun _ => g22, fun x => by have : (2024 : Int) = 15 ∨ (2024 : Int) = 2007 ∨ (2024 : Int) = 2012 := x; omega, fun _ => Or.inl ⟨rfl, by rw [g42, c21]⟩, fun x => by have : (2024 : Int) = 2007 ∨ (2024 : Int) = 2012 := x; omega⟩ FW.refl
    (repeat' (first | (exact q) | (refine Ex_step ?_; conv => whnf) | (refine ⟨?_, trivial⟩) | (refine (show den _ _ _ _ _ _ _ _ from ?_); conv => whnf) | (refine ⟨fun c => False.elim (by omega), fun c => ?_⟩) | (refine ⟨fun c => ?_, fun c => False.elim (by omega)⟩) | (refine ⟨by (first | assumption | rfl | (exact Nat.le_of_ble_eq_true rfl) | (exact ⟨fun h01 => absurd h01 (by decide), by first | rfl | assumption⟩) | (exact ⟨fun _ => by decide, by first | rfl | assumption⟩) | (exact ⟨by assumption, by omega, by omega⟩) | (unfold inI; omega) | omega), ?_⟩; conv => whnf) | (refine ⟨fun c => ?_, fun c => ?_⟩) | (intro c) | fail))
  · rw [if_neg c21] at hr
    obtain ⟨-, -, -, -, w11, w5, -⟩ := wR_v
    by_cases c29 : 29 ≤ tC P n e ∧ tC P n e ≤ 31
    · rw [if_neg (fun q => q c29), bd_bd] at hr
      have l := w_tt145 (X := X) (XL := XL) (p := p) (t2 := t2) hd hS hO hs0 hA hS1 hc hrow c29 g22 g42 (by
        rcases (show t2 = 11 ∨ t2 = 5 by omega) with q | q
        · exact Or.inl ⟨q, by rw [q]; exact w11⟩
        · exact Or.inr ⟨q, by rw [q]; exact w5⟩) hr hq0 hq1
      (repeat' (first | (exact l) | (rw [s0]) | (rw [a1]) | (refine Ex_step ?_; conv => whnf) | (refine ⟨?_, trivial⟩) | (refine (show den _ _ _ _ _ _ _ _ from ?_); conv => whnf) | (refine ⟨fun c => False.elim (by omega), fun c => ?_⟩) | (refine ⟨fun c => ?_, fun c => False.elim (by omega)⟩) | (refine ⟨by (first | assumption | rfl | (exact Nat.le_of_ble_eq_true rfl) | (exact ⟨fun h01 => absurd h01 (by decide), by first | rfl | assumption⟩) | (exact ⟨fun _ => by decide, by first | rfl | assumption⟩) | (exact ⟨by assumption, by omega, by omega⟩) | (unfold inI; omega) | omega), ?_⟩; conv => whnf) | (refine ⟨fun c => ?_, fun c => ?_⟩) | (intro c) | fail))
    · rw [if_pos c29] at hr
      (repeat' (first | (rw [s0]) | (rw [a1]) | (refine Ex_step ?_; conv => whnf) | (refine ⟨?_, trivial⟩) | (refine (show den _ _ _ _ _ _ _ _ from ?_); conv => whnf) | (refine ⟨fun c => False.elim (by omega), fun c => ?_⟩) | (refine ⟨fun c => ?_, fun c => False.elim (by omega)⟩) | (refine ⟨by (first | assumption | rfl | (exact Nat.le_of_ble_eq_true rfl) | (exact ⟨fun h01 => absurd h01 (by decide), by first | rfl | assumption⟩) | (exact ⟨fun _ => by decide, by first | rfl | assumption⟩) | (exact ⟨by assumption, by omega, by omega⟩) | (unfold inI; omega) | omega), ?_⟩; conv => whnf) | (refine ⟨fun c => ?_, fun c => ?_⟩) | fail))
      refine k_refuse (by omega) hA hr (fun x h3 er ff => ?_)
      have q := hq0 x h3 er (FW.refl.f ff)
      have g3 := ff.1.trans hS1
      (repeat' (first | (exact q) | (refine Ex_step ?_; conv => whnf) | (refine ⟨?_, trivial⟩) | (refine (show den _ _ _ _ _ _ _ _ from ?_); conv => whnf) | (refine ⟨fun c => False.elim (by omega), fun c => ?_⟩) | (refine ⟨fun c => ?_, fun c => False.elim (by omega)⟩) | (refine ⟨by (first | assumption | rfl | (exact Nat.le_of_ble_eq_true rfl) | (exact ⟨fun h01 => absurd h01 (by decide), by first | rfl | assumption⟩) | (exact ⟨fun _ => by decide, by first | rfl | assumption⟩) | (exact ⟨by assumption, by omega, by omega⟩) | (unfold inI; omega) | omega), ?_⟩; conv => whnf) | (refine ⟨fun c => ?_, fun c => ?_⟩) | (intro c) | fail))
/-- a test's subject was taken -/
theorem w_tt98' {X : Int → Int} {XL : Int} {d : Nat} {h : Mem} {Q : RetP} {v st : Nat} {P : Int → Int} {n e : Int} {c : Nat} {row : Int} {β : Type} {f : (Int → Int) × Int → (Int × Int) ⊕ β} {r : (Int × Int) ⊕ β} {p t2 : Int} {h1 : Mem} (hd : 5 ≤ d) (hS : SR h st v) (hO : SOk h st) (hs0 : 15 ≤ st) (hA : At h1 P n e c) (z1 : FW st row h h1) (hc : c ≤ 4) (hrow : 0 ≤ row ∧ row < 60) (ht : t2 = 21 ∨ t2 = 11 ∨ t2 = 5) (g42 : gG h1 (st + 4) row = t2) (hr : bd (if t2 = 21 then .inr (rwQ 2024 p 0 0, e) else if ¬ (29 ≤ tC P n e ∧ tC P n e ≤ 31) then .inl (fltK P n e 2, tF P n e) else bd (pNum P n (tE P n e) 0 9) (fun u => .inr (rwQ (2000 + wR t2) p u.1 (sgV (tC P n e)), u.2))) f = r) (hq0 : ∀ x h', r = .inl x → FWf st row h h' x → Q (some (vI 0)) h') (hq1 : ∀ rw e' h' c', c' ≤ 10 → f (rw, e') = r → At h' P n e' c' → CT h' st row rw → FW st row h h' → Q (some (vI 1)) h') : Ex (WP X XL (d - 1)) KX4_takeTest h.1 Q 98 [some (vR 56), some (vI row), some (vI t2), some (vI p), none] [] (sG h1 (st + 2) row p) := by
  have z2 : FW st row h (sG h1 (st + 2) row p) := z1.s (by omega)
  exact w_tt98 hd (hS.z z2.1 z2.2.1) (hO.z z2.1 z2.2.1) hs0 (hA.s (by omega)) z2.1 hc hrow ht g_same (by rw [gG_sG, if_neg (by omega)]; exact g42) hr (fun x h' er ff => hq0 x h' er (z2.ff ff)) (fun rw e' h' c' hc' hr' hA' ct' f' => hq1 rw e' h' c' hc' hr' hA' ct' (z2.trans f'))
set_option maxHeartbeats 4000000 in
theorem w_takeTest {X : Int → Int} {XL : Int} {d : Nat} {h : Mem} {Q : RetP} {K : Int} {A Nm : Int → Int} {v st : Nat} {P : Int → Int} {n e : Int} {c : Nat} {row : Int} {β : Type} {f : (Int → Int) × Int → (Int × Int) ⊕ β} {r : (Int × Int) ⊕ β} (hd : 5 ≤ d) (hS : SR h st v) (hO : SOk h st) (hst : 15 ≤ st ∧ 15 ≤ v ∧ (st + 6 < v ∨ v + 12 < st)) (hA : At h P n e c) (hV : Vr K h v A) (hT : VAt h v) (hNm : gG h (v + 4) = Nm) (hc : c ≤ 2) (hrow : 0 ≤ row ∧ row < 60) (hr : bd (dTest P n e A Nm) f = r) (hq0 : ∀ x h', r = .inl x → FWf st row h h' x → Q (some (vI 0)) h') (hq1 : ∀ rw e' h' c', c' ≤ 10 → f (rw, e') = r → At h' P n e' c' → CT h' st row rw → FW st row h h' → Q (some (vI 1)) h') : WP X XL d 89 [vR 56, vI row] h Q := by
  have k56_0 := (hS.z rfl rfl).1; have s0_0 := (hS.z rfl rfl).2.1; have s3_0 := (hS.z rfl rfl).2.2.2.1; have ks_0 := (hO.z rfl rfl).1
  obtain ⟨sr4_0, sk4_0, sl4_0⟩ := (hO.z rfl rfl).2.2.2.2.1
  have k10 := hA.X
  have a1 := hA.M.2.2.1
  have hs0 := hst.1
  have z0 : FW st row h (sG h (st + 4) row (tC P n e)) := FW.refl.s (by omega)
  have hA0 : At (sG h (st + 4) row (tC P n e)) P n e c := hA.s (by omega)
  unfold dTest at hr
  refine eX4_takeTest (by omega) ?_
  by_cases ct : tC P n e = 21 ∨ tC P n e = 11 ∨ tC P n e = 5
  · rw [if_neg (fun q => q ct), bd_bd] at hr
    have l44 : Ex (WP X XL (d - 1)) KX4_takeTest h.1 Q 44 [some (vR 56), some (vI row), some (vI (tC P n e)), none, none] [] (sG h (st + 4) row (tC P n e)) := by
      (repeat' (first | (rw [gR_sG]) | (rw [s0_0]) | (refine Ex_step ?_; conv => whnf) | (refine ⟨?_, trivial⟩) | (refine (show den _ _ _ _ _ _ _ _ from ?_); conv => whnf) | (refine ⟨fun c => False.elim (by omega), fun c => ?_⟩) | (refine ⟨fun c => ?_, fun c => False.elim (by omega)⟩) | (refine ⟨by (first | assumption | rfl | (exact Nat.le_of_ble_eq_true rfl) | (exact ⟨fun h01 => absurd h01 (by decide), by first | rfl | assumption⟩) | (exact ⟨fun _ => by decide, by first | rfl | assumption⟩) | (exact ⟨by assumption, by omega, by omega⟩) | (unfold inI; omega) | omega), ?_⟩; conv => whnf) | (refine ⟨fun c => ?_, fun c => ?_⟩) | fail))
      refine w_advA (by omega) hA0 (by omega) (by unfold isE; omega) (fun h1 hA1 f1 => ?_)
      have z1 := z0.trans f1.W
      clear k56_0 s0_0 s3_0 ks_0 sr4_0 sk4_0 sl4_0 k10 a1
      have k56_1 := (hS.z z1.1 z1.2.1).1; have s0_1 := (hS.z z1.1 z1.2.1).2.1; have s3_1 := (hS.z z1.1 z1.2.1).2.2.2.1; have ks_1 := (hO.z z1.1 z1.2.1).1
      have k101 := hA1.X
      have hV1 := hV.w hT hst z1
      have g41 : gG h1 (st + 4) row = tC P n e := by rw [f1.2.2 _ _ (by omega) (by omega), g_same]
      by_cases c5 : tC P n e = 5
      · rw [if_pos c5] at hr
        have s41 := (hS.z z1.1 z1.2.1).2.2.2.2
        have kv1 := hV1.1.1
        have g01 := hV1.2.1.1.1
        have b0 := hV1.2.2.1
        (repeat' (first | (rw [s0_1]) | (rw [s41]) | (rw [g01]) | (refine Ex_step ?_; conv => whnf) | (refine ⟨?_, trivial⟩) | (refine (show den _ _ _ _ _ _ _ _ from ?_); conv => whnf) | (refine ⟨fun c => False.elim (by omega), fun c => ?_⟩) | (refine ⟨fun c => ?_, fun c => False.elim (by omega)⟩) | (refine ⟨by (first | assumption | rfl | (exact Nat.le_of_ble_eq_true rfl) | (exact ⟨fun h01 => absurd h01 (by decide), by first | rfl | assumption⟩) | (exact ⟨fun _ => by decide, by first | rfl | assumption⟩) | (exact ⟨by assumption, by omega, by omega⟩) | (unfold inI; omega) | omega), ?_⟩; conv => whnf) | (refine ⟨fun c => ?_, fun c => ?_⟩) | fail))
        refine k_num (by omega) hA1 (by omega) hr (fun x h2 er ff => ?_) (fun m e2 h2 m0 m0' m1 hr2 hA2 f2 => ?_)
        · have z2 := z1.f ff
          clear k56_1 s0_1 s3_1 ks_1 kv1 g01
          have k56_2 := (hS.z z2.1 z2.2.1).1; have s0_2 := (hS.z z2.1 z2.2.1).2.1; have s3_2 := (hS.z z2.1 z2.2.1).2.2.2.1; have ks_2 := (hO.z z2.1 z2.2.1).1
          obtain ⟨sr2_2, sk2_2, sl2_2⟩ := (hO.z z2.1 z2.2.1).2.2.1
          have g2 := z2.1
          have q := hq0 x (sG h2 (st + 2) row (-1)) er (z2.s hst.1 (by omega))
          (repeat' (first | (exact q) | (rw [s3_2]) | (rw [sr2_2]) | (refine w_keep (by omega) sk2_2 ⟨hrow.1, by rw [sl2_2]; exact hrow.2⟩ (fun q => False.elim (by omega)) (fun _ => ?_)) | (refine Ex_step ?_; conv => whnf) | (refine ⟨?_, trivial⟩) | (refine (show den _ _ _ _ _ _ _ _ from ?_); conv => whnf) | (refine ⟨fun c => False.elim (by omega), fun c => ?_⟩) | (refine ⟨fun c => ?_, fun c => False.elim (by omega)⟩) | (refine ⟨by (first | assumption | rfl | (exact Nat.le_of_ble_eq_true rfl) | (exact ⟨fun h01 => absurd h01 (by decide), by first | rfl | assumption⟩) | (exact ⟨fun _ => by decide, by first | rfl | assumption⟩) | (exact ⟨by assumption, by omega, by omega⟩) | (unfold inI; omega) | omega), ?_⟩; conv => whnf) | (refine ⟨fun c => ?_, fun c => ?_⟩) | (intro c) | fail))
        · have z2 := z1.trans f2.W
          clear k56_1 s0_1 s3_1 ks_1 kv1 g01
          have k56_2 := (hS.z z2.1 z2.2.1).1; have s0_2 := (hS.z z2.1 z2.2.1).2.1; have s3_2 := (hS.z z2.1 z2.2.1).2.2.2.1; have ks_2 := (hO.z z2.1 z2.2.1).1
          obtain ⟨sr2_2, sk2_2, sl2_2⟩ := (hO.z z2.1 z2.2.1).2.2.1
          have l := w_tt98' (X := X) (XL := XL) (p := m) (t2 := tC P n e) hd hS hO hs0 hA2 z2 (by omega) hrow ct (by rw [f2.2.2 _ _ (by omega) (by omega)]; exact g41) hr2 hq0 hq1
          (repeat' (first | (exact l) | (rw [s3_2]) | (rw [sr2_2]) | (refine w_keep (by omega) sk2_2 ⟨hrow.1, by rw [sl2_2]; exact hrow.2⟩ (fun _ => ?_) (fun q => False.elim (by omega))) | (refine Ex_step ?_; conv => whnf) | (refine ⟨?_, trivial⟩) | (refine (show den _ _ _ _ _ _ _ _ from ?_); conv => whnf) | (refine ⟨fun c => False.elim (by omega), fun c => ?_⟩) | (refine ⟨fun c => ?_, fun c => False.elim (by omega)⟩) | (refine ⟨by (first | assumption | rfl | (exact Nat.le_of_ble_eq_true rfl) | (exact ⟨fun h01 => absurd h01 (by decide), by first | rfl | assumption⟩) | (exact ⟨fun _ => by decide, by first | rfl | assumption⟩) | (exact ⟨by assumption, by omega, by omega⟩) | (unfold inI; omega) | omega), ?_⟩; conv => whnf) | (refine ⟨fun c => ?_, fun c => ?_⟩) | (intro c) | fail))
      · rw [if_neg c5] at hr
        (repeat' (first | (refine Ex_step ?_; conv => whnf) | (refine ⟨?_, trivial⟩) | (refine (show den _ _ _ _ _ _ _ _ from ?_); conv => whnf) | (refine ⟨fun c => False.elim (by omega), fun c => ?_⟩) | (refine ⟨fun c => ?_, fun c => False.elim (by omega)⟩) | (refine ⟨by (first | assumption | rfl | (exact Nat.le_of_ble_eq_true rfl) | (exact ⟨fun h01 => absurd h01 (by decide), by first | rfl | assumption⟩) | (exact ⟨fun _ => by decide, by first | rfl | assumption⟩) | (exact ⟨by assumption, by omega, by omega⟩) | (unfold inI; omega) | omega), ?_⟩; conv => whnf) | (refine ⟨fun c => ?_, fun c => ?_⟩) | fail))
        refine w_takeName (by omega) (hS.z z1.1 z1.2.1) hA1 (by omega) hV1 (hT.z z1.2.1) ((z1.nm hst).trans hNm) hr (fun x h2 er ff => ?_) (fun p e2 h2 p0 p1 hr2 hA2 f2 => ?_)
        · have z2 := z1.f ff
          clear k56_1 s0_1 s3_1 ks_1
          have k56_2 := (hS.z z2.1 z2.2.1).1; have s0_2 := (hS.z z2.1 z2.2.1).2.1; have s3_2 := (hS.z z2.1 z2.2.1).2.2.2.1; have ks_2 := (hO.z z2.1 z2.2.1).1
          obtain ⟨sr2_2, sk2_2, sl2_2⟩ := (hO.z z2.1 z2.2.1).2.2.1
          have g2 := z2.1
          have q := hq0 x (sG h2 (st + 2) row (-1)) er (z2.s hst.1 (by omega))
          (repeat' (first | (exact q) | (rw [s3_2]) | (rw [sr2_2]) | (refine w_keep (by omega) sk2_2 ⟨hrow.1, by rw [sl2_2]; exact hrow.2⟩ (fun q => False.elim (by omega)) (fun _ => ?_)) | (refine Ex_step ?_; conv => whnf) | (refine ⟨?_, trivial⟩) | (refine (show den _ _ _ _ _ _ _ _ from ?_); conv => whnf) | (refine ⟨fun c => False.elim (by omega), fun c => ?_⟩) | (refine ⟨fun c => ?_, fun c => False.elim (by omega)⟩) | (refine ⟨by (first | assumption | rfl | (exact Nat.le_of_ble_eq_true rfl) | (exact ⟨fun h01 => absurd h01 (by decide), by first | rfl | assumption⟩) | (exact ⟨fun _ => by decide, by first | rfl | assumption⟩) | (exact ⟨by assumption, by omega, by omega⟩) | (unfold inI; omega) | omega), ?_⟩; conv => whnf) | (refine ⟨fun c => ?_, fun c => ?_⟩) | (intro c) | fail))
        · have z2 := z1.trans f2.W
          clear k56_1 s0_1 s3_1 ks_1
          have k56_2 := (hS.z z2.1 z2.2.1).1; have s0_2 := (hS.z z2.1 z2.2.1).2.1; have s3_2 := (hS.z z2.1 z2.2.1).2.2.2.1; have ks_2 := (hO.z z2.1 z2.2.1).1
          obtain ⟨sr2_2, sk2_2, sl2_2⟩ := (hO.z z2.1 z2.2.1).2.2.1
          have l := w_tt98' (X := X) (XL := XL) (p := p) (t2 := tC P n e) hd hS hO hs0 hA2 z2 (by omega) hrow ct (by rw [f2.2.2 _ _ (by omega) (by omega)]; exact g41) hr2 hq0 hq1
          (repeat' (first | (exact l) | (rw [s3_2]) | (rw [sr2_2]) | (refine w_keep (by omega) sk2_2 ⟨hrow.1, by rw [sl2_2]; exact hrow.2⟩ (fun _ => ?_) (fun q => False.elim (by omega))) | (refine Ex_step ?_; conv => whnf) | (refine ⟨?_, trivial⟩) | (refine (show den _ _ _ _ _ _ _ _ from ?_); conv => whnf) | (refine ⟨fun c => False.elim (by omega), fun c => ?_⟩) | (refine ⟨fun c => ?_, fun c => False.elim (by omega)⟩) | (refine ⟨by (first | assumption | rfl | (exact Nat.le_of_ble_eq_true rfl) | (exact ⟨fun h01 => absurd h01 (by decide), by first | rfl | assumption⟩) | (exact ⟨fun _ => by decide, by first | rfl | assumption⟩) | (exact ⟨by assumption, by omega, by omega⟩) | (unfold inI; omega) | omega), ?_⟩; conv => whnf) | (refine ⟨fun c => ?_, fun c => ?_⟩) | (intro c) | fail))
    (repeat' (first | (exact l44) | (rw [s0_0]) | (rw [a1]) | (rw [s3_0]) | (rw [sr4_0]) | (refine ⟨⟨sk4_0, by omega, Int.lt_of_lt_of_le (by omega : _ < (60 : Int)) (Int.le_of_eq sl4_0.symm)⟩, ?_⟩; conv => whnf) | (refine Ex_step ?_; conv => whnf) | (refine ⟨?_, trivial⟩) | (refine (show den _ _ _ _ _ _ _ _ from ?_); conv => whnf) | (refine ⟨fun c => False.elim (by omega), fun c => ?_⟩) | (refine ⟨fun c => ?_, fun c => False.elim (by omega)⟩) | (refine ⟨by (first | assumption | rfl | (exact Nat.le_of_ble_eq_true rfl) | (exact ⟨fun h01 => absurd h01 (by decide), by first | rfl | assumption⟩) | (exact ⟨fun _ => by decide, by first | rfl | assumption⟩) | (exact ⟨by assumption, by omega, by omega⟩) | (unfold inI; omega) | omega), ?_⟩; conv => whnf) | (refine ⟨fun c => ?_, fun c => ?_⟩) | (intro c) | fail))
  · rw [if_pos ct] at hr
    (repeat' (first | (rw [gR_sG]) | (rw [s0_0]) | (rw [a1]) | (rw [s3_0]) | (rw [sr4_0]) | (refine ⟨⟨sk4_0, by omega, Int.lt_of_lt_of_le (by omega : _ < (60 : Int)) (Int.le_of_eq sl4_0.symm)⟩, ?_⟩; conv => whnf) | (refine Ex_step ?_; conv => whnf) | (refine ⟨?_, trivial⟩) | (refine (show den _ _ _ _ _ _ _ _ from ?_); conv => whnf) | (refine ⟨fun c => False.elim (by omega), fun c => ?_⟩) | (refine ⟨fun c => ?_, fun c => False.elim (by omega)⟩) | (refine ⟨by (first | assumption | rfl | (exact Nat.le_of_ble_eq_true rfl) | (exact ⟨fun h01 => absurd h01 (by decide), by first | rfl | assumption⟩) | (exact ⟨fun _ => by decide, by first | rfl | assumption⟩) | (exact ⟨by assumption, by omega, by omega⟩) | (unfold inI; omega) | omega), ?_⟩; conv => whnf) | (refine ⟨fun c => ?_, fun c => ?_⟩) | fail))
    refine k_refuse (by omega) hA0 hr (fun x h1 er ff => ?_)
    have q := hq0 x h1 er (z0.f ff)
    have g1 := ff.1
    (repeat' (first | (exact q) | (refine Ex_step ?_; conv => whnf) | (refine ⟨?_, trivial⟩) | (refine (show den _ _ _ _ _ _ _ _ from ?_); conv => whnf) | (refine ⟨fun c => False.elim (by omega), fun c => ?_⟩) | (refine ⟨fun c => ?_, fun c => False.elim (by omega)⟩) | (refine ⟨by (first | assumption | rfl | (exact Nat.le_of_ble_eq_true rfl) | (exact ⟨fun h01 => absurd h01 (by decide), by first | rfl | assumption⟩) | (exact ⟨fun _ => by decide, by first | rfl | assumption⟩) | (exact ⟨by assumption, by omega, by omega⟩) | (unfold inI; omega) | omega), ?_⟩; conv => whnf) | (refine ⟨fun c => ?_, fun c => ?_⟩) | (intro c) | fail))
