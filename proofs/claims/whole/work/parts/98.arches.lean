/-! LEVEL 2: texts: arches and plants of a Viaduct, the class -/
def FZ (v : Nat) (h h' : Mem) : Prop := h'.1 = h.1 ∧ h'.2.2 = h.2.2 ∧ ∀ r i, ¬ VP v r → ¬ (r = 10 ∧ ¬ i = 0 ∧ ¬ i = 3 ∧ ¬ i = 4 ∧ ¬ i = 6) → ¬ (r = 12 ∨ r = 13 ∨ r = 14) → gG h' r i = gG h r i
def FZf (v : Nat) (h h' : Mem) (x : Int × Int) : Prop := h'.1 = h.1 ∧ h'.2.2 = h.2.2 ∧ (∀ r i, ¬ VQ v r → ¬ (r = 10 ∧ ¬ i = 0 ∧ ¬ i = 6) → ¬ (r = 12 ∨ r = 13 ∨ r = 14) → ¬ (r = 55 ∧ i = 1) → gG h' r i = gG h r i) ∧ gG h' 10 3 = x.1 ∧ gG h' 10 4 = x.2
theorem FZ.refl {v : Nat} {h : Mem} : FZ v h h := ⟨rfl, rfl, fun _ _ _ _ _ => rfl⟩
theorem FZ.trans {v : Nat} {h h' h'' : Mem} (a : FZ v h h') (b : FZ v h' h'') : FZ v h h'' := ⟨b.1.trans a.1, b.2.1.trans a.2.1, fun r i p q t => (b.2.2 r i p q t).trans (a.2.2 r i p q t)⟩
theorem FX.Z {v : Nat} {h h' : Mem} (b : FX h h') : FZ v h h' := ⟨b.1, b.2.1, fun r i _ q t => b.2.2 r i q t⟩
theorem Fr.Z {v : Nat} {h h' : Mem} (b : Fr (VP v) h h') : FZ v h h' := ⟨b.1, b.2.1, fun r i p _ _ => b.2.2 r p i⟩
/-- the same, names too -/
def FZq (v : Nat) (h h' : Mem) : Prop := h'.1 = h.1 ∧ h'.2.2 = h.2.2 ∧ ∀ r i, ¬ VQ v r → ¬ (r = 10 ∧ ¬ i = 0 ∧ ¬ i = 3 ∧ ¬ i = 4 ∧ ¬ i = 6) → ¬ (r = 12 ∨ r = 13 ∨ r = 14) → gG h' r i = gG h r i
theorem FZq.trans {v : Nat} {h h' h'' : Mem} (a : FZq v h h') (b : FZq v h' h'') : FZq v h h'' := ⟨b.1.trans a.1, b.2.1.trans a.2.1, fun r i p q t => (b.2.2 r i p q t).trans (a.2.2 r i p q t)⟩
theorem FZ.q {v : Nat} {h h' : Mem} (a : FZ v h h') : FZq v h h' := ⟨a.1, a.2.1, fun r i p q t => a.2.2 r i (fun e => p ⟨e.1, e.2.1⟩) q t⟩
theorem Fr.ZQ {v : Nat} {h h' : Mem} (b : Fr (VQ v) h h') : FZq v h h' := ⟨b.1, b.2.1, fun r i p _ _ => b.2.2 r p i⟩
theorem FZq.f {v : Nat} {h h' h'' : Mem} {x : Int × Int} (a : FZq v h h') (b : Ff h' h'' x) : FZf v h h'' x := ⟨b.1.trans a.1, b.2.1.trans a.2.1, fun r i p q t u => (b.2.2.1 r i q t).trans (a.2.2 r i p (by omega) t), b.2.2.2⟩
theorem FZ.f {v : Nat} {h h' h'' : Mem} {x : Int × Int} (a : FZ v h h') (b : Ff h' h'' x) : FZf v h h'' x := a.q.f b
theorem Vr.x {K : Int} {h h' : Mem} {v : Nat} {A : Int → Int} (hV : Vr K h v A) (hT : VAt h v) (hv : 15 ≤ v) (a : FX h h') : Vr K h' v A := hV.eq a.1 (fun i => by unfold gR; rw [a.2.1]) hT (fun r i _ _ => a.2.2 r i (by omega) (by omega))
theorem VAt.z {h h' : Mem} {v : Nat} (hT : VAt h v) (a : h'.2.2 = h.2.2) : VAt h' v := hT.eq (fun i => by unfold gR; rw [a])
theorem At.p {h h' : Mem} {v : Nat} {P : Int → Int} {n e : Int} {c : Nat} (hA : At h P n e c) (hv : 15 ≤ v) (a : Fr (VQ v) h h') : At h' P n e c := hA.o a.1 (fun i => gR_fr a 10 i) (fun r i _ q _ => a.2.2 r (by unfold VQ; omega) i)
theorem Fr.Q {v : Nat} {h h' : Mem} (a : Fr (VP v) h h') : Fr (VQ v) h h' := ⟨a.1, a.2.1, fun r q i => a.2.2 r (fun e => q ⟨e.1, e.2.1⟩) i⟩
/-- the reader's own cell -/
def Rd (h : Mem) : Prop := kd h 55 = 8 ∧ gR h 55 0 = 10
theorem Rd.z {h h' : Mem} (q : Rd h) (e1 : h'.1 = h.1) (e2 : h'.2.2 = h.2.2) : Rd h' := by unfold Rd kd gR at *; rw [e1, e2]; exact q
theorem k_optV {X : Int → Int} {XL : Int} {d : Nat} {h : Mem} {Q : RetP} {P : Int → Int} {n e w hi pl K : Int} {v row c : Nat} {A : Int → Int} {g : Int → Int → Int} {β : Type} {f : (Int → Int) × Int → (Int × Int) ⊕ β} {r : (Int × Int) ⊕ β} (hd : 4 ≤ d) (hRd : Rd h) (hA : At h P n e c) (hc : c + 1 ≤ 10) (hw : ¬ isE w) (hhi : 0 ≤ hi) (hV : Vr K h v A) (hT : VAt h v) (hv : 15 ≤ v) (kr : kd h row = 100) (lr : 0 ≤ pl ∧ pl < ln h row) (lay : ∀ h' m, Vr K h' v A → VAt h' v → 0 ≤ m → m ≤ hi → Vr K (sG h' row pl m) v (g m) ∧ Fr (VP v) h' (sG h' row pl m)) (hr : bd (pOpt P n e w hi A g) f = r) (hq0 : ∀ x h', r = .inl x → Ff h h' x → Q (some (vI 0)) h') (hq1 : ∀ A' e' h' c', c' ≤ c + 2 → f (A', e') = r → At h' P n e' c' → Vr K h' v A' → (A' = A ∨ ∃ m, A' = g m) → FZ v h h' → Q (some (vI 1)) h') : WP X XL d 82 [vR 55, vI w, vI hi, vR row, vI pl] h Q := by
  refine k_opt hd hRd.1 hRd.2 hA hc hw hhi kr lr hr hq0 (fun er => hq1 A e h c (by omega) er hA hV (Or.inl rfl) FZ.refl) (fun m e' h' m0 m1 er hA' f' => ?_)
  obtain ⟨l1, l2⟩ := lay h' m (hV.x hT hv f') (hT.z f'.2.1) m0 m1
  exact hq1 (g m) e' _ (c + 2) (by omega) er (hA'.p hv l2.Q) l1 (Or.inr ⟨m, rfl⟩) (f'.Z.trans l2.Z)
def vArch (P : Int → Int) (n e : Int) (A : Int → Int) : (Int × Int) ⊕ ((Int → Int) × Int) := if 9 ≤ A 0 then .inl (fltK P n e 6, tF P n e) else bd (pTok P n (tE P n e) 4) (fun e1 => bd (pNum P n e1 0 60) (fun q => bd (pOpt P n q.2 5 9 (arcA A q.1 1) (moP (arcA A q.1 1) (A 0))) (fun u => bd (pOpt P n u.2 6 9 u.1 (toP u.1 (A 0))) (fun w => bd (pTok P n w.2 28) (fun e5 => .inr (w.1, e5))))))
set_option maxHeartbeats 4000000 in
theorem w_takeArch {X : Int → Int} {XL : Int} {d : Nat} {h : Mem} {Q : RetP} {K : Int} {A : Int → Int} {v : Nat} {P : Int → Int} {n e : Int} {r : (Int × Int) ⊕ ((Int → Int) × Int)} (hd : 6 ≤ d) (hRd : Rd h) (hA : At h P n e 0) (he : tC P n e = 3) (hV : Vr K h v A) (hT : VAt h v) (hv : 15 ≤ v) (hr : vArch P n e A = r) (hq0 : ∀ x h', r = .inl x → FZf v h h' x → Q (some (vI 0)) h') (hq1 : ∀ A' e' h', r = .inr (A', e') → Nx h' P n e' → Vr K h' v A' → FZ v h h' → Q (some (vI 1)) h') : WP X XL d 79 [vR 55, vR v] h Q := by
  have k10 := hA.X
  obtain ⟨k55, r55⟩ := id hRd
  have kv := hV.1.1
  have g0 := hV.2.1.1.1
  have b0 := hV.2.2.1
  unfold vArch at hr
  refine eX8_takeArch (by omega) ?_
  by_cases c9 : 9 ≤ A 0
  · rw [if_pos c9] at hr
    (repeat' (first | (rw [g0]) | (rw [r55]) | (refine Ex_step ?_; conv => whnf) | (refine ⟨?_, trivial⟩) | (refine (show den _ _ _ _ _ _ _ _ from ?_); conv => whnf) | (refine ⟨fun c => False.elim (by omega), fun c => ?_⟩) | (refine ⟨fun c => ?_, fun c => False.elim (by omega)⟩) | (refine ⟨by (first | assumption | rfl | (exact Nat.le_of_ble_eq_true rfl) | (exact ⟨fun h01 => absurd h01 (by decide), by first | rfl | assumption⟩) | (exact ⟨fun _ => by decide, by first | rfl | assumption⟩) | (exact ⟨by assumption, by omega, by omega⟩) | (unfold inI; omega) | omega), ?_⟩; conv => whnf) | (refine ⟨fun c => ?_, fun c => ?_⟩) | fail))
    refine k_refuse (by omega) hA hr (fun x h1 er ff => ?_)
    have q := hq0 x h1 er (FZ.refl.f ff)
    have g1 := ff.1
    (repeat' (first | (exact q) | (refine Ex_step ?_; conv => whnf) | (refine ⟨?_, trivial⟩) | (refine (show den _ _ _ _ _ _ _ _ from ?_); conv => whnf) | (refine ⟨fun c => False.elim (by omega), fun c => ?_⟩) | (refine ⟨fun c => ?_, fun c => False.elim (by omega)⟩) | (refine ⟨by (first | assumption | rfl | (exact Nat.le_of_ble_eq_true rfl) | (exact ⟨fun h01 => absurd h01 (by decide), by first | rfl | assumption⟩) | (exact ⟨fun _ => by decide, by first | rfl | assumption⟩) | (exact ⟨by assumption, by omega, by omega⟩) | (unfold inI; omega) | omega), ?_⟩; conv => whnf) | (refine ⟨fun c => ?_, fun c => ?_⟩) | (intro c) | fail))
  · rw [if_neg c9] at hr
    (repeat' (first | (rw [g0]) | (rw [r55]) | (refine Ex_step ?_; conv => whnf) | (refine ⟨?_, trivial⟩) | (refine (show den _ _ _ _ _ _ _ _ from ?_); conv => whnf) | (refine ⟨fun c => False.elim (by omega), fun c => ?_⟩) | (refine ⟨fun c => ?_, fun c => False.elim (by omega)⟩) | (refine ⟨by (first | assumption | rfl | (exact Nat.le_of_ble_eq_true rfl) | (exact ⟨fun h01 => absurd h01 (by decide), by first | rfl | assumption⟩) | (exact ⟨fun _ => by decide, by first | rfl | assumption⟩) | (exact ⟨by assumption, by omega, by omega⟩) | (unfold inI; omega) | omega), ?_⟩; conv => whnf) | (refine ⟨fun c => ?_, fun c => ?_⟩) | fail))
    refine w_advA (by omega) hA (by omega) (by rw [he]; unfold isE; omega) (fun h1 hA1 f1 => ?_)
    have z1 : FZ v h h1 := f1.Z
    have k10_1 := hA1.X; have r55_1 := (hRd.z z1.1 z1.2.1).2; have k55_1 := (hRd.z z1.1 z1.2.1).1
    (repeat' (first | (rw [r55_1]) | (refine Ex_step ?_; conv => whnf) | (refine ⟨?_, trivial⟩) | (refine (show den _ _ _ _ _ _ _ _ from ?_); conv => whnf) | (refine ⟨fun c => False.elim (by omega), fun c => ?_⟩) | (refine ⟨fun c => ?_, fun c => False.elim (by omega)⟩) | (refine ⟨by (first | assumption | rfl | (exact Nat.le_of_ble_eq_true rfl) | (exact ⟨fun h01 => absurd h01 (by decide), by first | rfl | assumption⟩) | (exact ⟨fun _ => by decide, by first | rfl | assumption⟩) | (exact ⟨by assumption, by omega, by omega⟩) | (unfold inI; omega) | omega), ?_⟩; conv => whnf) | (refine ⟨fun c => ?_, fun c => ?_⟩) | fail))
    refine k_take (by omega) hA1 (by omega) (by unfold isE; omega) hr (fun x h2 er ff => ?_) (fun e2 h2 hr2 hA2 f2 => ?_)
    · have q := hq0 x h2 er (z1.f ff)
      have g2 := ff.1.trans z1.1
      (repeat' (first | (exact q) | (refine Ex_step ?_; conv => whnf) | (refine ⟨?_, trivial⟩) | (refine (show den _ _ _ _ _ _ _ _ from ?_); conv => whnf) | (refine ⟨fun c => False.elim (by omega), fun c => ?_⟩) | (refine ⟨fun c => ?_, fun c => False.elim (by omega)⟩) | (refine ⟨by (first | assumption | rfl | (exact Nat.le_of_ble_eq_true rfl) | (exact ⟨fun h01 => absurd h01 (by decide), by first | rfl | assumption⟩) | (exact ⟨fun _ => by decide, by first | rfl | assumption⟩) | (exact ⟨by assumption, by omega, by omega⟩) | (unfold inI; omega) | omega), ?_⟩; conv => whnf) | (refine ⟨fun c => ?_, fun c => ?_⟩) | (intro c) | fail))
    · have z2 := z1.trans (v := v) f2.Z
      have k10_2 := hA2.X; have r55_2 := (hRd.z z2.1 z2.2.1).2; have k55_2 := (hRd.z z2.1 z2.2.1).1
      (repeat' (first | (rw [r55_2]) | (refine Ex_step ?_; conv => whnf) | (refine ⟨?_, trivial⟩) | (refine (show den _ _ _ _ _ _ _ _ from ?_); conv => whnf) | (refine ⟨fun c => False.elim (by omega), fun c => ?_⟩) | (refine ⟨fun c => ?_, fun c => False.elim (by omega)⟩) | (refine ⟨by (first | assumption | rfl | (exact Nat.le_of_ble_eq_true rfl) | (exact ⟨fun h01 => absurd h01 (by decide), by first | rfl | assumption⟩) | (exact ⟨fun _ => by decide, by first | rfl | assumption⟩) | (exact ⟨by assumption, by omega, by omega⟩) | (unfold inI; omega) | omega), ?_⟩; conv => whnf) | (refine ⟨fun c => ?_, fun c => ?_⟩) | fail))
      refine k_num (by omega) hA2 (by omega) hr2 (fun x h3 er ff => ?_) (fun m e3 h3 m0 m0' m1 hr3 hA3 f3 => ?_)
      · have q := hq0 x h3 er (z2.f ff)
        have g3 := ff.1.trans z2.1
        (repeat' (first | (exact q) | (refine Ex_step ?_; conv => whnf) | (refine ⟨?_, trivial⟩) | (refine (show den _ _ _ _ _ _ _ _ from ?_); conv => whnf) | (refine ⟨fun c => False.elim (by omega), fun c => ?_⟩) | (refine ⟨fun c => ?_, fun c => False.elim (by omega)⟩) | (refine ⟨by (first | assumption | rfl | (exact Nat.le_of_ble_eq_true rfl) | (exact ⟨fun h01 => absurd h01 (by decide), by first | rfl | assumption⟩) | (exact ⟨fun _ => by decide, by first | rfl | assumption⟩) | (exact ⟨by assumption, by omega, by omega⟩) | (unfold inI; omega) | omega), ?_⟩; conv => whnf) | (refine ⟨fun c => ?_, fun c => ?_⟩) | (intro c) | fail))
      · have z3 := z2.trans (v := v) f3.Z
        have k10_3 := hA3.X; have r55_3 := (hRd.z z3.1 z3.2.1).2; have k55_3 := (hRd.z z3.1 z3.2.1).1
        have hT3 : VAt h3 v := hT.z z3.2.1
        have hV3 : Vr K h3 v A := ((hV.x hT hv f1).x (hT.z z1.2.1) hv f2).x (hT.z z2.2.1) hv f3
        have kv3 := hV3.1.1
        have g03 := hV3.2.1.1.1
        (repeat' (first | (rw [g03]) | (refine w_addArch (by omega) hV3 hT3 (by omega) m0 m1 (by omega) (by omega) (fun h4 hV4 f4 => ?_)) | (refine Ex_step ?_; conv => whnf) | (refine ⟨?_, trivial⟩) | (refine (show den _ _ _ _ _ _ _ _ from ?_); conv => whnf) | (refine ⟨fun c => False.elim (by omega), fun c => ?_⟩) | (refine ⟨fun c => ?_, fun c => False.elim (by omega)⟩) | (refine ⟨by (first | assumption | rfl | (exact Nat.le_of_ble_eq_true rfl) | (exact ⟨fun h01 => absurd h01 (by decide), by first | rfl | assumption⟩) | (exact ⟨fun _ => by decide, by first | rfl | assumption⟩) | (exact ⟨by assumption, by omega, by omega⟩) | (unfold inI; omega) | omega), ?_⟩; conv => whnf) | (refine ⟨fun c => ?_, fun c => ?_⟩) | fail))
        have z4 := z3.trans (v := v) f4.Z
        have hA4 := hA3.p hv f4.Q
        have k10_4 := hA4.X; have r55_4 := (hRd.z z4.1 z4.2.1).2; have k55_4 := (hRd.z z4.1 z4.2.1).1
        have hT4 : VAt h4 v := hT.z z4.2.1
        have kv4 := hV4.1.1
        have a04 : arcA A m 1 0 = A 0 + 1 := by unfold arcA; exact pu_e
        have t2 := hT4.2.1
        obtain ⟨-, ⟨kho, lho⟩, ⟨kmo, lmo⟩, ⟨kto, lto⟩, -⟩ := id hV4.1
        rw [hT4.2.1] at kmo lmo
        rw [hT4.2.2.1] at kto lto
        (repeat' (first | (rw [t2]) | (refine Ex_step ?_; conv => whnf) | (refine ⟨?_, trivial⟩) | (refine (show den _ _ _ _ _ _ _ _ from ?_); conv => whnf) | (refine ⟨fun c => False.elim (by omega), fun c => ?_⟩) | (refine ⟨fun c => ?_, fun c => False.elim (by omega)⟩) | (refine ⟨by (first | assumption | rfl | (exact Nat.le_of_ble_eq_true rfl) | (exact ⟨fun h01 => absurd h01 (by decide), by first | rfl | assumption⟩) | (exact ⟨fun _ => by decide, by first | rfl | assumption⟩) | (exact ⟨by assumption, by omega, by omega⟩) | (unfold inI; omega) | omega), ?_⟩; conv => whnf) | (refine ⟨fun c => ?_, fun c => ?_⟩) | fail))
        refine k_optV (by omega) (hRd.z z4.1 z4.2.1) hA4 (by omega) (by unfold isE; omega) (by omega) hV4 hT4 hv kmo ⟨b0.1, by rw [lmo]; omega⟩ (fun h' m' x1 x2 x3 x4 => moP_v x1 x2 b0.1 (by omega) x3 x4) hr3 (fun x h5 er ff => ?_) (fun A5 e5 h5 c5 hc5 hr5 hA5 hV5 w5 f5 => ?_)
        · have q := hq0 x h5 er (z4.f ff)
          have g5 := ff.1.trans z4.1
          (repeat' (first | (exact q) | (refine Ex_step ?_; conv => whnf) | (refine ⟨?_, trivial⟩) | (refine (show den _ _ _ _ _ _ _ _ from ?_); conv => whnf) | (refine ⟨fun c => False.elim (by omega), fun c => ?_⟩) | (refine ⟨fun c => ?_, fun c => False.elim (by omega)⟩) | (refine ⟨by (first | assumption | rfl | (exact Nat.le_of_ble_eq_true rfl) | (exact ⟨fun h01 => absurd h01 (by decide), by first | rfl | assumption⟩) | (exact ⟨fun _ => by decide, by first | rfl | assumption⟩) | (exact ⟨by assumption, by omega, by omega⟩) | (unfold inI; omega) | omega), ?_⟩; conv => whnf) | (refine ⟨fun c => ?_, fun c => ?_⟩) | (intro c) | fail))
        · have z5 := z4.trans (v := v) f5
          have k10_5 := hA5.X; have r55_5 := (hRd.z z5.1 z5.2.1).2; have k55_5 := (hRd.z z5.1 z5.2.1).1
          have hT5 : VAt h5 v := hT.z z5.2.1
          have kv5 := hV5.1.1
          have t3 := hT5.2.2.1
          have a05 : A5 0 = A 0 + 1 := by
            rcases w5 with q | ⟨m', q⟩
            · rw [q]; exact a04
            · rw [q]; unfold moP; rw [pu_n (by omega)]; exact a04
          have kto5 : kd h5 (v + 3) = 100 := by unfold kd; rw [f5.1]; exact kto
          have lto5 : ln h5 (v + 3) = 9 := by unfold ln; rw [f5.1]; exact lto
          (repeat' (first | (rw [t3]) | (refine Ex_step ?_; conv => whnf) | (refine ⟨?_, trivial⟩) | (refine (show den _ _ _ _ _ _ _ _ from ?_); conv => whnf) | (refine ⟨fun c => False.elim (by omega), fun c => ?_⟩) | (refine ⟨fun c => ?_, fun c => False.elim (by omega)⟩) | (refine ⟨by (first | assumption | rfl | (exact Nat.le_of_ble_eq_true rfl) | (exact ⟨fun h01 => absurd h01 (by decide), by first | rfl | assumption⟩) | (exact ⟨fun _ => by decide, by first | rfl | assumption⟩) | (exact ⟨by assumption, by omega, by omega⟩) | (unfold inI; omega) | omega), ?_⟩; conv => whnf) | (refine ⟨fun c => ?_, fun c => ?_⟩) | fail))
          refine k_optV (by omega) (hRd.z z5.1 z5.2.1) hA5 (by omega) (by unfold isE; omega) (by omega) hV5 hT5 hv kto5 ⟨b0.1, by rw [lto5]; omega⟩ (fun h' m' x1 x2 x3 x4 => toP_v x1 x2 b0.1 (by omega) x3 x4) hr5 (fun x h6 er ff => ?_) (fun A6 e6 h6 c6 hc6 hr6 hA6 hV6 w6 f6 => ?_)
          · have q := hq0 x h6 er (z5.f ff)
            have g6 := ff.1.trans z5.1
            (repeat' (first | (exact q) | (refine Ex_step ?_; conv => whnf) | (refine ⟨?_, trivial⟩) | (refine (show den _ _ _ _ _ _ _ _ from ?_); conv => whnf) | (refine ⟨fun c => False.elim (by omega), fun c => ?_⟩) | (refine ⟨fun c => ?_, fun c => False.elim (by omega)⟩) | (refine ⟨by (first | assumption | rfl | (exact Nat.le_of_ble_eq_true rfl) | (exact ⟨fun h01 => absurd h01 (by decide), by first | rfl | assumption⟩) | (exact ⟨fun _ => by decide, by first | rfl | assumption⟩) | (exact ⟨by assumption, by omega, by omega⟩) | (unfold inI; omega) | omega), ?_⟩; conv => whnf) | (refine ⟨fun c => ?_, fun c => ?_⟩) | (intro c) | fail))
          · have z6 := z5.trans (v := v) f6
            have k10_6 := hA6.X; have r55_6 := (hRd.z z6.1 z6.2.1).2; have k55_6 := (hRd.z z6.1 z6.2.1).1
            (repeat' (first | (rw [r55_6]) | (refine Ex_step ?_; conv => whnf) | (refine ⟨?_, trivial⟩) | (refine (show den _ _ _ _ _ _ _ _ from ?_); conv => whnf) | (refine ⟨fun c => False.elim (by omega), fun c => ?_⟩) | (refine ⟨fun c => ?_, fun c => False.elim (by omega)⟩) | (refine ⟨by (first | assumption | rfl | (exact Nat.le_of_ble_eq_true rfl) | (exact ⟨fun h01 => absurd h01 (by decide), by first | rfl | assumption⟩) | (exact ⟨fun _ => by decide, by first | rfl | assumption⟩) | (exact ⟨by assumption, by omega, by omega⟩) | (unfold inI; omega) | omega), ?_⟩; conv => whnf) | (refine ⟨fun c => ?_, fun c => ?_⟩) | fail))
            refine k_semi (by omega) hA6 hr6 (fun x h7 er ff => ?_) (fun e7 h7 hr7 hN7 f7 => ?_)
            · have q := hq0 x h7 er (z6.f ff)
              have g7 := ff.1.trans z6.1
              (repeat' (first | (exact q) | (refine Ex_step ?_; conv => whnf) | (refine ⟨?_, trivial⟩) | (refine (show den _ _ _ _ _ _ _ _ from ?_); conv => whnf) | (refine ⟨fun c => False.elim (by omega), fun c => ?_⟩) | (refine ⟨fun c => ?_, fun c => False.elim (by omega)⟩) | (refine ⟨by (first | assumption | rfl | (exact Nat.le_of_ble_eq_true rfl) | (exact ⟨fun h01 => absurd h01 (by decide), by first | rfl | assumption⟩) | (exact ⟨fun _ => by decide, by first | rfl | assumption⟩) | (exact ⟨by assumption, by omega, by omega⟩) | (unfold inI; omega) | omega), ?_⟩; conv => whnf) | (refine ⟨fun c => ?_, fun c => ?_⟩) | (intro c) | fail))
            · have q := hq1 A6 e7 h7 hr7.symm hN7 (hV6.x (hT.z z6.2.1) hv f7) (z6.trans f7.Z)
              have g7 := f7.1.trans z6.1
              (repeat' (first | (exact q) | (refine Ex_step ?_; conv => whnf) | (refine ⟨?_, trivial⟩) | (refine (show den _ _ _ _ _ _ _ _ from ?_); conv => whnf) | (refine ⟨fun c => False.elim (by omega), fun c => ?_⟩) | (refine ⟨fun c => ?_, fun c => False.elim (by omega)⟩) | (refine ⟨by (first | assumption | rfl | (exact Nat.le_of_ble_eq_true rfl) | (exact ⟨fun h01 => absurd h01 (by decide), by first | rfl | assumption⟩) | (exact ⟨fun _ => by decide, by first | rfl | assumption⟩) | (exact ⟨by assumption, by omega, by omega⟩) | (unfold inI; omega) | omega), ?_⟩; conv => whnf) | (refine ⟨fun c => ?_, fun c => ?_⟩) | (intro c) | fail))
