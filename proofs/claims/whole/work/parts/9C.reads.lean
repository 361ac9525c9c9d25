/-! LEVEL 2: texts: a Viaduct as it is read, the class -/
/-- a Viaduct of nothing -/
def plain0 : Int → Int := fun i => if i = 3 then 3 else if i = 5 then 2 else if i = 7 then -1 else 0
theorem plain0_c : ClrA plain0 := by unfold ClrA plain0; decide
noncomputable def vRd (P : Int → Int) (n : Int) : Nat → Int → (Int → Int) → (Int → Int) → Int → (Int × Int) ⊕ ((Int → Int) × (Int → Int))
  | 0, _, _, _, _ => .inl (0, 0)
  | f + 1, e, A, N, td => if tC P n e = 32 then .inr (A, N) else bd (vPart P n e A N td) (fun q => vRd P n f q.2 q.1.1 q.1.2.1 q.1.2.2)
theorem vRd_s {P : Int → Int} {n : Int} {f : Nat} {e : Int} {A N : Int → Int} {td : Int} : vRd P n (f + 1) e A N td = (if tC P n e = 32 then .inr (A, N) else bd (vPart P n e A N td) (fun q => vRd P n f q.2 q.1.1 q.1.2.1 q.1.2.2)) := rfl
theorem FX.P {v : Nat} {h h' : Mem} (a : FX h h') : FZp v h h' := (a.Z (v := v)).q.p
theorem FZp.refl {v : Nat} {h : Mem} : FZp v h h := FX.refl.P
set_option maxHeartbeats 4000000 in
theorem w_readInto {X : Int → Int} {XL : Int} {d : Nat} {h : Mem} {Q : RetP} {K : Int} {A : Int → Int} {v : Nat} {P : Int → Int} {n : Int} {r : (Int × Int) ⊕ ((Int → Int) × (Int → Int))} (hd : 11 ≤ d) (hRd : Rd h) (hN : Nx h P n 0) (hO : VOk h v) (hT : VAt h v) (hv : 15 ≤ v) (hv2 : v + 12 < 55) (hK : 0 ≤ K ∧ K ≤ 30000000) (hr : vRd P n 901 0 plain0 (gG h (v + 4)) 0 = r) (hq0 : ∀ x h', r = .inl x → FZf v h h' x → Q (some (vI 0)) h') (hq1 : ∀ A' N' h', r = .inr (A', N') → Vr K h' v A' → gG h' (v + 4) = N' → FZp v h h' → Q (some (vI 1)) h') : WP X XL d 76 [vR 55, vR v] h Q := by
  have kv := hO.1
  obtain ⟨k55, r55⟩ := id hRd
  have loop : ∀ (f : Nat) (i e td : Int) (A N : Int → Int) (hj : Mem), i + f = 901 → 0 ≤ i → i ≤ e → 0 ≤ td ∧ td < 8 → vRd P n f e A N td = r → Nx hj P n e → Vr K hj v A → gG hj (v + 4) = N → gG hj 55 1 = td → FZp v h hj → Ex (WP X XL (d - 1)) KX8_readInto h.1 Q 11 [some (vR 55), some (vR v), some (vI i)] [] hj := by
    intro f; induction f with
    | zero =>
      intro i e td A N hj hi h0 hie htb her hNj hVj hNm htd zj
      have := hNj.2.1
      have := hNj.1.2.2.2.2.2.1
      omega
    | succ f ih =>
      intro i e td A N hj hi h0 hie htb her hNj hVj hNm htd zj
      rw [vRd_s] at her
      have k55j := (hRd.z zj.1 zj.2.1).1
      have r55j := (hRd.z zj.1 zj.2.1).2
      have k10j := hNj.1.1.1
      have hTj : VAt hj v := hT.z zj.2.1
      refine Ex_step ?_; conv => whnf
      (repeat' (first | (rw [r55j]) | (refine Ex_step ?_; conv => whnf) | (refine ⟨?_, trivial⟩) | (refine (show den _ _ _ _ _ _ _ _ from ?_); conv => whnf) | (refine ⟨fun c => False.elim (by omega), fun c => ?_⟩) | (refine ⟨fun c => ?_, fun c => False.elim (by omega)⟩) | (refine ⟨by (first | assumption | rfl | (exact Nat.le_of_ble_eq_true rfl) | (exact ⟨fun h01 => absurd h01 (by decide), by first | rfl | assumption⟩) | (exact ⟨fun _ => by decide, by first | rfl | assumption⟩) | (exact ⟨by assumption, by omega, by omega⟩) | (unfold inI; omega) | omega), ?_⟩; conv => whnf) | (refine ⟨fun c => ?_, fun c => ?_⟩) | fail))
      refine w_gather (by omega) hNj (fun h1 hA1 f1 => ?_)
      have z1 := zj.trans f1.P
      have k551 := (hRd.z z1.1 z1.2.1).1
      have r551 := (hRd.z z1.1 z1.2.1).2
      have k101 := hA1.X
      have a1 := hA1.M.2.2.1
      have he1 := hA1.M.2.1
      have hT1 : VAt h1 v := hT.z z1.2.1
      have hV1 : Vr K h1 v A := hVj.x hTj hv f1
      have hNm1 : gG h1 (v + 4) = N := by
        rw [← hNm]
        funext x
        exact (FX.Z f1 : FZ v hj h1).n hv x
      have htd1 : gG h1 55 1 = td := ((FX.Z f1 : FZ v hj h1).td hv2).trans htd
      by_cases c32 : tC P n e = 32
      · rw [if_pos c32] at her
        have q := hq1 A N h1 her.symm hV1 hNm1 z1
        have g1 := z1.1
        (repeat' (first | (exact q) | (rw [r551]) | (rw [a1]) | (refine Ex_step ?_; conv => whnf) | (refine ⟨?_, trivial⟩) | (refine (show den _ _ _ _ _ _ _ _ from ?_); conv => whnf) | (refine ⟨fun c => False.elim (by omega), fun c => ?_⟩) | (refine ⟨fun c => ?_, fun c => False.elim (by omega)⟩) | (refine ⟨by (first | assumption | rfl | (exact Nat.le_of_ble_eq_true rfl) | (exact ⟨fun h01 => absurd h01 (by decide), by first | rfl | assumption⟩) | (exact ⟨fun _ => by decide, by first | rfl | assumption⟩) | (exact ⟨by assumption, by omega, by omega⟩) | (unfold inI; omega) | omega), ?_⟩; conv => whnf) | (refine ⟨fun c => ?_, fun c => ?_⟩) | (intro c) | fail))
      · rw [if_neg c32] at her
        (repeat' (first | (rw [r551]) | (rw [a1]) | (refine Ex_step ?_; conv => whnf) | (refine ⟨?_, trivial⟩) | (refine (show den _ _ _ _ _ _ _ _ from ?_); conv => whnf) | (refine ⟨fun c => False.elim (by omega), fun c => ?_⟩) | (refine ⟨fun c => ?_, fun c => False.elim (by omega)⟩) | (refine ⟨by (first | assumption | rfl | (exact Nat.le_of_ble_eq_true rfl) | (exact ⟨fun h01 => absurd h01 (by decide), by first | rfl | assumption⟩) | (exact ⟨fun _ => by decide, by first | rfl | assumption⟩) | (exact ⟨by assumption, by omega, by omega⟩) | (unfold inI; omega) | omega), ?_⟩; conv => whnf) | (refine ⟨fun c => ?_, fun c => ?_⟩) | fail))
        refine w_takePart (by omega) (hRd.z z1.1 z1.2.1) hA1 htd1 htb hNm1 hV1 hT1 hv hv2 rfl (fun x h2 er ff => ?_) (fun A2 N2 td2 e2 h2 er hN2 hV2 hNm2 htd2 htb2 f2 => ?_)
        · rw [er] at her
          have q := hq0 x h2 her.symm (z1.f ff)
          have g2 := ff.1.trans z1.1
          (repeat' (first | (exact q) | (refine Ex_step ?_; conv => whnf) | (refine ⟨?_, trivial⟩) | (refine (show den _ _ _ _ _ _ _ _ from ?_); conv => whnf) | (refine ⟨fun c => False.elim (by omega), fun c => ?_⟩) | (refine ⟨fun c => ?_, fun c => False.elim (by omega)⟩) | (refine ⟨by (first | assumption | rfl | (exact Nat.le_of_ble_eq_true rfl) | (exact ⟨fun h01 => absurd h01 (by decide), by first | rfl | assumption⟩) | (exact ⟨fun _ => by decide, by first | rfl | assumption⟩) | (exact ⟨by assumption, by omega, by omega⟩) | (unfold inI; omega) | omega), ?_⟩; conv => whnf) | (refine ⟨fun c => ?_, fun c => ?_⟩) | (intro c) | fail))
        · have lt := vPart_lt he1.2 c32 er
          rw [er] at her
          have nx := ih (i + 1) e2 td2 A2 N2 h2 (by omega) (by omega) (by have : e < e2 := lt.1; omega) htb2 her hN2 hV2 hNm2 htd2 (z1.trans f2)
          have g2 := f2.1.trans z1.1
          (repeat' (first | (exact nx) | (refine Ex_step ?_; conv => whnf) | (refine ⟨?_, trivial⟩) | (refine (show den _ _ _ _ _ _ _ _ from ?_); conv => whnf) | (refine ⟨fun c => False.elim (by omega), fun c => ?_⟩) | (refine ⟨fun c => ?_, fun c => False.elim (by omega)⟩) | (refine ⟨by (first | assumption | rfl | (exact Nat.le_of_ble_eq_true rfl) | (exact ⟨fun h01 => absurd h01 (by decide), by first | rfl | assumption⟩) | (exact ⟨fun _ => by decide, by first | rfl | assumption⟩) | (exact ⟨by assumption, by omega, by omega⟩) | (unfold inI; omega) | omega), ?_⟩; conv => whnf) | (refine ⟨fun c => ?_, fun c => ?_⟩) | (intro c) | fail))
  have l0 : ∀ h1, (∀ K B, 0 ≤ K ∧ K ≤ 30000000 → ClrA B → Vr K h1 v B) → Fr (VP v) h h1 → Ex (WP X XL (d - 1)) KX8_readInto h.1 Q 11 [some (vR 55), some (vR v), some (vI 0)] [] (sG h1 55 1 0) := fun h1 cl f1 => by
    have z1 := (f1.Z : FZ v h h1)
    have hT1 : VAt h1 v := hT.z z1.2.1
    have zs : FZp v h1 (sG h1 55 1 0) := ⟨rfl, rfl, fun r i _ _ _ q => by rw [gG_sG, if_neg q]⟩
    refine loop 901 0 0 0 plain0 (gG h (v + 4)) _ (by omega) (by omega) (by omega) (by omega) hr (hN.o (by exact f1.1) (fun i => gR_fr f1 10 i) (fun r i _ q _ => by rw [gG_sG, if_neg (by omega)]; exact f1.2.2 r (by unfold VP; omega) i)) ((cl K plain0 hK plain0_c).eq (by exact rfl) (fun _ => by exact rfl) hT1 (fun r i x y => by rw [gG_sG, if_neg (by omega)])) ?_ g_same (z1.q.p.trans zs)
    funext x
    rw [gG_sG, if_neg (by omega)]
    exact z1.n hv x
  refine eX8_readInto (by omega) ?_
  (repeat' (first | (exact l0 h1 cl f1) | (refine w_clear (by omega) hO (fun h1 cl f1 => ?_); have k551 : kd h1 55 = 8 := (kd_fr f1 55).trans k55) | (refine Ex_step ?_; conv => whnf) | (refine ⟨?_, trivial⟩) | (refine (show den _ _ _ _ _ _ _ _ from ?_); conv => whnf) | (refine ⟨fun c => False.elim (by omega), fun c => ?_⟩) | (refine ⟨fun c => ?_, fun c => False.elim (by omega)⟩) | (refine ⟨by (first | assumption | rfl | (exact Nat.le_of_ble_eq_true rfl) | (exact ⟨fun h01 => absurd h01 (by decide), by first | rfl | assumption⟩) | (exact ⟨fun _ => by decide, by first | rfl | assumption⟩) | (exact ⟨by assumption, by omega, by omega⟩) | (unfold inI; omega) | omega), ?_⟩; conv => whnf) | (refine ⟨fun c => ?_, fun c => ?_⟩) | (intro c) | fail))
