/-! LEVEL 2: mean -/
theorem lrmZ_e {a b : Int} (ha0 : 0 ≤ a) (ha1 : a ≤ 2147483647) (hb0 : 0 < b) (hb1 : b ≤ 2147483647) : lrmZ a b = a % b := by
  have ia : inL a := ⟨by omega, by omega⟩
  have ib : inL b := ⟨by omega, by omega⟩
  have hne : Int64.ofInt a ≠ Int64.minValue := fun e => by
    have := congrArg Int64.toInt e
    rw [i64_to ia, Int64.toInt_minValue] at this
    omega
  have hd : (Int64.ofInt a / Int64.ofInt b).toInt = a / b := by
    rw [Int64.toInt_div_of_ne_left _ _ hne, i64_to ia, i64_to ib, Int.tdiv_eq_ediv_of_nonneg ha0]
  have hm : a - a / b * b = a % b := by rw [Int.emod_def, Int.mul_comm]
  have hm0 := Int.emod_nonneg a (show b ≠ 0 by omega)
  have hm1 := Int.emod_lt_of_pos a hb0
  unfold lrmZ
  rw [← Int64.ofInt_toInt (Int64.ofInt a / Int64.ofInt b), hd, ← Int64.ofInt_mul, ← Int64.ofInt_sub, hm]
  exact i64_to ⟨by omega, by omega⟩
theorem eu_small : ∀ (k : Nat) (a b : Int), 0 ≤ a → a ≤ 2147483647 → 0 ≤ b → b ≤ k → b ≤ 2147483647 → (0 < a ∨ 0 < b) → ∃ g, eu k a b = some g ∧ 0 < g := by
  intro k; induction k with
  | zero =>
    intro a b h0 h1 h2 h3 h4 h5
    exact ⟨a, if_pos (by omega), by omega⟩
  | succ k ih =>
    intro a b h0 h1 h2 h3 h4 h5
    by_cases e : b = 0
    · exact ⟨a, if_pos e, by omega⟩
    · rw [show eu (k + 1) a b = eu k b (lrmZ a b) from if_neg e, lrmZ_e h0 h1 (by omega) h4]
      have hm0 := Int.emod_nonneg a e
      have hm1 := Int.emod_lt_of_pos a (show 0 < b by omega)
      exact ih b (a % b) (by omega) h4 hm0 (by omega) (by omega) (by omega)
theorem eu_mean {a b : Int} (h0 : 0 ≤ a) (h1 : a ≤ 100000) (h2 : 1 ≤ b) (h3 : b ≤ 90) : eu 90 a b = some (gE a b) ∧ 0 < gE a b := by
  obtain ⟨g, hg, hp⟩ := eu_small 90 a b h0 (by omega) (by omega) (by omega) (by omega) (by omega)
  refine eu_ok ?_
  unfold euOK
  rw [hg]
  exact decide_eq_true hp
theorem tot_3 {K : Int} {A : Int → Int} (hA : AOk K A) : 0 ≤ totA A 3 ∧ totA A 3 ≤ 54 := by
  have b0 := hA.1
  have := totA_b (w := 3) (B := 9) hA (by omega) (fun p h0 h1 => by
    obtain ⟨f0, f1, f2, f3, f4, f5⟩ := hA.2.2.2.2.2.2.2.2.2.2.1 p h0 h1
    omega)
  omega
/-- lives of so many seeds: arches behind all, rounds left -/
noncomputable def mnF (R : Int → Int → Int) (N : Int) (A : Int → Int) (sd : Int) : Nat → Int → (Int → Int) → Int → Int × (Int → Int)
  | 0, _, L, s => (s, L)
  | k + 1, i, L, s => mnF R N A sd k (i + 1) (rwN R N 10000 A (sd + i) L 0 0 0).2.2.1 (s + totA (rwN R N 10000 A (sd + i) L 0 0 0).1 3)
theorem mn_s {R : Int → Int → Int} {N : Int} {A : Int → Int} {sd : Int} {k : Nat} {i : Int} {L : Int → Int} {s : Int} : mnF R N A sd (k + 1) i L s = mnF R N A sd k (i + 1) (rwN R N 10000 A (sd + i) L 0 0 0).2.2.1 (s + totA (rwN R N 10000 A (sd + i) L 0 0 0).1 3) := rfl
/-- what a mean changes, the class -/
def FrMc (s : Nat) (h h' : Mem) : Prop := h'.1 = h.1 ∧ (∀ r i, ¬ (r = 124 ∧ (i = 5 ∨ i = 6)) → gR h' r i = gR h r i) ∧ ∀ r i, ¬ VQ s r → ¬ r = 124 → ¬ r = 125 → gG h' r i = gG h r i
theorem FrMc.refl {s : Nat} {h : Mem} : FrMc s h h := ⟨rfl, fun _ _ _ => rfl, fun _ _ _ _ _ => rfl⟩
theorem FrMc.trans {s : Nat} {h h' h'' : Mem} (a : FrMc s h h') (b : FrMc s h' h'') : FrMc s h h'' := ⟨b.1.trans a.1, fun r i q => (b.2.1 r i q).trans (a.2.1 r i q), fun r i p q t => (b.2.2 r i p q t).trans (a.2.2 r i p q t)⟩
theorem FrMc.q {s : Nat} {h h' : Mem} (a : Fr (VQ s) h h') : FrMc s h h' := ⟨a.1, fun r i _ => gR_fr a r i, fun r i p _ _ => a.2.2 r p i⟩
theorem FrMc.l {s : Nat} {h h' : Mem} (a : FrLf s h h') : FrMc s h h' := ⟨a.1, a.2.1, fun r i p q t => a.2.2 r i (fun e => p ⟨e.1, e.2.1⟩) q t⟩
set_option maxHeartbeats 4000000 in
theorem c_meanN {X : Int → Int} {XL : Int} {d : Nat} {h : Mem} {Q : RetP} {K : Int} {A : Int → Int} {v : Nat} {st : Nat} {sd many : Int} (hd : 2 ≤ d) (hC : Cls K v h A) (r9 : gR h 0 9 = st) (ks : kd h st = 3) (hi : inI sd ∧ inI many) (hb : ¬ ((0 ≤ sd ∧ sd ≤ 9999) ∧ (1 ≤ many ∧ many ≤ 20) ∧ sd + many - 1 ≤ 9999) ∨ gG h st 0 = 0) (hq : Q (some (vI 0)) (sG h 0 0 (if (0 ≤ sd ∧ sd ≤ 9999) ∧ (1 ≤ many ∧ many ≤ 20) ∧ sd + many - 1 ≤ 9999 then 6 else 1))) : WP X XL d 171 [vR 0, vI sd, vI many] h Q := by
  obtain ⟨⟨k00, r7, hT⟩, hV⟩ := id hC; have kn := hV.1.1; have hA := hV.2.2
  refine eX9_mean (by omega) ?_
  by_cases c0 : (0 ≤ sd ∧ sd ≤ 9999) ∧ (1 ≤ many ∧ many ≤ 20) ∧ sd + many - 1 ≤ 9999
  · rw [if_pos c0] at hq
    have t0 : gG h st 0 = 0 := by omega
    (repeat' (first | (exact hq) | (rw [r9]) | (rw [t0]) | (refine w_within (by omega) (fun c => ?_) (fun c => False.elim (by omega))) | (refine w_within (by omega) (fun c => False.elim (by omega)) (fun c => ?_)) | (refine w_within (by omega) (fun c => ?_) (fun c => ?_)) | (refine w_not (by omega) k00 ?_) | (refine Ex_step ?_; conv => whnf) | (refine ⟨?_, trivial⟩) | (refine (show den _ _ _ _ _ _ _ _ from ?_); conv => whnf) | (refine ⟨fun c => False.elim (by omega), fun c => ?_⟩) | (refine ⟨fun c => ?_, fun c => False.elim (by omega)⟩) | (refine ⟨by (first | assumption | rfl | (exact Nat.le_of_ble_eq_true rfl) | (exact ⟨fun h01 => absurd h01 (by decide), by first | rfl | assumption⟩) | (exact ⟨fun _ => by decide, by first | rfl | assumption⟩) | (exact ⟨by assumption, by omega, by omega⟩) | (unfold inI; omega) | omega), ?_⟩; conv => whnf) | (refine ⟨fun c => ?_, fun c => ?_⟩) | (intro c) | fail))
  · rw [if_neg c0] at hq
    by_cases c1 : 0 ≤ sd ∧ sd ≤ 9999
    · by_cases c2 : 1 ≤ many ∧ many ≤ 20
      · (repeat' (first | (exact hq) | (refine w_within (by omega) (fun c => ?_) (fun c => False.elim (by omega))) | (refine w_within (by omega) (fun c => False.elim (by omega)) (fun c => ?_)) | (refine w_within (by omega) (fun c => ?_) (fun c => ?_)) | (refine w_not (by omega) k00 ?_) | (refine Ex_step ?_; conv => whnf) | (refine ⟨?_, trivial⟩) | (refine (show den _ _ _ _ _ _ _ _ from ?_); conv => whnf) | (refine ⟨fun c => False.elim (by omega), fun c => ?_⟩) | (refine ⟨fun c => ?_, fun c => False.elim (by omega)⟩) | (refine ⟨by (first | assumption | rfl | (exact Nat.le_of_ble_eq_true rfl) | (exact ⟨fun h01 => absurd h01 (by decide), by first | rfl | assumption⟩) | (exact ⟨fun _ => by decide, by first | rfl | assumption⟩) | (exact ⟨by assumption, by omega, by omega⟩) | (unfold inI; omega) | omega), ?_⟩; conv => whnf) | (refine ⟨fun c => ?_, fun c => ?_⟩) | (intro c) | fail))
      · (repeat' (first | (exact hq) | (refine w_within (by omega) (fun c => ?_) (fun c => False.elim (by omega))) | (refine w_within (by omega) (fun c => False.elim (by omega)) (fun c => ?_)) | (refine w_within (by omega) (fun c => ?_) (fun c => ?_)) | (refine w_not (by omega) k00 ?_) | (refine Ex_step ?_; conv => whnf) | (refine ⟨?_, trivial⟩) | (refine (show den _ _ _ _ _ _ _ _ from ?_); conv => whnf) | (refine ⟨fun c => False.elim (by omega), fun c => ?_⟩) | (refine ⟨fun c => ?_, fun c => False.elim (by omega)⟩) | (refine ⟨by (first | assumption | rfl | (exact Nat.le_of_ble_eq_true rfl) | (exact ⟨fun h01 => absurd h01 (by decide), by first | rfl | assumption⟩) | (exact ⟨fun _ => by decide, by first | rfl | assumption⟩) | (exact ⟨by assumption, by omega, by omega⟩) | (unfold inI; omega) | omega), ?_⟩; conv => whnf) | (refine ⟨fun c => ?_, fun c => ?_⟩) | (intro c) | fail))
    · (repeat' (first | (exact hq) | (refine w_within (by omega) (fun c => ?_) (fun c => False.elim (by omega))) | (refine w_within (by omega) (fun c => False.elim (by omega)) (fun c => ?_)) | (refine w_within (by omega) (fun c => ?_) (fun c => ?_)) | (refine w_not (by omega) k00 ?_) | (refine Ex_step ?_; conv => whnf) | (refine ⟨?_, trivial⟩) | (refine (show den _ _ _ _ _ _ _ _ from ?_); conv => whnf) | (refine ⟨fun c => False.elim (by omega), fun c => ?_⟩) | (refine ⟨fun c => ?_, fun c => False.elim (by omega)⟩) | (refine ⟨by (first | assumption | rfl | (exact Nat.le_of_ble_eq_true rfl) | (exact ⟨fun h01 => absurd h01 (by decide), by first | rfl | assumption⟩) | (exact ⟨fun _ => by decide, by first | rfl | assumption⟩) | (exact ⟨by assumption, by omega, by omega⟩) | (unfold inI; omega) | omega), ?_⟩; conv => whnf) | (refine ⟨fun c => ?_, fun c => ?_⟩) | (intro c) | fail))
set_option maxHeartbeats 4000000 in
theorem c_mean {X : Int → Int} {XL : Int} {d : Nat} {h : Mem} {Q : RetP} {K : Int} {A : Int → Int} {v : Nat} {st sp : Nat} {R : Int → Int → Int} {N sd many : Int} {L : Int → Int} (hd : 12 ≤ d) (hC : Cls K v h A) (hK : K + 25000 ≤ 30000000) (hDc : DcC h v st) (hP : SPv h v sp) (hsp : st + 6 < sp ∨ sp + 12 < st) (hD : DcS h st R N) (hN : 0 ≤ N ∧ N ≤ 60) (hVR : ∀ k, 0 ≤ k → k < N → VRow A R N k) (hL : LRel h L) (hok : (0 ≤ sd ∧ sd ≤ 9999) ∧ (1 ≤ many ∧ many ≤ 20) ∧ sd + many - 1 ≤ 9999) (fin : ∀ h2, FrMc sp h h2 → VOk h2 sp → LRel h2 (mnF R N A sd many.toNat 0 L 0).2 → Q (some (vI 1)) (sG (sG (sG h2 0 1 (ldvZ (mnF R N A sd many.toNat 0 L 0).1 (gE (mnF R N A sd many.toNat 0 L 0).1 many))) 0 2 (ldvZ many (gE (mnF R N A sd many.toNat 0 L 0).1 many))) 0 0 0)) : WP X XL d 171 [vR 0, vI sd, vI many] h Q := by
  obtain ⟨⟨k00, r7, hT⟩, hV⟩ := id hC; have kn := hV.1.1; have hA := hV.2.2
  obtain ⟨r9, ⟨r16, kl, r3, k125, l125⟩, hSo, ⟨r17, k126, l126⟩, ⟨c1, c2, c3, c4, c5⟩⟩ := id hDc
  obtain ⟨r8, sV, sT, sn, s120, s1⟩ := id hP
  have ks := hSo.1
  have t0 := hD.1
  have loop : ∀ (k : Nat) (i s : Int) (Lj : Int → Int) (hj : Mem), many - i = k → 0 ≤ i → 0 ≤ s ∧ s ≤ 54 * i → mnF R N A sd k i Lj s = mnF R N A sd many.toNat 0 L 0 → FrMc sp h hj → VOk hj sp → LRel hj Lj → Ex (WP X XL (d - 1)) KX9_mean h.1 Q 63 [some (vR 0), some (vI sd), some (vI many), some (vL s), none, some (vI i)] [] hj := by
    intro k; induction k with
    | zero =>
      intro i s Lj hj hk hi hs he fj vj lj
      rw [← he] at fin
      have e1 := fin hj fj vj lj
      obtain ⟨eu1, eu2⟩ := eu_mean (a := s) (b := many) (by omega) (by omega) (by omega) (by omega)
      have k0j : kd hj 0 = 9 := by unfold kd; rw [fj.1]; exact k00
      have gj := fj.1
      (repeat' (first | (exact e1) | (refine w_tell (by omega) k0j eu1 eu2 ?_) | (refine w_yes (by omega) k0j ?_) | (refine Ex_step ?_; conv => whnf) | (refine ⟨?_, trivial⟩) | (refine (show den _ _ _ _ _ _ _ _ from ?_); conv => whnf) | (refine ⟨fun c => False.elim (by omega), fun c => ?_⟩) | (refine ⟨fun c => ?_, fun c => False.elim (by omega)⟩) | (refine ⟨by (first | assumption | rfl | (exact Nat.le_of_ble_eq_true rfl) | (exact ⟨fun h01 => absurd h01 (by decide), by first | rfl | assumption⟩) | (exact ⟨fun _ => by decide, by first | rfl | assumption⟩) | (exact ⟨by assumption, by omega, by omega⟩) | (unfold inI; omega) | omega), ?_⟩; conv => whnf) | (refine ⟨fun c => ?_, fun c => ?_⟩) | (intro c) | fail))
    | succ k ih =>
      intro i s Lj hj hk hi hs he fj vj lj
      rw [mn_s] at he
      have k0j : kd hj 0 = 9 := by unfold kd; rw [fj.1]; exact k00
      have gj := fj.1
      have r8j := (fj.2.1 0 8 (by omega)).trans r8
      have r7j := (fj.2.1 0 7 (by omega)).trans r7
      have ksj := vj.1
      have hVj : Vr K hj v A := hV.eq gj (fun i => fj.2.1 v i (by omega)) hT (fun r i a b => fj.2.2 r i (by unfold VQ; omega) (by omega) (by omega))
      have hTj : VAt hj v := hT.eq (fun i => fj.2.1 v i (by omega))
      have sTj : VAt hj sp := sT.eq (fun i => fj.2.1 sp i (by omega))
      refine Ex_step ?_; conv => whnf
      (repeat' (first | (rw [r8j]) | (rw [r7j]) | (refine w_takeOver (by omega) hVj hTj vj sTj sn (fun h1 hV1 f1 nm1 => ?_)) | (refine Ex_step ?_; conv => whnf) | (refine ⟨?_, trivial⟩) | (refine (show den _ _ _ _ _ _ _ _ from ?_); conv => whnf) | (refine ⟨fun c => False.elim (by omega), fun c => ?_⟩) | (refine ⟨fun c => ?_, fun c => False.elim (by omega)⟩) | (refine ⟨by (first | assumption | rfl | (exact Nat.le_of_ble_eq_true rfl) | (exact ⟨fun h01 => absurd h01 (by decide), by first | rfl | assumption⟩) | (exact ⟨fun _ => by decide, by first | rfl | assumption⟩) | (exact ⟨by assumption, by omega, by omega⟩) | (unfold inI; omega) | omega), ?_⟩; conv => whnf) | (refine ⟨fun c => ?_, fun c => ?_⟩) | fail))
      have f1m := fj.trans (FrMc.q f1)
      have g1 := f1m.1
      have k01 : kd h1 0 = 9 := by unfold kd; rw [g1]; exact k00
      have r161 := (f1m.2.1 0 16 (by omega)).trans r16
      have r81 := (f1m.2.1 0 8 (by omega)).trans r8
      have r91 := (f1m.2.1 0 9 (by omega)).trans r9
      have kl1 : kd h1 124 = 2 := by unfold kd; rw [g1]; exact kl
      have sT1 : VAt h1 sp := sT.eq (fun i => f1m.2.1 sp i (by omega))
      have hS1 : SOk h1 st := hSo.eq g1 (fun i => f1m.2.1 st i (by omega))
      have hD1 : DcS h1 st R N := hD.c (fun r i a b => f1m.2.2 r i (by unfold VQ; omega) (by omega) (by omega))
      have lj1 : LRel h1 Lj := lj.c (fun i => f1.2.2 125 (by unfold VQ; omega) i)
      have lf : ∀ (d' : Nat) (Q' : RetP), 10 ≤ d' → (∀ h2, FrLf sp h1 h2 → Vr (K + 24900) h2 sp (rwN R N 10000 A (sd + i) Lj 0 0 0).1 → LRel h2 (rwN R N 10000 A (sd + i) Lj 0 0 0).2.2.1 → Q' none h2) → WP X XL d' 109 [vR 124, vR sp, vR st, vI (sd + i)] h1 Q' := fun d' Q' a b => w_life a hN (by omega) hV1 sT1 ⟨s120, c2, hsp⟩ kl1 ((f1m.2.1 124 3 (by omega)).trans r3) (by unfold kd; rw [g1]; exact k125) (by unfold ln; rw [g1]; exact l125) hS1 hD1 lj1 hVR (by omega) (fun h2 x1 x2 x3 _ _ _ _ => b h2 x1 x2 x3)
      (repeat' (first | (rw [r161]) | (rw [r81]) | (rw [r91]) | (refine lf _ _ (by omega) (fun h2 f2 hV2 hL2 => ?_)) | (refine Ex_step ?_; conv => whnf) | (refine ⟨?_, trivial⟩) | (refine (show den _ _ _ _ _ _ _ _ from ?_); conv => whnf) | (refine ⟨fun c => False.elim (by omega), fun c => ?_⟩) | (refine ⟨fun c => ?_, fun c => False.elim (by omega)⟩) | (refine ⟨by (first | assumption | rfl | (exact Nat.le_of_ble_eq_true rfl) | (exact ⟨fun h01 => absurd h01 (by decide), by first | rfl | assumption⟩) | (exact ⟨fun _ => by decide, by first | rfl | assumption⟩) | (exact ⟨by assumption, by omega, by omega⟩) | (unfold inI; omega) | omega), ?_⟩; conv => whnf) | (refine ⟨fun c => ?_, fun c => ?_⟩) | fail))
      have f2m := f1m.trans (FrMc.l f2)
      have g2 := f2m.1
      have k02 : kd h2 0 = 9 := by unfold kd; rw [g2]; exact k00
      have r82 := (f2m.2.1 0 8 (by omega)).trans r8
      have ks2 := hV2.1.1
      have t3 := tot_3 hV2.2.2
      have n := ih (i + 1) (s + totA (rwN R N 10000 A (sd + i) Lj 0 0 0).1 3) _ h2 (by omega) (by omega) (by omega) he f2m hV2.1 hL2
      rw [← ladZ_e (a := s) (by unfold inI; omega) (by unfold inI; omega)] at n
      (repeat' (first | (exact n) | (rw [r82]) | (refine w_behindAll (by omega) hV2 ?_) | (refine Ex_step ?_; conv => whnf) | (refine ⟨?_, trivial⟩) | (refine (show den _ _ _ _ _ _ _ _ from ?_); conv => whnf) | (refine ⟨fun c => False.elim (by omega), fun c => ?_⟩) | (refine ⟨fun c => ?_, fun c => False.elim (by omega)⟩) | (refine ⟨by (first | assumption | rfl | (exact Nat.le_of_ble_eq_true rfl) | (exact ⟨fun h01 => absurd h01 (by decide), by first | rfl | assumption⟩) | (exact ⟨fun _ => by decide, by first | rfl | assumption⟩) | (exact ⟨by assumption, by omega, by omega⟩) | (unfold inI; omega) | omega), ?_⟩; conv => whnf) | (refine ⟨fun c => ?_, fun c => ?_⟩) | (intro c) | fail))
  have l0 := loop many.toNat 0 0 L h (by omega) (by omega) (by omega) rfl FrMc.refl sV hL
  refine eX9_mean (by omega) ?_
  (repeat' (first | (exact l0) | (rw [r9]) | (rw [t0]) | (refine w_within (by omega) (fun c => ?_) (fun c => False.elim (by omega))) | (refine w_within (by omega) (fun c => False.elim (by omega)) (fun c => ?_)) | (refine w_within (by omega) (fun c => ?_) (fun c => ?_)) | (refine Ex_step ?_; conv => whnf) | (refine ⟨?_, trivial⟩) | (refine (show den _ _ _ _ _ _ _ _ from ?_); conv => whnf) | (refine ⟨fun c => False.elim (by omega), fun c => ?_⟩) | (refine ⟨fun c => ?_, fun c => False.elim (by omega)⟩) | (refine ⟨by (first | assumption | rfl | (exact Nat.le_of_ble_eq_true rfl) | (exact ⟨fun h01 => absurd h01 (by decide), by first | rfl | assumption⟩) | (exact ⟨fun _ => by decide, by first | rfl | assumption⟩) | (exact ⟨by assumption, by omega, by omega⟩) | (unfold inI; omega) | omega), ?_⟩; conv => whnf) | (refine ⟨fun c => ?_, fun c => ?_⟩) | (intro c) | fail))
