/-! LEVEL 2: marks of the class; calls that only show -/
def mv (i : Int) : Nat := 60 + 20 * i.toNat
def ms (i : Int) : Nat := 73 + 20 * i.toNat
def MKC (h : Mem) : Prop := (kd h 0 = 9 ∧ gR h 0 11 = 58 ∧ kd h 58 = 105 ∧ ln h 58 = 3 ∧ gR h 0 12 = 59 ∧ kd h 59 = 106 ∧ ln h 59 = 3) ∧ ∀ i, 0 ≤ i → i < 3 → gR h 58 i = mv i ∧ gR h 59 i = ms i ∧ VOk h (mv i) ∧ VAt h (mv i) ∧ SOk h (ms i)
theorem MKC.eq {h h' : Mem} (e1 : h'.1 = h.1) (e2 : h'.2.2 = h.2.2) (q : MKC h) : MKC h' := by
  have er : ∀ r i, gR h' r i = gR h r i := fun r i => by unfold gR; rw [e2]
  have ek : ∀ r, kd h' r = kd h r := fun r => by unfold kd; rw [e1]
  have el : ∀ r, ln h' r = ln h r := fun r => by unfold ln; rw [e1]
  obtain ⟨⟨a1, a2, a3, a4, a5, a6, a7⟩, hh⟩ := q
  refine ⟨⟨(ek _).trans a1, (er _ _).trans a2, (ek _).trans a3, (el _).trans a4, (er _ _).trans a5, (ek _).trans a6, (el _).trans a7⟩, fun i h0 h1 => ?_⟩
  obtain ⟨b1, b2, b3, b4, b5⟩ := hh i h0 h1
  exact ⟨(er _ _).trans b1, (er _ _).trans b2, b3.eq e1 (er _), b4.eq (er _), b5.eq e1 (er _)⟩
set_option maxHeartbeats 4000000 in
theorem c_mark {X : Int → Int} {XL : Int} {d : Nat} {h : Mem} {Q : RetP} {K : Int} {A : Int → Int} {n st : Nat} {m : Int} {T : Nat → Int → Int} (hd : 9 ≤ d) (hC : Cls K n h A) (hn : 1 ≤ n ∧ n + 12 < 58) (hM : MKC h) (r9 : gR h 0 9 = st) (hst : 1 ≤ st ∧ st + 6 < 58) (hsn : st + 6 < n ∨ n + 12 < st) (hso : SOk h st) (hm : gG h 0 13 = m) (hb : 0 ≤ m ∧ m ≤ 3) (hSC : SC h st T) (hT0 : T 0 0 = 0 ∨ T 0 0 = 1) (hq0 : m = 3 → Q (some (vI (-1))) (sG h 0 0 4)) (hq1 : m < 3 → ∀ h', Vr K h' (mv m) A → (∀ i, 0 ≤ i → i < 6 → gG h' (mv m + 4) i = gG h (n + 4) i) → SC h' (ms m) T → Fr (fun r => mv m ≤ r ∧ r ≤ mv m + 19) h h' → Q (some (vI (m + 1))) (sG (sG h' 0 13 (m + 1)) 0 0 0)) : WP X XL d 172 [vR 0] h Q := by
  obtain ⟨⟨k00, r7, hT⟩, hV⟩ := id hC; have kn := hV.1.1; have hA := hV.2.2
  obtain ⟨⟨-, r11, k58, l58, r12, k59, l59⟩, hh⟩ := id hM
  refine eX9_mark (by omega) ?_
  by_cases c3 : m = 3
  · (repeat' (first | (rw [hm]) | (refine w_given (by omega) k00 ?_) | (refine w_none (by omega) k00 ?_) | (refine Ex_step ?_; conv => whnf) | (refine ⟨?_, trivial⟩) | (refine (show den _ _ _ _ _ _ _ _ from ?_); conv => whnf) | (refine ⟨fun c => False.elim (by omega), fun c => ?_⟩) | (refine ⟨fun c => ?_, fun c => False.elim (by omega)⟩) | (refine ⟨by (first | assumption | rfl | (exact Nat.le_of_ble_eq_true rfl) | (exact ⟨fun h01 => absurd h01 (by decide), by first | rfl | assumption⟩) | (exact ⟨fun _ => by decide, by first | rfl | assumption⟩) | (exact ⟨by assumption, by omega, by omega⟩) | (unfold inI; omega) | omega), ?_⟩; conv => whnf) | (refine ⟨fun c => ?_, fun c => ?_⟩) | (intro c) | fail))
    exact hq0 c3
  · have hq1 := hq1 (by omega)
    obtain ⟨b1, b2, b3, b4, b5⟩ := hh m hb.1 (by omega)
    have emv : mv m + 13 = ms m := by unfold mv ms; omega
    have emv0 : 60 ≤ mv m := by unfold mv; omega
    have kmv := b3.1
    have kms := b5.1
    have kst := hso.1
    (repeat' (first | (rw [hm]) | (rw [r11]) | (rw [b1]) | (rw [r7]) | (rw [e13]) | (rw [y12]) | (rw [y59]) | (rw [y9]) | (rw [e132]) | (rw [g_same]) | (refine w_takeOver (by omega) hV hT b3 b4 (by omega) (fun h1 hV1 f1 nm1 => ?_); have k1 := (kd_fr f1 0).trans k00; have e13 : gG h1 0 13 = m := (f1.2.2 0 (by unfold VQ; omega) 13).trans hm; have y12 := (gR_fr f1 0 12).trans r12; have y59 := (gR_fr f1 59 m).trans b2; have y9 := (gR_fr f1 0 9).trans r9; have yk59 := (kd_fr f1 59).trans k59; have yl59 := (ln_fr f1 59).trans l59; have kms1 := (kd_fr f1 (ms m)).trans kms) | (refine w_sTake (by omega) (b5.eq f1.1 (fun i => gR_fr f1 _ i)) (hso.eq f1.1 (fun i => gR_fr f1 _ i)) (by omega) (hSC.eq (fun r i h0 h1 => f1.2.2 r (by unfold VQ; omega) i)) hT0 (fun h2 sc2 f2 => ?_); have k2 := (kd_fr f2 0).trans k1; have e132 : gG h2 0 13 = m := (f2.2.2 0 (by unfold SP; omega) 13).trans e13; have g2 : h2.1 = h.1 := f2.1.trans f1.1) | (refine w_given (by omega) k2 ?_) | (refine Ex_step ?_; conv => whnf) | (refine ⟨?_, trivial⟩) | (refine (show den _ _ _ _ _ _ _ _ from ?_); conv => whnf) | (refine ⟨fun c => False.elim (by omega), fun c => ?_⟩) | (refine ⟨fun c => ?_, fun c => False.elim (by omega)⟩) | (refine ⟨by (first | assumption | rfl | (exact Nat.le_of_ble_eq_true rfl) | (exact ⟨fun h01 => absurd h01 (by decide), by first | rfl | assumption⟩) | (exact ⟨fun _ => by decide, by first | rfl | assumption⟩) | (exact ⟨by assumption, by omega, by omega⟩) | (unfold inI; omega) | omega), ?_⟩; conv => whnf) | (refine ⟨fun c => ?_, fun c => ?_⟩) | (intro c) | fail))
    refine hq1 h2 (hV1.fr f2 (VAt_fr f1 b4) (fun r h0 h1 => by unfold SP; omega)) (fun i i0 i1 => (f2.2.2 _ (by unfold SP; omega) i).trans (nm1 i i0 i1)) sc2 ((f1.mono (fun r q => ?_)).trans (f2.mono (fun r q => ?_)))
    · unfold VQ at q; omega
    · unfold SP at q; omega
set_option maxHeartbeats 4000000 in
theorem c_undo {X : Int → Int} {XL : Int} {d : Nat} {h : Mem} {Q : RetP} {K : Int} {A : Int → Int} {n st : Nat} {m : Int} {T : Nat → Int → Int} (hd : 9 ≤ d) (hC : Cls K n h A) (hn : 1 ≤ n ∧ n + 12 < 58) (hM : MKC h) (r9 : gR h 0 9 = st) (hst : 1 ≤ st ∧ st + 6 < 58) (hsn : st + 6 < n ∨ n + 12 < st) (hso : SOk h st) (hm : gG h 0 13 = m) (hb : 0 ≤ m ∧ m ≤ 3) {B : Int → Int} (hVm : 0 < m → Vr K h (mv (m - 1)) B) (hSC : 0 < m → SC h (ms (m - 1)) T) (hT0 : 0 < m → T 0 0 = 0 ∨ T 0 0 = 1) (hq0 : m = 0 → Q (some (vI (-1))) (sG h 0 0 6)) (hq1 : 0 < m → ∀ h', Vr K h' n B → (∀ i, 0 ≤ i → i < 6 → gG h' (n + 4) i = gG h (mv (m - 1) + 4) i) → SC h' st T → Fr (fun r => VQ n r ∨ SP st r) (sG h 0 13 (m - 1)) h' → Q (some (vI (m - 1))) (sG h' 0 0 0)) : WP X XL d 173 [vR 0] h Q := by
  obtain ⟨⟨k00, r7, hT⟩, hV⟩ := id hC; have kn := hV.1.1; have hA := hV.2.2
  obtain ⟨⟨-, r11, k58, l58, r12, k59, l59⟩, hh⟩ := id hM
  refine eX9_undo (by omega) ?_
  by_cases c3 : m = 0
  · (repeat' (first | (rw [hm]) | (refine w_given (by omega) k00 ?_) | (refine w_none (by omega) k00 ?_) | (refine Ex_step ?_; conv => whnf) | (refine ⟨?_, trivial⟩) | (refine (show den _ _ _ _ _ _ _ _ from ?_); conv => whnf) | (refine ⟨fun c => False.elim (by omega), fun c => ?_⟩) | (refine ⟨fun c => ?_, fun c => False.elim (by omega)⟩) | (refine ⟨by (first | assumption | rfl | (exact Nat.le_of_ble_eq_true rfl) | (exact ⟨fun h01 => absurd h01 (by decide), by first | rfl | assumption⟩) | (exact ⟨fun _ => by decide, by first | rfl | assumption⟩) | (exact ⟨by assumption, by omega, by omega⟩) | (unfold inI; omega) | omega), ?_⟩; conv => whnf) | (refine ⟨fun c => ?_, fun c => ?_⟩) | (intro c) | fail))
    exact hq0 c3
  · have hq1 := hq1 (by omega)
    have hVm := hVm (by omega)
    have hSC := hSC (by omega)
    have hT0 := hT0 (by omega)
    obtain ⟨b1, b2, b3, b4, b5⟩ := hh (m - 1) (by omega) (by omega)
    have emv : mv (m - 1) + 13 = ms (m - 1) := by unfold mv ms; omega
    have emv0 : 60 ≤ mv (m - 1) := by unfold mv; omega
    have f0 : Fr (fun r => r = 0) h (sG h 0 13 (m - 1)) := Fr.refl.sG rfl
    have hVm0 := hVm.fr f0 b4 (fun r h0 h1 => by omega)
    have kst := hso.1
    have e130 : gG (sG h 0 13 (m - 1)) 0 13 = m - 1 := g_same
    (repeat' (first | (rw [hm]) | (rw [gR_sG]) | (rw [e130]) | (rw [r11]) | (rw [b1]) | (rw [r7]) | (rw [e13]) | (rw [y12]) | (rw [y59]) | (rw [y9]) | (rw [e132]) | (refine w_takeOver (by omega) hVm0 (VAt_fr f0 b4) (VOk_fr f0 hV.1) (VAt_fr f0 hT) (by omega) (fun h1 hV1 f1 nm1 => ?_); have k1 := (kd_fr f1 0).trans k00; have e13 : gG h1 0 13 = m - 1 := (f1.2.2 0 (by unfold VQ; omega) 13).trans e130; have y12 : gR h1 0 12 = 59 := (gR_fr f1 0 12).trans r12; have y59 : gR h1 59 (m - 1) = ms (m - 1) := (gR_fr f1 59 (m - 1)).trans b2; have y9 : gR h1 0 9 = st := (gR_fr f1 0 9).trans r9; have yk59 : kd h1 59 = 106 := (kd_fr f1 59).trans k59; have yl59 : ln h1 59 = 3 := (ln_fr f1 59).trans l59; have kst1 : kd h1 st = 3 := (kd_fr f1 st).trans kst) | (refine w_sTake (by omega) (hso.eq f1.1 (fun i => gR_fr f1 _ i)) (b5.eq f1.1 (fun i => gR_fr f1 _ i)) (by omega) ((hSC.eq (fun r i h0 h1 => f0.2.2 r (by omega) i)).eq (fun r i h0 h1 => f1.2.2 r (by unfold VQ; omega) i)) hT0 (fun h2 sc2 f2 => ?_); have k2 := (kd_fr f2 0).trans k1; have e132 : gG h2 0 13 = m - 1 := (f2.2.2 0 (by unfold SP; omega) 13).trans e13; have g2 : h2.1 = h.1 := f2.1.trans f1.1) | (refine w_given (by omega) k2 ?_) | (refine ⟨⟨k58, by omega, Int.lt_of_lt_of_le (by omega : _ < (3 : Int)) (Int.le_of_eq l58.symm)⟩, ?_⟩; conv => whnf) | (refine Ex_step ?_; conv => whnf) | (refine ⟨?_, trivial⟩) | (refine (show den _ _ _ _ _ _ _ _ from ?_); conv => whnf) | (refine ⟨fun c => False.elim (by omega), fun c => ?_⟩) | (refine ⟨fun c => ?_, fun c => False.elim (by omega)⟩) | (refine ⟨by (first | assumption | rfl | (exact Nat.le_of_ble_eq_true rfl) | (exact ⟨fun h01 => absurd h01 (by decide), by first | rfl | assumption⟩) | (exact ⟨fun _ => by decide, by first | rfl | assumption⟩) | (exact ⟨by assumption, by omega, by omega⟩) | (unfold inI; omega) | omega), ?_⟩; conv => whnf) | (refine ⟨fun c => ?_, fun c => ?_⟩) | (intro c) | fail))
    refine hq1 h2 (hV1.fr f2 (VAt_fr f1 (VAt_fr f0 hT)) (fun r h0 h1 => by unfold SP; omega)) (fun i i0 i1 => (f2.2.2 _ (by unfold SP; omega) i).trans ((nm1 i i0 i1).trans (f0.2.2 _ (by omega) i))) sc2 ((f1.mono (fun r q => Or.inl q)).trans (f2.mono (fun r q => Or.inr q)))
-- calls that only show
set_option maxHeartbeats 4000000 in
theorem c_status {X : Int → Int} {XL : Int} {d : Nat} {h : Mem} {Q : RetP} (hd : 1 ≤ d) (k0 : kd h 0 = 9) (hq : Q (some (vI (gG h 0 0))) h) : WP X XL d 118 [vR 0] h Q := by
  refine eX9_status (by omega) ?_
  (repeat' (first | (refine Ex_step ?_; conv => whnf) | (refine ⟨?_, trivial⟩) | (refine (show den _ _ _ _ _ _ _ _ from ?_); conv => whnf) | (refine ⟨fun c => False.elim (by omega), fun c => ?_⟩) | (refine ⟨fun c => ?_, fun c => False.elim (by omega)⟩) | (refine ⟨by (first | assumption | rfl | (exact Nat.le_of_ble_eq_true rfl) | (exact ⟨fun h01 => absurd h01 (by decide), by first | rfl | assumption⟩) | (exact ⟨fun _ => by decide, by first | rfl | assumption⟩) | (exact ⟨by assumption, by omega, by omega⟩) | (unfold inI; omega) | omega), ?_⟩; conv => whnf) | (refine ⟨fun c => ?_, fun c => ?_⟩) | (intro c) | fail))
  exact hq
set_option maxHeartbeats 4000000 in
theorem c_top {X : Int → Int} {XL : Int} {d : Nat} {h : Mem} {Q : RetP} (hd : 1 ≤ d) (k0 : kd h 0 = 9) (hq : Q (some (vL (gG h 0 1))) h) : WP X XL d 119 [vR 0] h Q := by
  refine eX9_top (by omega) ?_
  (repeat' (first | (refine Ex_step ?_; conv => whnf) | (refine ⟨?_, trivial⟩) | (refine (show den _ _ _ _ _ _ _ _ from ?_); conv => whnf) | (refine ⟨fun c => False.elim (by omega), fun c => ?_⟩) | (refine ⟨fun c => ?_, fun c => False.elim (by omega)⟩) | (refine ⟨by (first | assumption | rfl | (exact Nat.le_of_ble_eq_true rfl) | (exact ⟨fun h01 => absurd h01 (by decide), by first | rfl | assumption⟩) | (exact ⟨fun _ => by decide, by first | rfl | assumption⟩) | (exact ⟨by assumption, by omega, by omega⟩) | (unfold inI; omega) | omega), ?_⟩; conv => whnf) | (refine ⟨fun c => ?_, fun c => ?_⟩) | (intro c) | fail))
  exact hq
set_option maxHeartbeats 4000000 in
theorem c_bottom {X : Int → Int} {XL : Int} {d : Nat} {h : Mem} {Q : RetP} (hd : 1 ≤ d) (k0 : kd h 0 = 9) (hq : Q (some (vL (gG h 0 2))) h) : WP X XL d 120 [vR 0] h Q := by
  refine eX9_bottom (by omega) ?_
  (repeat' (first | (refine Ex_step ?_; conv => whnf) | (refine ⟨?_, trivial⟩) | (refine (show den _ _ _ _ _ _ _ _ from ?_); conv => whnf) | (refine ⟨fun c => False.elim (by omega), fun c => ?_⟩) | (refine ⟨fun c => ?_, fun c => False.elim (by omega)⟩) | (refine ⟨by (first | assumption | rfl | (exact Nat.le_of_ble_eq_true rfl) | (exact ⟨fun h01 => absurd h01 (by decide), by first | rfl | assumption⟩) | (exact ⟨fun _ => by decide, by first | rfl | assumption⟩) | (exact ⟨by assumption, by omega, by omega⟩) | (unfold inI; omega) | omega), ?_⟩; conv => whnf) | (refine ⟨fun c => ?_, fun c => ?_⟩) | (intro c) | fail))
  exact hq
set_option maxHeartbeats 4000000 in
theorem m_status {X : Int → Int} {XL : Int} {d : Nat} {h : Mem} {Q : RetP} (hd : 1 ≤ d) (k0 : kd h 127 = 10) (hq : Q (some (vI (gG h 127 2))) h) : WP X XL d 193 [vR 127] h Q := by
  refine eX10_status (by omega) ?_
  (repeat' (first | (refine Ex_step ?_; conv => whnf) | (refine ⟨?_, trivial⟩) | (refine (show den _ _ _ _ _ _ _ _ from ?_); conv => whnf) | (refine ⟨fun c => False.elim (by omega), fun c => ?_⟩) | (refine ⟨fun c => ?_, fun c => False.elim (by omega)⟩) | (refine ⟨by (first | assumption | rfl | (exact Nat.le_of_ble_eq_true rfl) | (exact ⟨fun h01 => absurd h01 (by decide), by first | rfl | assumption⟩) | (exact ⟨fun _ => by decide, by first | rfl | assumption⟩) | (exact ⟨by assumption, by omega, by omega⟩) | (unfold inI; omega) | omega), ?_⟩; conv => whnf) | (refine ⟨fun c => ?_, fun c => ?_⟩) | (intro c) | fail))
  exact hq
set_option maxHeartbeats 4000000 in
theorem m_top {X : Int → Int} {XL : Int} {d : Nat} {h : Mem} {Q : RetP} (hd : 1 ≤ d) (k0 : kd h 127 = 10) (hq : Q (some (vL (gG h 127 3))) h) : WP X XL d 194 [vR 127] h Q := by
  refine eX10_top (by omega) ?_
  (repeat' (first | (refine Ex_step ?_; conv => whnf) | (refine ⟨?_, trivial⟩) | (refine (show den _ _ _ _ _ _ _ _ from ?_); conv => whnf) | (refine ⟨fun c => False.elim (by omega), fun c => ?_⟩) | (refine ⟨fun c => ?_, fun c => False.elim (by omega)⟩) | (refine ⟨by (first | assumption | rfl | (exact Nat.le_of_ble_eq_true rfl) | (exact ⟨fun h01 => absurd h01 (by decide), by first | rfl | assumption⟩) | (exact ⟨fun _ => by decide, by first | rfl | assumption⟩) | (exact ⟨by assumption, by omega, by omega⟩) | (unfold inI; omega) | omega), ?_⟩; conv => whnf) | (refine ⟨fun c => ?_, fun c => ?_⟩) | (intro c) | fail))
  exact hq
set_option maxHeartbeats 4000000 in
theorem m_bottom {X : Int → Int} {XL : Int} {d : Nat} {h : Mem} {Q : RetP} (hd : 1 ≤ d) (k0 : kd h 127 = 10) (hq : Q (some (vL (gG h 127 4))) h) : WP X XL d 195 [vR 127] h Q := by
  refine eX10_bottom (by omega) ?_
  (repeat' (first | (refine Ex_step ?_; conv => whnf) | (refine ⟨?_, trivial⟩) | (refine (show den _ _ _ _ _ _ _ _ from ?_); conv => whnf) | (refine ⟨fun c => False.elim (by omega), fun c => ?_⟩) | (refine ⟨fun c => ?_, fun c => False.elim (by omega)⟩) | (refine ⟨by (first | assumption | rfl | (exact Nat.le_of_ble_eq_true rfl) | (exact ⟨fun h01 => absurd h01 (by decide), by first | rfl | assumption⟩) | (exact ⟨fun _ => by decide, by first | rfl | assumption⟩) | (exact ⟨by assumption, by omega, by omega⟩) | (unfold inI; omega) | omega), ?_⟩; conv => whnf) | (refine ⟨fun c => ?_, fun c => ?_⟩) | (intro c) | fail))
  exact hq
def fltZ (a b w : Int) : Int := if w = 0 then a else if w = 1 then b else -1
theorem flt_0 {a b w : Int} (h : w = 0) : fltZ a b w = a := if_pos h
theorem flt_1 {a b w : Int} (h : w = 1) : fltZ a b w = b := by unfold fltZ; rw [if_neg (by omega), if_pos h]
theorem flt_2 {a b w : Int} (h0 : ¬ w = 0) (h : ¬ w = 1) : fltZ a b w = -1 := by unfold fltZ; rw [if_neg h0, if_neg h]
set_option maxHeartbeats 4000000 in
theorem c_fault {X : Int → Int} {XL : Int} {d : Nat} {h : Mem} {Q : RetP} {w : Int} (hd : 1 ≤ d) (k0 : kd h 0 = 9) (r4 : gR h 0 4 = 10) (k10 : kd h 10 = 5) (hq : Q (some (vI (fltZ (gG h 10 3) (gG h 10 4) w))) h) : WP X XL d 128 [vR 0, vI w] h Q := by
  refine eX9_fault (by omega) ?_
  (repeat' (first | (rw [r4]) | (refine Ex_step ?_; conv => whnf) | (refine ⟨?_, trivial⟩) | (refine (show den _ _ _ _ _ _ _ _ from ?_); conv => whnf) | (refine ⟨fun c => False.elim (by omega), fun c => ?_⟩) | (refine ⟨fun c => ?_, fun c => False.elim (by omega)⟩) | (refine ⟨by (first | assumption | rfl | (exact Nat.le_of_ble_eq_true rfl) | (exact ⟨fun h01 => absurd h01 (by decide), by first | rfl | assumption⟩) | (exact ⟨fun _ => by decide, by first | rfl | assumption⟩) | (exact ⟨by assumption, by omega, by omega⟩) | (unfold inI; omega) | omega), ?_⟩; conv => whnf) | (refine ⟨fun c => ?_, fun c => ?_⟩) | (intro c) | fail))
  all_goals first | (rw [flt_0 (by omega)] at hq; exact hq) | (rw [flt_1 (by omega)] at hq; exact hq) | (rw [flt_2 (by omega) (by omega)] at hq; exact hq)
set_option maxHeartbeats 4000000 in
theorem m_fault {X : Int → Int} {XL : Int} {d : Nat} {h : Mem} {Q : RetP} {w : Int} (hd : 1 ≤ d) (k0 : kd h 127 = 10) (hq : Q (some (vI (fltZ (gG h 127 16) (gG h 127 17) w))) h) : WP X XL d 225 [vR 127, vI w] h Q := by
  refine eX10_fault (by omega) ?_
  (repeat' (first | (refine Ex_step ?_; conv => whnf) | (refine ⟨?_, trivial⟩) | (refine (show den _ _ _ _ _ _ _ _ from ?_); conv => whnf) | (refine ⟨fun c => False.elim (by omega), fun c => ?_⟩) | (refine ⟨fun c => ?_, fun c => False.elim (by omega)⟩) | (refine ⟨by (first | assumption | rfl | (exact Nat.le_of_ble_eq_true rfl) | (exact ⟨fun h01 => absurd h01 (by decide), by first | rfl | assumption⟩) | (exact ⟨fun _ => by decide, by first | rfl | assumption⟩) | (exact ⟨by assumption, by omega, by omega⟩) | (unfold inI; omega) | omega), ?_⟩; conv => whnf) | (refine ⟨fun c => ?_, fun c => ?_⟩) | (intro c) | fail))
  all_goals first | (rw [flt_0 (by omega)] at hq; exact hq) | (rw [flt_1 (by omega)] at hq; exact hq) | (rw [flt_2 (by omega) (by omega)] at hq; exact hq)
def o_lived (b : Int) (t : Int → Int) (w : Int) : Int × Int := if 0 ≤ w ∧ w ≤ 4 then (if b = 0 then (-1, 6) else (t w, 0)) else (-1, 1)
set_option maxHeartbeats 4000000 in
theorem c_lived {X : Int → Int} {XL : Int} {d : Nat} {h : Mem} {Q : RetP} {w : Int} (hd : 2 ≤ d) (k0 : kd h 0 = 9) (r17 : gR h 0 17 = 126) (k126 : kd h 126 = 100) (l126 : ln h 126 = 5) (hq : Q (some (vI (o_lived (gG h 0 18) (gG h 126) w).1)) (sG h 0 0 (o_lived (gG h 0 18) (gG h 126) w).2)) : WP X XL d 170 [vR 0, vI w] h Q := by
  unfold o_lived at hq
  refine eX9_lived (by omega) ?_
  (repeat' (first | (rw [r17]) | (refine w_within (by omega) (fun c => ?_) (fun c => False.elim (by omega))) | (refine w_within (by omega) (fun c => False.elim (by omega)) (fun c => ?_)) | (refine w_within (by omega) (fun c => ?_) (fun c => ?_)) | (refine w_given (by omega) k0 ?_) | (refine w_none (by omega) k0 ?_) | (refine Ex_step ?_; conv => whnf) | (refine ⟨?_, trivial⟩) | (refine (show den _ _ _ _ _ _ _ _ from ?_); conv => whnf) | (refine ⟨fun c => False.elim (by omega), fun c => ?_⟩) | (refine ⟨fun c => ?_, fun c => False.elim (by omega)⟩) | (refine ⟨by (first | assumption | rfl | (exact Nat.le_of_ble_eq_true rfl) | (exact ⟨fun h01 => absurd h01 (by decide), by first | rfl | assumption⟩) | (exact ⟨fun _ => by decide, by first | rfl | assumption⟩) | (exact ⟨by assumption, by omega, by omega⟩) | (unfold inI; omega) | omega), ?_⟩; conv => whnf) | (refine ⟨fun c => ?_, fun c => ?_⟩) | (intro c) | fail))
  (all_goals (first | exact hq | (rw [if_pos (by omega)] at hq; exact hq) | (rw [if_neg (by omega)] at hq; exact hq) | (rw [if_neg (by omega), if_pos (by omega)] at hq; exact hq) | (rw [if_neg (by omega), if_neg (by omega)] at hq; exact hq) | (rw [if_pos (by omega), if_pos (by omega)] at hq; exact hq) | (rw [if_pos (by omega), if_neg (by omega)] at hq; exact hq) | (exfalso; omega)))
set_option maxHeartbeats 4000000 in
theorem m_lived {X : Int → Int} {XL : Int} {d : Nat} {h : Mem} {Q : RetP} {w : Int} (hd : 2 ≤ d) (kq : kd h 127 = 10) (hX : RK h) (hq : Q (some (vI (o_lived (gG h 127 37) (gG h 145) w).1)) (sG h 127 2 (o_lived (gG h 127 37) (gG h 145) w).2)) : WP X XL d 346 [vR 127, vI w] h Q := by
  obtain ⟨⟨x1, xk1, xl1⟩, ⟨x8, xk8, xl8⟩, ⟨x9, xk9, xl9⟩, ⟨x21, xk21, xl21⟩, ⟨x25, xk25, xl25⟩, ⟨x26, xk26, xl26⟩, ⟨x27, xk27, xl27⟩, ⟨x28, xk28, xl28⟩, ⟨x29, xk29, xl29⟩, ⟨x30, xk30, xl30⟩, ⟨x31, xk31, xl31⟩, ⟨x34, xk34, xl34⟩, ⟨x35, xk35, xl35⟩, ⟨x36, xk36, xl36⟩⟩ := id hX
  unfold o_lived at hq
  refine eX10_lived (by omega) ?_
  (repeat' (first | (rw [x36]) | (refine r_gives (by omega) kq ?_) | (refine r_refuse (by omega) kq ?_) | (refine Ex_step ?_; conv => whnf) | (refine ⟨?_, trivial⟩) | (refine (show den _ _ _ _ _ _ _ _ from ?_); conv => whnf) | (refine ⟨fun c => False.elim (by omega), fun c => ?_⟩) | (refine ⟨fun c => ?_, fun c => False.elim (by omega)⟩) | (refine ⟨by (first | assumption | rfl | (exact Nat.le_of_ble_eq_true rfl) | (exact ⟨fun h01 => absurd h01 (by decide), by first | rfl | assumption⟩) | (exact ⟨fun _ => by decide, by first | rfl | assumption⟩) | (exact ⟨by assumption, by omega, by omega⟩) | (unfold inI; omega) | omega), ?_⟩; conv => whnf) | (refine ⟨fun c => ?_, fun c => ?_⟩) | (intro c) | fail))
  (all_goals (first | exact hq | (rw [if_pos (by omega)] at hq; exact hq) | (rw [if_neg (by omega)] at hq; exact hq) | (rw [if_neg (by omega), if_pos (by omega)] at hq; exact hq) | (rw [if_neg (by omega), if_neg (by omega)] at hq; exact hq) | (rw [if_pos (by omega), if_pos (by omega)] at hq; exact hq) | (rw [if_pos (by omega), if_neg (by omega)] at hq; exact hq) | (exfalso; omega)))
