/-! LEVEL 2: decades as they are lived: the class goes through -/
theorem VRow.c {A B : Int → Int} {R : Int → Int → Int} {N k : Int} (h0 : B 0 = A 0) (h1 : B 1 = A 1) (q : VRow A R N k) : VRow B R N k := by
  unfold VRow okW okH at *
  rw [h0, h1]
  exact q
def FrW (v : Nat) (h h' : Mem) : Prop := h'.1 = h.1 ∧ h'.2.2 = h.2.2 ∧ ∀ r i, ¬ VP v r → ¬ r = 124 → ¬ r = 125 → gG h' r i = gG h r i
theorem FrW.trans {v : Nat} {h h' h'' : Mem} (a : FrW v h h') (b : FrW v h' h'') : FrW v h h'' := ⟨b.1.trans a.1, b.2.1.trans a.2.1, fun r i h0 h1 h2 => (b.2.2 r i h0 h1 h2).trans (a.2.2 r i h0 h1 h2)⟩
theorem FrW.s {v r : Nat} {h h' : Mem} {i z : Int} (a : FrW v h h') (hr : r = 124 ∨ r = 125) : FrW v h (sG h' r i z) := ⟨a.1, a.2.1, fun r' i' h0 h1 h2 => by rw [gG_sG, if_neg (by omega)]; exact a.2.2 r' i' h0 h1 h2⟩
theorem FrV.W {v : Nat} {h h' : Mem} (a : FrV v h h') : FrW v h h' := ⟨a.1, a.2.1, fun r i h0 h1 _ => a.2.2 r i h0 (fun q => h1 q.1)⟩
/-- the class's rows and what goes through them -/
def ThC (h : Mem) (v st : Nat) (R : Int → Int → Int) (N : Int) : Prop := (v + 12 < 120 ∧ st + 6 < 120 ∧ (st + 6 < v ∨ v + 12 < st)) ∧ VAt h v ∧ LfK h st ∧ gR h 124 5 = v ∧ SOk h st ∧ gG h st 2 = N ∧ ∀ k, 0 ≤ k → k < N → CRow h st R k
theorem ThC.w {h h' : Mem} {v st : Nat} {R : Int → Int → Int} {N : Int} (q : ThC h v st R N) (a : FrW v h h') : ThC h' v st R N := by
  obtain ⟨q1, q2, q3, q4, q5, q6, q7⟩ := q
  have er : ∀ r i, gR h' r i = gR h r i := fun r i => by unfold gR; rw [a.2.1]
  have ek : ∀ r, kd h' r = kd h r := fun r => by unfold kd; rw [a.1]
  have el : ∀ r, ln h' r = ln h r := fun r => by unfold ln; rw [a.1]
  have eg : ∀ r i, st ≤ r → r ≤ st + 6 → gG h' r i = gG h r i := fun r i h0 h1 => a.2.2 r i (by unfold VP; omega) (by omega) (by omega)
  refine ⟨q1, q2.eq (er _), ?_, (er _ _).trans q4, q5.eq a.1 (er _), (eg _ _ (by omega) (by omega)).trans q6, fun k h0 h1 => ?_⟩
  · unfold LfK at *; rw [ek, er, er, ek, el]; exact q3
  · have := q7 k h0 h1
    unfold CRow at *
    rw [eg _ _ (by omega) (by omega), eg _ _ (by omega) (by omega), eg _ _ (by omega) (by omega), eg _ _ (by omega) (by omega), eg _ _ (by omega) (by omega), eg _ _ (by omega) (by omega)]
    exact this
def LRel (h : Mem) (L : Int → Int) : Prop := ∀ o, 0 ≤ o → o < 60 → gG h 125 o = L o ∧ 0 ≤ L o ∧ L o ≤ 100
theorem LRel.c {h h' : Mem} {L : Int → Int} (q : LRel h L) (e : ∀ i, gG h' 125 i = gG h 125 i) : LRel h' L := fun o h0 h1 => ⟨(e o).trans (q o h0 h1).1, (q o h0 h1).2⟩
theorem LRel.p {h : Mem} {L : Int → Int} {k z : Int} (q : LRel h L) (hz : 0 ≤ z ∧ z ≤ 100) : LRel (sG h 125 k z) (pu L k z) := fun o h0 h1 => by
  unfold pu
  by_cases e : o = k
  · rw [e, g_same, if_pos rfl]; exact ⟨rfl, hz⟩
  · rw [g_ne e, if_neg e]; exact q o h0 h1
/-- where going through stands -/
def ThS (h0 h : Mem) (v st : Nat) (R : Int → Int → Int) (N K : Int) (A L : Int → Int) (x dn mi : Int) : Prop := Vr K h v A ∧ ThC h v st R N ∧ FrW v h0 h ∧ LRel h L ∧ (gG h 124 4 = x ∧ 0 ≤ x ∧ x < 65536) ∧ (gG h 124 0 = dn ∧ gG h 124 1 = mi ∧ gG h 124 2 = 0) ∧ (0 ≤ dn ∧ dn ≤ 300) ∧ (0 ≤ mi ∧ mi ≤ dn) ∧ K + 83 * (300 - dn) ≤ 30000000 ∧ ∀ k, 0 ≤ k → k < N → VRow A R N k
set_option maxHeartbeats 4000000 in
theorem th_end {X : Int → Int} {XL : Int} {d : Nat} {h : Mem} {Q : RetP} {h1 : Mem} {v st : Nat} {R : Int → Int → Int} {N K x dn mi k i sd : Int} {A L : Int → Int} (hd : 3 ≤ d) (hS : ThS h h1 v st R N K A L x dn mi) (hk : 0 ≤ k ∧ k < N) (hN : N ≤ 60) (hi : 0 ≤ i ∧ i < 10000) (hw : R k 0 = 22) (next : ∀ h2, ThS h h2 v st R N K A (eL R L k) x dn mi → Ex (WP X XL (d - 1)) KX2_goThrough h.1 Q 36 [some (vR 124), some (vR v), some (vR st), some (vI sd), some (vI (eK R L k)), some (vI (i + 1))] [] h2) : Ex (WP X XL (d - 1)) KX2_goThrough h.1 Q 36 [some (vR 124), some (vR v), some (vR st), some (vI sd), some (vI k), some (vI i)] [] h1 := by
  obtain ⟨hV, hTh, fW, hLr, ⟨ex, hx0⟩, ⟨ed, em, el⟩, hdn, hmi, hK, hVR⟩ := id hS; obtain ⟨⟨c1, c2, c3⟩, hT, hLf, r5, hSo, eN, hCR⟩ := id hTh; obtain ⟨kl, r6, r3, k125, l125⟩ := id hLf; have ks := hSo.1; have gj := fW.1
  obtain ⟨ks0, ⟨sr1, sk1, sl1⟩, -⟩ := id hSo
  have hc := hCR k hk.1 hk.2
  have hv := (hVR k hk.1 hk.2).2.2.2.2.2 hw
  have ew : gG h1 (st + 1) k = 23 := by rw [hc.1, hw]; rfl
  have eb := hc.2.2.2.2.2 (Or.inr (Or.inl hw))
  have hcb := (hCR (R k 4) hv.1 (by omega)).1
  have hlb := hLr (R k 4) hv.1 (by omega)
  have hwb : cwd (R (R k 4) 0) = 22 ↔ R (R k 4) 0 = 21 := by unfold cwd; split <;> (try split) <;> omega
  have n1 : R (R k 4) 0 = 21 ∧ 0 < L (R k 4) → Ex (WP X XL (d - 1)) KX2_goThrough h.1 Q 36 [some (vR 124), some (vR v), some (vR st), some (vI sd), some (vI (R k 4 + 1)), some (vI (i + 1))] [] (sG h1 125 (R k 4) (gG h1 125 (R k 4) - 1)) := fun q => by
    have n := next (sG h1 125 (R k 4) (L (R k 4) - 1))
    rw [show eK R L k = R k 4 + 1 from if_pos q, show eL R L k = pu L (R k 4) (L (R k 4) - 1) from if_pos q] at n
    rw [hlb.1]
    have f1 : FrW v h1 (sG h1 125 (R k 4) (L (R k 4) - 1)) := FrW.s ⟨rfl, rfl, fun _ _ _ _ _ => rfl⟩ (Or.inr rfl)
    exact n ⟨hV.eq (by exact rfl) (fun _ => by exact rfl) hT (fun r i h0 h1 => by rw [gG_sG, if_neg (by omega)]), hTh.w f1, fW.trans f1, hLr.p (by omega), ⟨by rw [gG_sG, if_neg (by omega)]; exact ex, hx0⟩, ⟨by rw [gG_sG, if_neg (by omega)]; exact ed, by rw [gG_sG, if_neg (by omega)]; exact em, by rw [gG_sG, if_neg (by omega)]; exact el⟩, hdn, hmi, hK, hVR⟩
  have n0 : ¬ (R (R k 4) 0 = 21 ∧ 0 < L (R k 4)) → Ex (WP X XL (d - 1)) KX2_goThrough h.1 Q 36 [some (vR 124), some (vR v), some (vR st), some (vI sd), some (vI (k + 1)), some (vI (i + 1))] [] h1 := fun q => by
    have n := next h1
    rw [show eK R L k = k + 1 from if_neg q, show eL R L k = L from if_neg q] at n
    exact n hS
  refine Ex_step ?_; conv => whnf
  (repeat' (first | (exact n1 (by omega)) | (exact n0 (by omega)) | (rw [r6]) | (rw [eN]) | (rw [sr1]) | (rw [ew]) | (refine w_rowBehindEnd (by omega) hLf hSo (by omega) eb (by omega) hcb (by omega) (fun q1 q2 => ?_) (fun q => ?_)) | (refine Ex_step ?_; conv => whnf) | (refine ⟨?_, trivial⟩) | (refine (show den _ _ _ _ _ _ _ _ from ?_); conv => whnf) | (refine ⟨fun c => False.elim (by omega), fun c => ?_⟩) | (refine ⟨fun c => ?_, fun c => False.elim (by omega)⟩) | (refine ⟨by (first | assumption | rfl | (exact Nat.le_of_ble_eq_true rfl) | (exact ⟨fun h01 => absurd h01 (by decide), by first | rfl | assumption⟩) | (exact ⟨fun _ => by decide, by first | rfl | assumption⟩) | (exact ⟨by assumption, by omega, by omega⟩) | (unfold inI; omega) | omega), ?_⟩; conv => whnf) | (refine ⟨fun c => ?_, fun c => ?_⟩) | (intro c) | fail))
theorem FrW.refl {v : Nat} {h : Mem} : FrW v h h := ⟨rfl, rfl, fun _ _ _ _ _ => rfl⟩
theorem b01_b {b : Bool} : (b = true ∧ b01 b = 1) ∨ (b = false ∧ b01 b = 0) := by cases b; exact Or.inr ⟨rfl, rfl⟩; exact Or.inl ⟨rfl, rfl⟩
-- behind a step's deed: which row comes next
set_option maxHeartbeats 4000000 in
theorem th_next {X : Int → Int} {XL : Int} {d : Nat} {h : Mem} {Q : RetP} {h1 : Mem} {v st : Nat} {R : Int → Int → Int} {N K x dn mi k i sd : Int} {A L : Int → Int} (hd : 6 ≤ d) (hS : ThS h h1 v st R N K A L x dn mi) (hk : 0 ≤ k ∧ k < N) (hN : N ≤ 60) (hi : 0 ≤ i ∧ i < 10000) (hw : ¬ R k 0 = 22) (next : ∀ h2, ThS h h2 v st R N K A (lL R L k) x dn mi → Ex (WP X XL (d - 1)) KX2_goThrough h.1 Q 36 [some (vR 124), some (vR v), some (vR st), some (vI sd), some (vI (nK R N A k)), some (vI (i + 1))] [] h2) : Ex (WP X XL (d - 1)) KX2_goThrough h.1 Q 128 [some (vR 124), some (vR v), some (vR st), some (vI sd), some (vI k), some (vI i)] [] h1 := by
  obtain ⟨hV, hTh, fW, hLr, ⟨ex, hx0⟩, ⟨ed, em, el⟩, hdn, hmi, hK, hVR⟩ := id hS; obtain ⟨⟨c1, c2, c3⟩, hT, hLf, r5, hSo, eN, hCR⟩ := id hTh; obtain ⟨kl, r6, r3, k125, l125⟩ := id hLf; have ks := hSo.1; have gj := fW.1
  have hc := hCR k hk.1 hk.2
  have hv := hVR k hk.1 hk.2
  obtain ⟨hkd, hokW, hokH, hlp, hop, -⟩ := id hv
  have ew := hc.1
  by_cases w23 : R k 0 = 23
  · rw [show nK R N A k = N from if_pos w23, show lL R L k = L from if_neg (by omega)] at next
    have n := next h1 hS
    have ew : gG h1 (st + 1) k = 24 := by rw [ew, w23]; rfl
    (repeat' (first | (exact n) | (rw [eN]) | (refine w_behindStop (by omega) hLf hSo (by omega) ew rfl ?_) | (refine Ex_step ?_; conv => whnf) | (refine ⟨?_, trivial⟩) | (refine (show den _ _ _ _ _ _ _ _ from ?_); conv => whnf) | (refine ⟨fun c => False.elim (by omega), fun c => ?_⟩) | (refine ⟨fun c => ?_, fun c => False.elim (by omega)⟩) | (refine ⟨by (first | assumption | rfl | (exact Nat.le_of_ble_eq_true rfl) | (exact ⟨fun h01 => absurd h01 (by decide), by first | rfl | assumption⟩) | (exact ⟨fun _ => by decide, by first | rfl | assumption⟩) | (exact ⟨by assumption, by omega, by omega⟩) | (unfold inI; omega) | omega), ?_⟩; conv => whnf) | (refine ⟨fun c => ?_, fun c => ?_⟩) | (intro c) | fail))
  · by_cases w20 : 2000 ≤ R k 0
    · rw [show lL R L k = L from if_neg (by omega)] at next
      have ew : gG h1 (st + 1) k = 20 := by rw [ew]; exact if_pos w20
      have eb := hc.2.2.2.2.2 (Or.inr (Or.inr w20))
      have ho := hop (Or.inr w20)
      have hH := hokH w20
      have ef := hc.2.1 (Or.inr (Or.inr (Or.inr w20)))
      have n := next h1 hS
      have n1 : hlP A (R k 0) (R k 1) (R k 2) (R k 5) → nK R N A k = k + 1 := fun q => by unfold nK; rw [if_neg w23, if_pos w20, if_pos (hlI_t q)]
      have n0 : ¬ hlP A (R k 0) (R k 1) (R k 2) (R k 5) → nK R N A k = R k 4 + 1 := fun q => by unfold nK; rw [if_neg w23, if_pos w20, if_neg (by rw [hlI_f q]; omega)]
      (repeat' (first | (rw [n1 (by assumption)] at n; exact n) | (rw [n0 (by assumption)] at n; exact n) | (refine w_behindWhen (by omega) hLf hSo (by omega) ew hV r5 rfl eb (by omega) ef rfl (hc.2.2.2.1 w20) (fun q => hc.2.2.1 (by omega)) (fun q => rfl) (fun q => hc.2.2.2.2.1 (by omega)) hH (fun q => ?_) (fun q => ?_)) | (refine Ex_step ?_; conv => whnf) | (refine ⟨?_, trivial⟩) | (refine (show den _ _ _ _ _ _ _ _ from ?_); conv => whnf) | (refine ⟨fun c => False.elim (by omega), fun c => ?_⟩) | (refine ⟨fun c => ?_, fun c => False.elim (by omega)⟩) | (refine ⟨by (first | assumption | rfl | (exact Nat.le_of_ble_eq_true rfl) | (exact ⟨fun h01 => absurd h01 (by decide), by first | rfl | assumption⟩) | (exact ⟨fun _ => by decide, by first | rfl | assumption⟩) | (exact ⟨by assumption, by omega, by omega⟩) | (unfold inI; omega) | omega), ?_⟩; conv => whnf) | (refine ⟨fun c => ?_, fun c => ?_⟩) | (intro c) | fail))
    · rw [show nK R N A k = k + 1 by unfold nK; rw [if_neg w23, if_neg w20]] at next
      by_cases w21 : R k 0 = 21
      · have ew : gG h1 (st + 1) k = 22 := by rw [ew, w21]; rfl
        have ef := hc.2.1 (Or.inr (Or.inr (Or.inl w21)))
        have eb := hc.2.2.2.2.2 (Or.inl w21)
        have hl := hlp w21
        have pt : ∀ z, 0 ≤ z ∧ z ≤ 100 → ThS h (sG h1 125 k z) v st R N K A (pu L k z) x dn mi := fun z hz => by
          have f1 : FrW v h1 (sG h1 125 k z) := FrW.refl.s (Or.inr rfl)
          exact ⟨hV.eq (by exact rfl) (fun _ => by exact rfl) hT (fun r i h0 h1 => by rw [gG_sG, if_neg (by omega)]), hTh.w f1, fW.trans f1, hLr.p hz, ⟨by rw [gG_sG, if_neg (by omega)]; exact ex, hx0⟩, ⟨by rw [gG_sG, if_neg (by omega)]; exact ed, by rw [gG_sG, if_neg (by omega)]; exact em, by rw [gG_sG, if_neg (by omega)]; exact el⟩, hdn, hmi, hK, hVR⟩
        rw [show lL R L k = pu L k (if R k 4 = k + 1 then 0 else R k 1 - 1) from if_pos w21] at next
        by_cases e : R k 4 = k + 1
        · rw [if_pos e] at next
          have n := next _ (pt 0 (by omega))
          (repeat' (first | (exact n) | (refine w_behindLoop (by omega) hLf hSo (by omega) ew rfl ef hl eb (fun q => ?_) (fun q => absurd e q)) | (refine Ex_step ?_; conv => whnf) | (refine ⟨?_, trivial⟩) | (refine (show den _ _ _ _ _ _ _ _ from ?_); conv => whnf) | (refine ⟨fun c => False.elim (by omega), fun c => ?_⟩) | (refine ⟨fun c => ?_, fun c => False.elim (by omega)⟩) | (refine ⟨by (first | assumption | rfl | (exact Nat.le_of_ble_eq_true rfl) | (exact ⟨fun h01 => absurd h01 (by decide), by first | rfl | assumption⟩) | (exact ⟨fun _ => by decide, by first | rfl | assumption⟩) | (exact ⟨by assumption, by omega, by omega⟩) | (unfold inI; omega) | omega), ?_⟩; conv => whnf) | (refine ⟨fun c => ?_, fun c => ?_⟩) | (intro c) | fail))
        · rw [if_neg e] at next
          have n := next _ (pt (R k 1 - 1) (by omega))
          (repeat' (first | (exact n) | (refine w_behindLoop (by omega) hLf hSo (by omega) ew rfl ef hl eb (fun q => absurd q e) (fun q => ?_)) | (refine Ex_step ?_; conv => whnf) | (refine ⟨?_, trivial⟩) | (refine (show den _ _ _ _ _ _ _ _ from ?_); conv => whnf) | (refine ⟨fun c => False.elim (by omega), fun c => ?_⟩) | (refine ⟨fun c => ?_, fun c => False.elim (by omega)⟩) | (refine ⟨by (first | assumption | rfl | (exact Nat.le_of_ble_eq_true rfl) | (exact ⟨fun h01 => absurd h01 (by decide), by first | rfl | assumption⟩) | (exact ⟨fun _ => by decide, by first | rfl | assumption⟩) | (exact ⟨by assumption, by omega, by omega⟩) | (unfold inI; omega) | omega), ?_⟩; conv => whnf) | (refine ⟨fun c => ?_, fun c => ?_⟩) | (intro c) | fail))
      · rw [show lL R L k = L from if_neg w21] at next
        have n := next h1 hS
        have ewn : ¬ cwd (R k 0) = 24 ∧ ¬ cwd (R k 0) = 20 ∧ ¬ cwd (R k 0) = 22 := by unfold cwd; rw [if_neg w20]; split <;> omega
        (repeat' (first | (exact n) | (refine w_behindPlain (by omega) hLf hSo (by omega) ew ewn ?_) | (refine Ex_step ?_; conv => whnf) | (refine ⟨?_, trivial⟩) | (refine (show den _ _ _ _ _ _ _ _ from ?_); conv => whnf) | (refine ⟨fun c => False.elim (by omega), fun c => ?_⟩) | (refine ⟨fun c => ?_, fun c => False.elim (by omega)⟩) | (refine ⟨by (first | assumption | rfl | (exact Nat.le_of_ble_eq_true rfl) | (exact ⟨fun h01 => absurd h01 (by decide), by first | rfl | assumption⟩) | (exact ⟨fun _ => by decide, by first | rfl | assumption⟩) | (exact ⟨by assumption, by omega, by omega⟩) | (unfold inI; omega) | omega), ?_⟩; conv => whnf) | (refine ⟨fun c => ?_, fun c => ?_⟩) | (intro c) | fail))
