/-! LEVEL 2: live, the class -/
set_option maxHeartbeats 4000000 in
theorem m_liveN {X : Int → Int} {XL : Int} {d : Nat} {h : Mem} {Q : RetP} {K : Int} {A : Int → Int} {sd : Int} (hd : 2 ≤ d) (hR : Rr K h A) (hb : ¬ (0 ≤ sd ∧ sd ≤ 9999) ∨ A 7 = -1) (hq : Q (some (vI (-1))) (sG h 127 2 (if 0 ≤ sd ∧ sd ≤ 9999 then 6 else 1))) : WP X XL d 345 [vR 127, vI sd] h Q := by
  obtain ⟨⟨kq, r0, kt, lt⟩, eA, hA⟩ := id hR
  have e7 := eA 7 (by omega) (by omega)
  refine eX10_live (by omega) ?_
  by_cases c0 : 0 ≤ sd ∧ sd ≤ 9999
  · rw [if_pos c0] at hq
    (repeat' (first | (exact hq) | (rw [r0]) | (rw [e7]) | (refine r_isFrom (by omega) (fun c => ?_) (fun c => False.elim (by omega))) | (refine r_isFrom (by omega) (fun c => False.elim (by omega)) (fun c => ?_)) | (refine r_isFrom (by omega) (fun c => ?_) (fun c => ?_)) | (refine r_gives (by omega) kq ?_) | (refine r_refuse (by omega) kq ?_) | (refine ⟨⟨kt, by omega, Int.lt_of_lt_of_le (by omega : _ < (3198 : Int)) (Int.le_of_eq lt.symm)⟩, ?_⟩; conv => whnf) | (refine Ex_step ?_; conv => whnf) | (refine ⟨?_, trivial⟩) | (refine (show den _ _ _ _ _ _ _ _ from ?_); conv => whnf) | (refine ⟨fun c => False.elim (by omega), fun c => ?_⟩) | (refine ⟨fun c => ?_, fun c => False.elim (by omega)⟩) | (refine ⟨by (first | assumption | rfl | (exact Nat.le_of_ble_eq_true rfl) | (exact ⟨fun h01 => absurd h01 (by decide), by first | rfl | assumption⟩) | (exact ⟨fun _ => by decide, by first | rfl | assumption⟩) | (exact ⟨by assumption, by omega, by omega⟩) | (unfold inI; omega) | omega), ?_⟩; conv => whnf) | (refine ⟨fun c => ?_, fun c => ?_⟩) | (intro c) | fail))
  · rw [if_neg c0] at hq
    (repeat' (first | (exact hq) | (refine r_isFrom (by omega) (fun c => ?_) (fun c => False.elim (by omega))) | (refine r_isFrom (by omega) (fun c => False.elim (by omega)) (fun c => ?_)) | (refine r_isFrom (by omega) (fun c => ?_) (fun c => ?_)) | (refine r_gives (by omega) kq ?_) | (refine r_refuse (by omega) kq ?_) | (refine Ex_step ?_; conv => whnf) | (refine ⟨?_, trivial⟩) | (refine (show den _ _ _ _ _ _ _ _ from ?_); conv => whnf) | (refine ⟨fun c => False.elim (by omega), fun c => ?_⟩) | (refine ⟨fun c => ?_, fun c => False.elim (by omega)⟩) | (refine ⟨by (first | assumption | rfl | (exact Nat.le_of_ble_eq_true rfl) | (exact ⟨fun h01 => absurd h01 (by decide), by first | rfl | assumption⟩) | (exact ⟨fun _ => by decide, by first | rfl | assumption⟩) | (exact ⟨by assumption, by omega, by omega⟩) | (unfold inI; omega) | omega), ?_⟩; conv => whnf) | (refine ⟨fun c => ?_, fun c => ?_⟩) | (intro c) | fail))
/-- decades in the class: what is where -/
def DcC (h : Mem) (n st : Nat) : Prop := gR h 0 9 = st ∧ (gR h 0 16 = 124 ∧ kd h 124 = 2 ∧ gR h 124 3 = 125 ∧ kd h 125 = 100 ∧ ln h 125 = 60) ∧ SOk h st ∧ (gR h 0 17 = 126 ∧ kd h 126 = 100 ∧ ln h 126 = 5) ∧ (n + 12 < 120 ∧ st + 6 < 120 ∧ (st + 6 < n ∨ n + 12 < st) ∧ 1 ≤ n ∧ 1 ≤ st)
/-- its rows -/
def DcS (h : Mem) (st : Nat) (R : Int → Int → Int) (N : Int) : Prop := gG h st 0 = 1 ∧ gG h st 2 = N ∧ ∀ k, 0 ≤ k → k < N → CRow h st R k
theorem CRow.c {h h' : Mem} {st : Nat} {R : Int → Int → Int} {k : Int} (e : ∀ r i, st ≤ r → r ≤ st + 6 → gG h' r i = gG h r i) (q : CRow h st R k) : CRow h' st R k := by
  unfold CRow at *
  rw [e _ _ (by omega) (by omega), e _ _ (by omega) (by omega), e _ _ (by omega) (by omega), e _ _ (by omega) (by omega), e _ _ (by omega) (by omega), e _ _ (by omega) (by omega)]
  exact q
theorem DcS.c {h h' : Mem} {st : Nat} {R : Int → Int → Int} {N : Int} (e : ∀ r i, st ≤ r → r ≤ st + 6 → gG h' r i = gG h r i) (q : DcS h st R N) : DcS h' st R N := ⟨(e _ _ (by omega) (by omega)).trans q.1, (e _ _ (by omega) (by omega)).trans q.2.1, fun k a b => (q.2.2 k a b).c e⟩
/-- nothing but what living changes has changed, the class -/
def FrLf (v : Nat) (h h' : Mem) : Prop := h'.1 = h.1 ∧ (∀ r i, ¬ (r = 124 ∧ (i = 5 ∨ i = 6)) → gR h' r i = gR h r i) ∧ ∀ r i, ¬ VP v r → ¬ r = 124 → ¬ r = 125 → gG h' r i = gG h r i
theorem th0_l {v st : Nat} {sd : Int} {h h' : Mem} (a : FrW v (th0 h v st sd) h') : FrLf v h h' := by
  refine ⟨a.1, fun r i q => ?_, fun r i q0 q1 q2 => ?_⟩
  · show gR h' r i = gR h r i
    have : gR h' r i = gR (th0 h v st sd) r i := by unfold gR; rw [a.2.1]
    rw [this]
    unfold th0
    rw [gR_sG, gR_sG, gR_sG, gR_sG, gR_sR, if_neg (by omega), gR_sR, if_neg (by omega)]
  · rw [a.2.2 r i q0 q1 q2]
    unfold th0
    rw [gG_sG, if_neg (by omega), gG_sG, if_neg (by omega), gG_sG, if_neg (by omega), gG_sG, if_neg (by omega)]
    rfl
/-- a life, from the class's state -/
theorem w_life {X : Int → Int} {XL : Int} {d : Nat} {h : Mem} {Q : RetP} {v st : Nat} {R : Int → Int → Int} {N K sd : Int} {A L : Int → Int} (hd : 10 ≤ d) (hN : 0 ≤ N ∧ N ≤ 60) (hK : K + 24900 ≤ 30000000) (hV : Vr K h v A) (hT : VAt h v) (hc : v + 12 < 120 ∧ st + 6 < 120 ∧ (st + 6 < v ∨ v + 12 < st)) (kl : kd h 124 = 2) (r3 : gR h 124 3 = 125) (k125 : kd h 125 = 100) (l125 : ln h 125 = 60) (hS : SOk h st) (hD : DcS h st R N) (hL : LRel h L) (hVR : ∀ k, 0 ≤ k → k < N → VRow A R N k) (hsd : 0 ≤ sd ∧ sd < 65536) (fin : ∀ h2, FrLf v h h2 → Vr (K + 24900) h2 v (rwN R N 10000 A sd L 0 0 0).1 → LRel h2 (rwN R N 10000 A sd L 0 0 0).2.2.1 → gG h2 124 0 = (rwN R N 10000 A sd L 0 0 0).2.2.2.1 → gG h2 124 1 = (rwN R N 10000 A sd L 0 0 0).2.2.2.2.1 → gG h2 124 2 = (rwN R N 10000 A sd L 0 0 0).2.2.2.2.2 → ((rwN R N 10000 A sd L 0 0 0).2.2.2.2.2 = 0 ∨ (rwN R N 10000 A sd L 0 0 0).2.2.2.2.2 = 1) → Q none h2) : WP X XL d 109 [vR 124, vR v, vR st, vI sd] h Q := by
  have gg : ∀ (r : Nat) (i : Int), ¬ r = 124 → gG (th0 h v st sd) r i = gG h r i := fun r i q => by
    unfold th0
    rw [gG_sG, if_neg (by omega), gG_sG, if_neg (by omega), gG_sG, if_neg (by omega), gG_sG, if_neg (by omega)]
    rfl
  have gr : ∀ (r : Nat) (i : Int), ¬ (r = 124 ∧ (i = 5 ∨ i = 6)) → gR (th0 h v st sd) r i = gR h r i := fun r i q => by
    unfold th0
    rw [gR_sG, gR_sG, gR_sG, gR_sG, gR_sR, if_neg (by omega), gR_sR, if_neg (by omega)]
  have r5 : gR (th0 h v st sd) 124 5 = v := by
    unfold th0
    rw [gR_sG, gR_sG, gR_sG, gR_sG, gR_sR, if_neg (by omega), gR_sR, if_pos ⟨rfl, rfl⟩]
  have r6 : gR (th0 h v st sd) 124 6 = st := by
    unfold th0
    rw [gR_sG, gR_sG, gR_sG, gR_sG, gR_sR, if_pos ⟨rfl, rfl⟩]
  have e4 : gG (th0 h v st sd) 124 4 = sd := by unfold th0; rw [g_ne (by omega), g_ne (by omega), g_ne (by omega), g_same]
  have e0 : gG (th0 h v st sd) 124 0 = 0 := by unfold th0; rw [g_ne (by omega), g_ne (by omega), g_same]
  have e1 : gG (th0 h v st sd) 124 1 = 0 := by unfold th0; rw [g_ne (by omega), g_same]
  have e2 : gG (th0 h v st sd) 124 2 = 0 := by unfold th0; rw [g_same]
  have hD0 := hD.c (h' := th0 h v st sd) (fun r i a b => gg r i (by omega))
  refine w_goThrough (L := L) (A := A) (R := R) (N := N) (K := K) hd hN hK kl hsd ⟨hV.eq (by exact rfl) (fun i => gr v i (by omega)) hT (fun r i a b => gg r i (by omega)), ⟨hc, hT.eq (fun i => gr v i (by omega)), ⟨kl, r6, (gr _ _ (by omega)).trans r3, k125, l125⟩, r5, hS.eq (by exact rfl) (fun i => gr st i (by omega)), hD0.2.1, hD0.2.2⟩, FrW.refl, hL.c (fun i => gg 125 i (by omega)), ⟨e4, hsd⟩, ⟨e0, e1, e2⟩, by omega, by omega, by omega, hVR⟩ (fun h2 hE => ?_)
  obtain ⟨q1, q2, q3, q4, q5, q6, q7, q8, q9, q10, q11⟩ := hE
  exact fin h2 (th0_l q3) q1 q4 q6 q7 q8 q11
set_option maxHeartbeats 4000000 in
theorem c_liveN {X : Int → Int} {XL : Int} {d : Nat} {h : Mem} {Q : RetP} {K : Int} {A : Int → Int} {v : Nat} {st : Nat} {sd : Int} (hd : 2 ≤ d) (hC : Cls K v h A) (r9 : gR h 0 9 = st) (ks : kd h st = 3) (hb : ¬ (0 ≤ sd ∧ sd ≤ 9999) ∨ gG h st 0 = 0) (hq : Q (some (vI (-1))) (sG h 0 0 (if 0 ≤ sd ∧ sd ≤ 9999 then 6 else 1))) : WP X XL d 169 [vR 0, vI sd] h Q := by
  obtain ⟨⟨k00, r7, hT⟩, hV⟩ := id hC; have kn := hV.1.1; have hA := hV.2.2
  refine eX9_live (by omega) ?_
  by_cases c0 : 0 ≤ sd ∧ sd ≤ 9999
  · rw [if_pos c0] at hq
    have t0 : gG h st 0 = 0 := by omega
    (repeat' (first | (exact hq) | (rw [r9]) | (rw [t0]) | (refine w_within (by omega) (fun c => ?_) (fun c => False.elim (by omega))) | (refine w_within (by omega) (fun c => False.elim (by omega)) (fun c => ?_)) | (refine w_within (by omega) (fun c => ?_) (fun c => ?_)) | (refine w_given (by omega) k00 ?_) | (refine w_none (by omega) k00 ?_) | (refine Ex_step ?_; conv => whnf) | (refine ⟨?_, trivial⟩) | (refine (show den _ _ _ _ _ _ _ _ from ?_); conv => whnf) | (refine ⟨fun c => False.elim (by omega), fun c => ?_⟩) | (refine ⟨fun c => ?_, fun c => False.elim (by omega)⟩) | (refine ⟨by (first | assumption | rfl | (exact Nat.le_of_ble_eq_true rfl) | (exact ⟨fun h01 => absurd h01 (by decide), by first | rfl | assumption⟩) | (exact ⟨fun _ => by decide, by first | rfl | assumption⟩) | (exact ⟨by assumption, by omega, by omega⟩) | (unfold inI; omega) | omega), ?_⟩; conv => whnf) | (refine ⟨fun c => ?_, fun c => ?_⟩) | (intro c) | fail))
  · rw [if_neg c0] at hq
    (repeat' (first | (exact hq) | (refine w_within (by omega) (fun c => ?_) (fun c => False.elim (by omega))) | (refine w_within (by omega) (fun c => False.elim (by omega)) (fun c => ?_)) | (refine w_within (by omega) (fun c => ?_) (fun c => ?_)) | (refine w_given (by omega) k00 ?_) | (refine w_none (by omega) k00 ?_) | (refine Ex_step ?_; conv => whnf) | (refine ⟨?_, trivial⟩) | (refine (show den _ _ _ _ _ _ _ _ from ?_); conv => whnf) | (refine ⟨fun c => False.elim (by omega), fun c => ?_⟩) | (refine ⟨fun c => ?_, fun c => False.elim (by omega)⟩) | (refine ⟨by (first | assumption | rfl | (exact Nat.le_of_ble_eq_true rfl) | (exact ⟨fun h01 => absurd h01 (by decide), by first | rfl | assumption⟩) | (exact ⟨fun _ => by decide, by first | rfl | assumption⟩) | (exact ⟨by assumption, by omega, by omega⟩) | (unfold inI; omega) | omega), ?_⟩; conv => whnf) | (refine ⟨fun c => ?_, fun c => ?_⟩) | (intro c) | fail))
def FrLt (v : Nat) (h h' : Mem) : Prop := h'.1 = h.1 ∧ (∀ r i, ¬ (r = 124 ∧ (i = 5 ∨ i = 6)) → gR h' r i = gR h r i) ∧ ∀ r i, ¬ VP v r → ¬ r = 124 → ¬ r = 125 → ¬ r = 126 → ¬ (r = 0 ∧ i = 18) → gG h' r i = gG h r i
set_option maxHeartbeats 4000000 in
theorem c_live {X : Int → Int} {XL : Int} {d : Nat} {h : Mem} {Q : RetP} {K : Int} {A : Int → Int} {v : Nat} {st : Nat} {R : Int → Int → Int} {N sd : Int} {L : Int → Int} (hd : 12 ≤ d) (hC : Cls K v h A) (hK : K + 25000 ≤ 30000000) (hDc : DcC h v st) (hD : DcS h st R N) (hN : 0 ≤ N ∧ N ≤ 60) (hVR : ∀ k, 0 ≤ k → k < N → VRow A R N k) (hL : LRel h L) (hsd : 0 ≤ sd ∧ sd ≤ 9999) (fin : ∀ h2, Vr (K + 25000) h2 v (rwN R N 10000 A sd L 0 0 0).1 → FrLt v h h2 → LRel h2 (rwN R N 10000 A sd L 0 0 0).2.2.1 → (∀ j, 0 ≤ j → j < 5 → gG h2 126 j = tlV A (rwN R N 10000 A sd L 0 0 0) j) → gG h2 0 18 = 1 → Q (some (vI (rwN R N 10000 A sd L 0 0 0).2.2.2.1)) (sG h2 0 0 0)) : WP X XL d 169 [vR 0, vI sd] h Q := by
  obtain ⟨⟨k00, r7, hT⟩, hV⟩ := id hC; have kn := hV.1.1; have hA := hV.2.2
  obtain ⟨r9, ⟨r16, kl, r3, k125, l125⟩, hSo, ⟨r17, k126, l126⟩, ⟨c1, c2, c3, c4, c5⟩⟩ := id hDc
  have ks := hSo.1
  have t0 := hD.1
  have g19 := hV.2.1.1.2.2.2.2.2.2.1
  have t5 := tot_45 (w := 5) hA (Or.inr rfl)
  have t4 := tot_45 (w := 4) hA (Or.inl rfl)
  have b6 := hA.2.2.2.2.2.2.1
  have lf : ∀ (d' : Nat) (Q' : RetP), 10 ≤ d' → (∀ h2, FrLf v h h2 → Vr (K + 24900) h2 v (rwN R N 10000 A sd L 0 0 0).1 → LRel h2 (rwN R N 10000 A sd L 0 0 0).2.2.1 → gG h2 124 0 = (rwN R N 10000 A sd L 0 0 0).2.2.2.1 → gG h2 124 1 = (rwN R N 10000 A sd L 0 0 0).2.2.2.2.1 → gG h2 124 2 = (rwN R N 10000 A sd L 0 0 0).2.2.2.2.2 → ((rwN R N 10000 A sd L 0 0 0).2.2.2.2.2 = 0 ∨ (rwN R N 10000 A sd L 0 0 0).2.2.2.2.2 = 1) → Q' none h2) → WP X XL d' 109 [vR 124, vR v, vR st, vI sd] h Q' := fun d' Q' a b => w_life a hN (by omega) hV hT ⟨c1, c2, c3⟩ kl r3 k125 l125 hSo hD hL hVR (by omega) b
  generalize rwN R N 10000 A sd L 0 0 0 = r at fin lf
  refine eX9_live (by omega) ?_
  (repeat' (first | (rw [r7]) | (rw [r9]) | (rw [t0]) | (rw [r16]) | (rw [g19]) | (refine w_fellByAll (by omega) hV ?_) | (refine w_paidByAll (by omega) hV ?_) | (refine lf _ _ (by omega) (fun h2 f2 hV2 hL2 d0 d1 d2 d3 => ?_)) | (refine w_within (by omega) (fun c => ?_) (fun c => False.elim (by omega))) | (refine w_within (by omega) (fun c => False.elim (by omega)) (fun c => ?_)) | (refine w_within (by omega) (fun c => ?_) (fun c => ?_)) | (refine Ex_step ?_; conv => whnf) | (refine ⟨?_, trivial⟩) | (refine (show den _ _ _ _ _ _ _ _ from ?_); conv => whnf) | (refine ⟨fun c => False.elim (by omega), fun c => ?_⟩) | (refine ⟨fun c => ?_, fun c => False.elim (by omega)⟩) | (refine ⟨by (first | assumption | rfl | (exact Nat.le_of_ble_eq_true rfl) | (exact ⟨fun h01 => absurd h01 (by decide), by first | rfl | assumption⟩) | (exact ⟨fun _ => by decide, by first | rfl | assumption⟩) | (exact ⟨by assumption, by omega, by omega⟩) | (unfold inI; omega) | omega), ?_⟩; conv => whnf) | (refine ⟨fun c => ?_, fun c => ?_⟩) | (intro c) | fail))
  have kt := fun (r : Nat) => (show kd h2 r = kd h r by unfold kd; rw [f2.1])
  have k02 : kd h2 0 = 9 := (kt 0).trans k00
  have r72 : gR h2 0 7 = v := (f2.2.1 0 7 (by omega)).trans r7
  have r162 : gR h2 0 16 = 124 := (f2.2.1 0 16 (by omega)).trans r16
  have r172 : gR h2 0 17 = 126 := (f2.2.1 0 17 (by omega)).trans r17
  have kl2 := (kt 124).trans kl
  have k1262 := (kt 126).trans k126
  have l1262 : ln h2 126 = 5 := by unfold ln; rw [f2.1]; exact l126
  have kv2 := hV2.1.1
  have hA2 := hV2.2.2
  have gs := f2.1
  have u5 := tot_45 (w := 5) hA2 (Or.inr rfl)
  have u4 := tot_45 (w := 4) hA2 (Or.inl rfl)
  have u6 := hA2.2.2.2.2.2.2.1
  have g192 := hV2.2.1.1.2.2.2.2.2.2.1
  have hT2 : VAt h2 v := hT.eq (fun i => f2.2.1 v i (by omega))
  have hVs : ∀ h3 : Mem, h3.1 = h2.1 → h3.2.2 = h2.2.2 → (∀ (r : Nat) i, ¬ r = 126 → gG h3 r i = gG h2 r i) → Vr (K + 24900) h3 v r.1 := fun h3 a b c => hV2.eq a (fun i => by unfold gR; rw [b]) hT2 (fun q i x y => c q i (by omega))
  have hV3 := hVs (sG (sG h2 126 0 r.2.2.2.2.1) 126 1 (r.1 6 - A 6)) rfl rfl (fun q i x => by rw [gG_sG, if_neg (by omega), gG_sG, if_neg (by omega)])
  have hV4 := hVs (sG (sG (sG h2 126 0 r.2.2.2.2.1) 126 1 (r.1 6 - A 6)) 126 2 (totA r.1 5 - totA A 5)) rfl rfl (fun q i x => by rw [gG_sG, if_neg (by omega), gG_sG, if_neg (by omega), gG_sG, if_neg (by omega)])
  have done : ∀ lf, lf = r.2.2.2.2.2 → Q (some (vI r.2.2.2.1)) (sG (sG (sG (sG (sG (sG (sG h2 126 0 r.2.2.2.2.1) 126 1 (r.1 6 - A 6)) 126 2 (totA r.1 5 - totA A 5)) 126 3 (totA r.1 4 - totA A 4)) 126 4 lf) 0 18 1) 0 0 0) := fun lf elf => by
    have g5 : ∀ (q : Nat) (i : Int), ¬ q = 126 → ¬ (q = 0 ∧ i = 18) → gG (sG (sG (sG (sG (sG (sG h2 126 0 r.2.2.2.2.1) 126 1 (r.1 6 - A 6)) 126 2 (totA r.1 5 - totA A 5)) 126 3 (totA r.1 4 - totA A 4)) 126 4 lf) 0 18 1) q i = gG h2 q i := fun q i a b => by
      rw [gG_sG, if_neg b, gG_sG, if_neg (fun e => a e.1), gG_sG, if_neg (fun e => a e.1), gG_sG, if_neg (fun e => a e.1), gG_sG, if_neg (fun e => a e.1), gG_sG, if_neg (fun e => a e.1)]
    refine fin _ (Vr_K (hV2.eq (by exact rfl) (fun i => by exact rfl) hT2 (fun q i x y => g5 q i (by omega) (by omega))) (by omega) (by omega)) ⟨gs, f2.2.1, fun q i a b c d e => (g5 q i d e).trans (f2.2.2 q i a b c)⟩ (hL2.c (fun i => g5 125 i (by omega) (by omega))) (fun j a b => ?_) g_same
    rw [gG_sG, if_neg (by omega)]
    unfold tlV
    rcases (show j = 0 ∨ j = 1 ∨ j = 2 ∨ j = 3 ∨ j = 4 by omega) with e | e | e | e | e <;> subst e
    · rw [if_pos rfl, g_ne (by omega), g_ne (by omega), g_ne (by omega), g_ne (by omega), g_same]
    · rw [if_neg (by omega), if_pos rfl, g_ne (by omega), g_ne (by omega), g_ne (by omega), g_same]
    · rw [if_neg (by omega), if_neg (by omega), if_pos rfl, g_ne (by omega), g_ne (by omega), g_same]
    · rw [if_neg (by omega), if_neg (by omega), if_neg (by omega), if_pos rfl, g_ne (by omega), g_same]
    · rw [if_neg (by omega), if_neg (by omega), if_neg (by omega), if_neg (by omega), g_same, elf]
  have p0 : gG (sG h2 126 0 r.2.2.2.2.1) v 19 = r.1 6 := by rw [gG_sG, if_neg (by omega)]; exact g192
  have p2 : gG (sG (sG (sG (sG h2 126 0 r.2.2.2.2.1) 126 1 (r.1 6 - A 6)) 126 2 (totA r.1 5 - totA A 5)) 126 3 (totA r.1 4 - totA A 4)) 124 2 = r.2.2.2.2.2 := by rw [gG_sG, if_neg (by omega), gG_sG, if_neg (by omega), gG_sG, if_neg (by omega), gG_sG, if_neg (by omega)]; exact d2
  have p9 : ∀ lf, gG (sG (sG (sG (sG (sG (sG h2 126 0 r.2.2.2.2.1) 126 1 (r.1 6 - A 6)) 126 2 (totA r.1 5 - totA A 5)) 126 3 (totA r.1 4 - totA A 4)) 126 4 lf) 0 18 1) 124 0 = r.2.2.2.1 := fun lf => by rw [gG_sG, if_neg (by omega), gG_sG, if_neg (by omega), gG_sG, if_neg (by omega), gG_sG, if_neg (by omega), gG_sG, if_neg (by omega), gG_sG, if_neg (by omega)]; exact d0
  (repeat' (first | (exact done _ (by omega)) | (rw [gR_sG]) | (rw [r72]) | (rw [r162]) | (rw [r172]) | (rw [d1]) | (rw [p0]) | (rw [p2]) | (rw [p9]) | (refine w_fellByAll (by omega) hV3 ?_) | (refine w_paidByAll (by omega) hV4 ?_) | (refine w_given (by omega) k02 ?_) | (refine ⟨⟨k1262, by omega, Int.lt_of_lt_of_le (by omega : _ < (5 : Int)) (Int.le_of_eq l1262.symm)⟩, ?_⟩; conv => whnf) | (refine Ex_step ?_; conv => whnf) | (refine ⟨?_, trivial⟩) | (refine (show den _ _ _ _ _ _ _ _ from ?_); conv => whnf) | (refine ⟨fun c => False.elim (by omega), fun c => ?_⟩) | (refine ⟨fun c => ?_, fun c => False.elim (by omega)⟩) | (refine ⟨by (first | assumption | rfl | (exact Nat.le_of_ble_eq_true rfl) | (exact ⟨fun h01 => absurd h01 (by decide), by first | rfl | assumption⟩) | (exact ⟨fun _ => by decide, by first | rfl | assumption⟩) | (exact ⟨by assumption, by omega, by omega⟩) | (unfold inI; omega) | omega), ?_⟩; conv => whnf) | (refine ⟨fun c => ?_, fun c => ?_⟩) | (intro c) | fail))
