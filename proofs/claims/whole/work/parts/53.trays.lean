/-! LEVEL 2: trays, both sides -/
def tO (t : Int) : Nat := 2 + 2 * t.toNat
def tN (t : Int) : Nat := 3 + 2 * t.toNat
def TC (h : Mem) (S M : Int → Int) (T : Int → Int → Int) : Prop := (kd h 0 = 9 ∧ gR h 0 3 = 1 ∧ kd h 1 = 104 ∧ ln h 1 = 4) ∧ ∀ t, 0 ≤ t → t < 4 → gR h 1 t = tO t ∧ kd h (tO t) = 6 ∧ gR h (tO t) 0 = tN t ∧ kd h (tN t) = 101 ∧ ln h (tN t) = 60 ∧ gG h (tO t) 1 = S t ∧ gG h (tO t) 2 = M t ∧ ∀ k, 0 ≤ k → k < M t → gG h (tN t) k = T t k
def TR (h : Mem) (S M : Int → Int) (T : Int → Int → Int) : Prop := (kd h 127 = 10 ∧ gR h 127 5 = 130 ∧ gR h 127 6 = 131 ∧ gR h 127 7 = 132 ∧ kd h 130 = 100 ∧ ln h 130 = 4 ∧ kd h 131 = 100 ∧ ln h 131 = 4 ∧ kd h 132 = 101 ∧ ln h 132 = 240) ∧ ∀ t, 0 ≤ t → t < 4 → gG h 130 t = S t ∧ gG h 131 t = M t ∧ ∀ k, 0 ≤ k → k < M t → gG h 132 (60 * t + k) = T t k
def TB (S M : Int → Int) : Prop := ∀ t, 0 ≤ t → t < 4 → (0 ≤ S t ∧ S t ≤ 3) ∧ -1 ≤ M t ∧ M t ≤ 60
def TP : Nat → Prop := fun r => 2 ≤ r ∧ r ≤ 9
def RP : Nat → Prop := fun r => r = 130 ∨ r = 131 ∨ r = 132
theorem TC.fr {P : Nat → Prop} {h h' : Mem} {S M : Int → Int} {T : Int → Int → Int} (a : Fr P h h') (b : ∀ r, 2 ≤ r → r ≤ 9 → ¬ P r) (q : TC h S M T) : TC h' S M T := by
  obtain ⟨⟨q1, q2, q3, q4⟩, hh⟩ := q
  refine ⟨⟨(kd_fr a _).trans q1, (gR_fr a _ _).trans q2, (kd_fr a _).trans q3, (ln_fr a _).trans q4⟩, fun t h0 h1 => ?_⟩
  obtain ⟨e1, e2, e3, e4, e5, e6, e7, e8⟩ := hh t h0 h1
  have p1 : ¬ P (tO t) := b _ (by unfold tO; omega) (by unfold tO; omega)
  have p2 : ¬ P (tN t) := b _ (by unfold tN; omega) (by unfold tN; omega)
  exact ⟨(gR_fr a _ _).trans e1, (kd_fr a _).trans e2, (gR_fr a _ _).trans e3, (kd_fr a _).trans e4, (ln_fr a _).trans e5, (a.2.2 _ p1 _).trans e6, (a.2.2 _ p1 _).trans e7, fun k hk0 hk1 => (a.2.2 _ p2 _).trans (e8 k hk0 hk1)⟩
theorem TR.fr {P : Nat → Prop} {h h' : Mem} {S M : Int → Int} {T : Int → Int → Int} (a : Fr P h h') (b : ∀ r, RP r → ¬ P r) (q : TR h S M T) : TR h' S M T := by
  obtain ⟨⟨q1, q2, q3, q4, q5, q6, q7, q8, q9, q10⟩, hh⟩ := q
  refine ⟨⟨(kd_fr a _).trans q1, (gR_fr a _ _).trans q2, (gR_fr a _ _).trans q3, (gR_fr a _ _).trans q4, (kd_fr a _).trans q5, (ln_fr a _).trans q6, (kd_fr a _).trans q7, (ln_fr a _).trans q8, (kd_fr a _).trans q9, (ln_fr a _).trans q10⟩, fun t h0 h1 => ?_⟩
  obtain ⟨e1, e2, e3⟩ := hh t h0 h1
  exact ⟨(a.2.2 _ (b _ (Or.inl rfl)) _).trans e1, (a.2.2 _ (b _ (Or.inr (Or.inl rfl))) _).trans e2, fun k hk0 hk1 => (a.2.2 _ (b _ (Or.inr (Or.inr rfl))) _).trans (e3 k hk0 hk1)⟩
/-- one tray laid anew -/
def tlT (T : Int → Int → Int) (t : Int) : Int → Int → Int := fun t' k => if t' = t then 0 else T t' k
theorem TC.lay {h h' : Mem} {S M : Int → Int} {T : Int → Int → Int} {t s m : Int} (hT : TC h S M T) (ht : 0 ≤ t ∧ t < 4) (hm : m ≤ 60) (fr1 : Fr (fun r => r = tN t ∨ r = tO t) h h') (z1 : ∀ i, 0 ≤ i → i < 60 → gG h' (tN t) i = 0) (s1 : gG h' (tO t) 1 = s) (m1 : gG h' (tO t) 2 = m) : TC h' (pu S t s) (pu M t m) (tlT T t) := by
  obtain ⟨⟨k00, r3, kk1, l1⟩, hh⟩ := id hT
  refine ⟨⟨(kd_fr fr1 _).trans k00, (gR_fr fr1 _ _).trans r3, (kd_fr fr1 _).trans kk1, (ln_fr fr1 _).trans l1⟩, fun t' h0 h4 => ?_⟩
  obtain ⟨f1, f2, f3, f4, f5, f6, f7, f8⟩ := hh t' h0 h4
  refine ⟨(gR_fr fr1 _ _).trans f1, (kd_fr fr1 _).trans f2, (gR_fr fr1 _ _).trans f3, (kd_fr fr1 _).trans f4, (ln_fr fr1 _).trans f5, ?_⟩
  by_cases e : t' = t
  · subst e
    rw [pu_e, pu_e]
    refine ⟨s1, m1, fun k hk0 hk1 => ?_⟩
    rw [z1 k hk0 (by omega)]
    unfold tlT
    rw [if_pos rfl]
  · rw [pu_n e, pu_n e]
    have p1 : ¬ (tO t' = tN t ∨ tO t' = tO t) := by unfold tO tN; omega
    have p2 : ¬ (tN t' = tN t ∨ tN t' = tO t) := by unfold tO tN; omega
    refine ⟨(fr1.2.2 _ p1 _).trans f6, (fr1.2.2 _ p1 _).trans f7, fun k hk0 hk1 => ?_⟩
    unfold tlT
    rw [if_neg e]
    exact (fr1.2.2 _ p2 _).trans (f8 k hk0 hk1)
def okTr (t s m : Int) : Prop := (0 ≤ t ∧ t < 4) ∧ (0 ≤ s ∧ s ≤ 3) ∧ 0 ≤ m ∧ m ≤ 60
set_option maxHeartbeats 4000000 in
theorem c_trayY {X : Int → Int} {XL : Int} {d : Nat} {h : Mem} {Q : RetP} {S M : Int → Int} {T : Int → Int → Int} {t s m : Int} (hd : 9 ≤ d) (hT : TC h S M T) (ok : okTr t s m) (hq : ∀ h', TC h' (pu S t s) (pu M t m) (tlT T t) → Fr TP h h' → Q (some (vI 1)) (sG h' 0 0 0)) : WP X XL d 121 [vR 0, vI t, vI s, vI m] h Q := by
  obtain ⟨⟨k00, r3, kk1, l1⟩, hh⟩ := id hT
  obtain ⟨ht, hs, hm⟩ := ok
  obtain ⟨e1, e2, e3, e4, e5, e6, e7, e8⟩ := hh t ht.1 ht.2
  have hne : ¬ tO t = tN t := by unfold tO tN; omega
  refine eX9_tray (by omega) ?_
  (repeat' (first | (rw [r3]) | (rw [e1]) | (refine w_isTray (by omega) (fun c => ?_) (fun c => absurd ht c)) | (refine w_within (by omega) (fun c => ?_) (fun c => absurd (by omega) c)) | (refine w_tLay (by omega) e2 e3 e4 e5 hne (fun h1 fr1 z1 s1 m1 => ?_); have k0' := (kd_fr fr1 0).trans k00; have g1 := fr1.1) | (refine w_yes (by omega) k0' ?_) | (refine Ex_step ?_; conv => whnf) | (refine ⟨?_, trivial⟩) | (refine (show den _ _ _ _ _ _ _ _ from ?_); conv => whnf) | (refine ⟨by (first | assumption | rfl | (exact Nat.le_of_ble_eq_true rfl) | (exact ⟨fun h01 => absurd h01 (by decide), by first | rfl | assumption⟩) | (exact ⟨fun _ => by decide, by first | rfl | assumption⟩) | (exact ⟨by assumption, by omega, by omega⟩) | (unfold inI; omega) | omega), ?_⟩; conv => whnf) | (refine ⟨fun c => False.elim (by omega), fun c => ?_⟩) | (refine ⟨fun c => ?_, fun c => False.elim (by omega)⟩) | (refine ⟨fun c => ?_, fun c => ?_⟩) | (intro c) | fail))
  exact hq h1 (hT.lay ht hm.2 fr1 z1 s1 m1) (fr1.mono (fun r hr => by unfold TP; unfold tO tN at hr; omega))
set_option maxHeartbeats 4000000 in
theorem c_trayN {X : Int → Int} {XL : Int} {d : Nat} {h : Mem} {Q : RetP} {S M : Int → Int} {T : Int → Int → Int} {t s m : Int} (hd : 9 ≤ d) (hT : TC h S M T) (ok : ¬ okTr t s m) (hq : Q (some (vI 0)) (sG h 0 0 1)) : WP X XL d 121 [vR 0, vI t, vI s, vI m] h Q := by
  obtain ⟨⟨k00, r3, kk1, l1⟩, hh⟩ := id hT
  unfold okTr at ok
  refine eX9_tray (by omega) ?_
  (repeat' (first | (refine w_isTray (by omega) (fun c => ?_) (fun c => False.elim (by omega))) | (refine w_isTray (by omega) (fun c => False.elim (by omega)) (fun c => ?_)) | (refine w_isTray (by omega) (fun c => ?_) (fun c => ?_)) | (refine w_within (by omega) (fun c => ?_) (fun c => False.elim (by omega))) | (refine w_within (by omega) (fun c => False.elim (by omega)) (fun c => ?_)) | (refine w_within (by omega) (fun c => ?_) (fun c => ?_)) | (refine w_not (by omega) k00 ?_) | (refine Ex_step ?_; conv => whnf) | (refine ⟨?_, trivial⟩) | (refine (show den _ _ _ _ _ _ _ _ from ?_); conv => whnf) | (refine ⟨by (first | assumption | rfl | (exact Nat.le_of_ble_eq_true rfl) | (exact ⟨fun h01 => absurd h01 (by decide), by first | rfl | assumption⟩) | (exact ⟨fun _ => by decide, by first | rfl | assumption⟩) | (exact ⟨by assumption, by omega, by omega⟩) | (unfold inI; omega) | omega), ?_⟩; conv => whnf) | (refine ⟨fun c => False.elim (by omega), fun c => ?_⟩) | (refine ⟨fun c => ?_, fun c => False.elim (by omega)⟩) | (refine ⟨fun c => ?_, fun c => ?_⟩) | (intro c) | fail))
  all_goals exact hq
/-- zeros from b on, k of them -/
def zrG (h : Mem) (r : Nat) (b k : Int) : Mem := (h.1, fun r' i => if r' = r ∧ b ≤ i ∧ i < b + k then 0 else h.2.1 r' i, h.2.2)
theorem zr_0 {h : Mem} {r : Nat} {b : Int} : zrG h r b 0 = h := by
  unfold zrG
  have : (fun r' i => if r' = r ∧ b ≤ i ∧ i < b + 0 then 0 else h.2.1 r' i) = h.2.1 := by
    funext r' i
    rw [if_neg (by omega)]
  rw [this]
theorem zr_s {h : Mem} {r : Nat} {b k : Int} (hk : 0 ≤ k) : sG (zrG h r b k) r (b + k) 0 = zrG h r b (k + 1) := by
  unfold sG zrG
  have : (fun r' i' => if r' = r ∧ i' = b + k then (0 : Int) else if r' = r ∧ b ≤ i' ∧ i' < b + k then 0 else h.2.1 r' i') = fun r' i => if r' = r ∧ b ≤ i ∧ i < b + (k + 1) then 0 else h.2.1 r' i := by
    funext r' i
    by_cases e : r' = r
    · by_cases e2 : i = b + k
      · rw [if_pos ⟨e, e2⟩, if_pos ⟨e, by omega, by omega⟩]
      · rw [if_neg (fun q => e2 q.2)]
        by_cases e3 : b ≤ i ∧ i < b + k
        · rw [if_pos ⟨e, e3⟩, if_pos ⟨e, by omega, by omega⟩]
        · rw [if_neg (fun q => e3 q.2), if_neg (fun q => by omega)]
    · rw [if_neg (fun q => e q.1), if_neg (fun q => e q.1), if_neg (fun q => e q.1)]
  exact congrArg (fun g => (h.1, g, h.2.2)) this
theorem gG_zr {h : Mem} {r r' : Nat} {b k i : Int} : gG (zrG h r b k) r' i = if r' = r ∧ b ≤ i ∧ i < b + k then 0 else gG h r' i := rfl
theorem TR.lay {h : Mem} {S M : Int → Int} {T : Int → Int → Int} {t s m : Int} (hT : TR h S M T) (ht : 0 ≤ t ∧ t < 4) (hB : TB S M) (hm : m ≤ 60) : TR (zrG (sG (sG h 130 t s) 131 t m) 132 (60 * t) m) (pu S t s) (pu M t m) (tlT T t) := by
  obtain ⟨⟨kq, r5, r6, r7, k130, l130, k131, l131, k132, l132⟩, hh⟩ := id hT
  refine ⟨⟨kq, r5, r6, r7, k130, l130, k131, l131, k132, l132⟩, fun t' h0 h4 => ?_⟩
  obtain ⟨e1, e2, e3⟩ := hh t' h0 h4
  have hb := hB t' h0 h4
  by_cases e : t' = t
  · subst e
    rw [pu_e, pu_e]
    refine ⟨?_, ?_, fun k hk0 hk1 => ?_⟩
    · rw [gG_zr, if_neg (by omega), gG_sG, if_neg (by omega), gG_sG, if_pos ⟨rfl, rfl⟩]
    · rw [gG_zr, if_neg (by omega), gG_sG, if_pos ⟨rfl, rfl⟩]
    · rw [gG_zr, if_pos (by omega)]
      unfold tlT
      rw [if_pos rfl]
  · rw [pu_n e, pu_n e]
    refine ⟨?_, ?_, fun k hk0 hk1 => ?_⟩
    · rw [gG_zr, if_neg (by omega), gG_sG, if_neg (by omega), gG_sG, if_neg (by omega)]; exact e1
    · rw [gG_zr, if_neg (by omega), gG_sG, if_neg (by omega), gG_sG, if_neg (by omega)]; exact e2
    · unfold tlT
      rw [gG_zr, if_neg (by omega), gG_sG, if_neg (by omega), gG_sG, if_neg (by omega), if_neg e]; exact e3 k hk0 hk1
theorem Fr.zr {P : Nat → Prop} {h h' : Mem} {r : Nat} {b k : Int} (a : Fr P h h') (hr : P r) : Fr P h (zrG h' r b k) := ⟨a.1, a.2.1, fun r' hr' i' => by
  have e : ¬ (r' = r ∧ b ≤ i' ∧ i' < b + k) := fun q => hr' (q.1 ▸ hr)
  rw [gG_zr, if_neg e]; exact a.2.2 r' hr' i'⟩
theorem gR_zr {h : Mem} {r r' : Nat} {b k i : Int} : gR (zrG h r b k) r' i = gR h r' i := rfl
set_option maxHeartbeats 4000000 in
theorem m_trayY {X : Int → Int} {XL : Int} {d : Nat} {h : Mem} {Q : RetP} {S M : Int → Int} {T : Int → Int → Int} {t s m : Int} (hd : 9 ≤ d) (hT : TR h S M T) (hB : TB S M) (ok : okTr t s m) (hq : ∀ h', TR h' (pu S t s) (pu M t m) (tlT T t) → Fr RP h h' → Q (some (vI 1)) (sG h' 127 2 0)) : WP X XL d 203 [vR 127, vI t, vI s, vI m] h Q := by
  obtain ⟨ht, hs, hm⟩ := ok
  have hq := hq _ (hT.lay (s := s) (m := m) ht hB hm.2) (((Fr.refl.sG (Or.inl rfl)).sG (Or.inr (Or.inl rfl))).zr (Or.inr (Or.inr rfl)))
  obtain ⟨⟨kq, r5, r6, r7, k130, l130, k131, l131, k132, l132⟩, hh⟩ := id hT
  have loop : ∀ (k : Nat) (j : Int), (m - j).toNat = k → 0 ≤ j → j ≤ m → Ex (WP X XL (d - 1)) KX10_tray h.1 Q 49 [some (vR 127), some (vI t), some (vI s), some (vI m), some (vI j)] [] (zrG (sG (sG h 130 t s) 131 t m) 132 (60 * t) j) := by
    intro k; induction k with
    | zero =>
      intro j hk h0 h1
      obtain rfl : j = m := by omega
      (repeat' (first | (refine r_is (by omega) kq (fun _ => ?_) (fun c => absurd rfl c)) | (refine Ex_step ?_; conv => whnf) | (refine ⟨?_, trivial⟩) | (refine (show den _ _ _ _ _ _ _ _ from ?_); conv => whnf) | (refine ⟨by (first | assumption | rfl | (exact Nat.le_of_ble_eq_true rfl) | (exact ⟨fun h01 => absurd h01 (by decide), by first | rfl | assumption⟩) | (exact ⟨fun _ => by decide, by first | rfl | assumption⟩) | (exact ⟨by assumption, by omega, by omega⟩) | (unfold inI; omega) | omega), ?_⟩; conv => whnf) | (refine ⟨fun c => False.elim (by omega), fun c => ?_⟩) | (refine ⟨fun c => ?_, fun c => False.elim (by omega)⟩) | (refine ⟨fun c => ?_, fun c => ?_⟩) | (intro c) | fail))
      exact hq
    | succ k ih =>
      intro j hk h0 h1
      have ih2 := ih (j + 1) (by omega) (by omega) (by omega)
      rw [← zr_s h0] at ih2
      refine Ex_step ?_; conv => whnf
      (repeat' (first | (exact ih2) | (rw [gR_zr]) | (rw [gR_sG]) | (rw [r7]) | (refine ⟨⟨k132, by omega, Int.lt_of_lt_of_le (by omega : _ < (240 : Int)) (Int.le_of_eq l132.symm)⟩, ?_⟩; conv => whnf) | (refine Ex_step ?_; conv => whnf) | (refine ⟨?_, trivial⟩) | (refine (show den _ _ _ _ _ _ _ _ from ?_); conv => whnf) | (refine ⟨by (first | assumption | rfl | (exact Nat.le_of_ble_eq_true rfl) | (exact ⟨fun h01 => absurd h01 (by decide), by first | rfl | assumption⟩) | (exact ⟨fun _ => by decide, by first | rfl | assumption⟩) | (exact ⟨by assumption, by omega, by omega⟩) | (unfold inI; omega) | omega), ?_⟩; conv => whnf) | (refine ⟨fun c => False.elim (by omega), fun c => ?_⟩) | (refine ⟨fun c => ?_, fun c => False.elim (by omega)⟩) | (refine ⟨fun c => ?_, fun c => ?_⟩) | (intro c) | fail))
  have l0 := loop _ 0 rfl (by omega) (by omega)
  rw [zr_0] at l0
  refine eX10_tray (by omega) ?_
  (repeat' (first | (exact l0) | (rw [r5]) | (rw [gR_sG]) | (rw [r6]) | (refine ⟨⟨k130, by omega, Int.lt_of_lt_of_le (by omega : _ < (4 : Int)) (Int.le_of_eq l130.symm)⟩, ?_⟩; conv => whnf) | (refine ⟨⟨k131, by omega, Int.lt_of_lt_of_le (by omega : _ < (4 : Int)) (Int.le_of_eq l131.symm)⟩, ?_⟩; conv => whnf) | (refine r_isTray (by omega) (fun c => ?_) (fun c => absurd ht c)) | (refine Ex_step ?_; conv => whnf) | (refine ⟨?_, trivial⟩) | (refine (show den _ _ _ _ _ _ _ _ from ?_); conv => whnf) | (refine ⟨by (first | assumption | rfl | (exact Nat.le_of_ble_eq_true rfl) | (exact ⟨fun h01 => absurd h01 (by decide), by first | rfl | assumption⟩) | (exact ⟨fun _ => by decide, by first | rfl | assumption⟩) | (exact ⟨by assumption, by omega, by omega⟩) | (unfold inI; omega) | omega), ?_⟩; conv => whnf) | (refine ⟨fun c => False.elim (by omega), fun c => ?_⟩) | (refine ⟨fun c => ?_, fun c => False.elim (by omega)⟩) | (refine ⟨fun c => ?_, fun c => ?_⟩) | (intro c) | fail))
set_option maxHeartbeats 4000000 in
theorem m_trayN {X : Int → Int} {XL : Int} {d : Nat} {h : Mem} {Q : RetP} {S M : Int → Int} {T : Int → Int → Int} {t s m : Int} (hd : 9 ≤ d) (hT : TR h S M T) (ok : ¬ okTr t s m) (hq : Q (some (vI 0)) (sG h 127 2 1)) : WP X XL d 203 [vR 127, vI t, vI s, vI m] h Q := by
  obtain ⟨⟨kq, r5, r6, r7, k130, l130, k131, l131, k132, l132⟩, hh⟩ := id hT
  unfold okTr at ok
  refine eX10_tray (by omega) ?_
  (repeat' (first | (refine r_isTray (by omega) (fun c => ?_) (fun c => False.elim (by omega))) | (refine r_isTray (by omega) (fun c => False.elim (by omega)) (fun c => ?_)) | (refine r_isTray (by omega) (fun c => ?_) (fun c => ?_)) | (refine r_is (by omega) kq (fun c => absurd c (by omega)) (fun _ => ?_)) | (refine Ex_step ?_; conv => whnf) | (refine ⟨?_, trivial⟩) | (refine (show den _ _ _ _ _ _ _ _ from ?_); conv => whnf) | (refine ⟨by (first | assumption | rfl | (exact Nat.le_of_ble_eq_true rfl) | (exact ⟨fun h01 => absurd h01 (by decide), by first | rfl | assumption⟩) | (exact ⟨fun _ => by decide, by first | rfl | assumption⟩) | (exact ⟨by assumption, by omega, by omega⟩) | (unfold inI; omega) | omega), ?_⟩; conv => whnf) | (refine ⟨fun c => False.elim (by omega), fun c => ?_⟩) | (refine ⟨fun c => ?_, fun c => False.elim (by omega)⟩) | (refine ⟨fun c => ?_, fun c => ?_⟩) | (intro c) | fail))
  all_goals exact hq
/-- what is wrong with a place of a tray -/
def wpZ (M : Int → Int) (t k : Int) : Int := if ¬ (0 ≤ t ∧ t < 4) then 1 else if M t = -1 then 2 else if 0 ≤ k ∧ k < M t then 0 else 3
theorem wp_1 {M : Int → Int} {t k : Int} (h : ¬ (0 ≤ t ∧ t < 4)) : wpZ M t k = 1 := if_pos h
theorem wp_2 {M : Int → Int} {t k : Int} (h : 0 ≤ t ∧ t < 4) (h2 : M t = -1) : wpZ M t k = 2 := by unfold wpZ; rw [if_neg (fun q => q h), if_pos h2]
theorem wp_3 {M : Int → Int} {t k : Int} (h : 0 ≤ t ∧ t < 4) (h2 : ¬ M t = -1) (h3 : ¬ (0 ≤ k ∧ k < M t)) : wpZ M t k = 3 := by unfold wpZ; rw [if_neg (fun q => q h), if_neg h2, if_neg h3]
theorem wp_0 {M : Int → Int} {t k : Int} (h : 0 ≤ t ∧ t < 4) (h2 : ¬ M t = -1) (h3 : 0 ≤ k ∧ k < M t) : wpZ M t k = 0 := by unfold wpZ; rw [if_neg (fun q => q h), if_neg h2, if_pos h3]
theorem wp_b {M : Int → Int} {t k : Int} : (wpZ M t k = 0 → (0 ≤ t ∧ t < 4) ∧ ¬ M t = -1 ∧ 0 ≤ k ∧ k < M t) ∧ 0 ≤ wpZ M t k ∧ wpZ M t k ≤ 3 := by
  unfold wpZ
  split
  · omega
  · split
    · omega
    · split <;> omega
set_option maxHeartbeats 4000000 in
theorem w_placeStatus {X : Int → Int} {XL : Int} {d : Nat} {h : Mem} {Q : RetP} {S M : Int → Int} {T : Int → Int → Int} {t k : Int} (hd : 2 ≤ d) (hT : TC h S M T) (hq : Q (some (vI (wpZ M t k))) h) : WP X XL d 185 [vR 0, vI t, vI k] h Q := by
  obtain ⟨⟨k00, r3, kk1, l1⟩, hh⟩ := id hT
  refine eX9_placeStatus (by omega) ?_
  by_cases ht : 0 ≤ t ∧ t < 4
  · obtain ⟨e1, e2, e3, e4, e5, e6, e7, e8⟩ := hh t ht.1 ht.2
    by_cases h2 : M t = -1
    · rw [wp_2 ht h2] at hq
      (repeat' (first | (rw [r3]) | (rw [e1]) | (refine w_isTray (by omega) (fun c => ?_) (fun c => absurd ht c)) | (refine w_tMissing (by omega) e2 (fun c => ?_) (fun c => absurd (e7.trans h2) c)) | (refine Ex_step ?_; conv => whnf) | (refine ⟨?_, trivial⟩) | (refine (show den _ _ _ _ _ _ _ _ from ?_); conv => whnf) | (refine ⟨by (first | assumption | rfl | (exact Nat.le_of_ble_eq_true rfl) | (exact ⟨fun h01 => absurd h01 (by decide), by first | rfl | assumption⟩) | (exact ⟨fun _ => by decide, by first | rfl | assumption⟩) | (exact ⟨by assumption, by omega, by omega⟩) | (unfold inI; omega) | omega), ?_⟩; conv => whnf) | (refine ⟨fun c => False.elim (by omega), fun c => ?_⟩) | (refine ⟨fun c => ?_, fun c => False.elim (by omega)⟩) | (refine ⟨fun c => ?_, fun c => ?_⟩) | (intro c) | fail))
      exact hq
    · by_cases h3 : 0 ≤ k ∧ k < M t
      · rw [wp_0 ht h2 h3] at hq
        (repeat' (first | (rw [r3]) | (rw [e1]) | (refine w_isTray (by omega) (fun c => ?_) (fun c => absurd ht c)) | (refine w_tMissing (by omega) e2 (fun c => absurd (e7.symm.trans c) h2) (fun c => ?_)) | (refine w_tPlace (by omega) e2 (fun c => ?_) (fun c => absurd (by omega) c)) | (refine Ex_step ?_; conv => whnf) | (refine ⟨?_, trivial⟩) | (refine (show den _ _ _ _ _ _ _ _ from ?_); conv => whnf) | (refine ⟨by (first | assumption | rfl | (exact Nat.le_of_ble_eq_true rfl) | (exact ⟨fun h01 => absurd h01 (by decide), by first | rfl | assumption⟩) | (exact ⟨fun _ => by decide, by first | rfl | assumption⟩) | (exact ⟨by assumption, by omega, by omega⟩) | (unfold inI; omega) | omega), ?_⟩; conv => whnf) | (refine ⟨fun c => False.elim (by omega), fun c => ?_⟩) | (refine ⟨fun c => ?_, fun c => False.elim (by omega)⟩) | (refine ⟨fun c => ?_, fun c => ?_⟩) | (intro c) | fail))
        exact hq
      · rw [wp_3 ht h2 h3] at hq
        (repeat' (first | (rw [r3]) | (rw [e1]) | (refine w_isTray (by omega) (fun c => ?_) (fun c => absurd ht c)) | (refine w_tMissing (by omega) e2 (fun c => absurd (e7.symm.trans c) h2) (fun c => ?_)) | (refine w_tPlace (by omega) e2 (fun c => absurd (by omega) h3) (fun c => ?_)) | (refine Ex_step ?_; conv => whnf) | (refine ⟨?_, trivial⟩) | (refine (show den _ _ _ _ _ _ _ _ from ?_); conv => whnf) | (refine ⟨by (first | assumption | rfl | (exact Nat.le_of_ble_eq_true rfl) | (exact ⟨fun h01 => absurd h01 (by decide), by first | rfl | assumption⟩) | (exact ⟨fun _ => by decide, by first | rfl | assumption⟩) | (exact ⟨by assumption, by omega, by omega⟩) | (unfold inI; omega) | omega), ?_⟩; conv => whnf) | (refine ⟨fun c => False.elim (by omega), fun c => ?_⟩) | (refine ⟨fun c => ?_, fun c => False.elim (by omega)⟩) | (refine ⟨fun c => ?_, fun c => ?_⟩) | (intro c) | fail))
        exact hq
  · rw [wp_1 ht] at hq
    (repeat' (first | (refine w_isTray (by omega) (fun c => absurd c ht) (fun c => ?_)) | (refine Ex_step ?_; conv => whnf) | (refine ⟨?_, trivial⟩) | (refine (show den _ _ _ _ _ _ _ _ from ?_); conv => whnf) | (refine ⟨by (first | assumption | rfl | (exact Nat.le_of_ble_eq_true rfl) | (exact ⟨fun h01 => absurd h01 (by decide), by first | rfl | assumption⟩) | (exact ⟨fun _ => by decide, by first | rfl | assumption⟩) | (exact ⟨by assumption, by omega, by omega⟩) | (unfold inI; omega) | omega), ?_⟩; conv => whnf) | (refine ⟨fun c => False.elim (by omega), fun c => ?_⟩) | (refine ⟨fun c => ?_, fun c => False.elim (by omega)⟩) | (refine ⟨fun c => ?_, fun c => ?_⟩) | (intro c) | fail))
    exact hq
set_option maxHeartbeats 4000000 in
theorem r_wrongPlace {X : Int → Int} {XL : Int} {d : Nat} {h : Mem} {Q : RetP} {S M : Int → Int} {T : Int → Int → Int} {t k : Int} (hd : 2 ≤ d) (hT : TR h S M T) (hq : Q (some (vI (wpZ M t k))) h) : WP X XL d 204 [vR 127, vI t, vI k] h Q := by
  obtain ⟨⟨kq, r5, r6, r7, k130, l130, k131, l131, k132, l132⟩, hh⟩ := id hT
  refine eX10_wrongPlace (by omega) ?_
  by_cases ht : 0 ≤ t ∧ t < 4
  · obtain ⟨e1, e2, e3⟩ := hh t ht.1 ht.2
    by_cases h2 : M t = -1
    · rw [wp_2 ht h2] at hq
      (repeat' (first | (rw [r6]) | (rw [e2]) | (refine r_isTray (by omega) (fun c => ?_) (fun c => absurd ht c)) | (refine Ex_step ?_; conv => whnf) | (refine ⟨?_, trivial⟩) | (refine (show den _ _ _ _ _ _ _ _ from ?_); conv => whnf) | (refine ⟨by (first | assumption | rfl | (exact Nat.le_of_ble_eq_true rfl) | (exact ⟨fun h01 => absurd h01 (by decide), by first | rfl | assumption⟩) | (exact ⟨fun _ => by decide, by first | rfl | assumption⟩) | (exact ⟨by assumption, by omega, by omega⟩) | (unfold inI; omega) | omega), ?_⟩; conv => whnf) | (refine ⟨fun c => False.elim (by omega), fun c => ?_⟩) | (refine ⟨fun c => ?_, fun c => False.elim (by omega)⟩) | (refine ⟨fun c => ?_, fun c => ?_⟩) | (intro c) | fail))
      exact hq
    · by_cases h3 : 0 ≤ k ∧ k < M t
      · rw [wp_0 ht h2 h3] at hq
        (repeat' (first | (rw [r6]) | (rw [e2]) | (refine r_isTray (by omega) (fun c => ?_) (fun c => absurd ht c)) | (refine Ex_step ?_; conv => whnf) | (refine ⟨?_, trivial⟩) | (refine (show den _ _ _ _ _ _ _ _ from ?_); conv => whnf) | (refine ⟨by (first | assumption | rfl | (exact Nat.le_of_ble_eq_true rfl) | (exact ⟨fun h01 => absurd h01 (by decide), by first | rfl | assumption⟩) | (exact ⟨fun _ => by decide, by first | rfl | assumption⟩) | (exact ⟨by assumption, by omega, by omega⟩) | (unfold inI; omega) | omega), ?_⟩; conv => whnf) | (refine ⟨fun c => False.elim (by omega), fun c => ?_⟩) | (refine ⟨fun c => ?_, fun c => False.elim (by omega)⟩) | (refine ⟨fun c => ?_, fun c => ?_⟩) | (intro c) | fail))
        exact hq
      · rw [wp_3 ht h2 h3] at hq
        (repeat' (first | (rw [r6]) | (rw [e2]) | (refine r_isTray (by omega) (fun c => ?_) (fun c => absurd ht c)) | (refine Ex_step ?_; conv => whnf) | (refine ⟨?_, trivial⟩) | (refine (show den _ _ _ _ _ _ _ _ from ?_); conv => whnf) | (refine ⟨by (first | assumption | rfl | (exact Nat.le_of_ble_eq_true rfl) | (exact ⟨fun h01 => absurd h01 (by decide), by first | rfl | assumption⟩) | (exact ⟨fun _ => by decide, by first | rfl | assumption⟩) | (exact ⟨by assumption, by omega, by omega⟩) | (unfold inI; omega) | omega), ?_⟩; conv => whnf) | (refine ⟨fun c => False.elim (by omega), fun c => ?_⟩) | (refine ⟨fun c => ?_, fun c => False.elim (by omega)⟩) | (refine ⟨fun c => ?_, fun c => ?_⟩) | (intro c) | fail))
        all_goals exact hq
  · rw [wp_1 ht] at hq
    (repeat' (first | (refine r_isTray (by omega) (fun c => absurd c ht) (fun c => ?_)) | (refine Ex_step ?_; conv => whnf) | (refine ⟨?_, trivial⟩) | (refine (show den _ _ _ _ _ _ _ _ from ?_); conv => whnf) | (refine ⟨by (first | assumption | rfl | (exact Nat.le_of_ble_eq_true rfl) | (exact ⟨fun h01 => absurd h01 (by decide), by first | rfl | assumption⟩) | (exact ⟨fun _ => by decide, by first | rfl | assumption⟩) | (exact ⟨by assumption, by omega, by omega⟩) | (unfold inI; omega) | omega), ?_⟩; conv => whnf) | (refine ⟨fun c => False.elim (by omega), fun c => ?_⟩) | (refine ⟨fun c => ?_, fun c => False.elim (by omega)⟩) | (refine ⟨fun c => ?_, fun c => ?_⟩) | (intro c) | fail))
    exact hq
-- write
def wrT (S : Int → Int) (T : Int → Int → Int) (t k v : Int) : Int → Int → Int := fun t' k' => if t' = t ∧ k' = k then cutZ (S t) v else T t' k'
theorem TC.wr {h : Mem} {S M : Int → Int} {T : Int → Int → Int} {t k z : Int} (hT : TC h S M T) (ht : 0 ≤ t ∧ t < 4) : TC (sG h (tN t) k (cutZ (S t) z)) S M (wrT S T t k z) := by
  obtain ⟨⟨k00, r3, kk1, l1⟩, hh⟩ := id hT
  refine ⟨⟨k00, r3, kk1, l1⟩, fun t' h0 h4 => ?_⟩
  obtain ⟨f1, f2, f3, f4, f5, f6, f7, f8⟩ := hh t' h0 h4
  have n1 : ¬ tO t' = tN t := by unfold tO tN; omega
  refine ⟨f1, f2, f3, f4, f5, ?_, ?_, fun k' hk0 hk1 => ?_⟩
  · rw [gG_sG, if_neg (fun q => n1 q.1)]; exact f6
  · rw [gG_sG, if_neg (fun q => n1 q.1)]; exact f7
  · unfold wrT
    by_cases e : t' = t ∧ k' = k
    · rw [gG_sG, if_pos ⟨by rw [e.1], e.2⟩, if_pos e]
    · have n2 : ¬ (tN t' = tN t ∧ k' = k) := fun q => e ⟨by have := q.1; unfold tN at this; omega, q.2⟩
      rw [gG_sG, if_neg n2, if_neg e]; exact f8 k' hk0 hk1
theorem TR.wr {h : Mem} {S M : Int → Int} {T : Int → Int → Int} {t k z : Int} (hT : TR h S M T) (hB : TB S M) (ht : 0 ≤ t ∧ t < 4) (hk : 0 ≤ k ∧ k < M t) : TR (sG h 132 (60 * t + k) (cutZ (S t) z)) S M (wrT S T t k z) := by
  obtain ⟨⟨kq, r5, r6, r7, k130, l130, k131, l131, k132, l132⟩, hh⟩ := id hT
  refine ⟨⟨kq, r5, r6, r7, k130, l130, k131, l131, k132, l132⟩, fun t' h0 h4 => ?_⟩
  obtain ⟨e1, e2, e3⟩ := hh t' h0 h4
  have hb := hB t' h0 h4
  have hb2 := hB t ht.1 ht.2
  refine ⟨?_, ?_, fun k' hk0 hk1 => ?_⟩
  · rw [gG_sG, if_neg (by omega)]; exact e1
  · rw [gG_sG, if_neg (by omega)]; exact e2
  · unfold wrT
    by_cases e : t' = t ∧ k' = k
    · rw [gG_sG, if_pos (by omega), if_pos e]
    · rw [gG_sG, if_neg (by omega), if_neg e]; exact e3 k' hk0 hk1
set_option maxHeartbeats 4000000 in
theorem c_writeY {X : Int → Int} {XL : Int} {d : Nat} {h : Mem} {Q : RetP} {S M : Int → Int} {T : Int → Int → Int} {t k z : Int} (hd : 9 ≤ d) (hT : TC h S M T) (hB : TB S M) (ok : wpZ M t k = 0) (hq : ∀ h', TC h' S M (wrT S T t k z) → Fr TP h h' → Q (some (vI 1)) (sG h' 0 0 0)) : WP X XL d 122 [vR 0, vI t, vI k, vL z] h Q := by
  have hb := wp_b.1 ok
  have ht := hb.1
  have hB := hB t ht.1 ht.2
  have hq := hq _ (hT.wr (k := k) (z := z) ht) (Fr.refl.sG (by unfold TP tN; omega))
  obtain ⟨⟨k00, r3, kk1, l1⟩, hh⟩ := id hT
  obtain ⟨e1, e2, e3, e4, e5, e6, e7, e8⟩ := hh t ht.1 ht.2
  rw [← e6] at hq
  refine eX9_write (by omega) ?_
  (repeat' (first | (rw [r3]) | (rw [e1]) | (rw [ok]) | (refine w_placeStatus (by omega) hT ?_) | (refine w_tPut (by omega) e2 e3 e4 e5 (by omega) (by omega) (by omega) ?_) | (refine w_yes (by omega) k00 ?_) | (refine Ex_step ?_; conv => whnf) | (refine ⟨?_, trivial⟩) | (refine (show den _ _ _ _ _ _ _ _ from ?_); conv => whnf) | (refine ⟨by (first | assumption | rfl | (exact Nat.le_of_ble_eq_true rfl) | (exact ⟨fun h01 => absurd h01 (by decide), by first | rfl | assumption⟩) | (exact ⟨fun _ => by decide, by first | rfl | assumption⟩) | (exact ⟨by assumption, by omega, by omega⟩) | (unfold inI; omega) | omega), ?_⟩; conv => whnf) | (refine ⟨fun c => False.elim (by omega), fun c => ?_⟩) | (refine ⟨fun c => ?_, fun c => False.elim (by omega)⟩) | (refine ⟨fun c => ?_, fun c => ?_⟩) | (intro c) | fail))
  exact hq
set_option maxHeartbeats 4000000 in
theorem c_writeN {X : Int → Int} {XL : Int} {d : Nat} {h : Mem} {Q : RetP} {S M : Int → Int} {T : Int → Int → Int} {t k z : Int} (hd : 9 ≤ d) (hT : TC h S M T) (ok : ¬ wpZ M t k = 0) (hq : Q (some (vI 0)) (sG h 0 0 (wpZ M t k))) : WP X XL d 122 [vR 0, vI t, vI k, vL z] h Q := by
  obtain ⟨⟨k00, r3, kk1, l1⟩, hh⟩ := id hT
  refine eX9_write (by omega) ?_
  (repeat' (first | (refine w_placeStatus (by omega) hT ?_) | (refine w_not (by omega) k00 ?_) | (refine Ex_step ?_; conv => whnf) | (refine ⟨?_, trivial⟩) | (refine (show den _ _ _ _ _ _ _ _ from ?_); conv => whnf) | (refine ⟨by (first | assumption | rfl | (exact Nat.le_of_ble_eq_true rfl) | (exact ⟨fun h01 => absurd h01 (by decide), by first | rfl | assumption⟩) | (exact ⟨fun _ => by decide, by first | rfl | assumption⟩) | (exact ⟨by assumption, by omega, by omega⟩) | (unfold inI; omega) | omega), ?_⟩; conv => whnf) | (refine ⟨fun c => False.elim (by omega), fun c => ?_⟩) | (refine ⟨fun c => ?_, fun c => False.elim (by omega)⟩) | (refine ⟨fun c => ?_, fun c => ?_⟩) | (intro c) | fail))
  exact hq
set_option maxHeartbeats 4000000 in
theorem m_writeY {X : Int → Int} {XL : Int} {d : Nat} {h : Mem} {Q : RetP} {S M : Int → Int} {T : Int → Int → Int} {t k z : Int} (hd : 9 ≤ d) (hT : TR h S M T) (hB : TB S M) (ok : wpZ M t k = 0) (hq : ∀ h', TR h' S M (wrT S T t k z) → Fr RP h h' → Q (some (vI 1)) (sG h' 127 2 0)) : WP X XL d 205 [vR 127, vI t, vI k, vL z] h Q := by
  have hb := wp_b.1 ok
  have ht := hb.1
  have hq := hq _ (hT.wr (z := z) hB ht hb.2.2) (Fr.refl.sG (Or.inr (Or.inr rfl)))
  have hB := hB t ht.1 ht.2
  obtain ⟨⟨kq, r5, r6, r7, k130, l130, k131, l131, k132, l132⟩, hh⟩ := id hT
  obtain ⟨e1, e2, e3⟩ := hh t ht.1 ht.2
  refine eX10_write (by omega) ?_
  (repeat' (first | (rw [r5]) | (rw [r7]) | (rw [e1]) | (rw [ok]) | (refine r_wrongPlace (by omega) hT ?_) | (refine r_cut (by omega) ?_) | (refine ⟨⟨k132, by omega, Int.lt_of_lt_of_le (by omega : _ < (240 : Int)) (Int.le_of_eq l132.symm)⟩, ?_⟩; conv => whnf) | (refine r_is (by omega) kq (fun _ => ?_) (fun c => absurd rfl c)) | (refine Ex_step ?_; conv => whnf) | (refine ⟨?_, trivial⟩) | (refine (show den _ _ _ _ _ _ _ _ from ?_); conv => whnf) | (refine ⟨by (first | assumption | rfl | (exact Nat.le_of_ble_eq_true rfl) | (exact ⟨fun h01 => absurd h01 (by decide), by first | rfl | assumption⟩) | (exact ⟨fun _ => by decide, by first | rfl | assumption⟩) | (exact ⟨by assumption, by omega, by omega⟩) | (unfold inI; omega) | omega), ?_⟩; conv => whnf) | (refine ⟨fun c => False.elim (by omega), fun c => ?_⟩) | (refine ⟨fun c => ?_, fun c => False.elim (by omega)⟩) | (refine ⟨fun c => ?_, fun c => ?_⟩) | (intro c) | fail))
  exact hq
set_option maxHeartbeats 4000000 in
theorem m_writeN {X : Int → Int} {XL : Int} {d : Nat} {h : Mem} {Q : RetP} {S M : Int → Int} {T : Int → Int → Int} {t k z : Int} (hd : 9 ≤ d) (hT : TR h S M T) (ok : ¬ wpZ M t k = 0) (hq : Q (some (vI 0)) (sG h 127 2 (wpZ M t k))) : WP X XL d 205 [vR 127, vI t, vI k, vL z] h Q := by
  obtain ⟨⟨kq, r5, r6, r7, k130, l130, k131, l131, k132, l132⟩, hh⟩ := id hT
  refine eX10_write (by omega) ?_
  (repeat' (first | (refine r_wrongPlace (by omega) hT ?_) | (refine r_is (by omega) kq (fun c => absurd c ok) (fun _ => ?_)) | (refine Ex_step ?_; conv => whnf) | (refine ⟨?_, trivial⟩) | (refine (show den _ _ _ _ _ _ _ _ from ?_); conv => whnf) | (refine ⟨by (first | assumption | rfl | (exact Nat.le_of_ble_eq_true rfl) | (exact ⟨fun h01 => absurd h01 (by decide), by first | rfl | assumption⟩) | (exact ⟨fun _ => by decide, by first | rfl | assumption⟩) | (exact ⟨by assumption, by omega, by omega⟩) | (unfold inI; omega) | omega), ?_⟩; conv => whnf) | (refine ⟨fun c => False.elim (by omega), fun c => ?_⟩) | (refine ⟨fun c => ?_, fun c => False.elim (by omega)⟩) | (refine ⟨fun c => ?_, fun c => ?_⟩) | (intro c) | fail))
  exact hq
-- read
set_option maxHeartbeats 4000000 in
theorem c_read {X : Int → Int} {XL : Int} {d : Nat} {h : Mem} {Q : RetP} {S M : Int → Int} {T : Int → Int → Int} {t k : Int} (hd : 9 ≤ d) (hT : TC h S M T) (hB : TB S M) (hq : Q (some (vL (if wpZ M t k = 0 then T t k else -1))) (sG h 0 0 (wpZ M t k))) : WP X XL d 123 [vR 0, vI t, vI k] h Q := by
  obtain ⟨⟨k00, r3, kk1, l1⟩, hh⟩ := id hT
  refine eX9_read (by omega) ?_
  by_cases ok : wpZ M t k = 0
  · have hb := wp_b.1 ok
    have ht := hb.1
    have hB := hB t ht.1 ht.2
    obtain ⟨e1, e2, e3, e4, e5, e6, e7, e8⟩ := hh t ht.1 ht.2
    have e8 := e8 k (by omega) (by omega)
    rw [if_pos ok, ok, ← e8] at hq
    (repeat' (first | (rw [ok]) | (rw [gR_sG]) | (rw [r3]) | (rw [gR_sG]) | (rw [e1]) | (rw [gR_sG]) | (rw [e3]) | (refine w_placeStatus (by omega) hT ?_) | (refine ⟨⟨kk1, by omega, Int.lt_of_lt_of_le (by omega : _ < (4 : Int)) (Int.le_of_eq l1.symm)⟩, ?_⟩; conv => whnf) | (refine ⟨⟨e4, by omega, Int.lt_of_lt_of_le (by omega : _ < (60 : Int)) (Int.le_of_eq e5.symm)⟩, ?_⟩; conv => whnf) | (refine ⟨e2, ?_⟩; conv => whnf) | (refine Ex_step ?_; conv => whnf) | (refine ⟨?_, trivial⟩) | (refine (show den _ _ _ _ _ _ _ _ from ?_); conv => whnf) | (refine ⟨by (first | assumption | rfl | (exact Nat.le_of_ble_eq_true rfl) | (exact ⟨fun h01 => absurd h01 (by decide), by first | rfl | assumption⟩) | (exact ⟨fun _ => by decide, by first | rfl | assumption⟩) | (exact ⟨by assumption, by omega, by omega⟩) | (unfold inI; omega) | omega), ?_⟩; conv => whnf) | (refine ⟨fun c => False.elim (by omega), fun c => ?_⟩) | (refine ⟨fun c => ?_, fun c => False.elim (by omega)⟩) | (refine ⟨fun c => ?_, fun c => ?_⟩) | (intro c) | fail))
    rw [gG_sG, if_neg (by unfold tN; omega)]
    exact hq
  · rw [if_neg ok] at hq
    (repeat' (first | (refine w_placeStatus (by omega) hT ?_) | (refine w_none (by omega) k00 ?_) | (refine Ex_step ?_; conv => whnf) | (refine ⟨?_, trivial⟩) | (refine (show den _ _ _ _ _ _ _ _ from ?_); conv => whnf) | (refine ⟨by (first | assumption | rfl | (exact Nat.le_of_ble_eq_true rfl) | (exact ⟨fun h01 => absurd h01 (by decide), by first | rfl | assumption⟩) | (exact ⟨fun _ => by decide, by first | rfl | assumption⟩) | (exact ⟨by assumption, by omega, by omega⟩) | (unfold inI; omega) | omega), ?_⟩; conv => whnf) | (refine ⟨fun c => False.elim (by omega), fun c => ?_⟩) | (refine ⟨fun c => ?_, fun c => False.elim (by omega)⟩) | (refine ⟨fun c => ?_, fun c => ?_⟩) | (intro c) | fail))
    exact hq
set_option maxHeartbeats 4000000 in
theorem m_read {X : Int → Int} {XL : Int} {d : Nat} {h : Mem} {Q : RetP} {S M : Int → Int} {T : Int → Int → Int} {t k : Int} (hd : 9 ≤ d) (hT : TR h S M T) (hB : TB S M) (hq : Q (some (vL (if wpZ M t k = 0 then T t k else -1))) (sG h 127 2 (wpZ M t k))) : WP X XL d 206 [vR 127, vI t, vI k] h Q := by
  obtain ⟨⟨kq, r5, r6, r7, k130, l130, k131, l131, k132, l132⟩, hh⟩ := id hT
  refine eX10_read (by omega) ?_
  have hwb := wp_b (M := M) (t := t) (k := k)
  by_cases ok : wpZ M t k = 0
  · have hb := wp_b.1 ok
    have ht := hb.1
    have hB := hB t ht.1 ht.2
    obtain ⟨e1, e2, e3⟩ := hh t ht.1 ht.2
    have e8 := e3 k (by omega) (by omega)
    rw [if_pos ok, ok, ← e8] at hq
    (repeat' (first | (rw [ok]) | (rw [g_same]) | (rw [gR_sG]) | (rw [r7]) | (refine r_wrongPlace (by omega) hT ?_) | (refine ⟨⟨k132, by omega, Int.lt_of_lt_of_le (by omega : _ < (240 : Int)) (Int.le_of_eq l132.symm)⟩, ?_⟩; conv => whnf) | (refine Ex_step ?_; conv => whnf) | (refine ⟨?_, trivial⟩) | (refine (show den _ _ _ _ _ _ _ _ from ?_); conv => whnf) | (refine ⟨by (first | assumption | rfl | (exact Nat.le_of_ble_eq_true rfl) | (exact ⟨fun h01 => absurd h01 (by decide), by first | rfl | assumption⟩) | (exact ⟨fun _ => by decide, by first | rfl | assumption⟩) | (exact ⟨by assumption, by omega, by omega⟩) | (unfold inI; omega) | omega), ?_⟩; conv => whnf) | (refine ⟨fun c => False.elim (by omega), fun c => ?_⟩) | (refine ⟨fun c => ?_, fun c => False.elim (by omega)⟩) | (refine ⟨fun c => ?_, fun c => ?_⟩) | (intro c) | fail))
    rw [gG_sG, if_neg (by omega)]
    exact hq
  · rw [if_neg ok] at hq
    (repeat' (first | (rw [g_same]) | (refine r_wrongPlace (by omega) hT ?_) | (refine Ex_step ?_; conv => whnf) | (refine ⟨?_, trivial⟩) | (refine (show den _ _ _ _ _ _ _ _ from ?_); conv => whnf) | (refine ⟨by (first | assumption | rfl | (exact Nat.le_of_ble_eq_true rfl) | (exact ⟨fun h01 => absurd h01 (by decide), by first | rfl | assumption⟩) | (exact ⟨fun _ => by decide, by first | rfl | assumption⟩) | (exact ⟨by assumption, by omega, by omega⟩) | (unfold inI; omega) | omega), ?_⟩; conv => whnf) | (refine ⟨fun c => False.elim (by omega), fun c => ?_⟩) | (refine ⟨fun c => ?_, fun c => False.elim (by omega)⟩) | (refine ⟨fun c => ?_, fun c => ?_⟩) | (intro c) | fail))
    exact hq
