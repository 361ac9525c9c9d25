/-! LEVEL 2: decades as they are lived: tests -/
def cmS (cp x s : Int) : Prop := (cp = 60 ∧ x < s) ∨ (cp = 62 ∧ s < x) ∨ (cp = 61 ∧ x = s)
/-- whether a when holds -/
def hlP (A : Int → Int) (w f s cp : Int) : Prop := (w = 2024 ∧ A 0 ≤ pA A f 3) ∨ (w = 2012 ∧ cmS cp (pA A f 3) s) ∨ (w = 2007 ∧ cmS cp (moA A f) s)
def okH (A : Int → Int) (w f cp : Int) : Prop := (w = 2024 ∧ 0 ≤ f ∧ f < A 1) ∨ (w = 2012 ∧ (0 ≤ f ∧ f < A 1) ∧ 60 ≤ cp ∧ cp ≤ 62) ∨ (w = 2007 ∧ (0 ≤ f ∧ f < A 0) ∧ 60 ≤ cp ∧ cp ≤ 62)
theorem okH_b {A : Int → Int} {w f cp : Int} (h : okH A w f cp) : (w = 2024 ∧ 0 ≤ f ∧ f < A 1) ∨ (w = 2012 ∧ (0 ≤ f ∧ f < A 1) ∧ 60 ≤ cp ∧ cp ≤ 62) ∨ (w = 2007 ∧ (0 ≤ f ∧ f < A 0) ∧ 60 ≤ cp ∧ cp ≤ 62) := h
set_option maxHeartbeats 4000000 in
theorem r_holds {X : Int → Int} {XL : Int} {d : Nat} {h : Mem} {Q : RetP} {K : Int} {A : Int → Int} {r w f s cp : Int} (hd : 5 ≤ d) (hR : Rr K h A) (hr : 90 ≤ r ∧ r ≤ 460) (ew : gG h 128 r = w) (ef : gG h 128 (r + 1) = f) (es : gG h 128 (r + 2) = s) (ec : gG h 128 (r + 5) = cp) (hv : okH A w f cp) (hq1 : hlP A w f s cp → Q (some (vI 1)) h) (hq0 : ¬ hlP A w f s cp → Q (some (vI 0)) h) : WP X XL d 342 [vR 127, vI r] h Q := by
  obtain ⟨⟨kq, r0, kt, lt⟩, eA, hA⟩ := id hR
  have b0 := hA.1
  have b1 := hA.2.1
  unfold hlP cmS at hq1 hq0
  refine eX10_holds (by omega) ?_
  rcases hv with ⟨rfl, hf⟩ | ⟨rfl, hf, hcp⟩ | ⟨rfl, hf, hcp⟩
  · (repeat' (first | (rw [r0]) | (rw [ew]) | (rw [ef]) | (refine r_isOver (by omega) hR hf.1 hf.2 (fun c => ?_) (fun c => ?_)) | (refine ⟨⟨kt, by omega, Int.lt_of_lt_of_le (by omega : _ < (3198 : Int)) (Int.le_of_eq lt.symm)⟩, ?_⟩; conv => whnf) | (refine Ex_step ?_; conv => whnf) | (refine ⟨?_, trivial⟩) | (refine (show den _ _ _ _ _ _ _ _ from ?_); conv => whnf) | (refine ⟨fun c => False.elim (by omega), fun c => ?_⟩) | (refine ⟨fun c => ?_, fun c => False.elim (by omega)⟩) | (refine ⟨by (first | assumption | rfl | (exact Nat.le_of_ble_eq_true rfl) | (exact ⟨fun h01 => absurd h01 (by decide), by first | rfl | assumption⟩) | (exact ⟨fun _ => by decide, by first | rfl | assumption⟩) | (exact ⟨by assumption, by omega, by omega⟩) | (unfold inI; omega) | omega), ?_⟩; conv => whnf) | (refine ⟨fun c => ?_, fun c => ?_⟩) | (intro c) | fail))
    all_goals first | (exact hq1 (by omega)) | (exact hq0 (by omega))
  · (repeat' (first | (rw [r0]) | (rw [ew]) | (rw [ef]) | (rw [es]) | (rw [ec]) | (refine r_personOf (by omega) hR (by omega) (by omega) ?_) | (refine ⟨⟨kt, by omega, Int.lt_of_lt_of_le (by omega : _ < (3198 : Int)) (Int.le_of_eq lt.symm)⟩, ?_⟩; conv => whnf) | (refine Ex_step ?_; conv => whnf) | (refine ⟨?_, trivial⟩) | (refine (show den _ _ _ _ _ _ _ _ from ?_); conv => whnf) | (refine ⟨fun c => False.elim (by omega), fun c => ?_⟩) | (refine ⟨fun c => ?_, fun c => False.elim (by omega)⟩) | (refine ⟨by (first | assumption | rfl | (exact Nat.le_of_ble_eq_true rfl) | (exact ⟨fun h01 => absurd h01 (by decide), by first | rfl | assumption⟩) | (exact ⟨fun _ => by decide, by first | rfl | assumption⟩) | (exact ⟨by assumption, by omega, by omega⟩) | (unfold inI; omega) | omega), ?_⟩; conv => whnf) | (refine ⟨fun c => ?_, fun c => ?_⟩) | (intro c) | fail))
    all_goals first | (exact hq1 (by omega)) | (exact hq0 (by omega))
  · (repeat' (first | (rw [r0]) | (rw [ew]) | (rw [ef]) | (rw [es]) | (rw [ec]) | (refine r_mo (by omega) hR (by omega) ?_) | (refine ⟨⟨kt, by omega, Int.lt_of_lt_of_le (by omega : _ < (3198 : Int)) (Int.le_of_eq lt.symm)⟩, ?_⟩; conv => whnf) | (refine Ex_step ?_; conv => whnf) | (refine ⟨?_, trivial⟩) | (refine (show den _ _ _ _ _ _ _ _ from ?_); conv => whnf) | (refine ⟨fun c => False.elim (by omega), fun c => ?_⟩) | (refine ⟨fun c => ?_, fun c => False.elim (by omega)⟩) | (refine ⟨by (first | assumption | rfl | (exact Nat.le_of_ble_eq_true rfl) | (exact ⟨fun h01 => absurd h01 (by decide), by first | rfl | assumption⟩) | (exact ⟨fun _ => by decide, by first | rfl | assumption⟩) | (exact ⟨by assumption, by omega, by omega⟩) | (unfold inI; omega) | omega), ?_⟩; conv => whnf) | (refine ⟨fun c => ?_, fun c => ?_⟩) | (intro c) | fail))
    all_goals first | (exact hq1 (by omega)) | (exact hq0 (by omega))
set_option maxHeartbeats 4000000 in
theorem w_compare {X : Int → Int} {XL : Int} {d : Nat} {h : Mem} {Q : RetP} {x row s cc cp : Int} {st : Nat} (hd : 1 ≤ d) (kl : kd h 124 = 2) (r6 : gR h 124 6 = st) (hS : SOk h st) (hrow : 0 ≤ row ∧ row < 60) (es : gG h (st + 3) row = s) (ec : gG h (st + 5) row = cc) (hcc : (cp = 60 ∧ cc = 29) ∨ (cp = 62 ∧ cc = 30) ∨ (cp = 61 ∧ cc = 31)) (hq1 : cmS cp x s → Q (some (vI 1)) h) (hq0 : ¬ cmS cp x s → Q (some (vI 0)) h) : WP X XL d 113 [vR 124, vI x, vI row] h Q := by
  obtain ⟨ks, ⟨sr1, sk1, sl1⟩, ⟨sr2, sk2, sl2⟩, ⟨sr3, sk3, sl3⟩, ⟨sr4, sk4, sl4⟩, ⟨sr5, sk5, sl5⟩, ⟨sr6, sk6, sl6⟩⟩ := id hS
  unfold cmS at hq1 hq0
  refine eX2_compare (by omega) ?_
  (repeat' (first | (rw [r6]) | (rw [sr3]) | (rw [sr5]) | (rw [es]) | (rw [ec]) | (refine Ex_step ?_; conv => whnf) | (refine ⟨?_, trivial⟩) | (refine (show den _ _ _ _ _ _ _ _ from ?_); conv => whnf) | (refine ⟨fun c => False.elim (by omega), fun c => ?_⟩) | (refine ⟨fun c => ?_, fun c => False.elim (by omega)⟩) | (refine ⟨by (first | assumption | rfl | (exact Nat.le_of_ble_eq_true rfl) | (exact ⟨fun h01 => absurd h01 (by decide), by first | rfl | assumption⟩) | (exact ⟨fun _ => by decide, by first | rfl | assumption⟩) | (exact ⟨by assumption, by omega, by omega⟩) | (unfold inI; omega) | omega), ?_⟩; conv => whnf) | (refine ⟨fun c => ?_, fun c => ?_⟩) | (intro c) | fail))
  all_goals first | (exact hq1 (by omega)) | (exact hq0 (by omega)) | (exfalso; omega)
set_option maxHeartbeats 4000000 in
theorem w_holdsTest {X : Int → Int} {XL : Int} {d : Nat} {h : Mem} {Q : RetP} {K : Int} {A : Int → Int} {v : Nat} {row w f s cp tc cc : Int} {st : Nat} (hd : 2 ≤ d) (hV : Vr K h v A) (kl : kd h 124 = 2) (r5 : gR h 124 5 = v) (r6 : gR h 124 6 = st) (hS : SOk h st) (hrow : 0 ≤ row ∧ row < 60) (ef : gG h (st + 2) row = f) (et : gG h (st + 4) row = tc) (htc : (w = 2024 ∧ tc = 21) ∨ (w = 2012 ∧ tc = 11) ∨ (w = 2007 ∧ tc = 5)) (es : ¬ w = 2024 → gG h (st + 3) row = s) (ec : ¬ w = 2024 → gG h (st + 5) row = cc) (hcc : ¬ w = 2024 → (cp = 60 ∧ cc = 29) ∨ (cp = 62 ∧ cc = 30) ∨ (cp = 61 ∧ cc = 31)) (hv : okH A w f cp) (hq1 : hlP A w f s cp → Q (some (vI 1)) h) (hq0 : ¬ hlP A w f s cp → Q (some (vI 0)) h) : WP X XL d 112 [vR 124, vI row] h Q := by
  obtain ⟨ks, ⟨sr1, sk1, sl1⟩, ⟨sr2, sk2, sl2⟩, ⟨sr3, sk3, sl3⟩, ⟨sr4, sk4, sl4⟩, ⟨sr5, sk5, sl5⟩, ⟨sr6, sk6, sl6⟩⟩ := id hS
  obtain ⟨kv, -, ⟨kmo, lmo⟩, -, -, -, -, -, ⟨kbh, lbh⟩, -⟩ := id hV.1
  have hA := hV.2.2
  have b0 := hA.1
  have b1 := hA.2.1
  have i1 : w = 2012 → (hlP A w f s cp ↔ cmS cp (pA A f 3) s) := fun q => by unfold hlP; constructor; intro z; rcases z with z | z | z; omega; exact z.2; omega; intro z; exact Or.inr (Or.inl ⟨q, z⟩)
  have i2 : w = 2007 → (hlP A w f s cp ↔ cmS cp (moA A f) s) := fun q => by unfold hlP; constructor; intro z; rcases z with z | z | z; omega; omega; exact z.2; intro z; exact Or.inr (Or.inr ⟨q, z⟩)
  have i0 : w = 2024 → (hlP A w f s cp ↔ A 0 ≤ pA A f 3) := fun q => by unfold hlP; constructor; intro z; rcases z with z | z | z; exact z.2; omega; omega; intro z; exact Or.inl ⟨q, z⟩
  refine eX2_holdsTest (by omega) ?_
  rcases hv with ⟨hw, hf⟩ | ⟨hw, hf, hcp⟩ | ⟨hw, hf, hcp⟩
  · have i0 := i0 hw
    obtain rfl : tc = 21 := by omega
    (repeat' (first | (rw [r6]) | (rw [sr2]) | (rw [sr4]) | (rw [ef]) | (rw [et]) | (rw [r5]) | (refine w_isOver (by omega) hV hf.1 hf.2 (fun c => ?_) (fun c => ?_)) | (refine Ex_step ?_; conv => whnf) | (refine ⟨?_, trivial⟩) | (refine (show den _ _ _ _ _ _ _ _ from ?_); conv => whnf) | (refine ⟨fun c => False.elim (by omega), fun c => ?_⟩) | (refine ⟨fun c => ?_, fun c => False.elim (by omega)⟩) | (refine ⟨by (first | assumption | rfl | (exact Nat.le_of_ble_eq_true rfl) | (exact ⟨fun h01 => absurd h01 (by decide), by first | rfl | assumption⟩) | (exact ⟨fun _ => by decide, by first | rfl | assumption⟩) | (exact ⟨by assumption, by omega, by omega⟩) | (unfold inI; omega) | omega), ?_⟩; conv => whnf) | (refine ⟨fun c => ?_, fun c => ?_⟩) | (intro c) | fail))
    · exact hq1 (i0.mpr (by assumption))
    · exact hq0 (fun q => by have := i0.mp q; omega)
  · have i1 := i1 hw
    have es := es (by omega)
    have ec := ec (by omega)
    have hcc := hcc (by omega)
    obtain rfl : tc = 11 := by omega
    have ep := (hV.2.1.2.2.1 f hf.1 hf.2).2.2.2.1
    (repeat' (first | (rw [r6]) | (rw [sr2]) | (rw [sr4]) | (rw [ef]) | (rw [et]) | (rw [r5]) | (rw [ep]) | (refine w_compare (by omega) kl r6 hS hrow es ec hcc (fun c => ?_) (fun c => ?_)) | (refine Ex_step ?_; conv => whnf) | (refine ⟨?_, trivial⟩) | (refine (show den _ _ _ _ _ _ _ _ from ?_); conv => whnf) | (refine ⟨fun c => False.elim (by omega), fun c => ?_⟩) | (refine ⟨fun c => ?_, fun c => False.elim (by omega)⟩) | (refine ⟨by (first | assumption | rfl | (exact Nat.le_of_ble_eq_true rfl) | (exact ⟨fun h01 => absurd h01 (by decide), by first | rfl | assumption⟩) | (exact ⟨fun _ => by decide, by first | rfl | assumption⟩) | (exact ⟨by assumption, by omega, by omega⟩) | (unfold inI; omega) | omega), ?_⟩; conv => whnf) | (refine ⟨fun c => ?_, fun c => ?_⟩) | (intro c) | fail))
    · exact hq1 (i1.mpr (by assumption))
    · exact hq0 (fun q => absurd (i1.mp q) (by assumption))
  · have i2 := i2 hw
    have es := es (by omega)
    have ec := ec (by omega)
    have hcc := hcc (by omega)
    obtain rfl : tc = 5 := by omega
    have ep := (hV.2.1.2.1 f hf.1 hf.2).2.1
    (repeat' (first | (rw [r6]) | (rw [sr2]) | (rw [sr4]) | (rw [ef]) | (rw [et]) | (rw [r5]) | (rw [ep]) | (refine w_compare (by omega) kl r6 hS hrow es ec hcc (fun c => ?_) (fun c => ?_)) | (refine Ex_step ?_; conv => whnf) | (refine ⟨?_, trivial⟩) | (refine (show den _ _ _ _ _ _ _ _ from ?_); conv => whnf) | (refine ⟨fun c => False.elim (by omega), fun c => ?_⟩) | (refine ⟨fun c => ?_, fun c => False.elim (by omega)⟩) | (refine ⟨by (first | assumption | rfl | (exact Nat.le_of_ble_eq_true rfl) | (exact ⟨fun h01 => absurd h01 (by decide), by first | rfl | assumption⟩) | (exact ⟨fun _ => by decide, by first | rfl | assumption⟩) | (exact ⟨by assumption, by omega, by omega⟩) | (unfold inI; omega) | omega), ?_⟩; conv => whnf) | (refine ⟨fun c => ?_, fun c => ?_⟩) | (intro c) | fail))
    · exact hq1 (i2.mpr (by assumption))
    · exact hq0 (fun q => absurd (i2.mp q) (by assumption))
