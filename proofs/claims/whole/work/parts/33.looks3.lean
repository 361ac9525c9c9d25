/-! LEVEL 2: the class's Viaduct: days ahead, sets, plants, jumps -/
def okIn (A : Int → Int) (p days : Int) (a : Int) : Bool := decide (sBy A p (pA A p 1) (msA A a days + A 4) ≤ hoA A a)
theorem msA_b {K : Int} {A : Int → Int} (hA : AOk K A) {a days : Int} (ha0 : 0 ≤ a) (ha1 : a < A 0) : 0 ≤ msA A a days ∧ msA A a days ≤ 9 := by
  obtain ⟨b0, b1, b2, b3, b4, b5, b6, b8, bK, ba, bp, bq⟩ := hA
  obtain ⟨fa0, fa1, fa2⟩ := ba a ha0 ha1
  unfold msA
  split
  · omega
  · split <;> omega
set_option maxHeartbeats 4000000 in
theorem w_stopIn {X : Int → Int} {XL : Int} {d : Nat} {h : Mem} {Q : RetP} {K : Int} {A : Int → Int} {v : Nat} {p days : Int} (hd : 3 ≤ d) (hV : Vr K h v A) (hp0 : 0 ≤ p) (hp1 : p < A 1) (hdy : days ≤ 100) (hq : Q (some (vI (stN (A 0) (okIn A p days) (pA A p 3)))) h) : WP X XL d 30 [vR v, vI p, vI days] h Q := by
  have hA := hV.2.2
  obtain ⟨⟨k0, ⟨k1, l1⟩, ⟨k2, l2⟩, ⟨k3, l3⟩, ⟨k6, l6⟩, ⟨k7, l7⟩, ⟨k8, l8⟩, ⟨k9, l9⟩, ⟨k10, l10⟩, ⟨k11, l11⟩, ⟨k12, l12⟩, ⟨k14, l14⟩, ⟨k15, l15⟩⟩, ⟨⟨g0, g5, g13, g16, g17, g18, g19, g4⟩, ra, rp, rq⟩, ⟨b0, b1, b2, b3, b4, b5, b6, b8, bK, ba, bp, bq⟩⟩ := id hV
  obtain ⟨e7, e8, e9, e10, e11, e12⟩ := rp p hp0 hp1; obtain ⟨f0, f1, f2, f3, f4, f5⟩ := bp p hp0 hp1
  refine eX7_stopIn (by omega) ?_
  have loop : ∀ (k : Nat) (a : Int), (A 0 - a).toNat = k → 0 ≤ a → Q (some (vI (stN (A 0) (okIn A p days) a))) h → Ex (WP X XL (d - 1)) KX7_stopIn h.1 Q 7 [some (vR v), some (vI p), some (vI days), some (vI a)] [] h := by
    intro k; induction k with
    | zero =>
      intro a hk ha0 hq
      rw [stN_end (Or.inl (by omega))] at hq
      (repeat' (first | (refine Ex_step ?_; conv => whnf) | (refine ⟨?_, trivial⟩) | (refine (show den _ _ _ _ _ _ _ _ from ?_); conv => whnf) | (refine ⟨by (first | assumption | rfl | (exact Nat.le_of_ble_eq_true rfl) | (exact ⟨fun h01 => absurd h01 (by decide), rfl⟩) | (exact ⟨fun _ => by decide, rfl⟩) | (exact ⟨by assumption, by omega, by omega⟩) | (unfold inI; omega) | omega), ?_⟩; conv => whnf) | (refine ⟨fun c => False.elim (by omega), fun c => ?_⟩) | (refine ⟨fun c => ?_, fun c => False.elim (by omega)⟩) | (refine ⟨fun c => ?_, fun c => ?_⟩) | (intro c) | fail))
      exact hq
    | succ k ih =>
      intro a hk ha0 hq
      have ha1 : a < A 0 := by omega
      obtain ⟨e1, e2, e3⟩ := ra a ha0 ha1; obtain ⟨fa0, fa1, fa2⟩ := ba a ha0 ha1
      have hmb := msA_b hA (days := days) ha0 ha1
      have hm := mulB f1.1 f1.2 (show 0 ≤ msA A a days + A 4 by omega) (show msA A a days + A 4 ≤ 14 by omega)
      rw [← g17, ← e8] at hm
      by_cases hok : okIn A p days a = true
      · rw [stN_go ha1 hok] at hq
        have hok := of_decide_eq_true hok
        rw [← e1, ← e8, ← g17] at hok
        refine Ex_step ?_
        conv => whnf
        (repeat' (first | (refine ih _ (by omega) (by omega) hq) | (refine w_strainBy (by omega) hV hp0 hp1 (by omega) ?_) | (refine w_mossAfter (by omega) hV ha0 ha1 hdy ?_) | (refine Ex_step ?_; conv => whnf) | (refine ⟨?_, trivial⟩) | (refine (show den _ _ _ _ _ _ _ _ from ?_); conv => whnf) | (refine ⟨by (first | assumption | rfl | (exact Nat.le_of_ble_eq_true rfl) | (exact ⟨fun h01 => absurd h01 (by decide), rfl⟩) | (exact ⟨fun _ => by decide, rfl⟩) | (exact ⟨by assumption, by omega, by omega⟩) | (unfold inI; omega) | omega), ?_⟩; conv => whnf) | (refine ⟨fun c => False.elim (by omega), fun c => ?_⟩) | (refine ⟨fun c => ?_, fun c => False.elim (by omega)⟩) | (refine ⟨fun c => ?_, fun c => ?_⟩) | (intro c) | fail))
      · rw [stN_end (Or.inr (by simpa using hok))] at hq
        have hok : ¬ _ := fun q => hok (decide_eq_true q)
        rw [← e1, ← e8, ← g17] at hok
        (repeat' (first | (refine w_strainBy (by omega) hV hp0 hp1 (by omega) ?_) | (refine w_mossAfter (by omega) hV ha0 ha1 hdy ?_) | (refine Ex_step ?_; conv => whnf) | (refine ⟨?_, trivial⟩) | (refine (show den _ _ _ _ _ _ _ _ from ?_); conv => whnf) | (refine ⟨by (first | assumption | rfl | (exact Nat.le_of_ble_eq_true rfl) | (exact ⟨fun h01 => absurd h01 (by decide), rfl⟩) | (exact ⟨fun _ => by decide, rfl⟩) | (exact ⟨by assumption, by omega, by omega⟩) | (unfold inI; omega) | omega), ?_⟩; conv => whnf) | (refine ⟨fun c => False.elim (by omega), fun c => ?_⟩) | (refine ⟨fun c => ?_, fun c => False.elim (by omega)⟩) | (refine ⟨fun c => ?_, fun c => ?_⟩) | (intro c) | fail))
        exact hq
  refine Ex_step ?_
  conv => whnf
  rw [← e10] at hq
  (repeat' (first | (exact loop _ _ rfl (by omega) hq) | (refine Ex_step ?_; conv => whnf) | (refine ⟨?_, trivial⟩) | (refine (show den _ _ _ _ _ _ _ _ from ?_); conv => whnf) | (refine ⟨by (first | assumption | rfl | (exact Nat.le_of_ble_eq_true rfl) | (exact ⟨fun h01 => absurd h01 (by decide), rfl⟩) | (exact ⟨fun _ => by decide, rfl⟩) | (exact ⟨by assumption, by omega, by omega⟩) | (unfold inI; omega) | omega), ?_⟩; conv => whnf) | (refine ⟨fun c => False.elim (by omega), fun c => ?_⟩) | (refine ⟨fun c => ?_, fun c => False.elim (by omega)⟩) | (refine ⟨fun c => ?_, fun c => ?_⟩) | (intro c) | fail))
-- sets of up to ten stay below 1024
theorem set_tab : ∀ s, s < 1024 → ∀ i, i < 10 → 0 ≤ zor (s : Nat) (shlZ 1 (i : Nat)) ∧ zor (s : Nat) (shlZ 1 (i : Nat)) < 1024 := by decide +kernel
theorem set_b {s i : Int} (h0 : 0 ≤ s) (h1 : s < 1024) (h2 : 0 ≤ i) (h3 : i < 10) : 0 ≤ zor s (shlZ 1 i) ∧ zor s (shlZ 1 i) < 1024 := by
  obtain ⟨s, rfl⟩ := Int.eq_ofNat_of_zero_le h0
  obtain ⟨i, rfl⟩ := Int.eq_ofNat_of_zero_le h2
  exact set_tab s (by omega) i (by omega)
theorem stF_b {n : Int} {ok : Int → Bool} (hn : n ≤ 10) : ∀ (k : Nat) (i s : Int), (n - i).toNat = k → 0 ≤ i → 0 ≤ s → s < 1024 → 0 ≤ foN n (stF ok) i s ∧ foN n (stF ok) i s < 1024 := by
  intro k; induction k with
  | zero => intro i s hk hi h0 h1; rw [foN_end (by omega)]; exact ⟨h0, h1⟩
  | succ k ih =>
    intro i s hk hi h0 h1
    rw [foN_go (by omega)]
    unfold stF
    by_cases hc : ok i = true
    · have := set_b h0 h1 hi (by omega : i < 10)
      exact ih (i + 1) _ (by omega) (by omega) (by rw [if_pos hc]; exact this.1) (by rw [if_pos hc]; exact this.2)
    · exact ih (i + 1) _ (by omega) (by omega) (by rw [if_neg hc]; exact h0) (by rw [if_neg hc]; exact h1)
def wkA (A : Int → Int) : Int × Int := foN (A 0) (fun a (s : Int × Int) => if popc (borA A a) < s.2 then (a, popc (borA A a)) else s) 0 (-1, 7)
set_option maxHeartbeats 4000000 in
theorem w_weakestArch {X : Int → Int} {XL : Int} {d : Nat} {h : Mem} {Q : RetP} {K : Int} {A : Int → Int} {v : Nat} (hd : 5 ≤ d) (hV : Vr K h v A) (hq : Q (some (vI (wkA A).1)) h) : WP X XL d 37 [vR v] h Q := by
  obtain ⟨⟨k0, ⟨k1, l1⟩, ⟨k2, l2⟩, ⟨k3, l3⟩, ⟨k6, l6⟩, ⟨k7, l7⟩, ⟨k8, l8⟩, ⟨k9, l9⟩, ⟨k10, l10⟩, ⟨k11, l11⟩, ⟨k12, l12⟩, ⟨k14, l14⟩, ⟨k15, l15⟩⟩, ⟨⟨g0, g5, g13, g16, g17, g18, g19, g4⟩, ra, rp, rq⟩, ⟨b0, b1, b2, b3, b4, b5, b6, b8, bK, ba, bp, bq⟩⟩ := id hV
  refine eX7_weakestArch (by omega) ?_
  refine Ex_step ?_
  conv => whnf
  refine ⟨?_, trivial⟩
  have loop : ∀ (k : Nat) (a b f : Int), (A 0 - a).toNat = k → 0 ≤ a → ∀ junk, Q (some (vI (foN (A 0) (fun a (s : Int × Int) => if popc (borA A a) < s.2 then (a, popc (borA A a)) else s) a (b, f)).1)) h → Ex (WP X XL (d - 1)) KX7_weakestArch h.1 Q 7 [some (vR v), some (vI b), some (vI f), some (vI a), junk] [] h := by
    intro k; induction k with
    | zero =>
      intro a b f hk ha0 junk hq
      rw [foN_end (by omega)] at hq
      (repeat' (first | (refine Ex_step ?_; conv => whnf) | (refine ⟨?_, trivial⟩) | (refine (show den _ _ _ _ _ _ _ _ from ?_); conv => whnf) | (refine ⟨by (first | assumption | rfl | (exact Nat.le_of_ble_eq_true rfl) | (exact ⟨fun h01 => absurd h01 (by decide), rfl⟩) | (exact ⟨fun _ => by decide, rfl⟩) | (exact ⟨by assumption, by omega, by omega⟩) | (unfold inI; omega) | omega), ?_⟩; conv => whnf) | (refine ⟨fun c => False.elim (by omega), fun c => ?_⟩) | (refine ⟨fun c => ?_, fun c => False.elim (by omega)⟩) | (refine ⟨fun c => ?_, fun c => ?_⟩) | (intro c) | fail))
      exact hq
    | succ k ih =>
      intro a b f hk ha0 junk hq
      have ha1 : a < A 0 := by omega
      have hb : 0 ≤ borA A a ∧ borA A a < 1024 := stF_b (by omega) _ _ _ rfl (by omega) (by omega) (by omega)
      rw [foN_go ha1] at hq
      by_cases hc : popc (borA A a) < f
      · rw [if_pos hc] at hq
        refine Ex_step ?_
        conv => whnf
        (repeat' (first | (refine ih _ _ _ (by omega) (by omega) _ hq) | (refine w_borneBy (by omega) hV ha0 ha1 ?_) | (refine w_bitCount (by omega) hb ?_) | (refine Ex_step ?_; conv => whnf) | (refine ⟨?_, trivial⟩) | (refine (show den _ _ _ _ _ _ _ _ from ?_); conv => whnf) | (refine ⟨by (first | assumption | rfl | (exact Nat.le_of_ble_eq_true rfl) | (exact ⟨fun h01 => absurd h01 (by decide), rfl⟩) | (exact ⟨fun _ => by decide, rfl⟩) | (exact ⟨by assumption, by omega, by omega⟩) | (unfold inI; omega) | omega), ?_⟩; conv => whnf) | (refine ⟨fun c => False.elim (by omega), fun c => ?_⟩) | (refine ⟨fun c => ?_, fun c => False.elim (by omega)⟩) | (refine ⟨fun c => ?_, fun c => ?_⟩) | (intro c) | fail))
      · rw [if_neg hc] at hq
        refine Ex_step ?_
        conv => whnf
        (repeat' (first | (refine ih _ _ _ (by omega) (by omega) _ hq) | (refine w_borneBy (by omega) hV ha0 ha1 ?_) | (refine w_bitCount (by omega) hb ?_) | (refine Ex_step ?_; conv => whnf) | (refine ⟨?_, trivial⟩) | (refine (show den _ _ _ _ _ _ _ _ from ?_); conv => whnf) | (refine ⟨by (first | assumption | rfl | (exact Nat.le_of_ble_eq_true rfl) | (exact ⟨fun h01 => absurd h01 (by decide), rfl⟩) | (exact ⟨fun _ => by decide, rfl⟩) | (exact ⟨by assumption, by omega, by omega⟩) | (unfold inI; omega) | omega), ?_⟩; conv => whnf) | (refine ⟨fun c => False.elim (by omega), fun c => ?_⟩) | (refine ⟨fun c => ?_, fun c => False.elim (by omega)⟩) | (refine ⟨fun c => ?_, fun c => ?_⟩) | (intro c) | fail))
  exact loop _ 0 (-1) 7 rfl (by omega) none hq
