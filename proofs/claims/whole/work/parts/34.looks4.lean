/-! LEVEL 2: the class's Viaduct: alike, plants, mending, names -/
def rch (A : Int → Int) (p db fg : Int) : Int := aft A (stN (A 0) (okBy A p db fg) 0) db
def cntF (A : Int → Int) (p ds fg r : Int) : Int → Int → Int := fun i s => if bt ds i = true ∧ rch A p i fg = r then s + 1 else s
def malF (A : Int → Int) (p ds fg : Int) : Int → Int → Int := fun r s => max s (foN 10 (cntF A p ds fg r) 0 0)
def malA (A : Int → Int) (p ds fg : Int) : Int := foN (A 0 + 1) (malF A p ds fg) 0 0
set_option maxHeartbeats 4000000 in
theorem w_mostAlike {X : Int → Int} {XL : Int} {d : Nat} {h : Mem} {Q : RetP} {K : Int} {A : Int → Int} {v : Nat} {p ds fg : Int} (hd : 4 ≤ d) (hV : Vr K h v A) (hp0 : 0 ≤ p) (hp1 : p < A 1) (hfg : 0 ≤ fg ∧ fg ≤ 5) (hq : Q (some (vI (malA A p ds fg))) h) : WP X XL d 39 [vR v, vI p, vI ds, vI fg] h Q := by
  obtain ⟨⟨k0, ⟨k1, l1⟩, ⟨k2, l2⟩, ⟨k3, l3⟩, ⟨k6, l6⟩, ⟨k7, l7⟩, ⟨k8, l8⟩, ⟨k9, l9⟩, ⟨k10, l10⟩, ⟨k11, l11⟩, ⟨k12, l12⟩, ⟨k14, l14⟩, ⟨k15, l15⟩⟩, ⟨⟨g0, g5, g13, g16, g17, g18, g19, g4⟩, ra, rp, rq⟩, ⟨b0, b1, b2, b3, b4, b5, b6, b8, bK, ba, bp, bq⟩⟩ := id hV
  refine eX7_mostAlike (by omega) ?_
  have inner : ∀ (k : Nat) (i s g r : Int), (10 - i).toNat = k → 0 ≤ i → 0 ≤ s → s ≤ i → (∀ j2, Ex (WP X XL (d - 1)) KX7_mostAlike h.1 Q 59 [some (vR v), some (vI p), some (vI ds), some (vI fg), some (vI g), some (vI r), some (vI (foN 10 (cntF A p ds fg r) i s)), j2] [] h) → Ex (WP X XL (d - 1)) KX7_mostAlike h.1 Q 21 [some (vR v), some (vI p), some (vI ds), some (vI fg), some (vI g), some (vI r), some (vI s), some (vI i)] [] h := by
    intro k; induction k with
    | zero =>
      intro i s g r hk hi0 hs0 hs1 hn
      rw [foN_end (by omega)] at hn
      refine Ex_step ?_
      conv => whnf
      exact ⟨fun _ => hn _, fun c => False.elim (by omega)⟩
    | succ k ih =>
      intro i s g r hk hi0 hs0 hs1 hn
      have hi9 : i ≤ 9 := by omega
      rw [foN_go (by omega)] at hn
      by_cases hb : bt ds i = true
      · by_cases hr : rch A p i fg = r
        · rw [show cntF A p ds fg r i s = s + 1 from if_pos ⟨hb, hr⟩] at hn
          unfold rch at hr
          refine Ex_step ?_
          conv => whnf
          (repeat' (first | (refine ih _ _ _ _ (by omega) (by omega) (by omega) (by omega) hn) | (refine w_contains (by omega) (by omega) (fun c => ?_) (fun c => absurd (c.symm.trans hb) Bool.false_ne_true)) | (refine w_reachInFog (by omega) hV hp0 hp1 (by omega) hfg ?_) | (refine Ex_step ?_; conv => whnf) | (refine ⟨?_, trivial⟩) | (refine (show den _ _ _ _ _ _ _ _ from ?_); conv => whnf) | (refine ⟨by (first | assumption | rfl | (exact Nat.le_of_ble_eq_true rfl) | (exact ⟨fun h01 => absurd h01 (by decide), rfl⟩) | (exact ⟨fun _ => by decide, rfl⟩) | (exact ⟨by assumption, by omega, by omega⟩) | (unfold inI; omega) | omega), ?_⟩; conv => whnf) | (refine ⟨fun c => False.elim (by omega), fun c => ?_⟩) | (refine ⟨fun c => ?_, fun c => False.elim (by omega)⟩) | (refine ⟨fun c => ?_, fun c => ?_⟩) | (intro c) | fail))
        · rw [show cntF A p ds fg r i s = s from if_neg (fun q => hr q.2)] at hn
          unfold rch at hr
          refine Ex_step ?_
          conv => whnf
          (repeat' (first | (refine ih _ _ _ _ (by omega) (by omega) (by omega) (by omega) hn) | (refine w_contains (by omega) (by omega) (fun c => ?_) (fun c => absurd (c.symm.trans hb) Bool.false_ne_true)) | (refine w_reachInFog (by omega) hV hp0 hp1 (by omega) hfg ?_) | (refine Ex_step ?_; conv => whnf) | (refine ⟨?_, trivial⟩) | (refine (show den _ _ _ _ _ _ _ _ from ?_); conv => whnf) | (refine ⟨by (first | assumption | rfl | (exact Nat.le_of_ble_eq_true rfl) | (exact ⟨fun h01 => absurd h01 (by decide), rfl⟩) | (exact ⟨fun _ => by decide, rfl⟩) | (exact ⟨by assumption, by omega, by omega⟩) | (unfold inI; omega) | omega), ?_⟩; conv => whnf) | (refine ⟨fun c => False.elim (by omega), fun c => ?_⟩) | (refine ⟨fun c => ?_, fun c => False.elim (by omega)⟩) | (refine ⟨fun c => ?_, fun c => ?_⟩) | (intro c) | fail))
      · rw [show cntF A p ds fg r i s = s from if_neg (fun q => hb q.1)] at hn
        refine Ex_step ?_
        conv => whnf
        (repeat' (first | (refine ih _ _ _ _ (by omega) (by omega) (by omega) (by omega) hn) | (refine w_contains (by omega) (by omega) (fun c => absurd c hb) (fun c => ?_)) | (refine Ex_step ?_; conv => whnf) | (refine ⟨?_, trivial⟩) | (refine (show den _ _ _ _ _ _ _ _ from ?_); conv => whnf) | (refine ⟨by (first | assumption | rfl | (exact Nat.le_of_ble_eq_true rfl) | (exact ⟨fun h01 => absurd h01 (by decide), rfl⟩) | (exact ⟨fun _ => by decide, rfl⟩) | (exact ⟨by assumption, by omega, by omega⟩) | (unfold inI; omega) | omega), ?_⟩; conv => whnf) | (refine ⟨fun c => False.elim (by omega), fun c => ?_⟩) | (refine ⟨fun c => ?_, fun c => False.elim (by omega)⟩) | (refine ⟨fun c => ?_, fun c => ?_⟩) | (intro c) | fail))
  have outer : ∀ (k : Nat) (r g : Int) (j1 j2 : Option MV), (A 0 + 1 - r).toNat = k → 0 ≤ r → Q (some (vI (foN (A 0 + 1) (malF A p ds fg) r g))) h → Ex (WP X XL (d - 1)) KX7_mostAlike h.1 Q 6 [some (vR v), some (vI p), some (vI ds), some (vI fg), some (vI g), some (vI r), j1, j2] [] h := by
    intro k; induction k with
    | zero =>
      intro r g j1 j2 hk hr0 hq
      rw [foN_end (by omega)] at hq
      (repeat' (first | (refine Ex_step ?_; conv => whnf) | (refine ⟨?_, trivial⟩) | (refine (show den _ _ _ _ _ _ _ _ from ?_); conv => whnf) | (refine ⟨by (first | assumption | rfl | (exact Nat.le_of_ble_eq_true rfl) | (exact ⟨fun h01 => absurd h01 (by decide), rfl⟩) | (exact ⟨fun _ => by decide, rfl⟩) | (exact ⟨by assumption, by omega, by omega⟩) | (unfold inI; omega) | omega), ?_⟩; conv => whnf) | (refine ⟨fun c => False.elim (by omega), fun c => ?_⟩) | (refine ⟨fun c => ?_, fun c => False.elim (by omega)⟩) | (refine ⟨fun c => ?_, fun c => ?_⟩) | (intro c) | fail))
      exact hq
    | succ k ih =>
      intro r g j1 j2 hk hr0 hq
      rw [foN_go (by omega)] at hq
      refine Ex_step ?_
      conv => whnf
      (repeat' (first | (refine ih _ _ _ _ (by omega) (by omega) hq) | (refine inner _ _ _ _ _ rfl (by omega) (by omega) (by omega) (fun j2 => ?_)) | (refine Ex_step ?_; conv => whnf) | (refine ⟨?_, trivial⟩) | (refine (show den _ _ _ _ _ _ _ _ from ?_); conv => whnf) | (refine ⟨by (first | assumption | rfl | (exact Nat.le_of_ble_eq_true rfl) | (exact ⟨fun h01 => absurd h01 (by decide), rfl⟩) | (exact ⟨fun _ => by decide, rfl⟩) | (exact ⟨by assumption, by omega, by omega⟩) | (unfold inI; omega) | omega), ?_⟩; conv => whnf) | (refine ⟨fun c => False.elim (by omega), fun c => ?_⟩) | (refine ⟨fun c => ?_, fun c => False.elim (by omega)⟩) | (refine ⟨fun c => ?_, fun c => ?_⟩) | (intro c) | fail))
  refine Ex_step ?_
  conv => whnf
  refine ⟨?_, trivial⟩
  exact outer _ 0 0 _ _ rfl (by omega) hq
def plS (A : Int → Int) (set k : Int) : Int := foN (A 2) (fun i s => if bt set i = true then s + plA A i k else s) 0 0
set_option maxHeartbeats 4000000 in
theorem w_sumOfPlants {X : Int → Int} {XL : Int} {d : Nat} {h : Mem} {Q : RetP} {K : Int} {A : Int → Int} {v : Nat} {r : Nat} {set kk : Int} (hd : 2 ≤ d) (hV : Vr K h v A) (hr : kd h r = 100) (hl : ln h r = 8) (hrow : ∀ q, 0 ≤ q → q < A 2 → gG h r q = plA A q kk ∧ 0 ≤ plA A q kk ∧ plA A q kk ≤ 99) (hq : Q (some (vI (plS A set kk))) h) : WP X XL d 55 [vR v, vR r, vI set] h Q := by
  obtain ⟨⟨k0, ⟨k1, l1⟩, ⟨k2, l2⟩, ⟨k3, l3⟩, ⟨k6, l6⟩, ⟨k7, l7⟩, ⟨k8, l8⟩, ⟨k9, l9⟩, ⟨k10, l10⟩, ⟨k11, l11⟩, ⟨k12, l12⟩, ⟨k14, l14⟩, ⟨k15, l15⟩⟩, ⟨⟨g0, g5, g13, g16, g17, g18, g19, g4⟩, ra, rp, rq⟩, ⟨b0, b1, b2, b3, b4, b5, b6, b8, bK, ba, bp, bq⟩⟩ := id hV
  refine eX7_sumOfPlants (by omega) ?_
  have loop : ∀ (k : Nat) (i s : Int), (A 2 - i).toNat = k → 0 ≤ i → 0 ≤ s → s ≤ 99 * i → Q (some (vI (foN (A 2) (fun i s => if bt set i = true then s + plA A i kk else s) i s))) h → Ex (WP X XL (d - 1)) KX7_sumOfPlants h.1 Q 5 [some (vR v), some (vR r), some (vI set), some (vI s), some (vI i)] [] h := by
    intro k; induction k with
    | zero =>
      intro i s hk hi0 hs0 hs1 hq
      rw [foN_end (by omega)] at hq
      (repeat' (first | (refine Ex_step ?_; conv => whnf) | (refine ⟨?_, trivial⟩) | (refine (show den _ _ _ _ _ _ _ _ from ?_); conv => whnf) | (refine ⟨by (first | assumption | rfl | (exact Nat.le_of_ble_eq_true rfl) | (exact ⟨fun h01 => absurd h01 (by decide), rfl⟩) | (exact ⟨fun _ => by decide, rfl⟩) | (exact ⟨by assumption, by omega, by omega⟩) | (unfold inI; omega) | omega), ?_⟩; conv => whnf) | (refine ⟨fun c => False.elim (by omega), fun c => ?_⟩) | (refine ⟨fun c => ?_, fun c => False.elim (by omega)⟩) | (refine ⟨fun c => ?_, fun c => ?_⟩) | (intro c) | fail))
      exact hq
    | succ k ih =>
      intro i s hk hi0 hs0 hs1 hq
      obtain ⟨er, er1, er2⟩ := hrow i hi0 (by omega)
      rw [foN_go (by omega)] at hq
      by_cases hb : bt set i = true
      · rw [if_pos hb, ← er] at hq
        refine Ex_step ?_
        conv => whnf
        (repeat' (first | (refine ih _ _ (by omega) (by omega) (by omega) (by omega) hq) | (refine w_contains (by omega) (by omega) (fun c => ?_) (fun c => absurd (c.symm.trans hb) Bool.false_ne_true)) | (refine Ex_step ?_; conv => whnf) | (refine ⟨?_, trivial⟩) | (refine (show den _ _ _ _ _ _ _ _ from ?_); conv => whnf) | (refine ⟨by (first | assumption | rfl | (exact Nat.le_of_ble_eq_true rfl) | (exact ⟨fun h01 => absurd h01 (by decide), rfl⟩) | (exact ⟨fun _ => by decide, rfl⟩) | (exact ⟨by assumption, by omega, by omega⟩) | (unfold inI; omega) | omega), ?_⟩; conv => whnf) | (refine ⟨fun c => False.elim (by omega), fun c => ?_⟩) | (refine ⟨fun c => ?_, fun c => False.elim (by omega)⟩) | (refine ⟨fun c => ?_, fun c => ?_⟩) | (intro c) | fail))
      · rw [if_neg hb] at hq
        refine Ex_step ?_
        conv => whnf
        (repeat' (first | (refine ih _ _ (by omega) (by omega) (by omega) (by omega) hq) | (refine w_contains (by omega) (by omega) (fun c => absurd c hb) (fun c => ?_)) | (refine Ex_step ?_; conv => whnf) | (refine ⟨?_, trivial⟩) | (refine (show den _ _ _ _ _ _ _ _ from ?_); conv => whnf) | (refine ⟨by (first | assumption | rfl | (exact Nat.le_of_ble_eq_true rfl) | (exact ⟨fun h01 => absurd h01 (by decide), rfl⟩) | (exact ⟨fun _ => by decide, rfl⟩) | (exact ⟨by assumption, by omega, by omega⟩) | (unfold inI; omega) | omega), ?_⟩; conv => whnf) | (refine ⟨fun c => False.elim (by omega), fun c => ?_⟩) | (refine ⟨fun c => ?_, fun c => False.elim (by omega)⟩) | (refine ⟨fun c => ?_, fun c => ?_⟩) | (intro c) | fail))
  refine Ex_step ?_
  conv => whnf
  refine ⟨?_, trivial⟩
  exact loop _ 0 0 rfl (by omega) (by omega) (by omega) hq
set_option maxHeartbeats 4000000 in
theorem w_joyOf {X : Int → Int} {XL : Int} {d : Nat} {h : Mem} {Q : RetP} {K : Int} {A : Int → Int} {v : Nat} {set : Int} (hd : 3 ≤ d) (hV : Vr K h v A) (hq : Q (some (vI (plS A set 1))) h) : WP X XL d 53 [vR v, vI set] h Q := by
  obtain ⟨⟨k0, ⟨k1, l1⟩, ⟨k2, l2⟩, ⟨k3, l3⟩, ⟨k6, l6⟩, ⟨k7, l7⟩, ⟨k8, l8⟩, ⟨k9, l9⟩, ⟨k10, l10⟩, ⟨k11, l11⟩, ⟨k12, l12⟩, ⟨k14, l14⟩, ⟨k15, l15⟩⟩, ⟨⟨g0, g5, g13, g16, g17, g18, g19, g4⟩, ra, rp, rq⟩, ⟨b0, b1, b2, b3, b4, b5, b6, b8, bK, ba, bp, bq⟩⟩ := id hV
  refine eX7_joyOf (by omega) ?_
  (repeat' (first | (refine w_sumOfPlants (kk := 1) (by omega) hV k15 l15 (fun q hq0 hq1 => ?_) ?_) | (refine Ex_step ?_; conv => whnf) | (refine ⟨?_, trivial⟩) | (refine (show den _ _ _ _ _ _ _ _ from ?_); conv => whnf) | (refine ⟨by (first | assumption | rfl | (exact Nat.le_of_ble_eq_true rfl) | (exact ⟨fun h01 => absurd h01 (by decide), rfl⟩) | (exact ⟨fun _ => by decide, rfl⟩) | (exact ⟨by assumption, by omega, by omega⟩) | (unfold inI; omega) | omega), ?_⟩; conv => whnf) | (refine ⟨fun c => False.elim (by omega), fun c => ?_⟩) | (refine ⟨fun c => ?_, fun c => False.elim (by omega)⟩) | (refine ⟨fun c => ?_, fun c => ?_⟩) | (intro c) | fail))
  · obtain ⟨u0, u1⟩ := rq q hq0 hq1
    obtain ⟨y0, y1⟩ := bq q hq0 hq1
    exact ⟨u1, by omega, by omega⟩
  · exact hq
set_option maxHeartbeats 4000000 in
theorem w_sizeOf {X : Int → Int} {XL : Int} {d : Nat} {h : Mem} {Q : RetP} {K : Int} {A : Int → Int} {v : Nat} {set : Int} (hd : 3 ≤ d) (hV : Vr K h v A) (hq : Q (some (vI (plS A set 0))) h) : WP X XL d 54 [vR v, vI set] h Q := by
  obtain ⟨⟨k0, ⟨k1, l1⟩, ⟨k2, l2⟩, ⟨k3, l3⟩, ⟨k6, l6⟩, ⟨k7, l7⟩, ⟨k8, l8⟩, ⟨k9, l9⟩, ⟨k10, l10⟩, ⟨k11, l11⟩, ⟨k12, l12⟩, ⟨k14, l14⟩, ⟨k15, l15⟩⟩, ⟨⟨g0, g5, g13, g16, g17, g18, g19, g4⟩, ra, rp, rq⟩, ⟨b0, b1, b2, b3, b4, b5, b6, b8, bK, ba, bp, bq⟩⟩ := id hV
  refine eX7_sizeOf (by omega) ?_
  (repeat' (first | (refine w_sumOfPlants (kk := 0) (by omega) hV k14 l14 (fun q hq0 hq1 => ?_) ?_) | (refine Ex_step ?_; conv => whnf) | (refine ⟨?_, trivial⟩) | (refine (show den _ _ _ _ _ _ _ _ from ?_); conv => whnf) | (refine ⟨by (first | assumption | rfl | (exact Nat.le_of_ble_eq_true rfl) | (exact ⟨fun h01 => absurd h01 (by decide), rfl⟩) | (exact ⟨fun _ => by decide, rfl⟩) | (exact ⟨by assumption, by omega, by omega⟩) | (unfold inI; omega) | omega), ?_⟩; conv => whnf) | (refine ⟨fun c => False.elim (by omega), fun c => ?_⟩) | (refine ⟨fun c => ?_, fun c => False.elim (by omega)⟩) | (refine ⟨fun c => ?_, fun c => ?_⟩) | (intro c) | fail))
  · obtain ⟨u0, u1⟩ := rq q hq0 hq1
    obtain ⟨y0, y1⟩ := bq q hq0 hq1
    exact ⟨u0, by omega, by omega⟩
  · exact hq
def gaF (A : Int → Int) (n : Int) : Int → Int × Int → Int × Int := fun set s => if s.2 < plS A set 1 ∧ plS A set 0 ≤ n then (set, plS A set 1) else s
def gaA (A : Int → Int) (n : Int) : Int × Int := foN (shlZ 1 (A 2)) (gaF A n) 1 (0, 0)
theorem shl8 {i : Int} (h0 : 0 ≤ i) (h1 : i ≤ 8) : 1 ≤ shlZ 1 i ∧ shlZ 1 i ≤ 256 := by
  obtain ⟨n, rfl⟩ := Int.eq_ofNat_of_zero_le h0
  have : ∀ n, n ≤ 8 → 1 ≤ shlZ 1 (n : Nat) ∧ shlZ 1 (n : Nat) ≤ 256 := by decide +kernel
  exact this n (by omega)
set_option maxHeartbeats 4000000 in
theorem w_bestGarden {X : Int → Int} {XL : Int} {d : Nat} {h : Mem} {Q : RetP} {K : Int} {A : Int → Int} {v : Nat} {n : Int} (hd : 4 ≤ d) (hV : Vr K h v A) (hq : Q (some (vI (gaA A n).1)) h) : WP X XL d 52 [vR v, vI n] h Q := by
  obtain ⟨⟨k0, ⟨k1, l1⟩, ⟨k2, l2⟩, ⟨k3, l3⟩, ⟨k6, l6⟩, ⟨k7, l7⟩, ⟨k8, l8⟩, ⟨k9, l9⟩, ⟨k10, l10⟩, ⟨k11, l11⟩, ⟨k12, l12⟩, ⟨k14, l14⟩, ⟨k15, l15⟩⟩, ⟨⟨g0, g5, g13, g16, g17, g18, g19, g4⟩, ra, rp, rq⟩, ⟨b0, b1, b2, b3, b4, b5, b6, b8, bK, ba, bp, bq⟩⟩ := id hV
  refine eX7_bestGarden (by omega) ?_
  have hs8 := shl8 b2.1 b2.2
  have hsh : inI (shlZ 1 (A 2)) := ⟨by omega, by omega⟩
  have loop : ∀ (k : Nat) (set b mo : Int) (jk : Option MV), (shlZ 1 (A 2) - set).toNat = k → 0 ≤ set → Q (some (vI (foN (shlZ 1 (A 2)) (gaF A n) set (b, mo)).1)) h → Ex (WP X XL (d - 1)) KX7_bestGarden h.1 Q 7 [some (vR v), some (vI n), some (vI b), some (vI mo), some (vI set), jk] [] h := by
    intro k; induction k with
    | zero =>
      intro set b mo jk hk hs0 hq
      rw [foN_end (by omega)] at hq
      rw [← g13] at hsh hs8
      rw [← g13] at hk
      (repeat' (first | (refine ⟨⟨by omega, by omega, hsh⟩, ?_⟩; conv => whnf) | (refine Ex_step ?_; conv => whnf) | (refine ⟨?_, trivial⟩) | (refine (show den _ _ _ _ _ _ _ _ from ?_); conv => whnf) | (refine ⟨by (first | assumption | rfl | (exact Nat.le_of_ble_eq_true rfl) | (exact ⟨fun h01 => absurd h01 (by decide), rfl⟩) | (exact ⟨fun _ => by decide, rfl⟩) | (exact ⟨by assumption, by omega, by omega⟩) | (unfold inI; omega) | omega), ?_⟩; conv => whnf) | (refine ⟨fun c => False.elim (by omega), fun c => ?_⟩) | (refine ⟨fun c => ?_, fun c => False.elim (by omega)⟩) | (refine ⟨fun c => ?_, fun c => ?_⟩) | (intro c) | fail))
      exact hq
    | succ k ih =>
      intro set b mo jk hk hs0 hq
      rw [foN_go (by omega)] at hq
      by_cases h1 : mo < plS A set 1
      · by_cases h2 : plS A set 0 ≤ n
        · rw [show gaF A n set (b, mo) = (set, plS A set 1) from if_pos ⟨h1, h2⟩] at hq
          rw [← g13] at hsh hs8 hk
          refine Ex_step ?_
          conv => whnf
          (repeat' (first | (refine ih _ _ _ _ (by rw [← g13]; omega) (by omega) hq) | (refine ⟨⟨by omega, by omega, hsh⟩, ?_⟩; conv => whnf) | (refine w_joyOf (by omega) hV ?_) | (refine w_sizeOf (by omega) hV ?_) | (refine Ex_step ?_; conv => whnf) | (refine ⟨?_, trivial⟩) | (refine (show den _ _ _ _ _ _ _ _ from ?_); conv => whnf) | (refine ⟨by (first | assumption | rfl | (exact Nat.le_of_ble_eq_true rfl) | (exact ⟨fun h01 => absurd h01 (by decide), rfl⟩) | (exact ⟨fun _ => by decide, rfl⟩) | (exact ⟨by assumption, by omega, by omega⟩) | (unfold inI; omega) | omega), ?_⟩; conv => whnf) | (refine ⟨fun c => False.elim (by omega), fun c => ?_⟩) | (refine ⟨fun c => ?_, fun c => False.elim (by omega)⟩) | (refine ⟨fun c => ?_, fun c => ?_⟩) | (intro c) | fail))
        · rw [show gaF A n set (b, mo) = (b, mo) from if_neg (fun q => h2 q.2)] at hq
          rw [← g13] at hsh hs8 hk
          refine Ex_step ?_
          conv => whnf
          (repeat' (first | (refine ih _ _ _ _ (by rw [← g13]; omega) (by omega) hq) | (refine ⟨⟨by omega, by omega, hsh⟩, ?_⟩; conv => whnf) | (refine w_joyOf (by omega) hV ?_) | (refine w_sizeOf (by omega) hV ?_) | (refine Ex_step ?_; conv => whnf) | (refine ⟨?_, trivial⟩) | (refine (show den _ _ _ _ _ _ _ _ from ?_); conv => whnf) | (refine ⟨by (first | assumption | rfl | (exact Nat.le_of_ble_eq_true rfl) | (exact ⟨fun h01 => absurd h01 (by decide), rfl⟩) | (exact ⟨fun _ => by decide, rfl⟩) | (exact ⟨by assumption, by omega, by omega⟩) | (unfold inI; omega) | omega), ?_⟩; conv => whnf) | (refine ⟨fun c => False.elim (by omega), fun c => ?_⟩) | (refine ⟨fun c => ?_, fun c => False.elim (by omega)⟩) | (refine ⟨fun c => ?_, fun c => ?_⟩) | (intro c) | fail))
      · rw [show gaF A n set (b, mo) = (b, mo) from if_neg (fun q => h1 q.1)] at hq
        rw [← g13] at hsh hs8 hk
        refine Ex_step ?_
        conv => whnf
        (repeat' (first | (refine ih _ _ _ _ (by rw [← g13]; omega) (by omega) hq) | (refine ⟨⟨by omega, by omega, hsh⟩, ?_⟩; conv => whnf) | (refine w_joyOf (by omega) hV ?_) | (refine w_sizeOf (by omega) hV ?_) | (refine Ex_step ?_; conv => whnf) | (refine ⟨?_, trivial⟩) | (refine (show den _ _ _ _ _ _ _ _ from ?_); conv => whnf) | (refine ⟨by (first | assumption | rfl | (exact Nat.le_of_ble_eq_true rfl) | (exact ⟨fun h01 => absurd h01 (by decide), rfl⟩) | (exact ⟨fun _ => by decide, rfl⟩) | (exact ⟨by assumption, by omega, by omega⟩) | (unfold inI; omega) | omega), ?_⟩; conv => whnf) | (refine ⟨fun c => False.elim (by omega), fun c => ?_⟩) | (refine ⟨fun c => ?_, fun c => False.elim (by omega)⟩) | (refine ⟨fun c => ?_, fun c => ?_⟩) | (intro c) | fail))
  refine Ex_step ?_
  conv => whnf
  refine ⟨?_, trivial⟩
  exact loop _ 1 0 0 _ rfl (by omega) hq
