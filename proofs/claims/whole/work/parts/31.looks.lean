/-! LEVEL 2: the class's Viaduct, what only looks -/
def fo {σ : Type} (f : Int → σ → σ) : Nat → Int → σ → σ
  | 0, _, s => s
  | k + 1, i, s => fo f k (i + 1) (f i s)
/-- f for each from i up to n -/
def foN {σ : Type} (n : Int) (f : Int → σ → σ) (i : Int) (s : σ) : σ := fo f (n - i).toNat i s
theorem foN_go {σ : Type} {n i : Int} {f : Int → σ → σ} {s : σ} (h : i < n) : foN n f i s = foN n f (i + 1) (f i s) := by
  unfold foN
  rw [show (n - i).toNat = (n - (i + 1)).toNat + 1 by omega]
  rfl
theorem foN_end {σ : Type} {n i : Int} {f : Int → σ → σ} {s : σ} (h : n ≤ i) : foN n f i s = s := by
  unfold foN
  rw [show (n - i).toNat = 0 by omega]
  rfl
theorem shl1 {i : Int} (h0 : 0 ≤ i) (h1 : i ≤ 20) : inI (shlZ 1 i) := by
  obtain ⟨n, rfl⟩ := Int.eq_ofNat_of_zero_le h0
  have : ∀ n, n ≤ 20 → -2147483648 ≤ shlZ 1 (n : Nat) ∧ shlZ 1 (n : Nat) ≤ 2147483647 := by decide +kernel
  exact this n (by omega)
def bt (set i : Int) : Bool := !(decide (zand (shrZ set i) 1 = 0))
theorem zand1 (x : Int) : zand x 1 = 0 ∨ zand x 1 = 1 := by
  unfold zand
  have h : Int32.ofInt x &&& Int32.ofInt 1 = nI ((Int32.ofInt x).toBitVec.toNat % 2 ^ 1) := pk_and (Int32.ofInt x) (m := 1) 1 (by decide)
  rw [h]
  have : (Int32.ofInt x).toBitVec.toNat % 2 ^ 1 = 0 ∨ (Int32.ofInt x).toBitVec.toNat % 2 ^ 1 = 1 := by omega
  rcases this with e | e <;> rw [e] <;> decide
set_option maxHeartbeats 4000000 in
theorem w_contains {X : Int → Int} {XL : Int} {d : Nat} {h : Mem} {Q : RetP} {set i : Int} (hd : 1 ≤ d) (h0 : 0 ≤ i ∧ i < 32) (hq1 : bt set i = true → Q (some (vI 1)) h) (hq0 : bt set i = false → Q (some (vI 0)) h) : WP X XL d 182 [vI set, vI i] h Q := by
  refine eX9_contains hd ?_
  (repeat' (first | (refine Ex_step ?_; conv => whnf) | (refine ⟨?_, trivial⟩) | (refine (show den _ _ _ _ _ _ _ _ from ?_); conv => whnf) | (refine ⟨by (first | assumption | rfl | (exact Nat.le_of_ble_eq_true rfl) | (exact ⟨fun h01 => absurd h01 (by decide), rfl⟩) | (exact ⟨fun _ => by decide, rfl⟩) | (exact ⟨by assumption, by omega, by omega⟩) | (unfold inI; omega) | omega), ?_⟩; conv => whnf) | (refine ⟨fun c => False.elim (by omega), fun c => ?_⟩) | (refine ⟨fun c => ?_, fun c => False.elim (by omega)⟩) | (refine ⟨fun c => ?_, fun c => ?_⟩) | (intro c) | fail))
  · exact hq0 (by unfold bt; rw [decide_eq_true (by assumption)]; rfl)
  · exact hq1 (by unfold bt; rw [decide_eq_false (by assumption)]; rfl)
theorem zd2 {a : Int} (h0 : 0 ≤ a) (h1 : a ≤ 1000) : 0 ≤ zdiv a 2 ∧ zdiv a 2 ≤ a := by
  rw [zdiv_pos h0 (by omega) (by omega) (by omega)]
  omega
set_option maxHeartbeats 4000000 in
theorem w_strainRoped {X : Int → Int} {XL : Int} {d : Nat} {h : Mem} {Q : RetP} {K : Int} {A : Int → Int} {v : Nat} {p o a : Int} (hd : 1 ≤ d) (hV : Vr K h v A) (hp0 : 0 ≤ p) (hp1 : p < A 1) (ho0 : 0 ≤ o) (ho1 : o < A 1) (ha0 : 0 ≤ a) (ha1 : a < A 0) (hq : Q (some (vI (sRo A p o a))) h) : WP X XL d 25 [vR v, vI p, vI o, vI a] h Q := by
  obtain ⟨⟨k0, ⟨k1, l1⟩, ⟨k2, l2⟩, ⟨k3, l3⟩, ⟨k6, l6⟩, ⟨k7, l7⟩, ⟨k8, l8⟩, ⟨k9, l9⟩, ⟨k10, l10⟩, ⟨k11, l11⟩, ⟨k12, l12⟩, ⟨k14, l14⟩, ⟨k15, l15⟩⟩, ⟨⟨g0, g5, g13, g16, g17, g18, g19, g4⟩, ra, rp, rq⟩, ⟨b0, b1, b2, b3, b4, b5, b6, b8, bK, ba, bp, bq⟩⟩ := id hV
  obtain ⟨e7, e8, e9, e10, e11, e12⟩ := rp p hp0 hp1; obtain ⟨f0, f1, f2, f3, f4, f5⟩ := bp p hp0 hp1
  obtain ⟨o7, o8, o9, o10, o11, o12⟩ := rp o ho0 ho1; obtain ⟨fo0, fo1, fo2, fo3, fo4, fo5⟩ := bp o ho0 ho1
  obtain ⟨e1, e2, e3⟩ := ra a ha0 ha1; obtain ⟨fa0, fa1, fa2⟩ := ba a ha0 ha1
  refine eX7_strainRoped (by omega) ?_
  have hm := mulB (show 0 ≤ min (pA A p 1) (pA A o 1) by omega) (show min (pA A p 1) (pA A o 1) ≤ 9 by omega) (show 0 ≤ moA A a + A 4 by omega) (show moA A a + A 4 ≤ 14 by omega)
  have hz := zd2 (show 0 ≤ min (pA A p 0) (pA A o 0) by omega) (by omega)
  unfold sRo at hq
  rw [← e8, ← o8, ← e2, ← g17] at hm
  rw [← e7, ← o7] at hz
  rw [← e7, ← o7, ← e8, ← o8, ← e9, ← o9, ← e2, ← g17] at hq
  (repeat' (first | (refine Ex_step ?_; conv => whnf) | (refine ⟨?_, trivial⟩) | (refine (show den _ _ _ _ _ _ _ _ from ?_); conv => whnf) | (refine ⟨by (first | assumption | rfl | (exact Nat.le_of_ble_eq_true rfl) | (exact ⟨fun h01 => absurd h01 (by decide), rfl⟩) | (exact ⟨fun _ => by decide, rfl⟩) | (exact ⟨by assumption, by omega, by omega⟩) | (unfold inI; omega) | omega), ?_⟩; conv => whnf) | (refine ⟨fun c => False.elim (by omega), fun c => ?_⟩) | (refine ⟨fun c => ?_, fun c => False.elim (by omega)⟩) | (refine ⟨fun c => ?_, fun c => ?_⟩) | (intro c) | fail))
  exact hq
theorem sRo_b {K : Int} {A : Int → Int} (hA : AOk K A) {p o a : Int} (hp0 : 0 ≤ p) (hp1 : p < A 1) (ho0 : 0 ≤ o) (ho1 : o < A 1) (ha0 : 0 ≤ a) (ha1 : a < A 0) : -100 ≤ sRo A p o a ∧ sRo A p o a ≤ 1000 := by
  obtain ⟨b0, b1, b2, b3, b4, b5, b6, b8, bK, ba, bp, bq⟩ := hA
  obtain ⟨f0, f1, f2, f3, f4, f5⟩ := bp p hp0 hp1
  obtain ⟨fo0, fo1, fo2, fo3, fo4, fo5⟩ := bp o ho0 ho1
  obtain ⟨fa0, fa1, fa2⟩ := ba a ha0 ha1
  have hm := mulB (show 0 ≤ min (pA A p 1) (pA A o 1) by omega) (show min (pA A p 1) (pA A o 1) ≤ 9 by omega) (show 0 ≤ moA A a + A 4 by omega) (show moA A a + A 4 ≤ 14 by omega)
  have hz := zd2 (show 0 ≤ min (pA A p 0) (pA A o 0) by omega) (by omega)
  unfold sRo
  omega
set_option maxHeartbeats 4000000 in
theorem w_stopAlone {X : Int → Int} {XL : Int} {d : Nat} {h : Mem} {Q : RetP} {K : Int} {A : Int → Int} {v : Nat} {p : Int} (hd : 3 ≤ d) (hV : Vr K h v A) (hp0 : 0 ≤ p) (hp1 : p < A 1) (hq : Q (some (vI (stN (A 0) (okBy A p (pA A p 1) (A 4)) (pA A p 3)))) h) : WP X XL d 28 [vR v, vI p] h Q := by
  obtain ⟨⟨k0, ⟨k1, l1⟩, ⟨k2, l2⟩, ⟨k3, l3⟩, ⟨k6, l6⟩, ⟨k7, l7⟩, ⟨k8, l8⟩, ⟨k9, l9⟩, ⟨k10, l10⟩, ⟨k11, l11⟩, ⟨k12, l12⟩, ⟨k14, l14⟩, ⟨k15, l15⟩⟩, ⟨⟨g0, g5, g13, g16, g17, g18, g19, g4⟩, ra, rp, rq⟩, ⟨b0, b1, b2, b3, b4, b5, b6, b8, bK, ba, bp, bq⟩⟩ := id hV
  obtain ⟨e7, e8, e9, e10, e11, e12⟩ := rp p hp0 hp1; obtain ⟨f0, f1, f2, f3, f4, f5⟩ := bp p hp0 hp1
  refine eX7_stopAlone (by omega) ?_
  rw [← e8, ← g17, ← e10] at hq
  (repeat' (first | (refine w_stopBy (by omega) hV hp0 hp1 (by omega) (by omega) (by omega) ?_) | (refine Ex_step ?_; conv => whnf) | (refine ⟨?_, trivial⟩) | (refine (show den _ _ _ _ _ _ _ _ from ?_); conv => whnf) | (refine ⟨by (first | assumption | rfl | (exact Nat.le_of_ble_eq_true rfl) | (exact ⟨fun h01 => absurd h01 (by decide), rfl⟩) | (exact ⟨fun _ => by decide, rfl⟩) | (exact ⟨by assumption, by omega, by omega⟩) | (unfold inI; omega) | omega), ?_⟩; conv => whnf) | (refine ⟨fun c => False.elim (by omega), fun c => ?_⟩) | (refine ⟨fun c => ?_, fun c => False.elim (by omega)⟩) | (refine ⟨fun c => ?_, fun c => ?_⟩) | (intro c) | fail))
  exact hq
def okRo (A : Int → Int) (p o : Int) (a : Int) : Bool := decide (sRo A p o a ≤ hoA A a)
set_option maxHeartbeats 4000000 in
theorem w_stopRoped {X : Int → Int} {XL : Int} {d : Nat} {h : Mem} {Q : RetP} {K : Int} {A : Int → Int} {v : Nat} {p o fr : Int} (hd : 2 ≤ d) (hV : Vr K h v A) (hp0 : 0 ≤ p) (hp1 : p < A 1) (ho0 : 0 ≤ o) (ho1 : o < A 1) (hf0 : 0 ≤ fr) (hq : Q (some (vI (stN (A 0) (okRo A p o) fr))) h) : WP X XL d 31 [vR v, vI p, vI o, vI fr] h Q := by
  obtain ⟨⟨k0, ⟨k1, l1⟩, ⟨k2, l2⟩, ⟨k3, l3⟩, ⟨k6, l6⟩, ⟨k7, l7⟩, ⟨k8, l8⟩, ⟨k9, l9⟩, ⟨k10, l10⟩, ⟨k11, l11⟩, ⟨k12, l12⟩, ⟨k14, l14⟩, ⟨k15, l15⟩⟩, ⟨⟨g0, g5, g13, g16, g17, g18, g19, g4⟩, ra, rp, rq⟩, ⟨b0, b1, b2, b3, b4, b5, b6, b8, bK, ba, bp, bq⟩⟩ := id hV
  refine eX7_stopRoped (by omega) ?_
  refine Ex_step ?_
  conv => whnf
  refine ⟨?_, trivial⟩
  have loop : ∀ (k : Nat) (a : Int), (A 0 - a).toNat = k → 0 ≤ a → Q (some (vI (stN (A 0) (okRo A p o) a))) h → Ex (WP X XL (d - 1)) KX7_stopRoped h.1 Q 3 [some (vR v), some (vI p), some (vI o), some (vI fr), some (vI a)] [] h := by
    intro k
    induction k with
    | zero =>
      intro a hk ha0 hq
      rw [stN_end (Or.inl (by omega))] at hq
      (repeat' (first | (refine Ex_step ?_; conv => whnf) | (refine ⟨?_, trivial⟩) | (refine (show den _ _ _ _ _ _ _ _ from ?_); conv => whnf) | (refine ⟨by (first | assumption | rfl | (exact Nat.le_of_ble_eq_true rfl) | (exact ⟨fun h01 => absurd h01 (by decide), rfl⟩) | (exact ⟨fun _ => by decide, rfl⟩) | (exact ⟨by assumption, by omega, by omega⟩) | (unfold inI; omega) | omega), ?_⟩; conv => whnf) | (refine ⟨fun c => False.elim (by omega), fun c => ?_⟩) | (refine ⟨fun c => ?_, fun c => False.elim (by omega)⟩) | (refine ⟨fun c => ?_, fun c => ?_⟩) | (intro c) | fail))
      exact hq
    | succ k ih =>
      intro a hk ha0 hq
      have ha1 : a < A 0 := by omega
      obtain ⟨e1, e2, e3⟩ := ra a ha0 ha1; obtain ⟨fa0, fa1, fa2⟩ := ba a ha0 ha1
      by_cases hok : okRo A p o a = true
      · rw [stN_go ha1 hok] at hq
        have hok := of_decide_eq_true hok
        rw [← e1] at hok
        refine Ex_step ?_
        conv => whnf
        (repeat' (first | (refine ih _ (by omega) (by omega) hq) | (refine w_strainRoped (by omega) hV hp0 hp1 ho0 ho1 ha0 ha1 ?_) | (refine Ex_step ?_; conv => whnf) | (refine ⟨?_, trivial⟩) | (refine (show den _ _ _ _ _ _ _ _ from ?_); conv => whnf) | (refine ⟨by (first | assumption | rfl | (exact Nat.le_of_ble_eq_true rfl) | (exact ⟨fun h01 => absurd h01 (by decide), rfl⟩) | (exact ⟨fun _ => by decide, rfl⟩) | (exact ⟨by assumption, by omega, by omega⟩) | (unfold inI; omega) | omega), ?_⟩; conv => whnf) | (refine ⟨fun c => False.elim (by omega), fun c => ?_⟩) | (refine ⟨fun c => ?_, fun c => False.elim (by omega)⟩) | (refine ⟨fun c => ?_, fun c => ?_⟩) | (intro c) | fail))
      · rw [stN_end (Or.inr (by simpa using hok))] at hq
        have hok : ¬ _ := fun q => hok (decide_eq_true q)
        rw [← e1] at hok
        (repeat' (first | (refine w_strainRoped (by omega) hV hp0 hp1 ho0 ho1 ha0 ha1 ?_) | (refine Ex_step ?_; conv => whnf) | (refine ⟨?_, trivial⟩) | (refine (show den _ _ _ _ _ _ _ _ from ?_); conv => whnf) | (refine ⟨by (first | assumption | rfl | (exact Nat.le_of_ble_eq_true rfl) | (exact ⟨fun h01 => absurd h01 (by decide), rfl⟩) | (exact ⟨fun _ => by decide, rfl⟩) | (exact ⟨by assumption, by omega, by omega⟩) | (unfold inI; omega) | omega), ?_⟩; conv => whnf) | (refine ⟨fun c => False.elim (by omega), fun c => ?_⟩) | (refine ⟨fun c => ?_, fun c => False.elim (by omega)⟩) | (refine ⟨fun c => ?_, fun c => ?_⟩) | (intro c) | fail))
        exact hq
  exact loop _ fr rfl hf0 hq
/-- how many are behind one who was stopped, when he has fallen, or not -/
def aft (A : Int → Int) (s db : Int) : Int := if s < A 0 ∧ 0 < db ∧ A 3 < s then A 3 else s
theorem aft_t {A : Int → Int} {s db : Int} (h : s < A 0 ∧ 0 < db ∧ A 3 < s) : aft A s db = A 3 := if_pos h
theorem aft_f {A : Int → Int} {s db : Int} (h : ¬ (s < A 0 ∧ 0 < db ∧ A 3 < s)) : aft A s db = s := if_neg h
set_option maxHeartbeats 4000000 in
theorem w_afterFall {X : Int → Int} {XL : Int} {d : Nat} {h : Mem} {Q : RetP} {K : Int} {A : Int → Int} {v : Nat} {s db : Int} (hd : 1 ≤ d) (hV : Vr K h v A) (hq : Q (some (vI (aft A s db))) h) : WP X XL d 33 [vR v, vI s, vI db] h Q := by
  obtain ⟨⟨k0, ⟨k1, l1⟩, ⟨k2, l2⟩, ⟨k3, l3⟩, ⟨k6, l6⟩, ⟨k7, l7⟩, ⟨k8, l8⟩, ⟨k9, l9⟩, ⟨k10, l10⟩, ⟨k11, l11⟩, ⟨k12, l12⟩, ⟨k14, l14⟩, ⟨k15, l15⟩⟩, ⟨⟨g0, g5, g13, g16, g17, g18, g19, g4⟩, ra, rp, rq⟩, ⟨b0, b1, b2, b3, b4, b5, b6, b8, bK, ba, bp, bq⟩⟩ := id hV
  refine eX7_afterFall hd ?_
  (repeat' (first | (refine Ex_step ?_; conv => whnf) | (refine ⟨?_, trivial⟩) | (refine (show den _ _ _ _ _ _ _ _ from ?_); conv => whnf) | (refine ⟨by (first | assumption | rfl | (exact Nat.le_of_ble_eq_true rfl) | (exact ⟨fun h01 => absurd h01 (by decide), rfl⟩) | (exact ⟨fun _ => by decide, rfl⟩) | (exact ⟨by assumption, by omega, by omega⟩) | (unfold inI; omega) | omega), ?_⟩; conv => whnf) | (refine ⟨fun c => False.elim (by omega), fun c => ?_⟩) | (refine ⟨fun c => ?_, fun c => False.elim (by omega)⟩) | (refine ⟨fun c => ?_, fun c => ?_⟩) | (intro c) | fail)) <;> first | (rw [aft_t (by omega), ← g16] at hq; exact hq) | (rw [aft_f (by omega)] at hq; exact hq)
set_option maxHeartbeats 4000000 in
theorem w_reachInFog {X : Int → Int} {XL : Int} {d : Nat} {h : Mem} {Q : RetP} {K : Int} {A : Int → Int} {v : Nat} {p db fg : Int} (hd : 3 ≤ d) (hV : Vr K h v A) (hp0 : 0 ≤ p) (hp1 : p < A 1) (hdb : 0 ≤ db ∧ db ≤ 9) (hfg : 0 ≤ fg ∧ fg ≤ 5) (hq : Q (some (vI (aft A (stN (A 0) (okBy A p db fg) 0) db))) h) : WP X XL d 32 [vR v, vI p, vI db, vI fg] h Q := by
  have k0 := hV.1.1
  refine eX7_reachInFog (by omega) ?_
  (repeat' (first | (refine w_stopBy (by omega) hV hp0 hp1 (by omega) (by omega) (by omega) ?_) | (refine w_afterFall (by omega) hV ?_) | (refine Ex_step ?_; conv => whnf) | (refine ⟨?_, trivial⟩) | (refine (show den _ _ _ _ _ _ _ _ from ?_); conv => whnf) | (refine ⟨by (first | assumption | rfl | (exact Nat.le_of_ble_eq_true rfl) | (exact ⟨fun h01 => absurd h01 (by decide), rfl⟩) | (exact ⟨fun _ => by decide, rfl⟩) | (exact ⟨by assumption, by omega, by omega⟩) | (unfold inI; omega) | omega), ?_⟩; conv => whnf) | (refine ⟨fun c => False.elim (by omega), fun c => ?_⟩) | (refine ⟨fun c => ?_, fun c => False.elim (by omega)⟩) | (refine ⟨fun c => ?_, fun c => ?_⟩) | (intro c) | fail))
  exact hq
def tlS (A : Int → Int) (fr to : Int) : Int := foN to (fun a s => s + toA A a) fr 0
set_option maxHeartbeats 4000000 in
theorem w_tollsBetween {X : Int → Int} {XL : Int} {d : Nat} {h : Mem} {Q : RetP} {K : Int} {A : Int → Int} {v : Nat} {fr to : Int} (hd : 1 ≤ d) (hV : Vr K h v A) (hf0 : 0 ≤ fr) (ht : to ≤ A 0) (hq : Q (some (vI (tlS A fr to))) h) : WP X XL d 34 [vR v, vI fr, vI to] h Q := by
  obtain ⟨⟨k0, ⟨k1, l1⟩, ⟨k2, l2⟩, ⟨k3, l3⟩, ⟨k6, l6⟩, ⟨k7, l7⟩, ⟨k8, l8⟩, ⟨k9, l9⟩, ⟨k10, l10⟩, ⟨k11, l11⟩, ⟨k12, l12⟩, ⟨k14, l14⟩, ⟨k15, l15⟩⟩, ⟨⟨g0, g5, g13, g16, g17, g18, g19, g4⟩, ra, rp, rq⟩, ⟨b0, b1, b2, b3, b4, b5, b6, b8, bK, ba, bp, bq⟩⟩ := id hV
  refine eX7_tollsBetween hd ?_
  refine Ex_step ?_
  conv => whnf
  refine ⟨?_, trivial⟩
  have loop : ∀ (k : Nat) (a s : Int), (to - a).toNat = k → 0 ≤ a → 0 ≤ s → s ≤ 9 * a → Q (some (vI (foN to (fun a s => s + toA A a) a s))) h → Ex (WP X XL (d - 1)) KX7_tollsBetween h.1 Q 5 [some (vR v), some (vI fr), some (vI to), some (vI s), some (vI a)] [] h := by
    intro k
    induction k with
    | zero =>
      intro a s hk ha0 hs0 hs1 hq
      rw [foN_end (by omega)] at hq
      (repeat' (first | (refine Ex_step ?_; conv => whnf) | (refine ⟨?_, trivial⟩) | (refine (show den _ _ _ _ _ _ _ _ from ?_); conv => whnf) | (refine ⟨by (first | assumption | rfl | (exact Nat.le_of_ble_eq_true rfl) | (exact ⟨fun h01 => absurd h01 (by decide), rfl⟩) | (exact ⟨fun _ => by decide, rfl⟩) | (exact ⟨by assumption, by omega, by omega⟩) | (unfold inI; omega) | omega), ?_⟩; conv => whnf) | (refine ⟨fun c => False.elim (by omega), fun c => ?_⟩) | (refine ⟨fun c => ?_, fun c => False.elim (by omega)⟩) | (refine ⟨fun c => ?_, fun c => ?_⟩) | (intro c) | fail))
      exact hq
    | succ k ih =>
      intro a s hk ha0 hs0 hs1 hq
      have ha1 : a < A 0 := by omega
      obtain ⟨e1, e2, e3⟩ := ra a ha0 ha1; obtain ⟨fa0, fa1, fa2⟩ := ba a ha0 ha1
      rw [foN_go (by omega), ← e3] at hq
      refine Ex_step ?_
      conv => whnf
      (repeat' (first | (refine ih _ _ (by omega) (by omega) (by omega) (by omega) hq) | (refine Ex_step ?_; conv => whnf) | (refine ⟨?_, trivial⟩) | (refine (show den _ _ _ _ _ _ _ _ from ?_); conv => whnf) | (refine ⟨by (first | assumption | rfl | (exact Nat.le_of_ble_eq_true rfl) | (exact ⟨fun h01 => absurd h01 (by decide), rfl⟩) | (exact ⟨fun _ => by decide, rfl⟩) | (exact ⟨by assumption, by omega, by omega⟩) | (unfold inI; omega) | omega), ?_⟩; conv => whnf) | (refine ⟨fun c => False.elim (by omega), fun c => ?_⟩) | (refine ⟨fun c => ?_, fun c => False.elim (by omega)⟩) | (refine ⟨fun c => ?_, fun c => ?_⟩) | (intro c) | fail))
  exact loop _ fr 0 rfl hf0 (by omega) (by omega) hq
