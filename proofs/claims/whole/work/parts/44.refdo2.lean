/-! LEVEL 2: the reference: jumps, homes, days, what is kept -/
set_option maxHeartbeats 4000000 in
theorem r_jumps {X : Int → Int} {XL : Int} {d : Nat} {h : Mem} {Q : RetP} {K : Int} {A : Int → Int} {a : Int} (hd : 2 ≤ d) (hR : Rr K h A) (ha0 : 0 ≤ a) (ha1 : a < A 0) (hq0 : ¬ (hoA A a < 60 ∨ 0 < moA A a) → Q (some (vI 0)) h) (hq1 : (hoA A a < 60 ∨ 0 < moA A a) → ∀ h', Rr K h' (jmpA A a) → FrA h h' → Q (some (vI 1)) h') : WP X XL d 271 [vR 127, vI a] h Q := by
  obtain ⟨⟨kq, r0, kt, lt⟩, eA, ⟨b0, b1, b2, b3, b4, b5, b6, b8, bK, ba, bp, bq⟩⟩ := id hR
  obtain ⟨fa0, fa1, fa2⟩ := ba a ha0 ha1
  have hsh := shl1 ha0 (show a ≤ 20 by omega)
  refine eX10_jumps (by omega) ?_
  unfold hoA moA at *
  (repeat' (first | (refine r_archRow (by omega) (by omega) ?_) | (refine ⟨⟨by omega, by omega, hsh⟩, ?_⟩; conv => whnf) | (refine Ex_step ?_; conv => whnf) | (refine ⟨?_, trivial⟩) | (refine (show den _ _ _ _ _ _ _ _ from ?_); conv => whnf) | (refine ⟨by (first | assumption | rfl | (exact Nat.le_of_ble_eq_true rfl) | (exact ⟨fun h01 => absurd h01 (by decide), by first | rfl | assumption | trivial⟩) | (exact ⟨fun _ => by decide, by first | rfl | assumption | trivial⟩) | (exact ⟨kt, by omega, Int.lt_of_lt_of_le (by omega : _ < (3198 : Int)) (Int.le_of_eq lt.symm)⟩) | (unfold inI; omega) | omega), ?_⟩; conv => whnf; try simp (disch := omega) only [r0, gR_sG, g_same, g_ne, eA]) | (refine ⟨fun c => False.elim (by omega), fun c => ?_⟩) | (refine ⟨fun c => ?_, fun c => False.elim (by omega)⟩) | (refine ⟨fun c => ?_, fun c => ?_⟩) | (intro c) | fail))
  all_goals first | (exact hq0 (by omega)) | (exact hq1 (by omega) _ (hR.z.put.put.put.ok rfl (jmp_ok hR.2.2 ha0 ha1)) (((FrA.refl.sG (by omega)).sG (by omega)).sG (by omega)))
set_option maxHeartbeats 4000000 in
theorem r_homes {X : Int → Int} {XL : Int} {d : Nat} {h : Mem} {Q : RetP} {K : Int} {A : Int → Int} {p : Int} (hd : 3 ≤ d) (hR : Rr K h A) (hp0 : 0 ≤ p) (hp1 : p < A 1) (hq0 : pA A p 3 = 0 → ∀ h', Rr K h' (homA A p) → FrA h h' → Q (some (vI 0)) h') (hq1 : ¬ pA A p 3 = 0 → ∀ h', Rr K h' (homA A p) → FrA h h' → Q (some (vI 1)) h') : WP X XL d 273 [vR 127, vI p] h Q := by
  obtain ⟨⟨kq, r0, kt, lt⟩, eA, ⟨b0, b1, b2, b3, b4, b5, b6, b8, bK, ba, bp, bq⟩⟩ := id hR
  obtain ⟨f0, f1, f2, f3, f4, f5⟩ := bp p hp0 hp1
  refine eX10_homes (by omega) ?_
  (repeat' (first | (refine r_personOf (by omega) hR (by omega) (by omega) ?_) | (refine r_personRow (by omega) (by omega) ?_) | (refine Ex_step ?_; conv => whnf) | (refine ⟨?_, trivial⟩) | (refine (show den _ _ _ _ _ _ _ _ from ?_); conv => whnf) | (refine ⟨by (first | assumption | rfl | (exact Nat.le_of_ble_eq_true rfl) | (exact ⟨fun h01 => absurd h01 (by decide), by first | rfl | assumption | trivial⟩) | (exact ⟨fun _ => by decide, by first | rfl | assumption | trivial⟩) | (exact ⟨kt, by omega, Int.lt_of_lt_of_le (by omega : _ < (3198 : Int)) (Int.le_of_eq lt.symm)⟩) | (unfold inI; omega) | omega), ?_⟩; conv => whnf; try simp (disch := omega) only [r0, gR_sG, g_same, g_ne, eA]) | (refine ⟨fun c => False.elim (by omega), fun c => ?_⟩) | (refine ⟨fun c => ?_, fun c => False.elim (by omega)⟩) | (refine ⟨fun c => ?_, fun c => ?_⟩) | (intro c) | fail))
  all_goals first | (exact hq1 (by omega) _ (hR.z.put.ok rfl (hom_ok hR.2.2 hp0 hp1)) (FrA.refl.sG (by omega))) | (exact hq0 (by omega) _ (hR.z.put.ok rfl (hom_ok hR.2.2 hp0 hp1)) (FrA.refl.sG (by omega)))
set_option maxHeartbeats 4000000 in
theorem r_canRope {X : Int → Int} {XL : Int} {d : Nat} {h : Mem} {Q : RetP} {K : Int} {A : Int → Int} {p o : Int} (hd : 4 ≤ d) (hR : Rr K h A) (hp0 : 0 ≤ p) (hp1 : p < A 1) (ho0 : 0 ≤ o) (ho1 : o < A 1) (hq1 : ¬ p = o → pA A p 3 = pA A o 3 → pA A p 3 < A 0 → Q (some (vI 1)) h) (hq0 : p = o ∨ ¬ pA A p 3 = pA A o 3 ∨ A 0 ≤ pA A p 3 → Q (some (vI 0)) h) : WP X XL d 269 [vR 127, vI p, vI o] h Q := by
  have kq := hR.1.1
  have b1 := hR.2.2.2.1
  refine eX10_canRope (by omega) ?_
  (repeat' (first | (refine r_personOf (by omega) hR (by omega) (by omega) ?_) | (refine r_isOver (by omega) hR hp0 hp1 (fun c => ?_) (fun c => ?_)) | (refine Ex_step ?_; conv => whnf) | (refine ⟨?_, trivial⟩) | (refine (show den _ _ _ _ _ _ _ _ from ?_); conv => whnf) | (refine ⟨by (first | assumption | rfl | (exact Nat.le_of_ble_eq_true rfl) | (exact ⟨fun h01 => absurd h01 (by decide), by first | rfl | assumption⟩) | (exact ⟨fun _ => by decide, by first | rfl | assumption⟩) | (exact ⟨by assumption, by omega, by omega⟩) | (unfold inI; omega) | omega), ?_⟩; conv => whnf) | (refine ⟨fun c => False.elim (by omega), fun c => ?_⟩) | (refine ⟨fun c => ?_, fun c => False.elim (by omega)⟩) | (refine ⟨fun c => ?_, fun c => ?_⟩) | (intro c) | fail))
  all_goals first | (exact hq0 (by omega)) | (exact hq1 (by omega) (by omega) (by omega))
theorem ms1 {A : Int → Int} {a : Int} (h0 : 0 ≤ moA A a) (h1 : moA A a ≤ 9) : msA A a 1 = if bt (A 8) a = true then max 0 (min 9 (moA A a + -1)) else max 0 (min 9 (moA A a + 1)) := by
  unfold msA
  rw [if_neg (by omega)]
  by_cases hb : bt (A 8) a = true
  · rw [if_pos hb, if_pos hb]; omega
  · rw [if_neg hb, if_neg hb]; omega
set_option maxHeartbeats 4000000 in
theorem r_dayGoes {X : Int → Int} {XL : Int} {d : Nat} {h : Mem} {Q : RetP} {K : Int} {A : Int → Int} (hd : 3 ≤ d) (hR : Rr K h A) (h6 : A 6 + 1 ≤ 20000) (hq : ∀ h', Rr K h' (dayA A 1) → FrA h h' → Q none h') : WP X XL d 275 [vR 127] h Q := by
  have hA := hR.2.2
  have loop : ∀ (k : Nat) (i : Int) (h' : Mem) (jk : Option MV), (A 0 - i).toNat = k → 0 ≤ i → i ≤ A 0 → Rr K h' (midA A 1 i) → FrA h h' → Ex (WP X XL (d - 1)) KX10_dayGoes h.1 Q 2 [some (vR 127), some (vI i), jk] [] h' := by
    intro k; induction k with
    | zero =>
      intro i h' jk hk hi0 hi1 hR' fr
      have hi : i = A 0 := by omega
      subst hi
      have hok := day_ok hA (show (0 : Int) ≤ 1 by omega) h6
      rw [day_mid] at hok hq
      have e0 := mid_l (A := A) (n := 1) (i := A 0) (j := 0) (by omega)
      have e6 := mid_l (A := A) (n := 1) (i := A 0) (j := 6) (by omega)
      have g1 := fr.1.1
      generalize midA A 1 (A 0) = B at *
      obtain ⟨⟨kq, r0, kt, lt⟩, eA, ⟨b0, b1, b2, b3, b4, b5, b6, b8, bK, ba, bp, bq⟩⟩ := id hR'
      (repeat' (first | (refine Ex_step ?_; conv => whnf) | (refine ⟨?_, trivial⟩) | (refine (show den _ _ _ _ _ _ _ _ from ?_); conv => whnf) | (refine ⟨by (first | assumption | rfl | (exact Nat.le_of_ble_eq_true rfl) | (exact ⟨fun h01 => absurd h01 (by decide), by first | rfl | assumption | trivial⟩) | (exact ⟨fun _ => by decide, by first | rfl | assumption | trivial⟩) | (exact ⟨kt, by omega, Int.lt_of_lt_of_le (by omega : _ < (3198 : Int)) (Int.le_of_eq lt.symm)⟩) | (unfold inI; omega) | omega), ?_⟩; conv => whnf; try simp (disch := omega) only [r0, gR_sG, g_same, g_ne, eA]) | (refine ⟨fun c => False.elim (by omega), fun c => ?_⟩) | (refine ⟨fun c => ?_, fun c => False.elim (by omega)⟩) | (refine ⟨fun c => ?_, fun c => ?_⟩) | (intro c) | fail))
      rw [e6]
      exact hq _ (hR'.z.put.put.ok rfl hok) ((fr.sG (by omega)).sG (by omega))
    | succ k ih =>
      intro i h' jk hk hi0 hi1 hR' fr
      have hi2 : i < A 0 := by omega
      have hok := mid_ok hA (show (0 : Int) ≤ 1 by omega) (show i + 1 ≤ A 0 by omega)
      rw [mid_s hi0] at hok
      have hmo := hA.2.2.2.2.2.2.2.2.2.1 i hi0 hi2
      have e1 : moA (midA A 1 i) i = moA A i := by unfold moA midA; rw [if_neg (by omega)]
      have e0 := mid_l (A := A) (n := 1) (i := i) (j := 0) (by omega)
      have e8 := mid_l (A := A) (n := 1) (i := i) (j := 8) (by omega)
      have hm := ms1 (A := A) hmo.2.1.1 hmo.2.1.2
      have ih2 : ∀ h'' jk, Rr K h'' (pu (midA A 1 i) (10 + 3 * i + 1) (msA A i 1)) → FrA h' h'' → Ex (WP X XL (d - 1)) KX10_dayGoes h.1 Q 2 [some (vR 127), some (vI (i + 1)), jk] [] h'' := fun h'' jk q1 q2 => ih (i + 1) h'' jk (by omega) (by omega) (by omega) (by rw [mid_s hi0]; exact q1) (fr.trans q2)
      have b0' := hA.1
      generalize midA A 1 i = B at *
      obtain ⟨⟨kq, r0, kt, lt⟩, eA, ⟨b0, b1, b2, b3, b4, b5, b6, b8, bK, ba, bp, bq⟩⟩ := id hR'
      by_cases hb : bt (A 8) i = true
      · rw [if_pos hb] at hm
        rw [hm] at ih2 hok
        refine Ex_step ?_; conv => whnf
        (repeat' (first | (rw [e1]) | (refine r_mo (by omega) hR' (by omega) ?_) | (rw [e8]; refine r_isIn (by omega) (by omega) (fun c => ?_) (fun c => absurd (c.symm.trans hb) Bool.false_ne_true)) | (refine r_archRow (by omega) (by omega) ?_) | (exact ih2 _ _ (hR'.z.put.ok rfl hok) (FrA.refl.sG (by omega))) | (refine Ex_step ?_; conv => whnf) | (refine ⟨?_, trivial⟩) | (refine (show den _ _ _ _ _ _ _ _ from ?_); conv => whnf) | (refine ⟨by (first | assumption | rfl | (exact Nat.le_of_ble_eq_true rfl) | (exact ⟨fun h01 => absurd h01 (by decide), by first | rfl | assumption | trivial⟩) | (exact ⟨fun _ => by decide, by first | rfl | assumption | trivial⟩) | (exact ⟨kt, by omega, Int.lt_of_lt_of_le (by omega : _ < (3198 : Int)) (Int.le_of_eq lt.symm)⟩) | (unfold inI; omega) | omega), ?_⟩; conv => whnf; try simp (disch := omega) only [r0, gR_sG, g_same, g_ne, eA]) | (refine ⟨fun c => False.elim (by omega), fun c => ?_⟩) | (refine ⟨fun c => ?_, fun c => False.elim (by omega)⟩) | (refine ⟨fun c => ?_, fun c => ?_⟩) | (intro c) | fail))
      · rw [if_neg hb] at hm
        rw [hm] at ih2 hok
        refine Ex_step ?_; conv => whnf
        (repeat' (first | (rw [e1]) | (refine r_mo (by omega) hR' (by omega) ?_) | (rw [e8]; refine r_isIn (by omega) (by omega) (fun c => absurd c hb) (fun c => ?_)) | (refine r_archRow (by omega) (by omega) ?_) | (exact ih2 _ _ (hR'.z.put.ok rfl hok) (FrA.refl.sG (by omega))) | (refine Ex_step ?_; conv => whnf) | (refine ⟨?_, trivial⟩) | (refine (show den _ _ _ _ _ _ _ _ from ?_); conv => whnf) | (refine ⟨by (first | assumption | rfl | (exact Nat.le_of_ble_eq_true rfl) | (exact ⟨fun h01 => absurd h01 (by decide), by first | rfl | assumption | trivial⟩) | (exact ⟨fun _ => by decide, by first | rfl | assumption | trivial⟩) | (exact ⟨kt, by omega, Int.lt_of_lt_of_le (by omega : _ < (3198 : Int)) (Int.le_of_eq lt.symm)⟩) | (unfold inI; omega) | omega), ?_⟩; conv => whnf; try simp (disch := omega) only [r0, gR_sG, g_same, g_ne, eA]) | (refine ⟨fun c => False.elim (by omega), fun c => ?_⟩) | (refine ⟨fun c => ?_, fun c => False.elim (by omega)⟩) | (refine ⟨fun c => ?_, fun c => ?_⟩) | (intro c) | fail))
  refine eX10_dayGoes (by omega) ?_
  refine Ex_step ?_; conv => whnf
  refine ⟨?_, trivial⟩
  exact loop _ 0 h _ rfl (by omega) hA.1.1 (by rw [mid_0]; exact hR) FrA.refl
/-- what becomes of all in so many days, none too -/
def dyN (A : Int → Int) (n : Int) : Int → Int := if n ≤ 0 then A else dayA A n
theorem dyN_0 {A : Int → Int} : dyN A 0 = A := if_pos (by omega)
theorem bt0 {i : Int} : bt 0 i = false := by
  unfold bt shrZ
  rw [Int.zero_shiftRight]
  decide
theorem day_s {A : Int → Int} {n : Int} (hn : 1 ≤ n) : dayA (dayA A n) 1 = dayA A (n + 1) := by
  have e0 : dayA A n 0 = A 0 := by unfold dayA; rw [if_neg (by omega), if_neg (by omega), if_neg (by omega)]
  have e6 : dayA A n 6 = A 6 + n := by unfold dayA; rw [if_neg (by omega), if_pos rfl]
  have e8 : dayA A n 8 = 0 := by unfold dayA; rw [if_pos rfl]
  have em : ∀ a, 0 ≤ a → a < A 0 → msA (dayA A n) a 1 = msA A a (n + 1) := by
    intro a ha0 ha1
    have e1 : moA (dayA A n) a = msA A a n := by
      unfold moA dayA
      rw [if_neg (by omega), if_neg (by omega), if_pos (by omega), show (10 + 3 * a + 1 - 10) / 3 = a by omega]
    have e2 : msA (dayA A n) a 1 = min 9 (moA (dayA A n) a + 1 + 1 - 1) := by
      unfold msA
      rw [e8, bt0, if_neg (by omega), if_neg (by simp)]
    rw [e2, e1]
    unfold msA
    rw [if_neg (show ¬ n ≤ 0 by omega), if_neg (show ¬ n + 1 ≤ 0 by omega)]
    by_cases hb : bt (A 8) a = true
    · rw [if_pos hb]; omega
    · rw [if_neg hb]; omega
  funext j
  rw [show ∀ B, dayA B 1 j = if j = 8 then 0 else if j = 6 then B 6 + 1 else if 10 ≤ j ∧ j < 10 + 3 * B 0 ∧ (j - 10) % 3 = 1 then msA B ((j - 10) / 3) 1 else B j from fun _ => rfl]
  rw [e0, e6]
  by_cases h8 : j = 8
  · rw [if_pos h8, h8]; unfold dayA; rw [if_pos rfl]
  · rw [if_neg h8]
    by_cases h6 : j = 6
    · rw [if_pos h6, h6]; unfold dayA; rw [if_neg (by omega), if_pos rfl]; omega
    · rw [if_neg h6]
      by_cases hm : 10 ≤ j ∧ j < 10 + 3 * A 0 ∧ (j - 10) % 3 = 1
      · rw [if_pos hm, em _ (by omega) (by omega)]; unfold dayA; rw [if_neg h8, if_neg h6, if_pos hm]
      · rw [if_neg hm]; unfold dayA; rw [if_neg h8, if_neg h6, if_neg hm, if_neg h8, if_neg h6, if_neg hm]
theorem dyN_s {A : Int → Int} {n : Int} (hn : 0 ≤ n) : dayA (dyN A n) 1 = dyN A (n + 1) := by
  unfold dyN
  rw [if_neg (show ¬ n + 1 ≤ 0 by omega)]
  by_cases h : n ≤ 0
  · rw [if_pos h, show n = 0 by omega]; rfl
  · rw [if_neg h]; exact day_s (by omega)
theorem dyN_6 {A : Int → Int} {n : Int} (hn : 0 ≤ n) : dyN A n 6 = A 6 + n := by
  unfold dyN
  split
  · omega
  · unfold dayA; rw [if_neg (by omega), if_pos rfl]
set_option maxHeartbeats 4000000 in
theorem r_daysGo {X : Int → Int} {XL : Int} {d : Nat} {h : Mem} {Q : RetP} {K : Int} {A : Int → Int} {n : Int} (hd : 4 ≤ d) (hR : Rr K h A) (hn0 : 0 ≤ n) (hn1 : A 6 + n ≤ 20000) (hn2 : n ≤ 1000) (hq : ∀ h', Rr K h' (dyN A n) → FrA h h' → Q none h') : WP X XL d 276 [vR 127, vI n] h Q := by
  have loop : ∀ (k : Nat) (i : Int) (h' : Mem), (n - i).toNat = k → 0 ≤ i → i ≤ n → Rr K h' (dyN A i) → FrA h h' → Ex (WP X XL (d - 1)) KX10_daysGo h.1 Q 2 [some (vR 127), some (vI n), some (vI i)] [] h' := by
    intro k; induction k with
    | zero =>
      intro i h' hk hi0 hi1 hR' fr
      have hi : i = n := by omega
      subst hi
      have g1 := fr.1.1
      (repeat' (first | (refine Ex_step ?_; conv => whnf) | (refine ⟨?_, trivial⟩) | (refine (show den _ _ _ _ _ _ _ _ from ?_); conv => whnf) | (refine ⟨by (first | assumption | rfl | (exact Nat.le_of_ble_eq_true rfl) | (exact ⟨fun h01 => absurd h01 (by decide), by first | rfl | assumption⟩) | (exact ⟨fun _ => by decide, by first | rfl | assumption⟩) | (exact ⟨by assumption, by omega, by omega⟩) | (unfold inI; omega) | omega), ?_⟩; conv => whnf) | (refine ⟨fun c => False.elim (by omega), fun c => ?_⟩) | (refine ⟨fun c => ?_, fun c => False.elim (by omega)⟩) | (refine ⟨fun c => ?_, fun c => ?_⟩) | (intro c) | fail))
      exact hq _ hR' fr
    | succ k ih =>
      intro i h' hk hi0 hi1 hR' fr
      have kq := hR'.1.1
      have e6 := dyN_6 (A := A) hi0
      refine Ex_step ?_; conv => whnf
      (repeat' (first | (refine r_dayGoes (by omega) hR' (by omega) (fun h2 hR2 fr2 => ?_); rw [dyN_s hi0] at hR2) | (exact ih _ h2 (by omega) (by omega) (by omega) hR2 (fr.trans fr2)) | (refine Ex_step ?_; conv => whnf) | (refine ⟨?_, trivial⟩) | (refine (show den _ _ _ _ _ _ _ _ from ?_); conv => whnf) | (refine ⟨by (first | assumption | rfl | (exact Nat.le_of_ble_eq_true rfl) | (exact ⟨fun h01 => absurd h01 (by decide), by first | rfl | assumption⟩) | (exact ⟨fun _ => by decide, by first | rfl | assumption⟩) | (exact ⟨by assumption, by omega, by omega⟩) | (unfold inI; omega) | omega), ?_⟩; conv => whnf) | (refine ⟨fun c => False.elim (by omega), fun c => ?_⟩) | (refine ⟨fun c => ?_, fun c => False.elim (by omega)⟩) | (refine ⟨fun c => ?_, fun c => ?_⟩) | (intro c) | fail))
  refine eX10_daysGo (by omega) ?_
  refine Ex_step ?_; conv => whnf
  refine ⟨?_, trivial⟩
  exact loop _ 0 h rfl (by omega) hn0 (by rw [dyN_0]; exact hR) FrA.refl
/-- what was kept at a place -/
def Kp (h : Mem) (to : Int) (B : Int → Int) : Prop := ∀ j, 0 ≤ j → j < 90 → gG h 128 (to + j) = B j
theorem Kp.fr {h h' : Mem} {to : Int} {B : Int → Int} (a : Kp h to B) (b : FrA h h') (ht : 90 ≤ to) : Kp h' to B := fun j h0 h1 => (b.2 _ (by omega)).trans (a j h0 h1)
set_option maxHeartbeats 4000000 in
theorem r_keeps {X : Int → Int} {XL : Int} {d : Nat} {h : Mem} {Q : RetP} {K : Int} {A : Int → Int} {to : Int} (hd : 1 ≤ d) (hR : Rr K h A) (ht0 : 90 ≤ to) (ht1 : to + 90 ≤ 3198) (hq : ∀ h', Rr K h' A → Fr (fun r => r = 128) h h' → Kp h' to A → (∀ j, j < to ∨ to + 90 ≤ j → gG h' 128 j = gG h 128 j) → Q none h') : WP X XL d 284 [vR 127, vI to] h Q := by
  have loop : ∀ (k : Nat) (i : Int) (h' : Mem), (90 - i).toNat = k → 0 ≤ i → i ≤ 90 → Rr K h' A → Fr (fun r => r = 128) h h' → (∀ j, 0 ≤ j → j < i → gG h' 128 (to + j) = A j) → (∀ j, j < to ∨ to + 90 ≤ j → gG h' 128 j = gG h 128 j) → Ex (WP X XL (d - 1)) KX10_keeps h.1 Q 2 [some (vR 127), some (vI to), some (vI i)] [] h' := by
    intro k; induction k with
    | zero =>
      intro i h' hk hi0 hi1 hR' fr hk1 hk2
      have hi : i = 90 := by omega
      subst hi
      have g1 := fr.1
      (repeat' (first | (refine Ex_step ?_; conv => whnf) | (refine ⟨?_, trivial⟩) | (refine (show den _ _ _ _ _ _ _ _ from ?_); conv => whnf) | (refine ⟨by (first | assumption | rfl | (exact Nat.le_of_ble_eq_true rfl) | (exact ⟨fun h01 => absurd h01 (by decide), by first | rfl | assumption⟩) | (exact ⟨fun _ => by decide, by first | rfl | assumption⟩) | (exact ⟨by assumption, by omega, by omega⟩) | (unfold inI; omega) | omega), ?_⟩; conv => whnf) | (refine ⟨fun c => False.elim (by omega), fun c => ?_⟩) | (refine ⟨fun c => ?_, fun c => False.elim (by omega)⟩) | (refine ⟨fun c => ?_, fun c => ?_⟩) | (intro c) | fail))
      exact hq _ hR' fr hk1 hk2
    | succ k ih =>
      intro i h' hk hi0 hi1 hR' fr hk1 hk2
      obtain ⟨⟨kq, r0, kt, lt⟩, eA, hA⟩ := id hR'
      have ih2 := fun h'' => ih (i + 1) h'' (by omega) (by omega) (by omega)
      refine Ex_step ?_; conv => whnf
      (repeat' (first | (refine ih2 _ ⟨hR'.1, fun j h0 h1 => ?_, hA⟩ (fr.sG rfl) (fun j h0 h1 => ?_) (fun j hj => ?_)) | (refine Ex_step ?_; conv => whnf) | (refine ⟨?_, trivial⟩) | (refine (show den _ _ _ _ _ _ _ _ from ?_); conv => whnf) | (refine ⟨by (first | assumption | rfl | (exact Nat.le_of_ble_eq_true rfl) | (exact ⟨fun h01 => absurd h01 (by decide), by first | rfl | assumption | trivial⟩) | (exact ⟨fun _ => by decide, by first | rfl | assumption | trivial⟩) | (exact ⟨kt, by omega, Int.lt_of_lt_of_le (by omega : _ < (3198 : Int)) (Int.le_of_eq lt.symm)⟩) | (unfold inI; omega) | omega), ?_⟩; conv => whnf; try simp (disch := omega) only [r0, gR_sG, g_same, g_ne, eA]) | (refine ⟨fun c => False.elim (by omega), fun c => ?_⟩) | (refine ⟨fun c => ?_, fun c => False.elim (by omega)⟩) | (refine ⟨fun c => ?_, fun c => ?_⟩) | (intro c) | fail))
      · rw [g_ne (by omega)]; exact eA j h0 h1
      · by_cases hj : j = i
        · rw [hj, g_same]
        · rw [g_ne (by omega)]; exact hk1 j h0 (by omega)
      · rw [g_ne (by omega)]; exact hk2 j hj
  refine eX10_keeps (by omega) ?_
  refine Ex_step ?_; conv => whnf
  refine ⟨?_, trivial⟩
  exact loop _ 0 h rfl (by omega) (by omega) hR Fr.refl (fun j h0 h1 => by omega) (fun _ _ => rfl)
set_option maxHeartbeats 4000000 in
theorem r_restores {X : Int → Int} {XL : Int} {d : Nat} {h : Mem} {Q : RetP} {K : Int} {A : Int → Int} {to : Int} {B : Int → Int} (hd : 1 ≤ d) (hR : Rr K h A) (ht0 : 90 ≤ to) (ht1 : to + 90 ≤ 3198) (hk : Kp h to B) (hB : AOk K B) (hq : ∀ h', Rr K h' B → FrA h h' → Q none h') : WP X XL d 285 [vR 127, vI to] h Q := by
  have loop : ∀ (k : Nat) (i : Int) (h' : Mem), (90 - i).toNat = k → 0 ≤ i → i ≤ 90 → FrA h h' → (∀ j, 0 ≤ j → j < i → gG h' 128 j = B j) → Ex (WP X XL (d - 1)) KX10_restores h.1 Q 2 [some (vR 127), some (vI to), some (vI i)] [] h' := by
    intro k; induction k with
    | zero =>
      intro i h' hk hi0 hi1 fr hk1
      have hi : i = 90 := by omega
      subst hi
      have g1 := fr.1.1
      (repeat' (first | (refine Ex_step ?_; conv => whnf) | (refine ⟨?_, trivial⟩) | (refine (show den _ _ _ _ _ _ _ _ from ?_); conv => whnf) | (refine ⟨by (first | assumption | rfl | (exact Nat.le_of_ble_eq_true rfl) | (exact ⟨fun h01 => absurd h01 (by decide), by first | rfl | assumption⟩) | (exact ⟨fun _ => by decide, by first | rfl | assumption⟩) | (exact ⟨by assumption, by omega, by omega⟩) | (unfold inI; omega) | omega), ?_⟩; conv => whnf) | (refine ⟨fun c => False.elim (by omega), fun c => ?_⟩) | (refine ⟨fun c => ?_, fun c => False.elim (by omega)⟩) | (refine ⟨fun c => ?_, fun c => ?_⟩) | (intro c) | fail))
      exact hq _ ⟨⟨(kd_fr fr.1 _).trans hR.1.1, (gR_fr fr.1 _ _).trans hR.1.2.1, (kd_fr fr.1 _).trans hR.1.2.2.1, (ln_fr fr.1 _).trans hR.1.2.2.2⟩, hk1, hB⟩ fr
    | succ k ih =>
      intro i h' hk' hi0 hi1 fr hk1
      have kq := (kd_fr fr.1 _).trans hR.1.1
      have r0 := (gR_fr fr.1 _ _).trans hR.1.2.1
      have kt := (kd_fr fr.1 _).trans hR.1.2.2.1
      have lt := (ln_fr fr.1 _).trans hR.1.2.2.2
      have eA := (Kp.fr hk fr ht0) i hi0 (by omega)
      have ih2 := fun h'' => ih (i + 1) h'' (by omega) (by omega) (by omega)
      refine Ex_step ?_; conv => whnf
      (repeat' (first | (refine ih2 _ (fr.sG (by omega)) (fun j h0 h1 => ?_)) | (refine Ex_step ?_; conv => whnf) | (refine ⟨?_, trivial⟩) | (refine (show den _ _ _ _ _ _ _ _ from ?_); conv => whnf) | (refine ⟨by (first | assumption | rfl | (exact Nat.le_of_ble_eq_true rfl) | (exact ⟨fun h01 => absurd h01 (by decide), by first | rfl | assumption | trivial⟩) | (exact ⟨fun _ => by decide, by first | rfl | assumption | trivial⟩) | (exact ⟨kt, by omega, Int.lt_of_lt_of_le (by omega : _ < (3198 : Int)) (Int.le_of_eq lt.symm)⟩) | (unfold inI; omega) | omega), ?_⟩; conv => whnf; try simp (disch := omega) only [r0, gR_sG, g_same, g_ne, eA]) | (refine ⟨fun c => False.elim (by omega), fun c => ?_⟩) | (refine ⟨fun c => ?_, fun c => False.elim (by omega)⟩) | (refine ⟨fun c => ?_, fun c => ?_⟩) | (intro c) | fail))
      by_cases hj : j = i
      · rw [hj, g_same]
      · rw [g_ne (by omega)]; exact hk1 j h0 (by omega)
  refine eX10_restores (by omega) ?_
  refine Ex_step ?_; conv => whnf
  refine ⟨?_, trivial⟩
  exact loop _ 0 h rfl (by omega) (by omega) FrA.refl (fun j h0 h1 => by omega)
