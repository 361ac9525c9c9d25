/-! LEVEL 2: which doubt it was: the reference; the calls -/
/-- the reference's arrays -/
def RK (h : Mem) : Prop := (gR h 127 1 = 129 ∧ kd h 129 = 101 ∧ ln h 129 = 36) ∧ (gR h 127 8 = 133 ∧ kd h 133 = 102 ∧ ln h 133 = 900) ∧ (gR h 127 9 = 134 ∧ kd h 134 = 102 ∧ ln h 134 = 900) ∧ (gR h 127 21 = 135 ∧ kd h 135 = 100 ∧ ln h 135 = 3) ∧ (gR h 127 25 = 136 ∧ kd h 136 = 100 ∧ ln h 136 = 64) ∧ (gR h 127 26 = 137 ∧ kd h 137 = 100 ∧ ln h 137 = 64) ∧ (gR h 127 27 = 138 ∧ kd h 138 = 100 ∧ ln h 138 = 60) ∧ (gR h 127 28 = 139 ∧ kd h 139 = 103 ∧ ln h 139 = 10) ∧ (gR h 127 29 = 140 ∧ kd h 140 = 100 ∧ ln h 140 = 5) ∧ (gR h 127 30 = 141 ∧ kd h 141 = 100 ∧ ln h 141 = 5) ∧ (gR h 127 31 = 142 ∧ kd h 142 = 100 ∧ ln h 142 = 5) ∧ (gR h 127 34 = 143 ∧ kd h 143 = 100 ∧ ln h 143 = 80) ∧ (gR h 127 35 = 144 ∧ kd h 144 = 100 ∧ ln h 144 = 5) ∧ (gR h 127 36 = 145 ∧ kd h 145 = 100 ∧ ln h 145 = 5)
theorem RK.eq {h h' : Mem} (e1 : h'.1 = h.1) (e2 : h'.2.2 = h.2.2) (q : RK h) : RK h' := by
  unfold RK kd ln gR at *
  rw [e1, e2]
  exact q
theorem FrH.o {h h' : Mem} {r : Nat} {i z : Int} (a : FrH h h') (hr : 134 ≤ r ∧ r ≤ 144 ∧ ¬ r = 143) : FrH h (sG h' r i z) := ⟨a.1, a.2.1, fun r' hr' j => by rw [gG_sG, if_neg (by omega)]; exact a.2.2.1 r' hr' j, fun j h0 h1 => by rw [gG_sG, if_neg (by omega)]; exact a.2.2.2.1 j h0 h1, fun j hj => by rw [gG_sG, if_neg (by omega)]; exact a.2.2.2.2 j hj⟩
theorem Rr.o {K : Int} {h : Mem} {A : Int → Int} {r : Nat} {i z : Int} (a : Rr K h A) (hr : ¬ r = 128) : Rr K (sG h r i z) A := ⟨a.1, fun j h0 h1 => by rw [gG_sG, if_neg (by omega)]; exact a.2.1 j h0 h1, a.2.2⟩
theorem Kp.o {h : Mem} {to : Int} {B : Int → Int} {r : Nat} {i z : Int} (a : Kp h to B) (hr : ¬ r = 128) : Kp (sG h r i z) to B := fun j h0 h1 => by rw [gG_sG, if_neg (by omega)]; exact a j h0 h1
theorem TR.H {h h' : Mem} {S M : Int → Int} {T : Int → Int → Int} (a : FrH h h') (q : TR h S M T) : TR h' S M T := by
  obtain ⟨⟨q1, q2, q3, q4, q5, q6, q7, q8, q9, q10⟩, hh⟩ := q
  have ek : ∀ r, kd h' r = kd h r := fun r => by unfold kd; rw [a.1]
  have el : ∀ r, ln h' r = ln h r := fun r => by unfold ln; rw [a.1]
  have er : ∀ r i, gR h' r i = gR h r i := fun r i => by unfold gR; rw [a.2.1]
  refine ⟨⟨(ek _).trans q1, (er _ _).trans q2, (er _ _).trans q3, (er _ _).trans q4, (ek _).trans q5, (el _).trans q6, (ek _).trans q7, (el _).trans q8, (ek _).trans q9, (el _).trans q10⟩, fun t h0 h1 => ?_⟩
  obtain ⟨e1, e2, e3⟩ := hh t h0 h1
  exact ⟨(a.2.2.1 130 (by omega) _).trans e1, (a.2.2.1 131 (by omega) _).trans e2, fun k hk0 hk1 => (a.2.2.1 132 (by omega) _).trans (e3 k hk0 hk1)⟩
def cnF (f : Int → Bool) : Int → Int → Int := fun i s => if f i = true then s + 1 else s
theorem s10_tab : ∀ i, i < 10 → ∀ s, s < 2 ^ i → popc (zor (s : Nat) (shlZ 1 (i : Nat))) = popc (s : Nat) + 1 ∧ 0 ≤ zor (s : Nat) (shlZ 1 (i : Nat)) ∧ zor (s : Nat) (shlZ 1 (i : Nat)) < ((2 ^ (i + 1) : Nat) : Int) ∧ ∀ j, j < 10 → bt (zor (s : Nat) (shlZ 1 (i : Nat))) (j : Nat) = (bt (s : Nat) (j : Nat) || decide (j = i)) := by decide +kernel
theorem pw10 : ∀ i, i ≤ 10 → 2 ^ i ≤ 1024 ∧ (i < 10 → 2 ^ i ≤ 2 ^ (i + 1)) := by decide
theorem s10 {i s : Int} (h0 : 0 ≤ i) (h1 : i < 10) (h2 : 0 ≤ s) (h3 : s < ((2 ^ i.toNat : Nat) : Int)) : popc (zor s (shlZ 1 i)) = popc s + 1 ∧ 0 ≤ zor s (shlZ 1 i) ∧ zor s (shlZ 1 i) < ((2 ^ (i + 1).toNat : Nat) : Int) ∧ ∀ j, 0 ≤ j → j < 10 → bt (zor s (shlZ 1 i)) j = (bt s j || decide (j = i)) := by
  obtain ⟨i, rfl⟩ := Int.eq_ofNat_of_zero_le h0
  obtain ⟨s, rfl⟩ := Int.eq_ofNat_of_zero_le h2
  rw [Int.toNat_natCast] at h3
  rw [show ((i : Int) + 1).toNat = i + 1 by omega]
  obtain ⟨t1, t2, t3, t4⟩ := s10_tab i (by omega) s (by omega)
  refine ⟨t1, t2, t3, fun j h4 h5 => ?_⟩
  obtain ⟨j, rfl⟩ := Int.eq_ofNat_of_zero_le h4
  rw [t4 j (by omega)]
  congr 1
  exact decide_eq_decide.mpr (by omega)
theorem set10 {f : Int → Bool} : ∀ (k : Nat) (i s c : Int), (10 - i).toNat = k → 0 ≤ i → i ≤ 10 → 0 ≤ s → s < ((2 ^ i.toNat : Nat) : Int) → c = popc s → (∀ j, i ≤ j → j < 10 → bt s j = false) → popc (foN 10 (stF f) i s) = foN 10 (cnF f) i c ∧ (0 ≤ foN 10 (stF f) i s ∧ foN 10 (stF f) i s < 1024) ∧ ∀ j, 0 ≤ j → j < 10 → bt (foN 10 (stF f) i s) j = (bt s j || (decide (i ≤ j) && f j)) := by
  intro k; induction k with
  | zero =>
    intro i s c hk h0 h1 h2 h3 hc hb
    have hp : ((2 ^ i.toNat : Nat) : Int) ≤ 1024 := Int.ofNat_le.mpr (pw10 i.toNat (by omega)).1
    rw [foN_end (f := stF f) (by omega), foN_end (f := cnF f) (by omega)]
    refine ⟨hc.symm, ⟨h2, Int.lt_of_lt_of_le h3 hp⟩, fun j j0 j1 => ?_⟩
    rw [decide_eq_false (show ¬ i ≤ j by omega)]; simp
  | succ k ih =>
    intro i s c hk h0 h1 h2 h3 hc hb
    have hp := (pw10 i.toNat (by omega)).2 (by omega)
    have hp2 : (i + 1).toNat = i.toNat + 1 := by omega
    rw [foN_go (f := stF f) (by omega), foN_go (f := cnF f) (by omega)]
    by_cases hf : f i = true
    · obtain ⟨t1, t2, t3, t4⟩ := s10 h0 (by omega) h2 h3
      rw [show stF f i s = zor s (shlZ 1 i) from if_pos hf, show cnF f i c = c + 1 from if_pos hf]
      obtain ⟨u1, u2, u3⟩ := ih (i + 1) _ (c + 1) (by omega) (by omega) (by omega) t2 t3 (by omega) (fun j j0 j1 => by rw [t4 j (by omega) j1, hb j (by omega) j1, decide_eq_false (by omega)]; rfl)
      refine ⟨u1, u2, fun j j0 j1 => ?_⟩
      rw [u3 j j0 j1, t4 j j0 j1]
      by_cases e : j = i
      · subst e; rw [hf]; simp
      · rw [decide_eq_false e]
        rw [show decide (i + 1 ≤ j) = decide (i ≤ j) from decide_eq_decide.mpr (by omega)]
        simp
    · rw [show stF f i s = s from if_neg hf, show cnF f i c = c from if_neg hf]
      obtain ⟨u1, u2, u3⟩ := ih (i + 1) s c (by omega) (by omega) (by omega) h2 (Int.lt_of_lt_of_le h3 (Int.ofNat_le.mpr (by rw [hp2]; exact hp))) hc (fun j j0 j1 => hb j (by omega) j1)
      refine ⟨u1, u2, fun j j0 j1 => ?_⟩
      rw [u3 j j0 j1]
      by_cases e : j = i
      · subst e; rw [show f j = false by simpa using hf]; simp
      · rw [show decide (i + 1 ≤ j) = decide (i ≤ j) from decide_eq_decide.mpr (by omega)]
def fitN (A : Int → Int) (T : Int → Int → Int) (p t n : Int) : Int := foN 10 (cnF (fitB A T p t n)) 0 0
theorem bt_00 : ∀ j, j < 10 → bt 0 ((j : Nat) : Int) = false := by decide
theorem ds_10 {A : Int → Int} {T : Int → Int → Int} {p t n : Int} : popc (dsS A T p t n) = fitN A T p t n ∧ (0 ≤ dsS A T p t n ∧ dsS A T p t n < 1024) ∧ ∀ j, 0 ≤ j → j < 10 → bt (dsS A T p t n) j = fitB A T p t n j := by
  obtain ⟨u1, u2, u3⟩ := set10 (f := fitB A T p t n) _ 0 0 0 rfl (by omega) (by omega) (by omega) (by decide) (by decide) (fun j j0 j1 => bt0)
  refine ⟨u1, u2, fun j j0 j1 => ?_⟩
  have := u3 j j0 j1
  rw [bt0, decide_eq_true j0] at this
  have h2 : bt (foN 10 (stF (fitB A T p t n)) 0 0) j = fitB A T p t n j := by simpa using this
  exact h2
-- the state with which the reference tries a doubt and a fog
def ftA (A : Int → Int) (p db fg : Int) : Int → Int := pu (pu (pu A (37 + 6 * p + 1) db) (37 + 6 * p + 3) 0) 4 fg
theorem ft_ok {K : Int} {A : Int → Int} {p db fg : Int} (hA : AOk K A) (hp0 : 0 ≤ p) (hp1 : p < A 1) (hdb : 0 ≤ db ∧ db ≤ 9) (hfg : 0 ≤ fg ∧ fg ≤ 5) : AOk K (ftA A p db fg) := by
  obtain ⟨b0, b1, b2, b3, b4, b5, b6, b8, bK, ba, bp, bq⟩ := id hA
  (refine ⟨?_, ?_, ?_, ?_, ?_, ?_, ?_, ?_, ?_, fun x hx0 hx1 => ⟨?_, ?_, ?_⟩, fun x hx0 hx1 => ⟨?_, ?_, ?_, ?_, ?_, ?_⟩, fun x hx0 hx1 => ⟨?_, ?_⟩⟩ <;> simp only [Nat.reduceEqDiff, Nat.add_eq_left, Nat.left_eq_add, Nat.add_left_cancel_iff, Nat.succ_ne_self, Nat.reduceEqDiff, Nat.succ_ne_zero, Int.reduceEq, false_and, and_false, true_and, and_true, if_true, if_false, reduceIte, Int.add_zero, not_true_eq_false, not_false_eq_true, ftA, pu, hoA, moA, toA, pA, plA] at * <;> first | omega | (rcases Int.lt_or_le x (A 0) with hxx | hxx); (have := ba x hx0 hxx; omega); omega | (rcases Int.lt_or_le x (A 1) with hxx | hxx); (have := bp x hx0 hxx; omega); omega | (rcases Int.lt_or_le x (A 2) with hxx | hxx); (have := bq x hx0 hxx; omega); omega)
theorem ft_rch {K : Int} {A : Int → Int} {p db fg : Int} (hA : AOk K A) (hp0 : 0 ≤ p) : pA (rrA (ftA A p db fg) p p) p 3 = rch A p db fg := by
  rw [run_p3 hp0, rrS_1]
  have b0 := hA.1
  have e : ∀ j, ¬ j = 37 + 6 * p + 1 → ¬ j = 37 + 6 * p + 3 → ¬ j = 4 → ftA A p db fg j = A j := by
    intro j h1 h2 h3
    unfold ftA
    rw [pu_n h3, pu_n h2, pu_n h1]
  have e0 : ftA A p db fg 0 = A 0 := e 0 (by omega) (by omega) (by omega)
  have e3 : ftA A p db fg 3 = A 3 := e 3 (by omega) (by omega) (by omega)
  have e4 : ftA A p db fg 4 = fg := by unfold ftA; rw [pu_e]
  have p1 : pA (ftA A p db fg) p 1 = db := by show ftA A p db fg _ = _; unfold ftA; rw [pu_n (by omega), pu_n (by omega), pu_e]
  have p3 : pA (ftA A p db fg) p 3 = 0 := by show ftA A p db fg _ = _; unfold ftA; rw [pu_n (by omega), pu_e]
  have p0 : pA (ftA A p db fg) p 0 = pA A p 0 := e _ (by omega) (by omega) (by omega)
  have p2 : pA (ftA A p db fg) p 2 = pA A p 2 := e _ (by omega) (by omega) (by omega)
  rw [p1, p3, e4, e0]
  have es : stN (A 0) (okBy (ftA A p db fg) p db fg) 0 = stN (A 0) (okBy A p db fg) 0 := by
    refine stN_c _ 0 rfl (fun x h0 h1 => ?_)
    have m1 : moA (ftA A p db fg) x = moA A x := e _ (by omega) (by omega) (by omega)
    have m2 : hoA (ftA A p db fg) x = hoA A x := e _ (by omega) (by omega) (by omega)
    unfold okBy sBy
    rw [m1, m2, p0, p2]
  rw [es]
  unfold rch aft
  rw [e0, e3]
theorem d6_tab : ∀ n, n < 60 → zdiv (n : Nat) 6 = ((n / 6 : Nat) : Int) ∧ zrem (n : Nat) 6 = ((n % 6 : Nat) : Int) := by decide +kernel
theorem d6 {k : Int} (h0 : 0 ≤ k) (h1 : k < 60) : zdiv k 6 = k / 6 ∧ zrem k 6 = k % 6 := by
  obtain ⟨n, rfl⟩ := Int.eq_ofNat_of_zero_le h0
  have := d6_tab n (by omega)
  omega
def farP (h : Mem) (A : Int → Int) (p k : Int) : Prop := ∀ db fg, 0 ≤ db → db ≤ 9 → 0 ≤ fg → fg ≤ 5 → 6 * db + fg < k → gG h 138 (6 * db + fg) = rch A p db fg
def fitP (h : Mem) (f : Int → Bool) (k : Int) : Prop := ∀ i, 0 ≤ i → i < k → gG h 139 i = if f i = true then 1 else 0
theorem farP.fr {h h' : Mem} {A : Int → Int} {p k : Int} (a : farP h A p k) (e : ∀ i, gG h' 138 i = gG h 138 i) : farP h' A p k := fun db fg h0 h1 h2 h3 h4 => (e _).trans (a db fg h0 h1 h2 h3 h4)
set_option maxHeartbeats 4000000 in
theorem r_laysFits {X : Int → Int} {XL : Int} {d : Nat} {h : Mem} {Q : RetP} {S M : Int → Int} {T : Int → Int → Int} {K : Int} {A : Int → Int} {p t n : Int} (hd : 9 ≤ d) (hR : Rr K h A) (hK : K + 100 ≤ 30000000) (hX : RK h) (hT : TR h S M T) (hB : TB S M) (hp0 : 0 ≤ p) (hp1 : p < A 1) (ht : 0 ≤ t ∧ t < 4) (hn : 0 ≤ n ∧ n ≤ 20) (hm : 2 * n ≤ M t) (hw : n ≤ stN n (okTw A T t) 0) (hq : ∀ h', Rr K h' A → FrH h h' → farP h' A p 60 → fitP h' (fitB A T p t n) 10 → Q (some (vI (fitN A T p t n))) h') : WP X XL d 314 [vR 127, vI p, vI t, vI n] h Q := by
  have hA := hR.2.2
  have b1 := hA.2.1
  have hBt := hB t ht.1 ht.2
  have inner : ∀ (many db : Int) (hs : Mem), 0 ≤ db → db ≤ 9 → Rr K hs A → FrH h hs → farP hs A p 60 → fitP hs (fitB A T p t n) db → (∀ hj w1 w2, Rr K hj A → FrH h hj → farP hj A p 60 → fitP hj (fitB A T p t n) (db + 1) → Ex (WP X XL (d - 1)) KX10_laysFits h.1 Q 177 [some (vR 127), some (vI p), some (vI t), some (vI n), some (vI many), some (vI db), w1, w2] [] hj) → ∀ (k : Nat) (i : Int) (w : Option MV) (hj : Mem), (n - i).toNat = k → 0 ≤ i → i ≤ n → Rr K hj A → FrH h hj → farP hj A p 60 → fitP hj (fitB A T p t n) db → (gG hj 139 db = 1 ∧ stN n (okF A T p t db) 0 = stN n (okF A T p t db) i) ∨ (gG hj 139 db = 0 ∧ stN n (okF A T p t db) 0 < n) → Ex (WP X XL (d - 1)) KX10_laysFits h.1 Q 113 [some (vR 127), some (vI p), some (vI t), some (vI n), some (vI many), some (vI db), some (vI i), w] [] hj := by
    intro many db hs d0 d9 hRs fs qs ps fin
    intro k; induction k with
    | zero =>
      intro i w hj hk h0 h1 hRj fj qj pj he
      have pj2 : fitP hj (fitB A T p t n) (db + 1) := by
        intro x x0 x1
        by_cases e : x = db
        · subst e
          rcases he with ⟨g1, g2⟩ | ⟨g1, g2⟩
          · rw [stN_end (a := i) (Or.inl (by omega))] at g2
            rw [g1, if_pos (show fitB A T p t n x = true from decide_eq_true (by omega))]
          · rw [g1, if_neg (by unfold fitB; rw [decide_eq_false (by omega)]; decide)]
        · exact pj x x0 (by omega)
      have hf := fun w1 w2 => fin hj w1 w2 hRj fj qj pj2
      (repeat' (first | (refine hf _ _) | (refine Ex_step ?_; conv => whnf) | (refine ⟨?_, trivial⟩) | (refine (show den _ _ _ _ _ _ _ _ from ?_); conv => whnf) | (refine ⟨by (first | assumption | rfl | (exact Nat.le_of_ble_eq_true rfl) | (exact ⟨fun h01 => absurd h01 (by decide), by first | rfl | assumption⟩) | (exact ⟨fun _ => by decide, by first | rfl | assumption⟩) | (exact ⟨by assumption, by omega, by omega⟩) | (unfold inI; omega) | omega), ?_⟩; conv => whnf) | (refine ⟨fun c => False.elim (by omega), fun c => ?_⟩) | (refine ⟨fun c => ?_, fun c => False.elim (by omega)⟩) | (refine ⟨fun c => ?_, fun c => ?_⟩) | (intro c) | fail))
    | succ k ih =>
      intro i w hj hk h0 h1 hRj fj qj pj he
      have kq := hRj.1.1
      obtain ⟨⟨x1, xk1, xl1⟩, ⟨x8, xk8, xl8⟩, ⟨x9, xk9, xl9⟩, ⟨x21, xk21, xl21⟩, ⟨x25, xk25, xl25⟩, ⟨x26, xk26, xl26⟩, ⟨x27, xk27, xl27⟩, ⟨x28, xk28, xl28⟩, ⟨x29, xk29, xl29⟩, ⟨x30, xk30, xl30⟩, ⟨x31, xk31, xl31⟩, ⟨x34, xk34, xl34⟩, ⟨x35, xk35, xl35⟩, ⟨x36, xk36, xl36⟩⟩ := id (hX.eq fj.1 fj.2.1)
      obtain ⟨⟨-, r5, r6, r7, k130, l130, k131, l131, k132, l132⟩, hh⟩ := hT.H fj
      obtain ⟨e1, e2, e3⟩ := hh t ht.1 ht.2
      have y1 := e3 (2 * i) (by omega) (by omega)
      have y2 := e3 (2 * i + 1) (by omega) (by omega)
      rw [← Int.add_assoc] at y2
      have xb := tw_at hw h0 (by omega)
      have xl := l2i_5 xb.1.1 xb.1.2
      have far := qj db (T t (2 * i)) d0 d9 xb.1.1 xb.1.2 (by omega)
      by_cases hok : okF A T p t db i = true
      · have hst : stN n (okF A T p t db) i = stN n (okF A T p t db) (i + 1) := stN_go (by omega) hok
        have ih2 := fun w => ih (i + 1) w hj (by omega) (by omega) (by omega) hRj fj qj pj (by rw [← hst]; exact he)
        have hok := of_decide_eq_true hok
        refine Ex_step ?_; conv => whnf
        (repeat' (first | (refine ih2 _) | (rw [x27]) | (rw [r7]) | (rw [y1]) | (rw [y2]) | (rw [xl]) | (rw [far]) | (refine ⟨⟨k132, by omega, Int.lt_of_lt_of_le (by omega : _ < (240 : Int)) (Int.le_of_eq l132.symm)⟩, ?_⟩; conv => whnf) | (refine ⟨⟨xk27, by omega, Int.lt_of_lt_of_le (by omega : _ < (60 : Int)) (Int.le_of_eq xl27.symm)⟩, ?_⟩; conv => whnf) | (refine ⟨fun c => ?_, fun c => absurd (cmpZ_e hok) c⟩) | (refine Ex_step ?_; conv => whnf) | (refine ⟨?_, trivial⟩) | (refine (show den _ _ _ _ _ _ _ _ from ?_); conv => whnf) | (refine ⟨by (first | assumption | rfl | (exact Nat.le_of_ble_eq_true rfl) | (exact ⟨fun h01 => absurd h01 (by decide), by first | rfl | assumption⟩) | (exact ⟨fun _ => by decide, by first | rfl | assumption⟩) | (exact ⟨by assumption, by omega, by omega⟩) | (unfold inI; omega) | omega), ?_⟩; conv => whnf) | (refine ⟨fun c => False.elim (by omega), fun c => ?_⟩) | (refine ⟨fun c => ?_, fun c => False.elim (by omega)⟩) | (refine ⟨fun c => ?_, fun c => ?_⟩) | (intro c) | fail))
      · have hst : stN n (okF A T p t db) i = i := stN_end (Or.inr (by simpa using hok))
        have hlt : stN n (okF A T p t db) 0 < n := by
          rcases he with ⟨g1, g2⟩ | ⟨g1, g2⟩ <;> omega
        have ih2 := fun w => ih (i + 1) w (sG hj 139 db 0) (by omega) (by omega) (by omega) (hRj.o (by omega)) (fj.o (by omega)) (qj.fr (fun _ => by rw [gG_sG, if_neg (by omega)])) (fun x x0 x1 => by rw [g_ne (by omega)]; exact pj x x0 x1) (Or.inr ⟨g_same, hlt⟩)
        have hok : ¬ _ := fun q => hok (decide_eq_true q)
        refine Ex_step ?_; conv => whnf
        (repeat' (first | (refine ih2 _) | (rw [x27]) | (rw [x28]) | (rw [r7]) | (rw [y1]) | (rw [y2]) | (rw [xl]) | (rw [far]) | (refine ⟨⟨k132, by omega, Int.lt_of_lt_of_le (by omega : _ < (240 : Int)) (Int.le_of_eq l132.symm)⟩, ?_⟩; conv => whnf) | (refine ⟨⟨xk27, by omega, Int.lt_of_lt_of_le (by omega : _ < (60 : Int)) (Int.le_of_eq xl27.symm)⟩, ?_⟩; conv => whnf) | (refine ⟨⟨⟨xk28, by omega, Int.lt_of_lt_of_le (by omega : _ < (10 : Int)) (Int.le_of_eq xl28.symm)⟩, Or.inl rfl⟩, ?_⟩; conv => whnf) | (refine ⟨fun c => absurd c (cmpZ_n hok), fun c => ?_⟩) | (refine Ex_step ?_; conv => whnf) | (refine ⟨?_, trivial⟩) | (refine (show den _ _ _ _ _ _ _ _ from ?_); conv => whnf) | (refine ⟨by (first | assumption | rfl | (exact Nat.le_of_ble_eq_true rfl) | (exact ⟨fun h01 => absurd h01 (by decide), by first | rfl | assumption⟩) | (exact ⟨fun _ => by decide, by first | rfl | assumption⟩) | (exact ⟨by assumption, by omega, by omega⟩) | (unfold inI; omega) | omega), ?_⟩; conv => whnf) | (refine ⟨fun c => False.elim (by omega), fun c => ?_⟩) | (refine ⟨fun c => ?_, fun c => False.elim (by omega)⟩) | (refine ⟨fun c => ?_, fun c => ?_⟩) | (intro c) | fail))
  have outer : ∀ (k : Nat) (db many : Int) (w1 w2 : Option MV) (hj : Mem), (10 - db).toNat = k → 0 ≤ db → db ≤ 10 → 0 ≤ many → many ≤ db → Rr K hj A → FrH h hj → farP hj A p 60 → fitP hj (fitB A T p t n) db → fitN A T p t n = foN 10 (cnF (fitB A T p t n)) db many → Ex (WP X XL (d - 1)) KX10_laysFits h.1 Q 95 [some (vR 127), some (vI p), some (vI t), some (vI n), some (vI many), some (vI db), w1, w2] [] hj := by
    intro k; induction k with
    | zero =>
      intro db many w1 w2 hj hk h0 h1 m0 m1 hRj fj qj pj he
      rw [foN_end (by omega)] at he
      obtain rfl : db = 10 := by omega
      have gj := fj.1
      (repeat' (first | (refine Ex_step ?_; conv => whnf) | (refine ⟨?_, trivial⟩) | (refine (show den _ _ _ _ _ _ _ _ from ?_); conv => whnf) | (refine ⟨by (first | assumption | rfl | (exact Nat.le_of_ble_eq_true rfl) | (exact ⟨fun h01 => absurd h01 (by decide), by first | rfl | assumption⟩) | (exact ⟨fun _ => by decide, by first | rfl | assumption⟩) | (exact ⟨by assumption, by omega, by omega⟩) | (unfold inI; omega) | omega), ?_⟩; conv => whnf) | (refine ⟨fun c => False.elim (by omega), fun c => ?_⟩) | (refine ⟨fun c => ?_, fun c => False.elim (by omega)⟩) | (refine ⟨fun c => ?_, fun c => ?_⟩) | (intro c) | fail))
      exact he ▸ hq hj hRj fj qj pj
    | succ k ih =>
      intro db many w1 w2 hj hk h0 h1 m0 m1 hRj fj qj pj he
      have kq := hRj.1.1
      obtain ⟨⟨x1, xk1, xl1⟩, ⟨x8, xk8, xl8⟩, ⟨x9, xk9, xl9⟩, ⟨x21, xk21, xl21⟩, ⟨x25, xk25, xl25⟩, ⟨x26, xk26, xl26⟩, ⟨x27, xk27, xl27⟩, ⟨x28, xk28, xl28⟩, ⟨x29, xk29, xl29⟩, ⟨x30, xk30, xl30⟩, ⟨x31, xk31, xl31⟩, ⟨x34, xk34, xl34⟩, ⟨x35, xk35, xl35⟩, ⟨x36, xk36, xl36⟩⟩ := id (hX.eq fj.1 fj.2.1)
      rw [foN_go (by omega)] at he
      have i0 := inner many db (sG hj 139 db 1) h0 (by omega) (hRj.o (by omega)) (fj.o (by omega)) (qj.fr (fun _ => by rw [gG_sG, if_neg (by omega)])) (fun x x0 x1 => by rw [g_ne (by omega)]; exact pj x x0 x1) (fun h2 v1 v2 hR2 f2 q2 p2 => by
        have kq2 := hR2.1.1
        obtain ⟨⟨x1, xk1, xl1⟩, ⟨x8, xk8, xl8⟩, ⟨x9, xk9, xl9⟩, ⟨x21, xk21, xl21⟩, ⟨x25, xk25, xl25⟩, ⟨x26, xk26, xl26⟩, ⟨x27, xk27, xl27⟩, ⟨x28, xk28, xl28⟩, ⟨x29, xk29, xl29⟩, ⟨x30, xk30, xl30⟩, ⟨x31, xk31, xl31⟩, ⟨x34, xk34, xl34⟩, ⟨x35, xk35, xl35⟩, ⟨x36, xk36, xl36⟩⟩ := id (hX.eq f2.1 f2.2.1)
        have gb := p2 db h0 (by omega)
        by_cases hb : fitB A T p t n db = true
        · rw [if_pos hb] at gb
          rw [show cnF (fitB A T p t n) db many = many + 1 from if_pos hb] at he
          have ih2 := ih (db + 1) (many + 1) v1 v2 h2 (by omega) (by omega) (by omega) (by omega) (by omega) hR2 f2 q2 p2 he
          (repeat' (first | (exact ih2) | (rw [x28]) | (rw [gb]) | (refine Ex_step ?_; conv => whnf) | (refine ⟨?_, trivial⟩) | (refine (show den _ _ _ _ _ _ _ _ from ?_); conv => whnf) | (refine ⟨by (first | assumption | rfl | (exact Nat.le_of_ble_eq_true rfl) | (exact ⟨fun h01 => absurd h01 (by decide), by first | rfl | assumption⟩) | (exact ⟨fun _ => by decide, by first | rfl | assumption⟩) | (exact ⟨by assumption, by omega, by omega⟩) | (unfold inI; omega) | omega), ?_⟩; conv => whnf) | (refine ⟨fun c => False.elim (by omega), fun c => ?_⟩) | (refine ⟨fun c => ?_, fun c => False.elim (by omega)⟩) | (refine ⟨fun c => ?_, fun c => ?_⟩) | (intro c) | fail))
        · rw [if_neg hb] at gb
          rw [show cnF (fitB A T p t n) db many = many from if_neg hb] at he
          have ih2 := ih (db + 1) many v1 v2 h2 (by omega) (by omega) (by omega) (by omega) (by omega) hR2 f2 q2 p2 he
          (repeat' (first | (rw [Int.add_zero]; exact ih2) | (rw [x28]) | (rw [gb]) | (refine Ex_step ?_; conv => whnf) | (refine ⟨?_, trivial⟩) | (refine (show den _ _ _ _ _ _ _ _ from ?_); conv => whnf) | (refine ⟨by (first | assumption | rfl | (exact Nat.le_of_ble_eq_true rfl) | (exact ⟨fun h01 => absurd h01 (by decide), by first | rfl | assumption⟩) | (exact ⟨fun _ => by decide, by first | rfl | assumption⟩) | (exact ⟨by assumption, by omega, by omega⟩) | (unfold inI; omega) | omega), ?_⟩; conv => whnf) | (refine ⟨fun c => False.elim (by omega), fun c => ?_⟩) | (refine ⟨fun c => ?_, fun c => False.elim (by omega)⟩) | (refine ⟨fun c => ?_, fun c => ?_⟩) | (intro c) | fail))) _ 0 w2 _ rfl (by omega) (by omega) (hRj.o (by omega)) (fj.o (by omega)) (qj.fr (fun _ => by rw [gG_sG, if_neg (by omega)])) (fun x x0 x1 => by rw [g_ne (by omega)]; exact pj x x0 x1) (Or.inl ⟨g_same, rfl⟩)
      refine Ex_step ?_; conv => whnf
      (repeat' (first | (exact i0) | (rw [x28]) | (refine ⟨⟨⟨xk28, by omega, Int.lt_of_lt_of_le (by omega : _ < (10 : Int)) (Int.le_of_eq xl28.symm)⟩, Or.inr rfl⟩, ?_⟩; conv => whnf) | (refine Ex_step ?_; conv => whnf) | (refine ⟨?_, trivial⟩) | (refine (show den _ _ _ _ _ _ _ _ from ?_); conv => whnf) | (refine ⟨by (first | assumption | rfl | (exact Nat.le_of_ble_eq_true rfl) | (exact ⟨fun h01 => absurd h01 (by decide), by first | rfl | assumption⟩) | (exact ⟨fun _ => by decide, by first | rfl | assumption⟩) | (exact ⟨by assumption, by omega, by omega⟩) | (unfold inI; omega) | omega), ?_⟩; conv => whnf) | (refine ⟨fun c => False.elim (by omega), fun c => ?_⟩) | (refine ⟨fun c => ?_, fun c => False.elim (by omega)⟩) | (refine ⟨fun c => ?_, fun c => ?_⟩) | (intro c) | fail))
  have first : ∀ (k : Nat) (j : Int) (hj : Mem), (60 - j).toNat = k → 0 ≤ j → j ≤ 60 → Rr K hj A → FrH h hj → Kp hj 2290 A → farP hj A p j → Ex (WP X XL (d - 1)) KX10_laysFits h.1 Q 13 [some (vR 127), some (vI p), some (vI t), some (vI n), some (vI 0), some (vI j), none, none] [] hj := by
    intro k; induction k with
    | zero =>
      intro j hj hk h0 h1 hRj fj kj qj
      obtain rfl : j = 60 := by omega
      have o0 := outer _ 0 0 none none hj rfl (by omega) (by omega) (by omega) (by omega) hRj fj qj (fun x x0 x1 => by omega) rfl
      (repeat' (first | (exact o0) | (refine Ex_step ?_; conv => whnf) | (refine ⟨?_, trivial⟩) | (refine (show den _ _ _ _ _ _ _ _ from ?_); conv => whnf) | (refine ⟨by (first | assumption | rfl | (exact Nat.le_of_ble_eq_true rfl) | (exact ⟨fun h01 => absurd h01 (by decide), by first | rfl | assumption⟩) | (exact ⟨fun _ => by decide, by first | rfl | assumption⟩) | (exact ⟨by assumption, by omega, by omega⟩) | (unfold inI; omega) | omega), ?_⟩; conv => whnf) | (refine ⟨fun c => False.elim (by omega), fun c => ?_⟩) | (refine ⟨fun c => ?_, fun c => False.elim (by omega)⟩) | (refine ⟨fun c => ?_, fun c => ?_⟩) | (intro c) | fail))
    | succ k ih =>
      intro j hj hk h0 h1 hRj fj kj qj
      obtain ⟨⟨kq, r0, kt, lt⟩, eA, -⟩ := id hRj
      obtain ⟨z1, z2⟩ := d6 h0 (by omega)
      have hdb : 0 ≤ j / 6 ∧ j / 6 ≤ 9 := by omega
      have hfg : 0 ≤ j % 6 ∧ j % 6 ≤ 5 := by omega
      have hRm : Rr K (sG (sG (sG hj 128 (37 + 6 * p + 1) (j / 6)) 128 (37 + 6 * p + 3) 0) 128 4 (j % 6)) (ftA A p (j / 6) (j % 6)) := hRj.z.put.put.put.ok rfl (ft_ok hA hp0 hp1 hdb hfg)
      have fm : FrA hj (sG (sG (sG hj 128 (37 + 6 * p + 1) (j / 6)) 128 (37 + 6 * p + 3) 0) 128 4 (j % 6)) := ((FrA.refl.sG (by omega)).sG (by omega)).sG (by omega)
      have em1 : ftA A p (j / 6) (j % 6) 1 = A 1 := by unfold ftA; rw [pu_n (by omega), pu_n (by omega), pu_n (by omega)]
      have er := ft_rch (db := j / 6) (fg := j % 6) hA hp0
      obtain ⟨⟨x1, xk1, xl1⟩, ⟨x8, xk8, xl8⟩, ⟨x9, xk9, xl9⟩, ⟨x21, xk21, xl21⟩, ⟨x25, xk25, xl25⟩, ⟨x26, xk26, xl26⟩, ⟨x27, xk27, xl27⟩, ⟨x28, xk28, xl28⟩, ⟨x29, xk29, xl29⟩, ⟨x30, xk30, xl30⟩, ⟨x31, xk31, xl31⟩, ⟨x34, xk34, xl34⟩, ⟨x35, xk35, xl35⟩, ⟨x36, xk36, xl36⟩⟩ := id (hX.eq fj.1 fj.2.1)
      refine Ex_step ?_; conv => whnf
      (repeat' (first | (rw [z1]) | (rw [z2]) | (rw [er]) | (refine ih (j + 1) h4 (by omega) (by omega) (by omega) ⟨hR4.1, hR4.2.1, hA⟩ ((((fj.trans fm.H).trans f2.H).o (by omega)).trans f4.H) (((((kj.fr fm (by omega)).fr f2 (by omega)).o (by omega)).fr f4 (by omega))) (fun db fg a0 a1 a2 a3 a4 => by
          rw [f4.1.2.2 138 (by omega)]
          by_cases e : 6 * db + fg = j
          · rw [e, g_same, show db = j / 6 by omega, show fg = j % 6 by omega]
          · rw [g_ne e, f2.1.2.2 138 (by omega), fm.1.2.2 138 (by omega)]
            exact qj db fg a0 a1 a2 a3 (by omega))) | (rw [y27]) | (refine r_personRow (by omega) (by omega) ?_) | (refine r_runs (by omega) hRm (by omega) hp0 (by omega) hp0 (by omega) rfl (fun h2 hR2 f2 => ?_); have kq2 := hR2.1.1; have y27 : gR h2 127 27 = 138 := (gR_fr f2.1 127 27).trans x27; have yk27 : kd h2 138 = 100 := (kd_fr f2.1 138).trans xk27; have yl27 : ln h2 138 = 60 := (ln_fr f2.1 138).trans xl27) | (refine r_personOf (by omega) hR2 (by omega) (by omega) ?_) | (refine ⟨⟨yk27, by omega, Int.lt_of_lt_of_le (by omega : _ < (60 : Int)) (Int.le_of_eq yl27.symm)⟩, ?_⟩; conv => whnf) | (refine r_restores (by omega) (hR2.o (by omega)) (by omega) (by omega) ((((kj.fr fm (by omega)).fr f2 (by omega)).o (by omega))) (AOk_K hA (by omega) (by omega)) (fun h4 hR4 f4 => ?_)) | (refine Ex_step ?_; conv => whnf) | (refine ⟨?_, trivial⟩) | (refine (show den _ _ _ _ _ _ _ _ from ?_); conv => whnf) | (refine ⟨by (first | assumption | rfl | (exact Nat.le_of_ble_eq_true rfl) | (exact ⟨fun h01 => absurd h01 (by decide), by first | rfl | assumption | trivial⟩) | (exact ⟨fun _ => by decide, by first | rfl | assumption | trivial⟩) | (exact ⟨kt, by omega, Int.lt_of_lt_of_le (by omega : _ < (3198 : Int)) (Int.le_of_eq lt.symm)⟩) | (unfold inI; omega) | omega), ?_⟩; conv => whnf; try simp (disch := omega) only [r0, gR_sG, g_same, g_ne, eA]) | (refine ⟨fun c => False.elim (by omega), fun c => ?_⟩) | (refine ⟨fun c => ?_, fun c => False.elim (by omega)⟩) | (refine ⟨fun c => ?_, fun c => ?_⟩) | (intro c) | fail))
  refine eX10_laysFits (by omega) ?_
  have kq := hR.1.1
  (repeat' (first | (refine first _ 0 h1 rfl (by omega) (by omega) hR1 (FrH.kp fr1 (by omega) fx1) kp1 (fun db fg a0 a1 a2 a3 a4 => by omega)) | (refine r_keeps (by omega) hR (by omega) (by omega) (fun h1 hR1 fr1 kp1 fx1 => ?_)) | (refine Ex_step ?_; conv => whnf) | (refine ⟨?_, trivial⟩) | (refine (show den _ _ _ _ _ _ _ _ from ?_); conv => whnf) | (refine ⟨by (first | assumption | rfl | (exact Nat.le_of_ble_eq_true rfl) | (exact ⟨fun h01 => absurd h01 (by decide), by first | rfl | assumption⟩) | (exact ⟨fun _ => by decide, by first | rfl | assumption⟩) | (exact ⟨by assumption, by omega, by omega⟩) | (unfold inI; omega) | omega), ?_⟩; conv => whnf) | (refine ⟨fun c => False.elim (by omega), fun c => ?_⟩) | (refine ⟨fun c => ?_, fun c => False.elim (by omega)⟩) | (refine ⟨fun c => ?_, fun c => ?_⟩) | (intro c) | fail))
