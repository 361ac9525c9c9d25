/-! LEVEL 3: the invariant, and how calls keep it -/
/-- one state of the class (Viaduct v, steps st) and of the reference (from b, nb on) -/
def PI (K : Int) (h : Mem) (v st : Nat) (b nb : Int) (A : Int → Int) : Prop := Vr K h v A ∧ (∀ j, 0 ≤ j → j < 90 → gG h 128 (b + j) = A j) ∧ A 6 ≤ 9999 ∧ (∀ i, 0 ≤ i → i < A 1 → nmP (gG h (v + 4) i) (gG h 129 (nb + i))) ∧ ((gG h st 0 = 0 ∧ A 7 = -1) ∨ ∃ (R : Int → Int → Int) (N : Int) (D : Int → Int), (gG h st 0 = 1 ∧ gG h st 2 = N ∧ A 7 = N ∧ 0 ≤ N ∧ N ≤ 60) ∧ (∀ k, 0 ≤ k → k < N → CRow h st R k) ∧ (∀ k j, 0 ≤ k → k < N → 0 ≤ j → j ≤ 5 → gG h 128 (b + 90 + 6 * k + j) = R k j) ∧ Nst R N D ∧ ∀ k, 0 ≤ k → k < N → VRow A R N k)
theorem VRow.m {A A' : Int → Int} {R : Int → Int → Int} {N k : Int} (q : VRow A R N k) (h0 : A 0 ≤ A' 0) (h1 : A 1 ≤ A' 1) : VRow A' R N k := by
  obtain ⟨q1, ⟨o1, o2, o3, o4, o5, o6⟩, q3, q4, q5, q6⟩ := q
  refine ⟨q1, ⟨fun x => ?_, fun x => ?_, fun x => ?_, fun x => ?_, o5, o6⟩, fun x => ?_, q4, q5, q6⟩
  · have := o1 x; omega
  · have := o2 x; omega
  · have := o3 x; omega
  · have := o4 x; omega
  · rcases q3 x with ⟨y1, y2⟩ | ⟨y1, y2, y3⟩ | ⟨y1, y2, y3⟩
    · exact Or.inl ⟨y1, by omega⟩
    · exact Or.inr (Or.inl ⟨y1, by omega, y3⟩)
    · exact Or.inr (Or.inr ⟨y1, by omega, y3⟩)
/-- the steps' part of a state, carried along -/
theorem PI.u {K K' : Int} {h h' : Mem} {v st : Nat} {b nb : Int} {A A' : Int → Int} (q : PI K h v st b nb A) (hV : Vr K' h' v A') (hR : ∀ j, 0 ≤ j → j < 90 → gG h' 128 (b + j) = A' j) (h6 : A' 6 ≤ 9999) (h7 : A' 7 = A 7) (h0 : A 0 ≤ A' 0) (h1 : A 1 ≤ A' 1) (hn : ∀ i, 0 ≤ i → i < A' 1 → nmP (gG h' (v + 4) i) (gG h' 129 (nb + i))) (e1 : ∀ r i, st ≤ r → r ≤ st + 6 → gG h' r i = gG h r i) (e2 : ∀ j, 90 ≤ j → j < 450 → gG h' 128 (b + j) = gG h 128 (b + j)) : PI K' h' v st b nb A' := by
  obtain ⟨-, -, -, -, q5⟩ := q
  refine ⟨hV, hR, h6, hn, ?_⟩
  rcases q5 with ⟨x, y⟩ | ⟨R, N, D, ⟨x1, x2, x3, x4, x5⟩, y1, y2, y3, y4⟩
  · exact Or.inl ⟨(e1 _ _ (by omega) (by omega)).trans x, h7.trans y⟩
  · refine Or.inr ⟨R, N, D, ⟨(e1 _ _ (by omega) (by omega)).trans x1, (e1 _ _ (by omega) (by omega)).trans x2, h7.trans x3, x4, x5⟩, fun k a c => (y1 k a c).c e1, fun k j a c a' c' => ?_, y3, fun k a c => (y4 k a c).m h0 h1⟩
    rw [← y2 k j a c a' c', show b + 90 + 6 * k + j = b + (90 + 6 * k + j) by omega]
    exact e2 _ (by omega) (by omega)
/-- nothing of a state has changed -/
theorem PI.f {K K' : Int} {h h' : Mem} {v st : Nat} {b nb : Int} {A : Int → Int} (q : PI K h v st b nb A) (hT : VAt h v) (hK : K ≤ K' ∧ K' ≤ 30000000) (g1 : h'.1 = h.1) (g2 : ∀ i, gR h' v i = gR h v i) (e0 : ∀ r i, v ≤ r → r ≤ v + 12 → gG h' r i = gG h r i) (e1 : ∀ r i, st ≤ r → r ≤ st + 6 → gG h' r i = gG h r i) (e2 : ∀ j, 0 ≤ j → j < 450 → gG h' 128 (b + j) = gG h 128 (b + j)) (e3 : ∀ j, 0 ≤ j → j < 6 → gG h' 129 (nb + j) = gG h 129 (nb + j)) : PI K' h' v st b nb A := by
  have b1 := q.1.2.2.2.1
  refine q.u (Vr_K (q.1.eq g1 g2 hT e0) hK.1 hK.2) (fun j a c => (e2 j a (by omega)).trans (q.2.1 j a c)) q.2.2.1 rfl (Int.le_refl _) (Int.le_refl _) (fun i a c => ?_) e1 (fun j a c => e2 j (by omega) c)
  rw [e0 _ _ (by omega) (by omega), e3 i a (by omega)]
  exact q.2.2.2.1 i a c
/-- marked states -/
def MkI (K : Int) (h : Mem) (m : Int) : Prop := ∀ i, 0 ≤ i → i < m → ∃ B, PI K h (mv i) (ms i) (458 * (i + 1)) (6 * (i + 1)) B
theorem mvC {i : Int} (h0 : 0 ≤ i) (h1 : i < 3) : (mv i = 60 ∧ ms i = 73) ∨ (mv i = 80 ∧ ms i = 93) ∨ (mv i = 100 ∧ ms i = 113) := by
  rcases (show i = 0 ∨ i = 1 ∨ i = 2 by omega) with e | e | e
  · subst e; exact Or.inl ⟨rfl, rfl⟩
  · subst e; exact Or.inr (Or.inl ⟨rfl, rfl⟩)
  · subst e; exact Or.inr (Or.inr ⟨rfl, rfl⟩)
theorem MkI.f {K K' : Int} {h h' : Mem} {m : Int} (q : MkI K h m) (hS : Shp h) (hm : m ≤ 3) (hK : K ≤ K' ∧ K' ≤ 30000000) (g1 : h'.1 = h.1) (g2 : ∀ r i, 60 ≤ r → r ≤ 119 → gR h' r i = gR h r i) (e0 : ∀ r i, 60 ≤ r → r ≤ 119 → gG h' r i = gG h r i) (e2 : ∀ j, 458 ≤ j → j < 1832 → gG h' 128 j = gG h 128 j) (e3 : ∀ j, 6 ≤ j → j < 24 → gG h' 129 j = gG h 129 j) : MkI K' h' m := fun i a c => by
  obtain ⟨B, hB⟩ := q i a c
  have mc := mvC a (by omega)
  have hT := (hS.mk.2 i a (by omega)).2.2.2.1
  exact ⟨B, hB.f hT hK g1 (fun j => g2 _ _ (by omega) (by omega)) (fun r j x y => e0 r j (by omega) (by omega)) (fun r j x y => e0 r j (by omega) (by omega)) (fun j x y => e2 _ (by omega) (by omega)) (fun j x y => e3 _ (by omega) (by omega))⟩
def LI (K : Int) (h : Mem) (n s st sp : Nat) (A : Int → Int) : Prop := Shp h ∧ (((n = 15 ∧ s = 28) ∨ (n = 28 ∧ s = 15)) ∧ ((st = 41 ∧ sp = 48) ∨ (st = 48 ∧ sp = 41))) ∧ (gR h 0 7 = n ∧ gR h 0 8 = s ∧ gR h 0 9 = st ∧ gR h 0 10 = sp) ∧ PI K h n st 0 0 A ∧ (gG h 0 0 = gG h 127 2 ∧ gG h 0 1 = gG h 127 3 ∧ gG h 0 2 = gG h 127 4) ∧ (∃ S M T, TC h S M T ∧ TR h S M T ∧ TB S M) ∧ (∃ c P, TxT h c P ∧ TxU h c P) ∧ (gG h 10 3 = gG h 127 16 ∧ gG h 10 4 = gG h 127 17) ∧ (∃ L, LRel h L ∧ LRr h L) ∧ (gG h 0 18 = gG h 127 37 ∧ ∀ j, 0 ≤ j → j < 5 → gG h 126 j = gG h 145 j) ∧ (∃ m, (gG h 0 13 = m ∧ gG h 127 38 = m ∧ 0 ≤ m ∧ m ≤ 3) ∧ MkI K h m)
def Inv (K : Int) (h : Mem) : Prop := ∃ n s st sp A, LI K h n s st sp A
-- parts of it, carried along
theorem TC.g {h h' : Mem} {S M : Int → Int} {T : Int → Int → Int} (q : TC h S M T) (hS' : Shp h') (e : ∀ r i, 2 ≤ r → r ≤ 9 → gG h' r i = gG h r i) : TC h' S M T := by
  obtain ⟨-, q2⟩ := q
  obtain ⟨s1, s2⟩ := hS'.tc
  refine ⟨s1, fun t h0 h1 => ?_⟩
  obtain ⟨-, -, -, -, -, x1, x2, x3⟩ := q2 t h0 h1
  obtain ⟨y1, y2, y3, y4, y5⟩ := s2 t h0 h1
  have eo : tO t = 2 + 2 * t.toNat := rfl
  have en : tN t = 3 + 2 * t.toNat := rfl
  exact ⟨y1, y2, y3, y4, y5, (e _ _ (by omega) (by omega)).trans x1, (e _ _ (by omega) (by omega)).trans x2, fun k a b => (e _ _ (by omega) (by omega)).trans (x3 k a b)⟩
theorem TR.g {h h' : Mem} {S M : Int → Int} {T : Int → Int → Int} (q : TR h S M T) (hS' : Shp h') (e : ∀ r i, 130 ≤ r → r ≤ 132 → gG h' r i = gG h r i) : TR h' S M T := by
  obtain ⟨-, q2⟩ := q
  refine ⟨hS'.tr, fun t h0 h1 => ?_⟩
  obtain ⟨x1, x2, x3⟩ := q2 t h0 h1
  exact ⟨(e _ _ (by omega) (by omega)).trans x1, (e _ _ (by omega) (by omega)).trans x2, fun k a b => (e _ _ (by omega) (by omega)).trans (x3 k a b)⟩
theorem TxT.g {h h' : Mem} {c : Int} {P : Int → Int} (q : TxT h c P) (hS' : Shp h') (e0 : gG h' 10 0 = gG h 10 0) (e : ∀ i, gG h' 11 i = gG h 11 i) : TxT h' c P := by
  obtain ⟨-, -, -, -, q5, q6, q7⟩ := q
  obtain ⟨s1, s2, s3, s4⟩ := hS'.tt
  exact ⟨s1, s2, s3, s4, e0.trans q5, q6, fun i a b => ⟨(e i).trans (q7 i a b).1, (q7 i a b).2⟩⟩
theorem TxU.g {h h' : Mem} {c : Int} {P : Int → Int} (q : TxU h c P) (hS' : Shp h') (e0 : gG h' 127 10 = gG h 127 10) (e : ∀ i, gG h' 133 i = gG h 133 i) : TxU h' c P := by
  obtain ⟨-, -, q5, q6, q7⟩ := q
  obtain ⟨s1, s2⟩ := hS'.tu
  exact ⟨s1, s2, e0.trans q5, q6, fun i a b => ⟨(e i).trans (q7 i a b).1, (q7 i a b).2⟩⟩
theorem LRel.g {h h' : Mem} {L : Int → Int} (q : LRel h L) (e : ∀ i, gG h' 125 i = gG h 125 i) : LRel h' L := fun o a b => by rw [e]; exact q o a b
theorem LRr.g {h h' : Mem} {L : Int → Int} (q : LRr h L) (e : ∀ i, gG h' 143 i = gG h 143 i) : LRr h' L := fun o a b => by rw [e]; exact q o a b
/-- what calls keep that change the Viaduct alone -/
def kpS (n st : Nat) (r : Nat) (i : Int) : Prop := (r = 0 ∧ ¬ i = 0) ∨ (2 ≤ r ∧ r ≤ 9) ∨ (r = 10 ∧ (i = 0 ∨ i = 3 ∨ i = 4)) ∨ r = 11 ∨ r = n + 4 ∨ (st ≤ r ∧ r ≤ st + 6) ∨ (60 ≤ r ∧ r ≤ 119) ∨ r = 125 ∨ r = 126 ∨ (r = 127 ∧ (i = 3 ∨ i = 4 ∨ i = 10 ∨ i = 16 ∨ i = 17 ∨ i = 37 ∨ i = 38)) ∨ (r = 128 ∧ 90 ≤ i ∧ i < 1832) ∨ (r = 129 ∧ 0 ≤ i ∧ i < 24) ∨ (130 ≤ r ∧ r ≤ 133) ∨ r = 143 ∨ r = 145
theorem LI_std {K K' : Int} {h h2 : Mem} {n s st sp : Nat} {A A' : Int → Int} (q : LI K h n s st sp A) (g1 : h2.1 = h.1) (g2 : ∀ r i, ¬ vol r i → gR h2 r i = gR h r i) (g3 : ∀ i, 7 ≤ i → i ≤ 10 → gR h2 0 i = gR h 0 i) (hK : K ≤ K' ∧ K' ≤ 30000000) (kp : ∀ r i, kpS n st r i → gG h2 r i = gG h r i) (hV : Vr K' h2 n A') (hR : ∀ j, 0 ≤ j → j < 90 → gG h2 128 j = A' j) (h6 : A' 6 ≤ 9999) (h7 : A' 7 = A 7) (h0 : A 0 ≤ A' 0) (h1 : A' 1 = A 1) (e0 : gG h2 0 0 = gG h2 127 2) : LI K' h2 n s st sp A' := by
  obtain ⟨hS, hn, ⟨r7, r8, r9, r10⟩, hP, ⟨-, et, eb⟩, ⟨S, M, T, t1, t2, t3⟩, ⟨c, P, x1, x2⟩, ⟨f1, f2⟩, ⟨L, l1, l2⟩, ⟨w1, w2⟩, ⟨m, ⟨m1, m2, m3, m4⟩, hM⟩⟩ := q
  have hS2 := hS.f g1 g2
  have k : ∀ r i, ((r = 0 ∧ ¬ i = 0) ∨ (2 ≤ r ∧ r ≤ 9) ∨ (r = 10 ∧ (i = 0 ∨ i = 3 ∨ i = 4)) ∨ r = 11 ∨ r = n + 4 ∨ (st ≤ r ∧ r ≤ st + 6) ∨ (60 ≤ r ∧ r ≤ 119) ∨ r = 125 ∨ r = 126 ∨ (r = 127 ∧ (i = 3 ∨ i = 4 ∨ i = 10 ∨ i = 16 ∨ i = 17 ∨ i = 37 ∨ i = 38)) ∨ (r = 128 ∧ 90 ≤ i ∧ i < 1832) ∨ (r = 129 ∧ 0 ≤ i ∧ i < 24) ∨ (130 ≤ r ∧ r ≤ 133) ∨ r = 143 ∨ r = 145) → gG h2 r i = gG h r i := kp
  have b1 := hP.1.2.2.2.1
  refine ⟨hS2, hn, ⟨(g3 _ (by omega) (by omega)).trans r7, (g3 _ (by omega) (by omega)).trans r8, (g3 _ (by omega) (by omega)).trans r9, (g3 _ (by omega) (by omega)).trans r10⟩, ?_, ⟨e0, ?_, ?_⟩, ⟨S, M, T, t1.g hS2 (fun r i x y => k r i (by omega)), t2.g hS2 (fun r i x y => k r i (by omega)), t3⟩, ⟨c, P, x1.g hS2 (k _ _ (by omega)) (fun i => k _ _ (by omega)), x2.g hS2 (k _ _ (by omega)) (fun i => k _ _ (by omega))⟩, ⟨?_, ?_⟩, ⟨L, l1.g (fun i => k _ _ (by omega)), l2.g (fun i => k _ _ (by omega))⟩, ⟨?_, fun j a b => ?_⟩, ⟨m, ⟨(k _ _ (by omega)).trans m1, (k _ _ (by omega)).trans m2, m3, m4⟩, hM.f hS m4 hK g1 (fun r i x y => g2 r i (by unfold vol; omega)) (fun r i x y => k r i (by omega)) (fun j x y => k _ _ (by omega)) (fun j x y => k _ _ (by omega))⟩⟩
  · refine hP.u hV (fun j a b => by rw [show (0 : Int) + j = j by omega]; exact hR j a b) h6 h7 h0 (by omega) (fun i a b => ?_) (fun r i x y => k r i (by omega)) (fun j a b => k _ _ (by omega))
    rw [k _ _ (by omega), k 129 _ (by omega)]
    exact hP.2.2.2.1 i a (by omega)
  · rw [k _ _ (by omega), k _ _ (by omega)]; exact et
  · rw [k _ _ (by omega), k _ _ (by omega)]; exact eb
  · rw [k _ _ (by omega), k _ _ (by omega)]; exact f1
  · rw [k _ _ (by omega), k _ _ (by omega)]; exact f2
  · rw [k _ _ (by omega), k _ _ (by omega)]; exact w1
  · rw [k _ _ (by omega), k _ _ (by omega)]; exact w2 j a b
theorem LI.cls {K : Int} {h : Mem} {n s st sp : Nat} {A : Int → Int} (q : LI K h n s st sp A) : Cls K n h A := by
  obtain ⟨hS, hn, ⟨r7, -⟩, hP, -⟩ := q
  refine ⟨⟨hS.x.1, r7, ?_⟩, hP.1⟩
  rcases hn.1 with ⟨e, -⟩ | ⟨e, -⟩
  · rw [e]; exact hS.at15
  · rw [e]; exact hS.at28
theorem LI.rr {K : Int} {h : Mem} {n s st sp : Nat} {A : Int → Int} (q : LI K h n s st sp A) : Rr K h A := by
  obtain ⟨hS, hn, -, hP, -⟩ := q
  refine ⟨⟨hS.x.2.1, hS.ra⟩, fun j a b => ?_, hP.1.2.2⟩
  have := hP.2.1 j a b
  rw [show (0 : Int) + j = j by omega] at this
  exact this
/-- a call of the class, then one of the reference: the answers are one, the invariant holds again -/
def TwoI (X : Int → Int) (XL : Int) (d : Nat) (K : Int) (h : Mem) (y y' : Nat) (args : List MV) : Prop := ∀ Q1 : RetP, (∀ z h1, h1.1 = h.1 → (∀ Q2 : RetP, (∀ h2, h2.1 = h.1 → Inv (K + 25000) h2 → Q2 (some (vI z)) h2) → WP X XL d y' (vR 127 :: args) h1 Q2) → Q1 (some (vI z)) h1) → WP X XL d y (vR 0 :: args) h Q1
def TwoL (X : Int → Int) (XL : Int) (d : Nat) (K : Int) (h : Mem) (y y' : Nat) (args : List MV) : Prop := ∀ Q1 : RetP, (∀ z h1, h1.1 = h.1 → (∀ Q2 : RetP, (∀ h2, h2.1 = h.1 → Inv (K + 25000) h2 → Q2 (some (vL z)) h2) → WP X XL d y' (vR 127 :: args) h1 Q2) → Q1 (some (vL z)) h1) → WP X XL d y (vR 0 :: args) h Q1
theorem FrH.l143 {h h' : Mem} (a : FrH h h') (i : Int) : gG h' 143 i = gG h 143 i := a.2.2.1 143 (by omega) i
theorem Rr.s0 {K : Int} {h h' : Mem} {A : Int → Int} {n : Nat} {z : Int} (q : Rr K h A) (hn : n + 12 < 120) (a : Fr (VQ n) h h') : Rr K (sG h' 0 0 z) A := by
  obtain ⟨q1, q2, q3⟩ := q
  refine ⟨?_, fun j x y => ?_, q3⟩
  · show kd h' 127 = 10 ∧ gR h' 127 0 = 128 ∧ kd h' 128 = 100 ∧ ln h' 128 = 3198
    unfold kd ln gR
    rw [a.1, a.2.1]
    exact q1
  · rw [gG_sG, if_neg (by omega), a.2.2 128 (by unfold VQ; omega)]
    exact q2 j x y
/-- the Viaduct and the status alone have changed -/
theorem LI_vr {K K' : Int} {h h1 h2 : Mem} {n s st sp : Nat} {A A' : Int → Int} {z : Int} (q : LI K h n s st sp A) (hK : K ≤ K' ∧ K' ≤ 30000000) (hV1 : Vr K' h1 n A') (f1 : Fr (VP n) h h1) (hR2 : Rr K' h2 A') (f2 : FrH (sG h1 0 0 z) h2) (h6 : A' 6 ≤ 9999) (h7 : A' 7 = A 7) (h0 : A 0 ≤ A' 0) (h1' : A' 1 = A 1) : LI K' (sG h2 127 2 z) n s st sp A' := by
  have hn := q.2.1
  have hC := q.cls
  have g0 : ∀ r i, (r < 127 ∨ r = 129 ∨ r = 130 ∨ r = 131 ∨ r = 132 ∨ r = 133 ∨ 145 ≤ r) → gG (sG h2 127 2 z) r i = gG (sG h1 0 0 z) r i := fun r i x => by rw [gG_sG, if_neg (by omega)]; exact f2.2.2.1 r (by omega) i
  have hT1 : VAt h1 n := VAt_fr f1 hC.1.2.2
  refine LI_std q (f2.1.trans f1.1) (fun r i x => ?_) (fun i x y => ?_) hK (fun r i x => ?_) ?_ (fun j a b => ?_) h6 h7 h0 h1' ?_
  · show gR h2 r i = gR h r i
    unfold gR; rw [f2.2.1]
    show h1.2.2 r i = h.2.2 r i
    rw [f1.2.1]
  · show gR h2 0 i = gR h 0 i
    unfold gR; rw [f2.2.1]
    show h1.2.2 0 i = h.2.2 0 i
    rw [f1.2.1]
  · unfold kpS at x
    have v1 : ¬ VP n r → gG h1 r i = gG h r i := fun y => f1.2.2 r y i
    by_cases c3 : r = 143
    · rw [gG_sG, if_neg (by omega), c3, f2.l143, gG_sG, if_neg (by omega), ← c3]; exact v1 (by unfold VP; omega)
    · by_cases c8 : r = 128
      · rw [gG_sG, if_neg (by omega), c8, f2.2.2.2.1 i (by omega) (by omega), gG_sG, if_neg (by omega), ← c8]; exact v1 (by unfold VP; omega)
      · by_cases c7 : r = 127
        · rw [c7, g_ne (by omega), f2.2.2.2.2 i (by omega), gG_sG, if_neg (by omega), ← c7]; exact v1 (by unfold VP; omega)
        · rw [g0 r i (by omega), gG_sG, if_neg (by omega)]; exact v1 (by unfold VP; omega)
  · refine hV1.eq (show (sG h2 127 2 z).1 = h1.1 from f2.1) (fun i => ?_) hT1 (fun r i x y => ?_)
    · show gR h2 n i = gR h1 n i
      unfold gR; rw [f2.2.1]; rfl
    · rw [g0 r i (by omega), gG_sG, if_neg (by omega)]
  · rw [gG_sG, if_neg (by omega)]; exact hR2.2.1 j a b
  · rw [g_same, g0 0 0 (by omega), g_same]
theorem two_cv {X : Int → Int} {XL : Int} {d : Nat} {K : Int} {h : Mem} {n s st sp : Nat} {A A' : Int → Int} {o : Int × Int} {y y' : Nat} {args : List MV} (q : LI K h n s st sp A) (hK : 0 ≤ K ∧ K + 25000 ≤ 30000000) (c : CV X XL d y args A A' o) (m : CR X XL d y' args A A' o) (h6 : A' 6 ≤ 9999) (h7 : A' 7 = A 7) (h0 : A 0 ≤ A' 0) (he1 : A' 1 = A 1) : TwoI X XL d K h y y' args := by
  intro Q1 hq
  have hn := q.2.1
  refine c K n h Q1 q.cls hK.2 (fun h1 hV1 f1 => ?_)
  refine hq o.1 (sG h1 0 0 o.2) f1.1 (fun Q2 hq2 => ?_)
  refine m K (sG h1 0 0 o.2) Q2 (q.rr.s0 (by omega) f1.Q) hK.2 (fun h2 hR2 f2 => ?_)
  exact hq2 _ (f2.1.trans f1.1) ⟨n, s, st, sp, A', LI_vr q (by omega) hV1 f1 hR2 f2 h6 h7 h0 he1⟩
-- parts of the invariant, carried along
theorem LI.pT {K : Int} {h h2 : Mem} {n s st sp : Nat} {A : Int → Int} (q : LI K h n s st sp A) (hS2 : Shp h2) (e : ∀ r i, (2 ≤ r ∧ r ≤ 9) ∨ (130 ≤ r ∧ r ≤ 132) → gG h2 r i = gG h r i) : ∃ S M T, TC h2 S M T ∧ TR h2 S M T ∧ TB S M := by
  obtain ⟨S, M, T, t1, t2, t3⟩ := q.2.2.2.2.2.1
  exact ⟨S, M, T, t1.g hS2 (fun r i x y => e r i (by omega)), t2.g hS2 (fun r i x y => e r i (by omega)), t3⟩
theorem LI.pX {K : Int} {h h2 : Mem} {n s st sp : Nat} {A : Int → Int} (q : LI K h n s st sp A) (hS2 : Shp h2) (e : ∀ r i, (r = 10 ∧ i = 0) ∨ r = 11 ∨ (r = 127 ∧ i = 10) ∨ r = 133 → gG h2 r i = gG h r i) : ∃ c P, TxT h2 c P ∧ TxU h2 c P := by
  obtain ⟨c, P, x1, x2⟩ := q.2.2.2.2.2.2.1
  exact ⟨c, P, x1.g hS2 (e _ _ (by omega)) (fun i => e _ _ (by omega)), x2.g hS2 (e _ _ (by omega)) (fun i => e _ _ (by omega))⟩
theorem LI.pF {K : Int} {h h2 : Mem} {n s st sp : Nat} {A : Int → Int} (q : LI K h n s st sp A) (e : ∀ r i, (r = 10 ∧ (i = 3 ∨ i = 4)) ∨ (r = 127 ∧ (i = 16 ∨ i = 17)) → gG h2 r i = gG h r i) : gG h2 10 3 = gG h2 127 16 ∧ gG h2 10 4 = gG h2 127 17 := by
  obtain ⟨f1, f2⟩ := q.2.2.2.2.2.2.2.1
  rw [e 10 3 (by omega), e 10 4 (by omega), e 127 16 (by omega), e 127 17 (by omega)]
  exact ⟨f1, f2⟩
theorem LI.pL {K : Int} {h h2 : Mem} {n s st sp : Nat} {A : Int → Int} (q : LI K h n s st sp A) (e : ∀ (r : Nat) (i : Int), r = 125 ∨ r = 143 → gG h2 r i = gG h r i) : ∃ L, LRel h2 L ∧ LRr h2 L := by
  obtain ⟨L, l1, l2⟩ := q.2.2.2.2.2.2.2.2.1
  exact ⟨L, l1.g (fun i => e _ _ (by omega)), l2.g (fun i => e _ _ (by omega))⟩
theorem LI.pW {K : Int} {h h2 : Mem} {n s st sp : Nat} {A : Int → Int} (q : LI K h n s st sp A) (e : ∀ r i, (r = 0 ∧ i = 18) ∨ (r = 127 ∧ i = 37) ∨ r = 126 ∨ r = 145 → gG h2 r i = gG h r i) : gG h2 0 18 = gG h2 127 37 ∧ ∀ j, 0 ≤ j → j < 5 → gG h2 126 j = gG h2 145 j := by
  obtain ⟨w1, w2⟩ := q.2.2.2.2.2.2.2.2.2.1
  refine ⟨by rw [e 0 18 (by omega), e 127 37 (by omega)]; exact w1, fun j a b => ?_⟩
  rw [e 126 j (by omega), e 145 j (by omega)]
  exact w2 j a b
theorem LI.pM {K K' : Int} {h h2 : Mem} {n s st sp : Nat} {A : Int → Int} (q : LI K h n s st sp A) (hK : K ≤ K' ∧ K' ≤ 30000000) (g1 : h2.1 = h.1) (g2 : ∀ r i, 60 ≤ r → r ≤ 119 → gR h2 r i = gR h r i) (e : ∀ r i, (r = 0 ∧ i = 13) ∨ (r = 127 ∧ i = 38) ∨ (60 ≤ r ∧ r ≤ 119) ∨ (r = 128 ∧ 458 ≤ i ∧ i < 1832) ∨ (r = 129 ∧ 6 ≤ i ∧ i < 24) → gG h2 r i = gG h r i) : ∃ m, (gG h2 0 13 = m ∧ gG h2 127 38 = m ∧ 0 ≤ m ∧ m ≤ 3) ∧ MkI K' h2 m := by
  obtain ⟨m, ⟨m1, m2, m3, m4⟩, hM⟩ := q.2.2.2.2.2.2.2.2.2.2
  exact ⟨m, ⟨(e _ _ (by omega)).trans m1, (e _ _ (by omega)).trans m2, m3, m4⟩, hM.f q.1 m4 hK g1 g2 (fun r i x y => e r i (by omega)) (fun j x y => e _ _ (by omega)) (fun j x y => e _ _ (by omega))⟩
theorem LI.pP {K K' : Int} {h h2 : Mem} {n s st sp : Nat} {A : Int → Int} (q : LI K h n s st sp A) (hK : K ≤ K' ∧ K' ≤ 30000000) (g1 : h2.1 = h.1) (g2 : ∀ i, gR h2 n i = gR h n i) (e : ∀ r i, (n ≤ r ∧ r ≤ n + 12) ∨ (st ≤ r ∧ r ≤ st + 6) ∨ (r = 128 ∧ 0 ≤ i ∧ i < 450) ∨ (r = 129 ∧ 0 ≤ i ∧ i < 6) → gG h2 r i = gG h r i) : PI K' h2 n st 0 0 A := q.2.2.2.1.f q.cls.1.2.2 hK g1 g2 (fun r i x y => e r i (by omega)) (fun r i x y => e r i (by omega)) (fun j x y => e _ _ (by omega)) (fun j x y => e _ _ (by omega))
theorem LI.pE {K : Int} {h h2 : Mem} {n s st sp : Nat} {A : Int → Int} (q : LI K h n s st sp A) (e0 : gG h2 0 0 = gG h2 127 2) (e : ∀ r i, (r = 0 ∧ (i = 1 ∨ i = 2)) ∨ (r = 127 ∧ (i = 3 ∨ i = 4)) → gG h2 r i = gG h r i) : gG h2 0 0 = gG h2 127 2 ∧ gG h2 0 1 = gG h2 127 3 ∧ gG h2 0 2 = gG h2 127 4 := by
  obtain ⟨-, f1, f2⟩ := q.2.2.2.2.1
  rw [e 0 1 (by omega), e 0 2 (by omega), e 127 3 (by omega), e 127 4 (by omega)]
  exact ⟨e0, f1, f2⟩
theorem LI.h6 {K : Int} {h : Mem} {n s st sp : Nat} {A : Int → Int} (q : LI K h n s st sp A) : A 6 ≤ 9999 := q.2.2.2.1.2.2.1
/-- scratch of the class and of the reference -/
def scr (s sp : Nat) (r : Nat) (i : Int) : Prop := (s ≤ r ∧ r ≤ s + 12) ∨ (sp ≤ r ∧ r ≤ sp + 6) ∨ (r = 10 ∧ ¬ i = 0 ∧ ¬ i = 3 ∧ ¬ i = 4) ∨ (12 ≤ r ∧ r ≤ 14) ∨ (55 ≤ r ∧ r ≤ 59) ∨ (120 ≤ r ∧ r ≤ 124) ∨ (r = 127 ∧ ¬ i = 2 ∧ ¬ i = 3 ∧ ¬ i = 4 ∧ ¬ i = 10 ∧ ¬ i = 16 ∧ ¬ i = 17 ∧ ¬ i = 37 ∧ ¬ i = 38) ∨ (r = 128 ∧ (i < 0 ∨ 1832 ≤ i)) ∨ (r = 129 ∧ (i < 0 ∨ 24 ≤ i)) ∨ (134 ≤ r ∧ r ≤ 142) ∨ r = 144
/-- nothing but scratch and the status has changed -/
theorem LI_sc {K K' : Int} {h h2 : Mem} {n s st sp : Nat} {A : Int → Int} (q : LI K h n s st sp A) (hK : K ≤ K' ∧ K' ≤ 30000000) (g1 : h2.1 = h.1) (g2 : ∀ r i, ¬ vol r i → gR h2 r i = gR h r i) (g3 : ∀ i, 7 ≤ i → i ≤ 10 → gR h2 0 i = gR h 0 i) (kp : ∀ r i, ¬ scr s sp r i → ¬ (r = 0 ∧ i = 0) → ¬ (r = 127 ∧ i = 2) → gG h2 r i = gG h r i) (e0 : gG h2 0 0 = gG h2 127 2) : LI K' h2 n s st sp A := by
  have hn := q.2.1
  obtain ⟨r7, r8, r9, r10⟩ := q.2.2.1
  have hS2 := q.1.f g1 g2
  unfold scr at kp
  exact ⟨hS2, hn, ⟨(g3 _ (by omega) (by omega)).trans r7, (g3 _ (by omega) (by omega)).trans r8, (g3 _ (by omega) (by omega)).trans r9, (g3 _ (by omega) (by omega)).trans r10⟩, q.pP hK g1 (fun i => g2 _ _ (by unfold vol; omega)) (fun r i x => kp r i (by omega) (by omega) (by omega)), q.pE e0 (fun r i x => kp r i (by omega) (by omega) (by omega)), q.pT hS2 (fun r i x => kp r i (by omega) (by omega) (by omega)), q.pX hS2 (fun r i x => kp r i (by omega) (by omega) (by omega)), q.pF (fun r i x => kp r i (by omega) (by omega) (by omega)), q.pL (fun r i x => kp r i (by omega) (by omega) (by omega)), q.pW (fun r i x => kp r i (by omega) (by omega) (by omega)), q.pM hK g1 (fun r i x y => g2 r i (by unfold vol; omega)) (fun r i x => kp r i (by omega) (by omega) (by omega))⟩
