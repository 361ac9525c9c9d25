/-! LEVEL 3: fractions, trays, the tape, people -/
/-- scratch, the status, the fraction and rounds may have changed -/
theorem LI_sc3 {K K' : Int} {h h2 : Mem} {n s st sp : Nat} {A : Int → Int} (q : LI K h n s st sp A) (hK : K ≤ K' ∧ K' ≤ 30000000) (g1 : h2.1 = h.1) (g2 : ∀ r i, ¬ vol r i → gR h2 r i = gR h r i) (g3 : ∀ i, 7 ≤ i → i ≤ 10 → gR h2 0 i = gR h 0 i) (kp : ∀ r i, ¬ scr s sp r i → ¬ (r = 0 ∧ 0 ≤ i ∧ i ≤ 2) → ¬ (r = 127 ∧ 2 ≤ i ∧ i ≤ 4) → ¬ (r = 125 ∨ r = 143) → gG h2 r i = gG h r i) (e : gG h2 0 0 = gG h2 127 2 ∧ gG h2 0 1 = gG h2 127 3 ∧ gG h2 0 2 = gG h2 127 4) (hL : ∃ L, LRel h2 L ∧ LRr h2 L) : LI K' h2 n s st sp A := by
  have hn := q.2.1
  obtain ⟨r7, r8, r9, r10⟩ := q.2.2.1
  have hS2 := q.1.f g1 g2
  unfold scr at kp
  exact ⟨hS2, hn, ⟨(g3 _ (by omega) (by omega)).trans r7, (g3 _ (by omega) (by omega)).trans r8, (g3 _ (by omega) (by omega)).trans r9, (g3 _ (by omega) (by omega)).trans r10⟩, q.pP hK g1 (fun i => g2 _ _ (by unfold vol; omega)) (fun r i x => kp r i (by omega) (by omega) (by omega) (by omega)), e, q.pT hS2 (fun r i x => kp r i (by omega) (by omega) (by omega) (by omega)), q.pX hS2 (fun r i x => kp r i (by omega) (by omega) (by omega) (by omega)), q.pF (fun r i x => kp r i (by omega) (by omega) (by omega) (by omega)), hL, q.pW (fun r i x => kp r i (by omega) (by omega) (by omega) (by omega)), q.pM hK g1 (fun r i x y => g2 r i (by unfold vol; omega)) (fun r i x => kp r i (by omega) (by omega) (by omega) (by omega))⟩
theorem LI.fx {K K' : Int} {h : Mem} {n s st sp : Nat} {A : Int → Int} {a b z : Int} (q : LI K h n s st sp A) (hK : K ≤ K' ∧ K' ≤ 30000000) : LI K' (sG (sG (sG (sG (sG (sG h 0 1 a) 0 2 b) 0 0 z) 127 3 a) 127 4 b) 127 2 z) n s st sp A := by
  have kk : ∀ r i, ¬ (r = 0 ∧ 0 ≤ i ∧ i ≤ 2) → ¬ (r = 127 ∧ 2 ≤ i ∧ i ≤ 4) → gG (sG (sG (sG (sG (sG (sG h 0 1 a) 0 2 b) 0 0 z) 127 3 a) 127 4 b) 127 2 z) r i = gG h r i := fun r i x y => by
    rw [gG_sG, if_neg (by omega), gG_sG, if_neg (by omega), gG_sG, if_neg (by omega), gG_sG, if_neg (by omega), gG_sG, if_neg (by omega), gG_sG, if_neg (by omega)]
  refine LI_sc3 q hK rfl (fun _ _ _ => rfl) (fun _ _ _ => rfl) (fun r i _ x y _ => kk r i x y) ⟨?_, ?_, ?_⟩ (q.pL (fun r i x => kk r i (by omega) (by omega)))
  · rw [g_same, gG_sG, if_neg (by omega), gG_sG, if_neg (by omega), gG_sG, if_neg (by omega), g_same]
  · rw [g_ne (by omega), g_ne (by omega), g_same, gG_sG, if_neg (by omega), gG_sG, if_neg (by omega), gG_sG, if_neg (by omega), g_ne (by omega), g_ne (by omega), g_same]
  · rw [g_ne (by omega), g_same, gG_sG, if_neg (by omega), gG_sG, if_neg (by omega), gG_sG, if_neg (by omega), g_ne (by omega), g_same]
theorem Rr.c0 {K : Int} {h h' : Mem} {A : Int → Int} (q : Rr K h A) (e1 : h'.1 = h.1) (e2 : ∀ i, gR h' 127 i = gR h 127 i) (e3 : ∀ i, 0 ≤ i → i < 90 → gG h' 128 i = gG h 128 i) : Rr K h' A := by
  obtain ⟨⟨q1, q2, q3, q4⟩, q5, q6⟩ := q
  refine ⟨⟨?_, (e2 0).trans q2, ?_, ?_⟩, fun j x y => (e3 j x y).trans (q5 j x y), q6⟩
  · unfold kd; rw [e1]; exact q1
  · unfold kd; rw [e1]; exact q3
  · unfold ln; rw [e1]; exact q4
theorem t_chance {X : Int → Int} {XL : Int} {d : Nat} {K : Int} {h : Mem} {p : Int} (hd : 30 ≤ d) (hI : Inv K h) (hK : 0 ≤ K ∧ K + 25000 ≤ 30000000) : TwoI X XL d K h 166 332 [vI p] := by
  obtain ⟨n, s, st, sp, A, q⟩ := hI
  intro Q1 hq
  refine c_chance (by omega) q.cls (fun c => ?_) (fun c => ?_)
  · exact hq _ _ rfl (fun Q2 hq2 => m_chance (by omega) (q.rr.gp Fr.refl) (fun _ => hq2 _ rfl ⟨n, s, st, sp, A, q.st (by omega)⟩) (fun c2 => absurd c2 c))
  · exact hq _ _ rfl (fun Q2 hq2 => m_chance (by omega) (q.rr.c0 rfl (fun _ => rfl) (fun i _ _ => by rw [gG_sG, if_neg (by omega), gG_sG, if_neg (by omega), gG_sG, if_neg (by omega)])) (fun c2 => absurd c c2) (fun _ => hq2 _ rfl ⟨n, s, st, sp, A, q.fx (by omega)⟩))
theorem t_hope {X : Int → Int} {XL : Int} {d : Nat} {K : Int} {h : Mem} {p k : Int} (hd : 30 ≤ d) (hI : Inv K h) (hK : 0 ≤ K ∧ K + 25000 ≤ 30000000) : TwoI X XL d K h 167 333 [vI p, vI k] := by
  obtain ⟨n, s, st, sp, A, q⟩ := hI
  intro Q1 hq
  refine c_hope (by omega) q.cls (fun c => ?_) (fun c => ?_)
  · exact hq _ _ rfl (fun Q2 hq2 => m_hope (by omega) (q.rr.gp Fr.refl) (fun _ => hq2 _ rfl ⟨n, s, st, sp, A, q.st (by omega)⟩) (fun c2 => absurd c2 c))
  · exact hq _ _ rfl (fun Q2 hq2 => m_hope (by omega) (q.rr.c0 rfl (fun _ => rfl) (fun i _ _ => by rw [gG_sG, if_neg (by omega), gG_sG, if_neg (by omega), gG_sG, if_neg (by omega)])) (fun c2 => absurd c c2) (fun _ => hq2 _ rfl ⟨n, s, st, sp, A, q.fx (by omega)⟩))
/-- trays have changed -/
theorem LI_tr {K K' : Int} {h h1 h2 : Mem} {n s st sp : Nat} {A S M : Int → Int} {T : Int → Int → Int} {z : Int} (q : LI K h n s st sp A) (hK : K ≤ K' ∧ K' ≤ 30000000) (f1 : Fr TP h h1) (c1 : TC h1 S M T) (f2 : Fr RP (sG h1 0 0 z) h2) (c2 : TR h2 S M T) (hB : TB S M) : LI K' (sG h2 127 2 z) n s st sp A := by
  have hn := q.2.1
  obtain ⟨r7, r8, r9, r10⟩ := q.2.2.1
  have g1 : (sG h2 127 2 z).1 = h.1 := f2.1.trans f1.1
  have gr : ∀ r i, gR (sG h2 127 2 z) r i = gR h r i := fun r i => by
    show gR h2 r i = gR h r i
    unfold gR; rw [f2.2.1]
    show h1.2.2 r i = h.2.2 r i
    rw [f1.2.1]
  have hS2 := q.1.f g1 (fun r i _ => gr r i)
  have kk : ∀ r i, ¬ (2 ≤ r ∧ r ≤ 9) → ¬ (130 ≤ r ∧ r ≤ 132) → ¬ (r = 0 ∧ i = 0) → ¬ (r = 127 ∧ i = 2) → gG (sG h2 127 2 z) r i = gG h r i := fun r i a b c e => by
    rw [gG_sG, if_neg e, f2.2.2 r (by unfold RP; omega), gG_sG, if_neg c, f1.2.2 r (by unfold TP; omega)]
  exact ⟨hS2, hn, ⟨(gr _ _).trans r7, (gr _ _).trans r8, (gr _ _).trans r9, (gr _ _).trans r10⟩, q.pP hK g1 (fun i => gr _ _) (fun r i x => kk r i (by omega) (by omega) (by omega) (by omega)), q.pE (by rw [g_same, gG_sG, if_neg (by omega), f2.2.2 0 (by unfold RP; omega), g_same]) (fun r i x => kk r i (by omega) (by omega) (by omega) (by omega)), ⟨S, M, T, c1.g hS2 (fun r i x y => by rw [gG_sG, if_neg (by omega), f2.2.2 r (by unfold RP; omega), gG_sG, if_neg (by omega)]), c2.g hS2 (fun r i x y => by rw [gG_sG, if_neg (by omega)]), hB⟩, q.pX hS2 (fun r i x => kk r i (by omega) (by omega) (by omega) (by omega)), q.pF (fun r i x => kk r i (by omega) (by omega) (by omega) (by omega)), q.pL (fun r i x => kk r i (by omega) (by omega) (by omega) (by omega)), q.pW (fun r i x => kk r i (by omega) (by omega) (by omega) (by omega)), q.pM hK g1 (fun r i x y => gr r i) (fun r i x => kk r i (by omega) (by omega) (by omega) (by omega))⟩
theorem TR.tp {h h1 : Mem} {S M : Int → Int} {T : Int → Int → Int} {z : Int} (t2 : TR h S M T) (hS : Shp h) (f1 : Fr TP h h1) : TR (sG h1 0 0 z) S M T := t2.g (hS.f f1.1 (fun r i _ => by show gR h1 r i = gR h r i; unfold gR; rw [f1.2.1])) (fun r i x y => by rw [gG_sG, if_neg (by omega)]; exact f1.2.2 r (by unfold TP; omega) i)
theorem t_tray {X : Int → Int} {XL : Int} {d : Nat} {K : Int} {h : Mem} {t k m : Int} (hd : 30 ≤ d) (hI : Inv K h) (hK : 0 ≤ K ∧ K + 25000 ≤ 30000000) : TwoI X XL d K h 121 203 [vI t, vI k, vI m] := by
  obtain ⟨n, s, st, sp, A, q⟩ := hI
  obtain ⟨S, M, T, t1, t2, t3⟩ := q.2.2.2.2.2.1
  intro Q1 hq
  by_cases ok : okTr t k m
  · have ok2 := id ok
    unfold okTr at ok2
    refine c_trayY (by omega) t1 ok (fun h1 c1 f1 => hq _ _ f1.1 (fun Q2 hq2 => m_trayY (by omega) (t2.tp q.1 f1) t3 ok (fun h2 c2 f2 => hq2 _ (f2.1.trans f1.1) ⟨n, s, st, sp, A, LI_tr q (by omega) f1 c1 f2 c2 (fun u u0 u1 => ?_)⟩)))
    have := t3 u u0 u1
    unfold pu
    by_cases e : u = t
    · rw [if_pos e, if_pos e]; omega
    · rw [if_neg e, if_neg e]; exact this
  · exact c_trayN (by omega) t1 ok (hq _ _ rfl (fun Q2 hq2 => m_trayN (by omega) (t2.tp q.1 Fr.refl) ok (hq2 _ rfl ⟨n, s, st, sp, A, q.st (by omega)⟩)))
theorem t_write {X : Int → Int} {XL : Int} {d : Nat} {K : Int} {h : Mem} {t k z : Int} (hd : 30 ≤ d) (hI : Inv K h) (hK : 0 ≤ K ∧ K + 25000 ≤ 30000000) : TwoI X XL d K h 122 205 [vI t, vI k, vL z] := by
  obtain ⟨n, s, st, sp, A, q⟩ := hI
  obtain ⟨S, M, T, t1, t2, t3⟩ := q.2.2.2.2.2.1
  intro Q1 hq
  by_cases ok : wpZ M t k = 0
  · exact c_writeY (by omega) t1 t3 ok (fun h1 c1 f1 => hq _ _ f1.1 (fun Q2 hq2 => m_writeY (by omega) (t2.tp q.1 f1) t3 ok (fun h2 c2 f2 => hq2 _ (f2.1.trans f1.1) ⟨n, s, st, sp, A, LI_tr q (by omega) f1 c1 f2 c2 t3⟩)))
  · exact c_writeN (by omega) t1 ok (hq _ _ rfl (fun Q2 hq2 => m_writeN (by omega) (t2.tp q.1 Fr.refl) ok (hq2 _ rfl ⟨n, s, st, sp, A, q.st (by omega)⟩)))
theorem t_pour {X : Int → Int} {XL : Int} {d : Nat} {K : Int} {h : Mem} {f p t a m : Int} (hd : 30 ≤ d) (hI : Inv K h) (hK : 0 ≤ K ∧ K + 25000 ≤ 30000000) (ip : inI p ∧ inI a ∧ inI m) : TwoI X XL d K h 124 207 [vI f, vI p, vI t, vI a, vI m] := by
  obtain ⟨n, s, st, sp, A, q⟩ := hI
  obtain ⟨S, M, T, t1, t2, t3⟩ := q.2.2.2.2.2.1
  intro Q1 hq
  by_cases hz : poZ S M f p t a m = 0
  · have hz2 := id hz
    unfold poZ at hz2
    split at hz2
    · omega
    · rename_i ok
      have ok := Classical.not_not.mp ok
      split at hz2
      · omega
      · rename_i h2
        split at hz2
        · omega
        · rename_i h3
          have h3 := Classical.not_not.mp h3
          split at hz2
          · rename_i h4
            exact c_pourY (by omega) t1 t3 ip hz ok h2 h3 h4 (fun h1 c1 f1 => hq _ _ f1.1 (fun Q2 hq2 => m_pourY (by omega) (t2.tp q.1 f1) t3 ok h2 h3 h4 (fun h2 c2 f2 => hq2 _ (f2.1.trans f1.1) ⟨n, s, st, sp, A, LI_tr q (by omega) f1 c1 f2 c2 t3⟩)))
          · omega
  · exact c_pourN (by omega) t1 t3 ip hz (hq _ _ rfl (fun Q2 hq2 => m_pourN (by omega) (t2.tp q.1 Fr.refl) t3 ip hz (hq2 _ rfl ⟨n, s, st, sp, A, q.st (by omega)⟩)))
theorem t_copy {X : Int → Int} {XL : Int} {d : Nat} {K : Int} {h : Mem} {t : Int} (hd : 30 ≤ d) (hI : Inv K h) (hK : 0 ≤ K ∧ K + 25000 ≤ 30000000) : TwoI X XL d K h 168 334 [vI t] := by
  obtain ⟨n, s, st, sp, A, q⟩ := hI
  have hn := q.2.1
  obtain ⟨S, M, T, t1, t2, t3⟩ := q.2.2.2.2.2.1
  intro Q1 hq
  by_cases hz : coZ A M t = 0
  · have hz2 := id hz
    unfold coZ at hz2
    split at hz2
    · omega
    · rename_i ht
      have ht := Classical.not_not.mp ht
      split at hz2
      · omega
      · rename_i h2
        split at hz2
        · omega
        · rename_i h3
          exact c_copyY (by omega) q.cls (by omega) t1 t3 hz ht h2 h3 (fun h1 c1 f1 => hq _ _ f1.1 (fun Q2 hq2 => m_copyY (by omega) (q.rr.c0 (show (sG h1 0 0 0).1 = h.1 from f1.1) (fun i => by show gR h1 127 i = gR h 127 i; unfold gR; rw [f1.2.1]) (fun i _ _ => by rw [gG_sG, if_neg (by omega)]; exact f1.2.2 128 (by unfold TP; omega) i)) (t2.tp q.1 f1) t3 ht h2 h3 (fun h2 c2 f2 => hq2 _ (f2.1.trans f1.1) ⟨n, s, st, sp, A, LI_tr q (by omega) f1 c1 f2 c2 t3⟩)))
  · exact c_copyN (by omega) q.cls t1 hz (hq _ _ rfl (fun Q2 hq2 => m_copyN (by omega) (q.rr.gp Fr.refl) (t2.tp q.1 Fr.refl) hz (hq2 _ rfl ⟨n, s, st, sp, A, q.st (by omega)⟩)))
theorem pz_b {v : Int} : ∀ (k : Nat) (c : Int) (P : Int → Int), (∀ i, 0 ≤ i → i < c → -128 ≤ P i ∧ P i ≤ 127) → ∀ i, 0 ≤ i → i < c + k → -128 ≤ pz v k c P i ∧ pz v k c P i ≤ 127 := by
  intro k; induction k with
  | zero => intro c P hP i h0 h1; exact hP i h0 (by omega)
  | succ k ih =>
    intro c P hP i h0 h1
    refine ih (c + 1) _ (fun j j0 j1 => ?_) i h0 (by omega)
    unfold psB
    by_cases e : j = c
    · rw [if_pos e]; exact zb_b _
    · rw [if_neg e]; exact hP j j0 (by omega)
theorem t_feed {X : Int → Int} {XL : Int} {d : Nat} {K : Int} {h : Mem} {a b c e f : Int} (hd : 30 ≤ d) (hI : Inv K h) (hK : 0 ≤ K ∧ K + 25000 ≤ 30000000) : TwoI X XL d K h 125 209 [vI a, vI b, vI c, vI e, vI f] := by
  obtain ⟨n, s, st, sp, A, q⟩ := hI
  have hn := q.2.1
  obtain ⟨r7, r8, r9, r10⟩ := q.2.2.1
  obtain ⟨cn, P, x1, x2⟩ := q.2.2.2.2.2.2.1
  have b0 := x1.2.2.2.2.2.1
  have xc : TxC h cn P := ⟨x1.1, x1.2.2.2.2.1, fun i u v => (x1.2.2.2.2.2.2 i u v).1⟩
  intro Q1 hq
  refine c_feed (by omega) q.1.x.1 q.1.x.2.2.1 xc b0 (fun cf => ?_) (fun cf h1 y1 f1 => ?_)
  · exact hq _ _ rfl (fun Q2 hq2 => m_feed (by omega) ⟨x2.1, x2.2.2.1, fun i u v => (x2.2.2.2.2 i u v).1⟩ b0 (fun _ => hq2 _ rfl ⟨n, s, st, sp, A, q.up (by omega)⟩) (fun c2 => absurd c2 cf))
  · have gr1 : ∀ r i, gR h1 r i = gR h r i := fun r i => by unfold gR; rw [f1.2.1]
    have hS1 := q.1.f f1.1 (fun r i _ => gr1 r i)
    refine hq _ _ f1.1 (fun Q2 hq2 => m_feed (by omega) (P := P) ⟨hS1.tu.1, by rw [f1.2.2 _ _ (by omega) (by omega)]; exact x2.2.2.1, fun i u v => by rw [f1.2.2 _ _ (by omega) (by omega)]; exact (x2.2.2.2.2 i u v).1⟩ b0 (fun c2 => absurd cf c2) (fun _ h2 y2 f2 => hq2 _ (f2.1.trans f1.1) ⟨n, s, st, sp, A, ?_⟩))
    have g1 : h2.1 = h.1 := f2.1.trans f1.1
    have gr : ∀ r i, gR h2 r i = gR h r i := fun r i => by rw [← gr1]; unfold gR; rw [f2.2.1]
    have hS2 := q.1.f g1 (fun r i _ => gr r i)
    have kk : ∀ r i, ¬ r = 11 → ¬ (r = 10 ∧ i = 0) → ¬ r = 133 → ¬ (r = 127 ∧ i = 10) → gG h2 r i = gG h r i := fun r i u v w x => (f2.2.2 r i w x).trans (f1.2.2 r i u v)
    have bb : ∀ i, 0 ≤ i → i < cn + 20 → -128 ≤ p20 a b c e f cn P i ∧ p20 a b c e f cn P i ≤ 127 := fun i i0 i1 => by
      unfold p20
      exact pz_b 4 _ _ (pz_b 4 _ _ (pz_b 4 _ _ (pz_b 4 _ _ (pz_b 4 _ _ (fun j j0 j1 => (x1.2.2.2.2.2.2 j j0 j1).2))))) i i0 (by omega)
    obtain ⟨s1, s2, s3, s4⟩ := hS2.tt
    obtain ⟨s5, s6⟩ := hS2.tu
    exact ⟨hS2, hn, ⟨(gr _ _).trans r7, (gr _ _).trans r8, (gr _ _).trans r9, (gr _ _).trans r10⟩, q.pP (by omega) g1 (fun i => gr _ _) (fun r i x => kk r i (by omega) (by omega) (by omega) (by omega)), q.pE (by rw [kk _ _ (by omega) (by omega) (by omega) (by omega), kk _ _ (by omega) (by omega) (by omega) (by omega)]; exact q.2.2.2.2.1.1) (fun r i x => kk r i (by omega) (by omega) (by omega) (by omega)), q.pT hS2 (fun r i x => kk r i (by omega) (by omega) (by omega) (by omega)), ⟨cn + 20, p20 a b c e f cn P, ⟨s1, s2, s3, s4, by rw [f2.2.2 _ _ (by omega) (by omega)]; exact y1.2.1, by omega, fun i i0 i1 => ⟨by rw [f2.2.2 _ _ (by omega) (by omega)]; exact y1.2.2 i i0 i1, bb i i0 i1⟩⟩, ⟨s5, s6, y2.2.1, by omega, fun i i0 i1 => ⟨y2.2.2 i i0 i1, bb i i0 i1⟩⟩⟩, q.pF (fun r i x => kk r i (by omega) (by omega) (by omega) (by omega)), q.pL (fun r i x => kk r i (by omega) (by omega) (by omega) (by omega)), q.pW (fun r i x => kk r i (by omega) (by omega) (by omega) (by omega)), q.pM (by omega) g1 (fun r i x y => gr r i) (fun r i x => kk r i (by omega) (by omega) (by omega) (by omega))⟩
theorem t_come {X : Int → Int} {XL : Int} {d : Nat} {K : Int} {h : Mem} {w : Int} (hd : 30 ≤ d) (hI : Inv K h) (hK : 0 ≤ K ∧ K + 25000 ≤ 30000000) : TwoI X XL d K h 139 279 [vI w] := by
  obtain ⟨n, s, st, sp, A, q⟩ := hI
  have hn := q.2.1
  obtain ⟨r7, r8, r9, r10⟩ := q.2.2.1
  obtain ⟨m1, m2, m3⟩ := q.1.rm
  have b1 := q.rr.2.2.2.1
  intro Q1 hq
  refine c_come (by omega) q.cls hK.2 (fun c => ?_) (fun c c6 => ?_) (fun c c6 h1 hV1 f1 nm1 => ?_) (by omega)
  · exact hq _ _ rfl (fun Q2 hq2 => m_come (by omega) (q.rr.gp Fr.refl) m1 m2 m3 (fun _ => hq2 _ rfl ⟨n, s, st, sp, A, q.st (by omega)⟩) (fun c2 _ => absurd c2 c) (fun c2 _ => absurd c2 c))
  · exact hq _ _ rfl (fun Q2 hq2 => m_come (by omega) (q.rr.gp Fr.refl) m1 m2 m3 (fun c2 => absurd c c2) (fun _ _ => hq2 _ rfl ⟨n, s, st, sp, A, q.st (by omega)⟩) (fun _ c2 => absurd c2 (by omega)))
  · have gr1 : ∀ r i, gR h1 r i = gR h r i := fun r i => by unfold gR; rw [f1.2.1]
    have hS1 : Shp h1 := q.1.f f1.1 (fun r i _ => gr1 r i)
    refine hq _ _ f1.1 (fun Q2 hq2 => m_come (by omega) (q.rr.s0 (by omega) f1) (hS1.s (r := 0) (i := 0) (z := 0)).rm.1 (hS1.s (r := 0) (i := 0) (z := 0)).rm.2.1 (hS1.s (r := 0) (i := 0) (z := 0)).rm.2.2 (fun c2 => absurd c c2) (fun _ c2 => absurd c2 (by omega)) (fun _ _ h2 hR2 f2 => hq2 _ (f2.1.1.trans f1.1) ⟨n, s, st, sp, perA A w, ?_⟩))
    have g1 : (sG (sG h2 129 (A 1) 0) 127 2 0).1 = h.1 := f2.1.1.trans f1.1
    have gr : ∀ r i, gR (sG (sG h2 129 (A 1) 0) 127 2 0) r i = gR h r i := fun r i => by
      rw [← gr1]
      show gR h2 r i = gR h1 r i
      unfold gR; rw [f2.1.2.1]; rfl
    have hS2 := q.1.f g1 (fun r i _ => gr r i)
    have kk : ∀ r i, ¬ (n ≤ r ∧ r ≤ n + 12) → ¬ (r = 128 ∧ 0 ≤ i ∧ i < 90) → ¬ (r = 129 ∧ i = A 1) → ¬ (r = 0 ∧ i = 0) → ¬ (r = 127 ∧ i = 2) → gG (sG (sG h2 129 (A 1) 0) 127 2 0) r i = gG h r i := fun r i u v w x y => by
      rw [gG_sG, if_neg y, gG_sG, if_neg w]
      by_cases c8 : r = 128
      · rw [c8, f2.2 i (by omega), gG_sG, if_neg (by omega), f1.2.2 128 (by unfold VQ; omega)]
      · rw [f2.1.2.2 r c8, gG_sG, if_neg x, f1.2.2 r (by unfold VQ; omega)]
    have e1 : perA A w 0 = A 0 ∧ perA A w 1 = A 1 + 1 ∧ perA A w 6 = A 6 ∧ perA A w 7 = A 7 := by simp only [perA]; exact ⟨by (repeat (first | rw [if_neg (by omega)] | rw [if_pos (by omega)] | rw [if_pos trivial])), by (repeat (first | rw [if_neg (by omega)] | rw [if_pos (by omega)] | rw [if_pos trivial])), by (repeat (first | rw [if_neg (by omega)] | rw [if_pos (by omega)] | rw [if_pos trivial])), by (repeat (first | rw [if_neg (by omega)] | rw [if_pos (by omega)] | rw [if_pos trivial]))⟩
    have hV2 : Vr (K + 25000) (sG (sG h2 129 (A 1) 0) 127 2 0) n (perA A w) := Vr_K (hV1.eq (show (sG (sG h2 129 (A 1) 0) 127 2 0).1 = h1.1 from f2.1.1) (fun i => (gr _ _).trans (gr1 _ _).symm) (VAt_fr f1 q.cls.1.2.2) (fun r i x y => by rw [gG_sG, if_neg (by omega), gG_sG, if_neg (by omega), f2.1.2.2 r (by omega), gG_sG, if_neg (by omega)])) (by omega) (by omega)
    refine ⟨hS2, hn, ⟨(gr _ _).trans r7, (gr _ _).trans r8, (gr _ _).trans r9, (gr _ _).trans r10⟩, ?_, q.pE (by rw [g_same, gG_sG, if_neg (by omega), gG_sG, if_neg (by omega), f2.1.2.2 0 (by omega), g_same]) (fun r i x => kk r i (by omega) (by omega) (by omega) (by omega) (by omega)), q.pT hS2 (fun r i x => kk r i (by omega) (by omega) (by omega) (by omega) (by omega)), q.pX hS2 (fun r i x => kk r i (by omega) (by omega) (by omega) (by omega) (by omega)), q.pF (fun r i x => kk r i (by omega) (by omega) (by omega) (by omega) (by omega)), q.pL (fun r i x => kk r i (by omega) (by omega) (by omega) (by omega) (by omega)), q.pW (fun r i x => kk r i (by omega) (by omega) (by omega) (by omega) (by omega)), q.pM (by omega) g1 (fun r i x y => gr r i) (fun r i x => kk r i (by omega) (by omega) (by omega) (by omega) (by omega))⟩
    refine q.2.2.2.1.u hV2 (fun j a b => ?_) (by rw [e1.2.2.1]; exact q.h6) e1.2.2.2 (by rw [e1.1]; exact Int.le_refl _) (by rw [e1.2.1]; omega) (fun i a b => ?_) (fun r i x y => kk r i (by omega) (by omega) (by omega) (by omega) (by omega)) (fun j a b => kk _ _ (by omega) (by omega) (by omega) (by omega) (by omega))
    · rw [show (0 : Int) + j = j by omega, gG_sG, if_neg (by omega), gG_sG, if_neg (by omega)]
      exact hR2.2.1 j a b
    · rw [e1.2.1] at b
      rw [show (0 : Int) + i = i by omega]
      have c4 : gG (sG (sG h2 129 (A 1) 0) 127 2 0) (n + 4) i = gG h1 (n + 4) i := by rw [gG_sG, if_neg (by omega), gG_sG, if_neg (by omega), f2.1.2.2 _ (by omega), gG_sG, if_neg (by omega)]
      rw [c4, nm1]
      by_cases ei : i = A 1
      · rw [if_pos ei, gG_sG, if_neg (by omega), ei, g_same]
        exact Or.inl ⟨rfl, rfl⟩
      · rw [if_neg ei, kk 129 i (by omega) (by omega) (by omega) (by omega) (by omega)]
        have := q.2.2.2.1.2.2.2.1 i a (by omega)
        rw [show (0 : Int) + i = i by omega] at this
        exact this
