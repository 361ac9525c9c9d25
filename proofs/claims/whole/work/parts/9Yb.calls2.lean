/-! LEVEL 3: calls that change nothing but scratch and the status -/
theorem LI.up {K K' : Int} {h : Mem} {n s st sp : Nat} {A : Int → Int} (q : LI K h n s st sp A) (hK : K ≤ K' ∧ K' ≤ 30000000) : LI K' h n s st sp A := LI_sc q hK rfl (fun _ _ _ => rfl) (fun _ _ _ => rfl) (fun _ _ _ _ _ => rfl) q.2.2.2.2.1.1
theorem Shp.s {h : Mem} {r : Nat} {i z : Int} (q : Shp h) : Shp (sG h r i z) := q.f rfl (fun _ _ _ => rfl)
theorem LI.st {K K' : Int} {h : Mem} {n s st sp : Nat} {A : Int → Int} {z : Int} (q : LI K h n s st sp A) (hK : K ≤ K' ∧ K' ≤ 30000000) : LI K' (sG (sG h 0 0 z) 127 2 z) n s st sp A := LI_sc q hK rfl (fun _ _ _ => rfl) (fun _ _ _ => rfl) (fun r i _ y x => by rw [gG_sG, if_neg x, gG_sG, if_neg y]) (by rw [gG_sG, if_neg (by omega), g_same, g_same])
theorem LI.sv {K : Int} {h : Mem} {n s st sp : Nat} {A : Int → Int} (q : LI K h n s st sp A) : SPv h n s := by
  have hn := q.2.1
  refine ⟨q.2.2.1.2.1, ?_, ?_, by omega, by omega, by omega⟩
  · rcases hn.1 with ⟨-, e⟩ | ⟨-, e⟩
    · rw [e]; exact q.1.ok28
    · rw [e]; exact q.1.ok15
  · rcases hn.1 with ⟨-, e⟩ | ⟨-, e⟩
    · rw [e]; exact q.1.at28
    · rw [e]; exact q.1.at15
theorem LI_fh {K K' K2 : Int} {h h1 h2 : Mem} {n s st sp : Nat} {A : Int → Int} {z : Int} (q : LI K h n s st sp A) (hK : K ≤ K' ∧ K' ≤ 30000000) (g1 : h1.1 = h.1) (g2 : ∀ r i, ¬ vol r i → gR h1 r i = gR h r i) (g3 : ∀ i, 7 ≤ i → i ≤ 10 → gR h1 0 i = gR h 0 i) (k1 : ∀ r i, ¬ ((s ≤ r ∧ r ≤ s + 12) ∨ (120 ≤ r ∧ r ≤ 124)) → gG h1 r i = gG h r i) (hR2 : Rr K2 h2 A) (f2 : FrH (sG h1 0 0 z) h2) : LI K' (sG h2 127 2 z) n s st sp A := by
  have hn := q.2.1
  have gr : ∀ r i, gR (sG h2 127 2 z) r i = gR h1 r i := fun r i => by
    show gR h2 r i = gR h1 r i
    unfold gR; rw [f2.2.1]; rfl
  refine LI_sc q hK (f2.1.trans g1) (fun r i x => (gr r i).trans (g2 r i x)) (fun i x y => (gr 0 i).trans (g3 i x y)) (fun r i x y w => ?_) ?_
  · unfold scr at x
    have v1 := k1 r i
    by_cases c3 : r = 143
    · rw [gG_sG, if_neg w, c3, f2.l143, gG_sG, if_neg (by omega), ← c3]; exact v1 (by omega)
    · by_cases c8 : r = 128
      · by_cases c9 : i < 90
        · rw [gG_sG, if_neg w, c8, hR2.2.1 i (by omega) c9]
          exact (q.rr.2.1 i (by omega) c9).symm
        · rw [gG_sG, if_neg w, c8, f2.2.2.2.1 i (by omega) (by omega), gG_sG, if_neg (by omega), ← c8]; exact v1 (by omega)
      · by_cases c7 : r = 127
        · rw [gG_sG, if_neg w, c7, f2.2.2.2.2 i (by omega), gG_sG, if_neg (by omega), ← c7]; exact v1 (by omega)
        · rw [gG_sG, if_neg w, f2.2.2.1 r (by omega), gG_sG, if_neg y]; exact v1 (by omega)
  · rw [g_same, gG_sG, if_neg (by omega), f2.2.2.1 0 (by omega), g_same]
theorem t_status {X : Int → Int} {XL : Int} {d : Nat} {K : Int} {h : Mem} (hd : 30 ≤ d) (hI : Inv K h) (hK : 0 ≤ K ∧ K + 25000 ≤ 30000000) : TwoI X XL d K h 118 193 [] := by
  obtain ⟨n, s, st, sp, A, q⟩ := hI
  intro Q1 hq
  refine c_status (by omega) q.1.x.1 (hq _ h rfl (fun Q2 hq2 => m_status (by omega) q.1.x.2.1 ?_))
  rw [← q.2.2.2.2.1.1]
  exact hq2 h rfl ⟨n, s, st, sp, A, q.up (by omega)⟩
theorem t_top {X : Int → Int} {XL : Int} {d : Nat} {K : Int} {h : Mem} (hd : 30 ≤ d) (hI : Inv K h) (hK : 0 ≤ K ∧ K + 25000 ≤ 30000000) : TwoL X XL d K h 119 194 [] := by
  obtain ⟨n, s, st, sp, A, q⟩ := hI
  intro Q1 hq
  refine c_top (by omega) q.1.x.1 (hq _ h rfl (fun Q2 hq2 => m_top (by omega) q.1.x.2.1 ?_))
  rw [← q.2.2.2.2.1.2.1]
  exact hq2 h rfl ⟨n, s, st, sp, A, q.up (by omega)⟩
theorem t_bottom {X : Int → Int} {XL : Int} {d : Nat} {K : Int} {h : Mem} (hd : 30 ≤ d) (hI : Inv K h) (hK : 0 ≤ K ∧ K + 25000 ≤ 30000000) : TwoL X XL d K h 120 195 [] := by
  obtain ⟨n, s, st, sp, A, q⟩ := hI
  intro Q1 hq
  refine c_bottom (by omega) q.1.x.1 (hq _ h rfl (fun Q2 hq2 => m_bottom (by omega) q.1.x.2.1 ?_))
  rw [← q.2.2.2.2.1.2.2]
  exact hq2 h rfl ⟨n, s, st, sp, A, q.up (by omega)⟩
theorem t_fault {X : Int → Int} {XL : Int} {d : Nat} {K : Int} {h : Mem} {w : Int} (hd : 30 ≤ d) (hI : Inv K h) (hK : 0 ≤ K ∧ K + 25000 ≤ 30000000) : TwoI X XL d K h 128 225 [vI w] := by
  obtain ⟨n, s, st, sp, A, q⟩ := hI
  intro Q1 hq
  refine c_fault (by omega) q.1.x.1 q.1.x.2.2.1 q.1.tt.1.1 (hq _ h rfl (fun Q2 hq2 => m_fault (by omega) q.1.x.2.1 ?_))
  rw [← q.2.2.2.2.2.2.2.1.1, ← q.2.2.2.2.2.2.2.1.2]
  exact hq2 h rfl ⟨n, s, st, sp, A, q.up (by omega)⟩
theorem t_read {X : Int → Int} {XL : Int} {d : Nat} {K : Int} {h : Mem} {t k : Int} (hd : 30 ≤ d) (hI : Inv K h) (hK : 0 ≤ K ∧ K + 25000 ≤ 30000000) : TwoL X XL d K h 123 206 [vI t, vI k] := by
  obtain ⟨n, s, st, sp, A, q⟩ := hI
  obtain ⟨S, M, T, t1, t2, t3⟩ := q.2.2.2.2.2.1
  intro Q1 hq
  refine c_read (by omega) t1 t3 (hq _ _ rfl (fun Q2 hq2 => m_read (by omega) (t2.g q.1.s (fun r i x y => by rw [gG_sG, if_neg (by omega)])) t3 (hq2 _ rfl ⟨n, s, st, sp, A, q.st (by omega)⟩)))
theorem o_lived_c {b : Int} {t t' : Int → Int} {w : Int} (h : ∀ j, 0 ≤ j → j < 5 → t j = t' j) : o_lived b t w = o_lived b t' w := by
  unfold o_lived
  by_cases c : 0 ≤ w ∧ w ≤ 4
  · rw [if_pos c, if_pos c, h w c.1 (by omega)]
  · rw [if_neg c, if_neg c]
theorem t_lived {X : Int → Int} {XL : Int} {d : Nat} {K : Int} {h : Mem} {w : Int} (hd : 30 ≤ d) (hI : Inv K h) (hK : 0 ≤ K ∧ K + 25000 ≤ 30000000) : TwoI X XL d K h 170 346 [vI w] := by
  obtain ⟨n, s, st, sp, A, q⟩ := hI
  obtain ⟨y1, y2, y3⟩ := q.1.ty
  obtain ⟨w1, w2⟩ := q.2.2.2.2.2.2.2.2.2.1
  intro Q1 hq
  refine c_lived (by omega) q.1.x.1 y1 y2 y3 (hq _ _ rfl (fun Q2 hq2 => m_lived (by omega) q.1.x.2.1 q.1.s.rk ?_))
  have e : o_lived (gG (sG h 0 0 (o_lived (gG h 0 18) (gG h 126) w).2) 127 37) (gG (sG h 0 0 (o_lived (gG h 0 18) (gG h 126) w).2) 145) w = o_lived (gG h 0 18) (gG h 126) w := by
    rw [gG_sG, if_neg (by omega), ← w1]
    exact o_lived_c (fun j a b => by rw [gG_sG, if_neg (by omega)]; exact (w2 j a b).symm)
  rw [e]
  exact hq2 _ rfl ⟨n, s, st, sp, A, q.st (by omega)⟩
theorem Rr.gp {K : Int} {h h' : Mem} {A : Int → Int} {z : Int} (q : Rr K h A) (a : Fr GP h h') : Rr K (sG h' 0 0 z) A := by
  obtain ⟨q1, q2, q3⟩ := q
  refine ⟨?_, fun j x y => ?_, q3⟩
  · show kd h' 127 = 10 ∧ gR h' 127 0 = 128 ∧ kd h' 128 = 100 ∧ ln h' 128 = 3198
    unfold kd ln gR
    rw [a.1, a.2.1]
    exact q1
  · rw [gG_sG, if_neg (by omega), a.2.2 128 (by unfold GP; omega)]
    exact q2 j x y
theorem RK.gp {h h' : Mem} {z : Int} (q : RK h) (a : Fr GP h h') : RK (sG h' 0 0 z) := q.eq (show (sG h' 0 0 z).1 = h.1 from a.1) (show (sG h' 0 0 z).2.2 = h.2.2 from a.2.1)
theorem t_most {X : Int → Int} {XL : Int} {d : Nat} {K : Int} {h : Mem} (hd : 30 ≤ d) (hI : Inv K h) (hK : 0 ≤ K ∧ K + 25000 ≤ 30000000) : TwoI X XL d K h 154 304 [] := by
  obtain ⟨n, s, st, sp, A, q⟩ := hI
  have hn := q.2.1
  intro Q1 hq
  refine c_most (by omega) q.cls (by omega) (by omega) q.1.gk (fun C h1 hC g1 => hq _ _ g1.1 (fun Q2 hq2 => m_most (by omega) (q.rr.gp g1) (q.1.rk.gp g1) hC (fun h2 hR2 f2 => hq2 _ (f2.1.trans g1.1) ⟨n, s, st, sp, A, LI_fh q (by omega) (g1.1) (fun r i _ => by unfold gR; rw [g1.2.1]) (fun i _ _ => by unfold gR; rw [g1.2.1]) (fun r i x => g1.2.2 r (by unfold GP; omega) i) hR2 f2⟩)))
set_option maxHeartbeats 4000000 in
theorem m_cheapN2 {X : Int → Int} {XL : Int} {d : Nat} {h : Mem} {Q : RetP} {K : Int} {A : Int → Int} {s : Int} (hd : 12 ≤ d) (hR : Rr K h A) (hs : ¬ (0 ≤ s ∧ s < shlZ 1 (A 1))) (hq : Q (some (vI (-1))) (sG h 127 2 1)) : WP X XL d 306 [vR 127, vI s] h Q := by
  have kq := hR.1.1
  refine eX10_cheapest (by omega) ?_
  (repeat' (first | (refine r_arePeople (by omega) hR (fun c => absurd c hs) (fun c => ?_)) | (refine r_gives (by omega) kq ?_) | (refine r_refuse (by omega) kq ?_) | (refine Ex_step ?_; conv => whnf) | (refine ⟨?_, trivial⟩) | (refine (show den _ _ _ _ _ _ _ _ from ?_); conv => whnf) | (refine ⟨by (first | assumption | rfl | (exact Nat.le_of_ble_eq_true rfl) | (exact ⟨fun h01 => absurd h01 (by decide), by first | rfl | assumption⟩) | (exact ⟨fun _ => by decide, by first | rfl | assumption⟩) | (exact ⟨by assumption, by omega, by omega⟩) | (unfold inI; omega) | omega), ?_⟩; conv => whnf) | (refine ⟨fun c => False.elim (by omega), fun c => ?_⟩) | (refine ⟨fun c => ?_, fun c => False.elim (by omega)⟩) | (refine ⟨fun c => ?_, fun c => ?_⟩) | (intro c) | fail))
  exact hq
set_option maxHeartbeats 4000000 in
theorem m_mateN2 {X : Int → Int} {XL : Int} {d : Nat} {h : Mem} {Q : RetP} {K : Int} {A : Int → Int} {s p : Int} (hd : 12 ≤ d) (hR : Rr K h A) (hs : ¬ okM A s p) (hq : Q (some (vI (-1))) (sG h 127 2 1)) : WP X XL d 308 [vR 127, vI s, vI p] h Q := by
  have kq := hR.1.1
  have b1 := hR.2.2.2.1
  unfold okM at hs
  refine eX10_mate (by omega) ?_
  (repeat' (first | (refine r_arePeople (by omega) hR (fun c => ?_) (fun c => False.elim (by omega))) | (refine r_arePeople (by omega) hR (fun c => False.elim (by omega)) (fun c => ?_)) | (refine r_arePeople (by omega) hR (fun c => ?_) (fun c => ?_)) | (refine r_isPerson (by omega) hR (fun c => ?_) (fun c => False.elim (by omega))) | (refine r_isPerson (by omega) hR (fun c => False.elim (by omega)) (fun c => ?_)) | (refine r_isPerson (by omega) hR (fun c => ?_) (fun c => ?_)) | (refine r_isIn (by omega) (by omega) (fun c => ?_) (fun c => ?_)) | (refine r_gives (by omega) kq ?_) | (refine r_refuse (by omega) kq ?_) | (refine Ex_step ?_; conv => whnf) | (refine ⟨?_, trivial⟩) | (refine (show den _ _ _ _ _ _ _ _ from ?_); conv => whnf) | (refine ⟨by (first | assumption | rfl | (exact Nat.le_of_ble_eq_true rfl) | (exact ⟨fun h01 => absurd h01 (by decide), by first | rfl | assumption⟩) | (exact ⟨fun _ => by decide, by first | rfl | assumption⟩) | (exact ⟨by assumption, by omega, by omega⟩) | (unfold inI; omega) | omega), ?_⟩; conv => whnf) | (refine ⟨fun c => False.elim (by omega), fun c => ?_⟩) | (refine ⟨fun c => ?_, fun c => False.elim (by omega)⟩) | (refine ⟨fun c => ?_, fun c => ?_⟩) | (intro c) | fail))
  all_goals first | (exact hq) | (exact absurd ⟨by assumption, by assumption, by assumption⟩ hs)
theorem t_cheap {X : Int → Int} {XL : Int} {d : Nat} {K : Int} {h : Mem} {s0 : Int} (hd : 30 ≤ d) (hI : Inv K h) (hK : 0 ≤ K ∧ K + 25000 ≤ 30000000) : TwoI X XL d K h 155 306 [vI s0] := by
  obtain ⟨n, s, st, sp, A, q⟩ := hI
  have hn := q.2.1
  intro Q1 hq
  by_cases hs : 0 ≤ s0 ∧ s0 < shlZ 1 (A 1)
  · refine c_cheapY (by omega) q.cls (by omega) (by omega) q.1.gk hs (fun C h1 hC g1 => hq _ _ g1.1 (fun Q2 hq2 => m_cheapY (by omega) (q.rr.gp g1) (q.1.rk.gp g1) hC hs (fun h2 hR2 f2 => hq2 _ (f2.1.trans g1.1) ⟨n, s, st, sp, A, LI_fh q (by omega) (g1.1) (fun r i _ => by unfold gR; rw [g1.2.1]) (fun i _ _ => by unfold gR; rw [g1.2.1]) (fun r i x => g1.2.2 r (by unfold GP; omega) i) hR2 f2⟩)))
  · refine c_cheapN (by omega) q.cls (by omega) (by omega) q.1.gk hs (hq _ _ rfl (fun Q2 hq2 => ?_))
    exact m_cheapN2 (by omega) (q.rr.gp Fr.refl) hs (hq2 _ rfl ⟨n, s, st, sp, A, q.st (by omega)⟩)
theorem t_mate {X : Int → Int} {XL : Int} {d : Nat} {K : Int} {h : Mem} {s0 p : Int} (hd : 30 ≤ d) (hI : Inv K h) (hK : 0 ≤ K ∧ K + 25000 ≤ 30000000) : TwoI X XL d K h 156 308 [vI s0, vI p] := by
  obtain ⟨n, s, st, sp, A, q⟩ := hI
  have hn := q.2.1
  have b1 := q.rr.2.2.2.1
  intro Q1 hq
  by_cases hs : okM A s0 p
  · have hs2 := id hs
    unfold okM at hs2
    have h6 := sh6 b1.1 b1.2
    have hp : 0 < s0 := by
      rcases Int.lt_or_le 0 s0 with c | c
      · exact c
      · have e : s0 = 0 := by omega
        have := hs2.2.2
        rw [e, bt0] at this
        cases this
    refine c_mateY (by omega) q.cls (by omega) (by omega) q.1.gk hs (fun C h1 hC g1 => hq _ _ g1.1 (fun Q2 hq2 => m_mateY (by omega) (q.rr.gp g1) (q.1.rk.gp g1) hC hs (fun h2 hR2 f2 => hq2 _ (f2.1.trans g1.1) ⟨n, s, st, sp, A, LI_fh q (by omega) (g1.1) (fun r i _ => by unfold gR; rw [g1.2.1]) (fun i _ _ => by unfold gR; rw [g1.2.1]) (fun r i x => g1.2.2 r (by unfold GP; omega) i) hR2 f2⟩))) (fun C hC hc => ?_)
    have := mt_pos b1.1 b1.2 hC.1 hs2.2.1.1 hs2.2.1.2 64 s0 (by omega) hp hs2.1.2 hc hs2.2.2
    omega
  · exact c_mateN (by omega) q.cls (by omega) (by omega) q.1.gk hs (hq _ _ rfl (fun Q2 hq2 => m_mateN2 (by omega) (q.rr.gp Fr.refl) hs (hq2 _ rfl ⟨n, s, st, sp, A, q.st (by omega)⟩)))
theorem LI.tr0 {K : Int} {h : Mem} {S M : Int → Int} {T : Int → Int → Int} {z : Int} (hS : Shp h) (t2 : TR h S M T) : TR (sG h 0 0 z) S M T := t2.g hS.s (fun r i x y => by rw [gG_sG, if_neg (by omega)])
theorem t_fits {X : Int → Int} {XL : Int} {d : Nat} {K : Int} {h : Mem} {p t k : Int} (hd : 30 ≤ d) (hI : Inv K h) (hK : 0 ≤ K ∧ K + 25000 ≤ 30000000) : TwoI X XL d K h 159 315 [vI p, vI t, vI k] := by
  obtain ⟨n, s, st, sp, A, q⟩ := hI
  obtain ⟨S, M, T, t1, t2, t3⟩ := q.2.2.2.2.2.1
  intro Q1 hq
  exact c_fits (by omega) q.cls t1 t3 (hq _ _ rfl (fun Q2 hq2 => m_fits (by omega) (q.rr.gp Fr.refl) (by omega) (q.1.rk.gp Fr.refl) (LI.tr0 (K := K) q.1 t2) t3 (fun h2 hR2 f2 => hq2 _ f2.1 ⟨n, s, st, sp, A, LI_fh q (by omega) rfl (fun _ _ _ => rfl) (fun _ _ _ => rfl) (fun _ _ _ => rfl) hR2 f2⟩)))
theorem t_fitsAt {X : Int → Int} {XL : Int} {d : Nat} {K : Int} {h : Mem} {p t k j : Int} (hd : 30 ≤ d) (hI : Inv K h) (hK : 0 ≤ K ∧ K + 25000 ≤ 30000000) (hj : inI j) : TwoI X XL d K h 160 316 [vI p, vI t, vI k, vI j] := by
  obtain ⟨n, s, st, sp, A, q⟩ := hI
  obtain ⟨S, M, T, t1, t2, t3⟩ := q.2.2.2.2.2.1
  intro Q1 hq
  exact c_fitsAt (by omega) q.cls t1 t3 (hq _ _ rfl (fun Q2 hq2 => m_fitsAt (by omega) (q.rr.gp Fr.refl) (by omega) (q.1.rk.gp Fr.refl) (LI.tr0 (K := K) q.1 t2) t3 hj.2 (fun h2 hR2 f2 => hq2 _ f2.1 ⟨n, s, st, sp, A, LI_fh q (by omega) rfl (fun _ _ _ => rfl) (fun _ _ _ => rfl) (fun _ _ _ => rfl) hR2 f2⟩)))
theorem t_ask {X : Int → Int} {XL : Int} {d : Nat} {K : Int} {h : Mem} {p t k : Int} (hd : 30 ≤ d) (hI : Inv K h) (hK : 0 ≤ K ∧ K + 25000 ≤ 30000000) : TwoI X XL d K h 161 318 [vI p, vI t, vI k] := by
  obtain ⟨n, s, st, sp, A, q⟩ := hI
  obtain ⟨S, M, T, t1, t2, t3⟩ := q.2.2.2.2.2.1
  intro Q1 hq
  exact c_ask (by omega) q.cls t1 t3 (hq _ _ rfl (fun Q2 hq2 => m_ask (by omega) (q.rr.gp Fr.refl) (by omega) (q.1.rk.gp Fr.refl) (LI.tr0 (K := K) q.1 t2) t3 (fun h2 hR2 f2 => hq2 _ f2.1 ⟨n, s, st, sp, A, LI_fh q (by omega) rfl (fun _ _ _ => rfl) (fun _ _ _ => rfl) (fun _ _ _ => rfl) hR2 f2⟩)))
theorem Rr.gm {K : Int} {h h' : Mem} {A : Int → Int} {z : Int} {s : Nat} (q : Rr K h A) (hs : s + 12 < 120) (a : FrG s h h') : Rr K (sG h' 0 0 z) A := by
  obtain ⟨⟨q1, q2, q3, q4⟩, q5, q6⟩ := q
  refine ⟨⟨?_, ?_, ?_, ?_⟩, fun j x y => ?_, q6⟩
  · show kd h' 127 = 10
    unfold kd; rw [a.1]; exact q1
  · exact (a.2.1 127 (by omega) 0).trans q2
  · show kd h' 128 = 100
    unfold kd; rw [a.1]; exact q3
  · show ln h' 128 = 3198
    unfold ln; rw [a.1]; exact q4
  · rw [gG_sG, if_neg (by omega), a.2.2 128 (by unfold VQ; omega)]
    exact q5 j x y
theorem FrG.sh {s : Nat} {h h' : Mem} (a : FrG s h h') (q : Shp h) : Shp h' := q.f a.1 (fun r i x => a.2.1 r (fun e => x (by unfold vol; omega)) i)
theorem t_game {X : Int → Int} {XL : Int} {d : Nat} {K : Int} {h : Mem} {p o k : Int} (hd : 30 ≤ d) (hI : Inv K h) (hK : 0 ≤ K ∧ K + 25000 ≤ 30000000) : TwoI X XL d K h 162 324 [vI p, vI o, vI k] := by
  obtain ⟨n, s, st, sp, A, q⟩ := hI
  have hn := q.2.1
  intro Q1 hq
  by_cases hb : ((0 ≤ p ∧ p < A 1) ∧ (0 ≤ o ∧ o < A 1) ∧ ¬ p = o) ∧ 0 ≤ k ∧ k ≤ 4
  · exact c_gameY (by omega) q.cls q.sv q.1.x.2.2.2.2.2.1 q.1.x.2.2.2.2.2.2 hb.1 hb.2 (fun h1 g1 => hq _ _ g1.1 (fun Q2 hq2 => m_gameY (by omega) (q.rr.gm (by omega) g1) ((g1.sh q.1).s.rk) hb.1 hb.2 (fun h2 hR2 f2 => hq2 _ (f2.1.trans g1.1) ⟨n, s, st, sp, A, LI_fh q (by omega) (g1.1) (fun r i x => g1.2.1 r (fun e => x (by unfold vol; omega)) i) (fun i _ _ => g1.2.1 0 (by omega) i) (fun r i x => g1.2.2 r (by unfold VQ; omega) i) hR2 f2⟩)))
  · exact c_gameN (by omega) q.cls q.sv q.1.x.2.2.2.2.2.1 q.1.x.2.2.2.2.2.2 hb (hq _ _ rfl (fun Q2 hq2 => m_gameN (by omega) (q.rr.gp Fr.refl) (q.1.rk.gp Fr.refl) hb (hq2 _ rfl ⟨n, s, st, sp, A, q.st (by omega)⟩)))
theorem t_move {X : Int → Int} {XL : Int} {d : Nat} {K : Int} {h : Mem} {p o k : Int} (hd : 30 ≤ d) (hI : Inv K h) (hK : 0 ≤ K ∧ K + 25000 ≤ 30000000) : TwoI X XL d K h 163 325 [vI p, vI o, vI k] := by
  obtain ⟨n, s, st, sp, A, q⟩ := hI
  have hn := q.2.1
  intro Q1 hq
  by_cases hb : ((0 ≤ p ∧ p < A 1) ∧ (0 ≤ o ∧ o < A 1) ∧ ¬ p = o) ∧ 1 ≤ k ∧ k ≤ 4
  · exact c_moveY (by omega) q.cls q.sv q.1.x.2.2.2.2.2.1 q.1.x.2.2.2.2.2.2 hb.1 hb.2 (fun h1 g1 => hq _ _ g1.1 (fun Q2 hq2 => m_moveY (by omega) (q.rr.gm (by omega) g1) ((g1.sh q.1).s.rk) hb.1 hb.2 (fun h2 hR2 f2 => hq2 _ (f2.1.trans g1.1) ⟨n, s, st, sp, A, LI_fh q (by omega) (g1.1) (fun r i x => g1.2.1 r (fun e => x (by unfold vol; omega)) i) (fun i _ _ => g1.2.1 0 (by omega) i) (fun r i x => g1.2.2 r (by unfold VQ; omega) i) hR2 f2⟩)))
  · exact c_moveN (by omega) q.cls q.sv q.1.x.2.2.2.2.2.1 q.1.x.2.2.2.2.2.2 hb (hq _ _ rfl (fun Q2 hq2 => m_moveN (by omega) (q.rr.gp Fr.refl) (q.1.rk.gp Fr.refl) hb (hq2 _ rfl ⟨n, s, st, sp, A, q.st (by omega)⟩)))
