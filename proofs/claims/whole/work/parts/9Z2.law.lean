/-! LEVEL 3: the law -/
def lawPs : List (Int × Nat) := [(0, 272), (1, 285), (2, 299), (3, 313), (4, 356), (5, 429), (6, 463), (7, 526), (8, 589), (9, 612), (10, 635), (11, 658), (12, 681), (13, 714), (14, 747), (15, 780), (16, 803), (17, 836), (18, 859), (19, 882), (20, 905), (21, 948), (22, 971), (23, 1004), (24, 1037), (25, 1070), (26, 1103), (27, 1146), (28, 1169), (29, 1202), (30, 1225), (31, 1258), (32, 1281), (33, 1304), (34, 1327), (35, 1340), (36, 1373), (37, 1386), (38, 1409), (39, 1442), (40, 1465), (41, 1498), (42, 1541), (43, 1594), (44, 1637), (45, 1680), (46, 1723), (47, 1746), (48, 1769), (49, 1792), (50, 1825), (51, 1848), (52, 1871), (53, 1894), (54, 1927), (55, 1940)]
theorem lw_all {X : Int → Int} {XL K i : Int} {d : Nat} {h : Mem} {Q : RetP} (hd : 30 ≤ d) (hI : Inv K h) (hK : 0 ≤ K ∧ K + 25000 ≤ 30000000) (hi : 0 ≤ i ∧ i + 6 ≤ XL ∧ XL ≤ 3072) (hX : ∀ j, inI (X j)) (hn : ∀ h2, h2.1 = growM 353 → Inv (K + 25000) h2 → Ex (WP X XL d) KL_law (growM 353) Q 1953 [some (vR 900000), some (vR 0), some (vR 127), some (vI i)] [] h2) : ∀ q ∈ lawPs, Ex (WP X XL d) KL_law (growM 353) Q q.2 [some (vR 900000), some (vR 0), some (vR 127), some (vI i)] [] h := by
  unfold lawPs
  refine List.forall_mem_cons.mpr ⟨lw_272 hd hI hK hi hX hn, ?_⟩
  refine List.forall_mem_cons.mpr ⟨lw_285 hd hI hK hi hX hn, ?_⟩
  refine List.forall_mem_cons.mpr ⟨lw_299 hd hI hK hi hX hn, ?_⟩
  refine List.forall_mem_cons.mpr ⟨lw_313 hd hI hK hi hX hn, ?_⟩
  refine List.forall_mem_cons.mpr ⟨lw_356 hd hI hK hi hX hn, ?_⟩
  refine List.forall_mem_cons.mpr ⟨lw_429 hd hI hK hi hX hn, ?_⟩
  refine List.forall_mem_cons.mpr ⟨lw_463 hd hI hK hi hX hn, ?_⟩
  refine List.forall_mem_cons.mpr ⟨lw_526 hd hI hK hi hX hn, ?_⟩
  refine List.forall_mem_cons.mpr ⟨lw_589 hd hI hK hi hX hn, ?_⟩
  refine List.forall_mem_cons.mpr ⟨lw_612 hd hI hK hi hX hn, ?_⟩
  refine List.forall_mem_cons.mpr ⟨lw_635 hd hI hK hi hX hn, ?_⟩
  refine List.forall_mem_cons.mpr ⟨lw_658 hd hI hK hi hX hn, ?_⟩
  refine List.forall_mem_cons.mpr ⟨lw_681 hd hI hK hi hX hn, ?_⟩
  refine List.forall_mem_cons.mpr ⟨lw_714 hd hI hK hi hX hn, ?_⟩
  refine List.forall_mem_cons.mpr ⟨lw_747 hd hI hK hi hX hn, ?_⟩
  refine List.forall_mem_cons.mpr ⟨lw_780 hd hI hK hi hX hn, ?_⟩
  refine List.forall_mem_cons.mpr ⟨lw_803 hd hI hK hi hX hn, ?_⟩
  refine List.forall_mem_cons.mpr ⟨lw_836 hd hI hK hi hX hn, ?_⟩
  refine List.forall_mem_cons.mpr ⟨lw_859 hd hI hK hi hX hn, ?_⟩
  refine List.forall_mem_cons.mpr ⟨lw_882 hd hI hK hi hX hn, ?_⟩
  refine List.forall_mem_cons.mpr ⟨lw_905 hd hI hK hi hX hn, ?_⟩
  refine List.forall_mem_cons.mpr ⟨lw_948 hd hI hK hi hX hn, ?_⟩
  refine List.forall_mem_cons.mpr ⟨lw_971 hd hI hK hi hX hn, ?_⟩
  refine List.forall_mem_cons.mpr ⟨lw_1004 hd hI hK hi hX hn, ?_⟩
  refine List.forall_mem_cons.mpr ⟨lw_1037 hd hI hK hi hX hn, ?_⟩
  refine List.forall_mem_cons.mpr ⟨lw_1070 hd hI hK hi hX hn, ?_⟩
  refine List.forall_mem_cons.mpr ⟨lw_1103 hd hI hK hi hX hn, ?_⟩
  refine List.forall_mem_cons.mpr ⟨lw_1146 hd hI hK hi hX hn, ?_⟩
  refine List.forall_mem_cons.mpr ⟨lw_1169 hd hI hK hi hX hn, ?_⟩
  refine List.forall_mem_cons.mpr ⟨lw_1202 hd hI hK hi hX hn, ?_⟩
  refine List.forall_mem_cons.mpr ⟨lw_1225 hd hI hK hi hX hn, ?_⟩
  refine List.forall_mem_cons.mpr ⟨lw_1258 hd hI hK hi hX hn, ?_⟩
  refine List.forall_mem_cons.mpr ⟨lw_1281 hd hI hK hi hX hn, ?_⟩
  refine List.forall_mem_cons.mpr ⟨lw_1304 hd hI hK hi hX hn, ?_⟩
  refine List.forall_mem_cons.mpr ⟨lw_1327 hd hI hK hi hX hn, ?_⟩
  refine List.forall_mem_cons.mpr ⟨lw_1340 hd hI hK hi hX hn, ?_⟩
  refine List.forall_mem_cons.mpr ⟨lw_1373 hd hI hK hi hX hn, ?_⟩
  refine List.forall_mem_cons.mpr ⟨lw_1386 hd hI hK hi hX hn, ?_⟩
  refine List.forall_mem_cons.mpr ⟨lw_1409 hd hI hK hi hX hn, ?_⟩
  refine List.forall_mem_cons.mpr ⟨lw_1442 hd hI hK hi hX hn, ?_⟩
  refine List.forall_mem_cons.mpr ⟨lw_1465 hd hI hK hi hX hn, ?_⟩
  refine List.forall_mem_cons.mpr ⟨lw_1498 hd hI hK hi hX hn, ?_⟩
  refine List.forall_mem_cons.mpr ⟨lw_1541 hd hI hK hi hX hn, ?_⟩
  refine List.forall_mem_cons.mpr ⟨lw_1594 hd hI hK hi hX hn, ?_⟩
  refine List.forall_mem_cons.mpr ⟨lw_1637 hd hI hK hi hX hn, ?_⟩
  refine List.forall_mem_cons.mpr ⟨lw_1680 hd hI hK hi hX hn, ?_⟩
  refine List.forall_mem_cons.mpr ⟨lw_1723 hd hI hK hi hX hn, ?_⟩
  refine List.forall_mem_cons.mpr ⟨lw_1746 hd hI hK hi hX hn, ?_⟩
  refine List.forall_mem_cons.mpr ⟨lw_1769 hd hI hK hi hX hn, ?_⟩
  refine List.forall_mem_cons.mpr ⟨lw_1792 hd hI hK hi hX hn, ?_⟩
  refine List.forall_mem_cons.mpr ⟨lw_1825 hd hI hK hi hX hn, ?_⟩
  refine List.forall_mem_cons.mpr ⟨lw_1848 hd hI hK hi hX hn, ?_⟩
  refine List.forall_mem_cons.mpr ⟨lw_1871 hd hI hK hi hX hn, ?_⟩
  refine List.forall_mem_cons.mpr ⟨lw_1894 hd hI hK hi hX hn, ?_⟩
  refine List.forall_mem_cons.mpr ⟨lw_1927 hd hI hK hi hX hn, ?_⟩
  refine List.forall_mem_cons.mpr ⟨lw_1940 hd hI hK hi hX hn, ?_⟩
  exact fun q hq => by cases hq
theorem Inv.up {K K' : Int} {h : Mem} (q : Inv K h) (hK : K ≤ K' ∧ K' ≤ 30000000) : Inv K' h := by
  obtain ⟨n, s, st, sp, A, q⟩ := q
  exact ⟨n, s, st, sp, A, q.up hK⟩
theorem lw_18 {X : Int → Int} {XL K i : Int} {d : Nat} {h : Mem} {Q : RetP} (hd : 30 ≤ d) (hI : Inv K h) (hK : 0 ≤ K ∧ K + 25000 ≤ 30000000) (hi : 0 ≤ i ∧ i + 6 ≤ XL ∧ XL ≤ 3072) (hX : ∀ j, inI (X j)) (hn : ∀ h2, h2.1 = growM 353 → Inv (K + 25000) h2 → Ex (WP X XL d) KL_law (growM 353) Q 1953 [some (vR 900000), some (vR 0), some (vR 127), some (vI i)] [] h2) : Ex (WP X XL d) KL_law (growM 353) Q 18 [some (vR 900000), some (vR 0), some (vR 127), some (vI i)] [] h := by
  have hdf := hn h hI.sh.1 (hI.up (by omega))
  have hall := lw_all hd hI hK hi hX hn
  (repeat' (first | (exact ⟨swt_a hdf _ hall, trivial⟩) | (refine x_sl (by omega) ?_) | (refine x_scr (by omega) (by omega) ?_) | (refine Ex_step ?_; conv => whnf) | (refine ⟨?_, trivial⟩) | (refine (show den _ _ _ _ _ _ _ _ from ?_); conv => whnf) | (refine ⟨fun c => False.elim (by omega), fun c => ?_⟩) | (refine ⟨fun c => ?_, fun c => False.elim (by omega)⟩) | (refine ⟨by (first | assumption | rfl | (exact Nat.le_of_ble_eq_true rfl) | (exact ⟨fun h01 => absurd h01 (by decide), by first | rfl | assumption⟩) | (exact ⟨fun _ => by decide, by first | rfl | assumption⟩) | (exact ⟨by assumption, by omega, by omega⟩) | (unfold inI; omega) | omega), ?_⟩; conv => whnf) | (refine ⟨fun c => ?_, fun c => ?_⟩) | (intro c) | fail))
theorem lw_end {X : Int → Int} {XL i : Int} {d : Nat} {h : Mem} {Q : RetP} (hd : 30 ≤ d) (hg : h.1 = growM 353) (hi : 0 ≤ i ∧ i ≤ 3078 ∧ XL < i + 6 ∧ 0 ≤ XL ∧ XL ≤ 3072) (hq : Q (some (vI 1)) h) : Ex (WP X XL d) KL_law (growM 353) Q 18 [some (vR 900000), some (vR 0), some (vR 127), some (vI i)] [] h := by
  (repeat' (first | (exact hq) | (exact ⟨⟨fun _ => Or.inr rfl, hg⟩, hq⟩) | (refine x_sl (by omega) ?_) | (refine Ex_step ?_; conv => whnf) | (refine ⟨?_, trivial⟩) | (refine (show den _ _ _ _ _ _ _ _ from ?_); conv => whnf) | (refine ⟨fun c => False.elim (by omega), fun c => ?_⟩) | (refine ⟨fun c => ?_, fun c => False.elim (by omega)⟩) | (refine ⟨by (first | assumption | rfl | (exact Nat.le_of_ble_eq_true rfl) | (exact ⟨fun h01 => absurd h01 (by decide), by first | rfl | assumption⟩) | (exact ⟨fun _ => by decide, by first | rfl | assumption⟩) | (exact ⟨by assumption, by omega, by omega⟩) | (unfold inI; omega) | omega), ?_⟩; conv => whnf) | (refine ⟨fun c => ?_, fun c => ?_⟩) | (intro c) | fail))
theorem lw_nx {X : Int → Int} {XL i : Int} {d : Nat} {h : Mem} {Q : RetP} (hi : 0 ≤ i ∧ i ≤ 3078) (hq : Ex (WP X XL d) KL_law (growM 353) Q 18 [some (vR 900000), some (vR 0), some (vR 127), some (vI (i + 6))] [] h) : Ex (WP X XL d) KL_law (growM 353) Q 1953 [some (vR 900000), some (vR 0), some (vR 127), some (vI i)] [] h := by
  (repeat' (first | (exact hq) | (refine Ex_step ?_; conv => whnf) | (refine ⟨?_, trivial⟩) | (refine (show den _ _ _ _ _ _ _ _ from ?_); conv => whnf) | (refine ⟨fun c => False.elim (by omega), fun c => ?_⟩) | (refine ⟨fun c => ?_, fun c => False.elim (by omega)⟩) | (refine ⟨by (first | assumption | rfl | (exact Nat.le_of_ble_eq_true rfl) | (exact ⟨fun h01 => absurd h01 (by decide), by first | rfl | assumption⟩) | (exact ⟨fun _ => by decide, by first | rfl | assumption⟩) | (exact ⟨by assumption, by omega, by omega⟩) | (unfold inI; omega) | omega), ?_⟩; conv => whnf) | (refine ⟨fun c => ?_, fun c => ?_⟩) | (intro c) | fail))
theorem law_loop {X : Int → Int} {XL : Int} {d : Nat} {Q : RetP} (hd : 30 ≤ d) (h0 : 0 ≤ XL) (h1 : XL ≤ 3072) (hX : ∀ j, inI (X j)) (hQ : ∀ h, Q (some (vI 1)) h) : ∀ (n : Nat) (i K : Int) (h : Mem), 0 ≤ i → 0 ≤ K → i + 6 * n = 3078 → K + 25000 * n ≤ 20000000 → Inv K h → Ex (WP X XL d) KL_law (growM 353) Q 18 [some (vR 900000), some (vR 0), some (vR 127), some (vI i)] [] h := by
  intro n; induction n with
  | zero => intro i K h a b c e hI; exact lw_end hd hI.sh.1 (by omega) (hQ h)
  | succ n ih =>
    intro i K h a b c e hI
    by_cases g : i + 6 ≤ XL
    · exact lw_18 hd hI (by omega) ⟨a, g, h1⟩ hX (fun h2 g2 hI2 => lw_nx (by omega) (ih (i + 6) (K + 25000) h2 (by omega) (by omega) (by omega) (by omega) hI2))
    · exact lw_end hd hI.sh.1 (by omega) (hQ h)
def gEq : List ((Nat × Int) × (Nat × Int)) := [((0, 0), (127, 2)), ((0, 1), (127, 3)), ((0, 2), (127, 4)), ((10, 3), (127, 16)), ((10, 4), (127, 17)), ((0, 18), (127, 37))]
def gC : List (Nat × Int × Int) := [(15, 0, 0), (15, 5, 0), (15, 13, 0), (15, 16, 3), (15, 17, 0), (15, 18, 2), (15, 19, 0), (15, 4, 0), (41, 0, 0), (10, 0, 0), (127, 10, 0), (0, 13, 0), (127, 38, 0)]
def chM (m : M1) : Bool := (m.1 == growM 353) && ((rfL.all (fun q => lkR m.2.2 q.1 q.2.1 == q.2.2)) && ((([(7, 15), (8, 28), (9, 41), (10, 48)] : List (Int × Nat)).all (fun q => lkR m.2.2 0 q.1 == q.2)) && ((gC.all (fun q => lkG m.2.1 q.1 q.2.1 == q.2.2)) && ((gEq.all (fun q => lkG m.2.1 q.1.1 q.1.2 == lkG m.2.1 q.2.1 q.2.2)) && (((List.range 90).all (fun j => lkG m.2.1 128 j == plain0 j)) && (((List.range 60).all (fun j => lkG m.2.1 125 j == 0 && lkG m.2.1 143 j == 0)) && (((List.range 5).all (fun j => lkG m.2.1 126 j == lkG m.2.1 145 j)) && ((List.range 4).all (fun j => (lkG m.2.1 (tO j) 1 == 0 && lkG m.2.1 (tO j) 2 == -1) && (lkG m.2.1 130 j == 0 && lkG m.2.1 131 j == -1))))))))))
def lawCk : Bool := match lawB with
  | some q => chM q.2.2.2
  | none => false
set_option maxRecDepth 100000 in
theorem lawCk_1 : lawCk = true := by decide +kernel
theorem rng {p : Nat → Bool} {n : Nat} (h : (List.range n).all p = true) {j : Int} (a : 0 ≤ j) (b : j < n) : p j.toNat = true := List.all_eq_true.mp h _ (List.mem_range.mpr (by omega))
theorem chM_i {m : M1} (h : chM m = true) : Inv 0 (ab m) := by
  unfold chM at h
  simp only [Bool.and_eq_true] at h
  obtain ⟨c1, c2, c3, c4, c5, c6, c7, c8, c9⟩ := h
  have hS : Shp (ab m) := ⟨beq_iff_eq.mp c1, fun q hq => beq_iff_eq.mp (List.all_eq_true.mp c2 q hq)⟩
  have r : ∀ i t, (i, t) ∈ ([(7, 15), (8, 28), (9, 41), (10, 48)] : List (Int × Nat)) → gR (ab m) 0 i = t := fun i t q => beq_iff_eq.mp (List.all_eq_true.mp c3 (i, t) q)
  have g : ∀ r i z, (r, i, z) ∈ gC → gG (ab m) r i = z := fun r i z q => beq_iff_eq.mp (List.all_eq_true.mp c4 (r, i, z) q)
  have e : ∀ r i s j, ((r, i), (s, j)) ∈ gEq → gG (ab m) r i = gG (ab m) s j := fun r i s j q => beq_iff_eq.mp (List.all_eq_true.mp c5 ((r, i), (s, j)) q)
  have g6 : ∀ j : Int, 0 ≤ j → j < 90 → gG (ab m) 128 j = plain0 j := fun j a b => by
    have := beq_iff_eq.mp (rng c6 a b)
    rw [Int.toNat_of_nonneg a] at this
    exact this
  have g7 : ∀ j : Int, 0 ≤ j → j < 60 → gG (ab m) 125 j = 0 ∧ gG (ab m) 143 j = 0 := fun j a b => by
    have := rng c7 a b
    rw [Int.toNat_of_nonneg a, Bool.and_eq_true] at this
    exact ⟨beq_iff_eq.mp this.1, beq_iff_eq.mp this.2⟩
  have g8 : ∀ j : Int, 0 ≤ j → j < 5 → gG (ab m) 126 j = gG (ab m) 145 j := fun j a b => by
    have := beq_iff_eq.mp (rng c8 a b)
    rw [Int.toNat_of_nonneg a] at this
    exact this
  have g9 : ∀ j : Int, 0 ≤ j → j < 4 → (gG (ab m) (tO j) 1 = 0 ∧ gG (ab m) (tO j) 2 = -1) ∧ gG (ab m) 130 j = 0 ∧ gG (ab m) 131 j = -1 := fun j a b => by
    have := rng c9 a b
    rw [Int.toNat_of_nonneg a, Bool.and_eq_true, Bool.and_eq_true, Bool.and_eq_true] at this
    exact ⟨⟨beq_iff_eq.mp this.1.1, beq_iff_eq.mp this.1.2⟩, beq_iff_eq.mp this.2.1, beq_iff_eq.mp this.2.2⟩
  clear c1 c2 c3 c4 c5 c6 c7 c8 c9
  have p := plain0_c
  obtain ⟨p0, p1, p2, p6, p7⟩ := plain0_v
  have hV : Vr 0 (ab m) 15 plain0 := by
    refine ⟨hS.ok15, ⟨⟨?_, ?_, ?_, ?_, ?_, ?_, ?_, ?_⟩, fun a x y => by omega, fun a x y => by omega, fun a x y => by omega⟩, clr_ok p (by omega)⟩
    · rw [p.1]; exact g _ _ _ (by decide)
    · rw [p.2.1]; exact g _ _ _ (by decide)
    · rw [p.2.2.1]; exact g _ _ _ (by decide)
    · rw [p.2.2.2.1]; exact g _ _ _ (by decide)
    · rw [p.2.2.2.2.1]; exact g _ _ _ (by decide)
    · rw [p.2.2.2.2.2.1]; exact g _ _ _ (by decide)
    · rw [p.2.2.2.2.2.2.1]; exact g _ _ _ (by decide)
    · rw [p.2.2.2.2.2.2.2]; exact g _ _ _ (by decide)
  obtain ⟨s1, s2, s3, s4⟩ := hS.tt
  obtain ⟨s5, s6⟩ := hS.tu
  refine ⟨15, 28, 41, 48, plain0, hS, by omega, ⟨r _ _ (by decide), r _ _ (by decide), r _ _ (by decide), r _ _ (by decide)⟩, ⟨hV, fun j a b => by rw [show (0 : Int) + j = j by omega]; exact g6 j a b, by omega, fun i a b => by omega, Or.inl ⟨g _ _ _ (by decide), p7⟩⟩, ⟨e _ _ _ _ (by decide), e _ _ _ _ (by decide), e _ _ _ _ (by decide)⟩, ⟨fun _ => 0, fun _ => -1, fun _ _ => 0, ⟨hS.tc.1, fun t a b => ?_⟩, ⟨hS.tr, fun t a b => ⟨(g9 t a b).2.1, (g9 t a b).2.2, fun k x (y : k < -1) => by omega⟩⟩, fun t a b => ⟨⟨by dsimp only; omega, by dsimp only; omega⟩, by dsimp only; omega, by dsimp only; omega⟩⟩, ⟨0, fun _ => 0, ⟨s1, s2, s3, s4, g _ _ _ (by decide), by omega, fun i a b => by omega⟩, ⟨s5, s6, g _ _ _ (by decide), by omega, fun i a b => by omega⟩⟩, ⟨e _ _ _ _ (by decide), e _ _ _ _ (by decide)⟩, ⟨fun _ => 0, fun o a b => ⟨(g7 o a b).1, by dsimp only; omega, by dsimp only; omega⟩, fun o a b => ⟨(g7 o a b).2, by dsimp only; omega, by dsimp only; omega⟩⟩, ⟨e _ _ _ _ (by decide), g8⟩, ⟨0, ⟨g _ _ _ (by decide), g _ _ _ (by decide), by omega, by omega⟩, fun i a b => by omega⟩⟩
  obtain ⟨x1, x2, x3, x4, x5⟩ := hS.tc.2 t a b
  exact ⟨x1, x2, x3, x4, x5, (g9 t a b).1.1, (g9 t a b).1.2, fun k x (y : k < -1) => by omega⟩
theorem law_inv {q : Nat × Lo × List MV × M1} (h : lawB = some q) : Inv 0 (ab q.2.2.2) := by
  have := lawCk_1
  unfold lawCk at this
  rw [h] at this
  exact chM_i this
theorem law_run {X : Int → Int} {XL : Int} {e : Nat} {C : Cl1} {Q : RetP} {q : Nat × Lo × List MV × M1} (hC : okC C (WP X XL e)) (hm : blkJ C (growM 353) (lkB KL_law 0) (entL [vR 900000] 4) [] ([], [], []) = some q) (hJ : Ex (WP X XL e) KL_law (growM 353) Q q.1 q.2.1 q.2.2.1 (ab q.2.2.2)) : WP X XL (e + 1) 353 [vR 900000] (ab ([], [], [])) Q := by
  refine eL_law (d := e + 1) (by omega) (Ex_step ?_)
  exact blkJ_k hC (lkB KL_law 0) (entL [vR 900000] 4) [] ([], [], []) q hm hJ
theorem lawOk : LawOk := by
  intro X XL h0 h1 hX
  obtain ⟨m, hm⟩ := lawB_1
  have hI := law_inv hm
  unfold lawB at hm
  have hl := law_loop (X := X) (XL := XL) (d := 40) (Q := fun r _ => r = some (vI 1)) (by omega) h0 h1 hX (fun _ => rfl) 513 0 0 (ab m) (by omega) (by omega) (by decide) (by decide) hI
  exact law_run (e := 40) (call1_k 40) hm hl
