/-! LEVEL 2: decades as they are lived: the reference, a step's deed -/
set_option maxHeartbeats 4000000 in
theorem lv_deed {X : Int → Int} {XL : Int} {d : Nat} {h : Mem} {Q : RetP} {K : Int} {A : Int → Int} {h1 : Mem} {R : Int → Int → Int} {N sd fe pd k x dn mi : Int} {L : Int → Int} (hd : 14 ≤ d) (hR : Rr K h1 A) (hK : K + 83 ≤ 30000000) (g1 : h1.1 = h.1) (hX : RK h1) (hRS : RSt h1 R N) (hN : 0 ≤ N ∧ N ≤ 60) (hk : 0 ≤ k ∧ k < N) (hv : VRow A R N k) (hw23 : ¬ R k 0 = 23) (hx : gG h1 127 32 = x) (hx0 : 0 ≤ x ∧ x < 65536) (hdn : gG h1 127 33 = dn) (hdb : 0 ≤ dn ∧ dn < 300) (hmi : gG h1 144 0 = mi) (hmb : 0 ≤ mi ∧ mi ≤ 300) (ht : 0 ≤ gG h1 144 1 ∧ gG h1 144 1 ≤ 1000000) (hLr : LRr h1 L) (next : ∀ h4, Rr (K + 83) h4 (dsR A x (R k 0) (R k 1) (R k 2)).1 → FrY h1 h4 → gG h4 127 32 = (dsR A x (R k 0) (R k 1) (R k 2)).2.1 → gG h4 127 33 = dn + 1 → gG h4 144 0 = mi + (1 - b01 (dsR A x (R k 0) (R k 1) (R k 2)).2.2) → gG h4 144 1 = gG h1 144 1 + ((dsR A x (R k 0) (R k 1) (R k 2)).1 6 - A 6) → gG h4 144 4 = gG h1 144 4 → LRr h4 (if R k 0 = 21 then pu L k (R k 1 - 1) else L) → Ex (WP X XL (d - 1)) KX10_lives h.1 Q 174 [some (vR 127), some (vI sd), some (vI fe), some (vI pd), some (vI k), some (vI (90 + 6 * k))] [] h4) : Ex (WP X XL (d - 1)) KX10_lives h.1 Q 96 [some (vR 127), some (vI sd), some (vI fe), some (vI pd), some (vI k), some (vI (90 + 6 * k))] [] h1 := by
  obtain ⟨⟨kq, r0, kt, lt⟩, eA, hA⟩ := id hR
  obtain ⟨⟨x1, xk1, xl1⟩, ⟨x8, xk8, xl8⟩, ⟨x9, xk9, xl9⟩, ⟨x21, xk21, xl21⟩, ⟨x25, xk25, xl25⟩, ⟨x26, xk26, xl26⟩, ⟨x27, xk27, xl27⟩, ⟨x28, xk28, xl28⟩, ⟨x29, xk29, xl29⟩, ⟨x30, xk30, xl30⟩, ⟨x31, xk31, xl31⟩, ⟨x34, xk34, xl34⟩, ⟨x35, xk35, xl35⟩, ⟨x36, xk36, xl36⟩⟩ := id hX
  have e0 : gG h1 128 (90 + 6 * k) = R k 0 := by
    have := hRS.2 k 0 hk.1 hk.2 (by omega) (by omega)
    rw [Int.add_zero] at this
    exact this
  have e1 := hRS.2 k 1 hk.1 hk.2 (by omega) (by omega)
  have e2 := hRS.2 k 2 hk.1 hk.2 (by omega) (by omega)
  have hRf : Rr K (sG h1 127 33 (dn + 1)) A := hR.f
  have q128 : ∀ i, gG (sG h1 127 33 (dn + 1)) 128 i = gG h1 128 i := fun i => by rw [gG_sG, if_neg (by omega)]
  have q144 : ∀ i, gG (sG h1 127 33 (dn + 1)) 144 i = gG h1 144 i := fun i => by rw [gG_sG, if_neg (by omega)]
  have m0 : gG (sG h1 127 33 (dn + 1)) 144 0 = mi := (q144 0).trans hmi
  have e0f := (q128 (90 + 6 * k)).trans e0
  have x35f : gR (sG h1 127 33 (dn + 1)) 127 35 = 144 := x35
  have w21 : ∀ (h2 h3 : Mem), h3 = sG h2 144 0 (mi + (1 - b01 (dsR A x (R k 0) (R k 1) (R k 2)).2.2)) → Rr (K + 83) h2 (dsR A x (R k 0) (R k 1) (R k 2)).1 → FrD (sG h1 127 33 (dn + 1)) h2 → gG h2 127 32 = (dsR A x (R k 0) (R k 1) (R k 2)).2.1 → gG h2 144 1 = gG (sG h1 127 33 (dn + 1)) 144 1 + ((dsR A x (R k 0) (R k 1) (R k 2)).1 6 - A 6) → (R k 0 = 21 → Ex (WP X XL (d - 1)) KX10_lives h.1 Q 174 [some (vR 127), some (vI sd), some (vI fe), some (vI pd), some (vI k), some (vI (90 + 6 * k))] [] (sG h3 143 k (R k 1 - 1))) ∧ (¬ R k 0 = 21 → Ex (WP X XL (d - 1)) KX10_lives h.1 Q 174 [some (vR 127), some (vI sd), some (vI fe), some (vI pd), some (vI k), some (vI (90 + 6 * k))] [] h3) := by
    intro h2 h3 e hR2 f2 q32 q1
    subst e
    have f12 : FrY h1 h2 := (FrY.refl.s (Or.inl ⟨rfl, Or.inr rfl⟩)).trans f2.Y
    have d33 : gG h2 127 33 = dn + 1 := by rw [f2.2.2 127 33 (by omega) (by omega) (by omega), g_same]
    have d4 : gG h2 144 4 = gG h1 144 4 := by rw [f2.2.2 144 4 (by omega) (by omega) (by omega)]; exact q144 4
    have l2 : ∀ o, gG h2 143 o = gG h1 143 o := fun o => by rw [f2.2.2 143 o (by omega) (by omega) (by omega), gG_sG, if_neg (by omega)]
    rw [q144] at q1
    have l3 : LRr (sG h2 144 0 (mi + (1 - b01 (dsR A x (R k 0) (R k 1) (R k 2)).2.2))) L := fun o a b => ⟨by rw [gG_sG, if_neg (by omega), l2]; exact (hLr o a b).1, (hLr o a b).2⟩
    constructor
    · intro c
      have n := next (sG (sG h2 144 0 (mi + (1 - b01 (dsR A x (R k 0) (R k 1) (R k 2)).2.2))) 143 k (R k 1 - 1)) ((hR2.o (by omega)).o (by omega)) ((f12.s (Or.inr (Or.inr rfl))).s (Or.inr (Or.inl rfl))) (by rw [gG_sG, if_neg (by omega), gG_sG, if_neg (by omega)]; exact q32) (by rw [gG_sG, if_neg (by omega), gG_sG, if_neg (by omega)]; exact d33) (by rw [gG_sG, if_neg (by omega), g_same]) (by rw [gG_sG, if_neg (by omega), g_ne (by omega)]; exact q1) (by rw [gG_sG, if_neg (by omega), g_ne (by omega)]; exact d4)
      rw [if_pos c] at n
      exact n (l3.p (by have := hv.2.2.2.1 c; omega))
    · intro c
      have n := next (sG h2 144 0 (mi + (1 - b01 (dsR A x (R k 0) (R k 1) (R k 2)).2.2))) (hR2.o (by omega)) (f12.s (Or.inr (Or.inr rfl))) (by rw [gG_sG, if_neg (by omega)]; exact q32) (by rw [gG_sG, if_neg (by omega)]; exact d33) g_same (by rw [g_ne (by omega)]; exact q1) (by rw [g_ne (by omega)]; exact d4)
      rw [if_neg c] at n
      exact n l3
  have hXf : RK (sG h1 127 33 (dn + 1)) := RK.eq (h := h1) (by exact rfl) (by exact rfl) hX
  have htf : 0 ≤ gG (sG h1 127 33 (dn + 1)) 144 1 ∧ gG (sG h1 127 33 (dn + 1)) 144 1 ≤ 1000000 := by rw [q144]; exact ht
  have hb1 : ¬ R k 0 = 21 ∨ (1 ≤ R k 1 ∧ R k 1 ≤ 99) := by by_cases c : R k 0 = 21; exact Or.inr (hv.2.2.2.1 c); exact Or.inl c
  have hb := b01_b (b := (dsR A x (R k 0) (R k 1) (R k 2)).2.2)
  have hxf : gG (sG h1 127 33 (dn + 1)) 127 32 = x := by rw [g_ne (by omega)]; exact hx
  (repeat' (first | (rw [hdn]) | (rw [gR_sG]) | (rw [r0]) | (rw [e0f]) | (rw [x35]) | (rw [m0]) | (refine ⟨⟨kt, by omega, Int.lt_of_lt_of_le (by omega : _ < (3198 : Int)) (Int.le_of_eq lt.symm)⟩, ?_⟩; conv => whnf) | (refine ⟨⟨xk35, by omega, Int.lt_of_lt_of_le (by omega : _ < (5 : Int)) (Int.le_of_eq xl35.symm)⟩, ?_⟩; conv => whnf) | (refine Ex_step ?_; conv => whnf) | (refine ⟨?_, trivial⟩) | (refine (show den _ _ _ _ _ _ _ _ from ?_); conv => whnf) | (refine ⟨fun c => False.elim (by omega), fun c => ?_⟩) | (refine ⟨fun c => ?_, fun c => False.elim (by omega)⟩) | (refine ⟨by (first | assumption | rfl | (exact Nat.le_of_ble_eq_true rfl) | (exact ⟨fun h01 => absurd h01 (by decide), by first | rfl | assumption⟩) | (exact ⟨fun _ => by decide, by first | rfl | assumption⟩) | (exact ⟨by assumption, by omega, by omega⟩) | (unfold inI; omega) | omega), ?_⟩; conv => whnf) | (refine ⟨fun c => ?_, fun c => ?_⟩) | (intro c) | fail))
  refine r_does (by omega) hRf hK hXf (by omega) e0f ((q128 _).trans e1) ((q128 _).trans e2) hxf hx0 hv.2.1 htf (fun h2 hR2 f2 q32 q1 => ?_)
  have kq2 := hR2.1.1
  have kt2 := hR2.1.2.2.1
  have lt2 := hR2.1.2.2.2
  have hX2 : RK h2 := hXf.eq f2.1 f2.2.1
  have y0 := hR2.1.2.1
  obtain ⟨-, -, -, -, -, -, -, -, -, -, -, ⟨y34, yk34, yl34⟩, ⟨y35, yk, yl⟩, -⟩ := id hX2
  have z0 : ∀ z, gG (sG h2 144 0 z) 128 (90 + 6 * k) = R k 0 := fun z => by rw [gG_sG, if_neg (by omega), f2.2.2 128 _ (by omega) (by omega) (by omega)]; exact e0f
  have z1 : ∀ z, gG (sG h2 144 0 z) 128 (90 + 6 * k + 1) = R k 1 := fun z => by rw [gG_sG, if_neg (by omega), f2.2.2 128 _ (by omega) (by omega) (by omega)]; exact (q128 _).trans e1
  (repeat' (first | (rw [gR_sG]) | (rw [y0]) | (rw [y34]) | (rw [z0]) | (rw [z1]) | (exact (w21 h2 _ (by rw [show mi + 1 = mi + (1 - b01 (dsR A x (R k 0) (R k 1) (R k 2)).2.2) by omega]) hR2 f2 q32 q1).1 (by assumption)) | (exact (w21 h2 _ (by rw [show mi + 1 = mi + (1 - b01 (dsR A x (R k 0) (R k 1) (R k 2)).2.2) by omega]) hR2 f2 q32 q1).2 (by assumption)) | (exact (w21 h2 _ (by rw [show mi + 0 = mi + (1 - b01 (dsR A x (R k 0) (R k 1) (R k 2)).2.2) by omega]) hR2 f2 q32 q1).1 (by assumption)) | (exact (w21 h2 _ (by rw [show mi + 0 = mi + (1 - b01 (dsR A x (R k 0) (R k 1) (R k 2)).2.2) by omega]) hR2 f2 q32 q1).2 (by assumption)) | (refine ⟨⟨kt2, by omega, Int.lt_of_lt_of_le (by omega : _ < (3198 : Int)) (Int.le_of_eq lt2.symm)⟩, ?_⟩; conv => whnf) | (refine ⟨⟨yk, by omega, Int.lt_of_lt_of_le (by omega : _ < (5 : Int)) (Int.le_of_eq yl.symm)⟩, ?_⟩; conv => whnf) | (refine ⟨⟨yk34, by omega, Int.lt_of_lt_of_le (by omega : _ < (80 : Int)) (Int.le_of_eq yl34.symm)⟩, ?_⟩; conv => whnf) | (refine Ex_step ?_; conv => whnf) | (refine ⟨?_, trivial⟩) | (refine (show den _ _ _ _ _ _ _ _ from ?_); conv => whnf) | (refine ⟨fun c => False.elim (by omega), fun c => ?_⟩) | (refine ⟨fun c => ?_, fun c => False.elim (by omega)⟩) | (refine ⟨by (first | assumption | rfl | (exact Nat.le_of_ble_eq_true rfl) | (exact ⟨fun h01 => absurd h01 (by decide), by first | rfl | assumption⟩) | (exact ⟨fun _ => by decide, by first | rfl | assumption⟩) | (exact ⟨by assumption, by omega, by omega⟩) | (unfold inI; omega) | omega), ?_⟩; conv => whnf) | (refine ⟨fun c => ?_, fun c => ?_⟩) | (intro c) | fail))
