/-! LEVEL 2: come -/
-- come
set_option maxHeartbeats 4000000 in
theorem c_come {X : Int → Int} {XL : Int} {d : Nat} {h : Mem} {Q : RetP} {K : Int} {A : Int → Int} {n : Nat} {w : Int} (hd : 9 ≤ d) (hC : Cls K n h A) (hK : K + 25000 ≤ 30000000) (hq0 : ¬ (1 ≤ w ∧ w ≤ 40) → Q (some (vI (-1))) (sG h 0 0 1)) (hq4 : (1 ≤ w ∧ w ≤ 40) → 6 ≤ A 1 → Q (some (vI (-1))) (sG h 0 0 4)) (hq : (1 ≤ w ∧ w ≤ 40) → A 1 < 6 → ∀ h', Vr K h' n (perA A w) → Fr (VQ n) h h' → (∀ i, gG h' (n + 4) i = if i = A 1 then 0 else gG h (n + 4) i) → Q (some (vI (A 1))) (sG h' 0 0 0)) (hn : 1 ≤ n) : WP X XL d 139 [vR 0, vI w] h Q := by
  obtain ⟨⟨k00, r7, hT⟩, hV⟩ := id hC; have kn := hV.1.1; have hA := hV.2.2
  have b1 := hA.2.1
  have g5 := hV.2.1.1.2.1
  refine eX9_come (by omega) ?_
  by_cases hp : 1 ≤ w ∧ w ≤ 40
  · by_cases ho : A 1 < 6
    · have hq := hq hp ho
      (repeat' (first | (rw [r7]) | (refine w_within (by omega) (fun c => ?_) (fun c => False.elim (by omega))) | (refine w_within (by omega) (fun c => False.elim (by omega)) (fun c => ?_)) | (refine w_within (by omega) (fun c => ?_) (fun c => ?_)) | (rw [r71]) | (rw [g01]) | (refine w_addPerson (by omega) hV hT ho (by omega) (by omega) (fun h1 hV1 fr1 nm1 => ?_); have k1 := (kd_fr fr1 0).trans k00; have g1 := fr1.1; have g01 : gG h1 n 5 = A 1 + 1 := hV1.2.1.1.2.1; have r71 : gR h1 0 7 = n := (gR_fr fr1 0 7).trans r7; have kn1 := hV1.1.1) | (refine w_given (by omega) k1 ?_) | (refine Ex_step ?_; conv => whnf) | (refine ⟨?_, trivial⟩) | (refine (show den _ _ _ _ _ _ _ _ from ?_); conv => whnf) | (refine ⟨by (first | assumption | rfl | (exact Nat.le_of_ble_eq_true rfl) | (exact ⟨fun h01 => absurd h01 (by decide), by first | rfl | assumption⟩) | (exact ⟨fun _ => by decide, by first | rfl | assumption⟩) | (exact ⟨by assumption, by omega, by omega⟩) | (unfold inI; omega) | omega), ?_⟩; conv => whnf) | (refine ⟨fun c => False.elim (by omega), fun c => ?_⟩) | (refine ⟨fun c => ?_, fun c => False.elim (by omega)⟩) | (refine ⟨fun c => ?_, fun c => ?_⟩) | (intro c) | fail))
      exact fin3 (by omega) (hq h1 hV1 fr1 nm1)
    · have hq := hq4 hp (by omega)
      (repeat' (first | (rw [r7]) | (refine w_within (by omega) (fun c => ?_) (fun c => False.elim (by omega))) | (refine w_within (by omega) (fun c => False.elim (by omega)) (fun c => ?_)) | (refine w_within (by omega) (fun c => ?_) (fun c => ?_)) | (refine w_given (by omega) k00 ?_) | (refine w_none (by omega) k00 ?_) | (refine Ex_step ?_; conv => whnf) | (refine ⟨?_, trivial⟩) | (refine (show den _ _ _ _ _ _ _ _ from ?_); conv => whnf) | (refine ⟨by (first | assumption | rfl | (exact Nat.le_of_ble_eq_true rfl) | (exact ⟨fun h01 => absurd h01 (by decide), by first | rfl | assumption⟩) | (exact ⟨fun _ => by decide, by first | rfl | assumption⟩) | (exact ⟨by assumption, by omega, by omega⟩) | (unfold inI; omega) | omega), ?_⟩; conv => whnf) | (refine ⟨fun c => False.elim (by omega), fun c => ?_⟩) | (refine ⟨fun c => ?_, fun c => False.elim (by omega)⟩) | (refine ⟨fun c => ?_, fun c => ?_⟩) | (intro c) | fail))
      exact hq
  · have hq := hq0 hp
    (repeat' (first | (rw [r7]) | (refine w_within (by omega) (fun c => ?_) (fun c => False.elim (by omega))) | (refine w_within (by omega) (fun c => False.elim (by omega)) (fun c => ?_)) | (refine w_within (by omega) (fun c => ?_) (fun c => ?_)) | (refine w_given (by omega) k00 ?_) | (refine w_none (by omega) k00 ?_) | (refine Ex_step ?_; conv => whnf) | (refine ⟨?_, trivial⟩) | (refine (show den _ _ _ _ _ _ _ _ from ?_); conv => whnf) | (refine ⟨by (first | assumption | rfl | (exact Nat.le_of_ble_eq_true rfl) | (exact ⟨fun h01 => absurd h01 (by decide), by first | rfl | assumption⟩) | (exact ⟨fun _ => by decide, by first | rfl | assumption⟩) | (exact ⟨by assumption, by omega, by omega⟩) | (unfold inI; omega) | omega), ?_⟩; conv => whnf) | (refine ⟨fun c => False.elim (by omega), fun c => ?_⟩) | (refine ⟨fun c => ?_, fun c => False.elim (by omega)⟩) | (refine ⟨fun c => ?_, fun c => ?_⟩) | (intro c) | fail))
    exact hq
theorem per_c {A B : Int → Int} {w : Int} (h0 : 0 ≤ A 1) (hB : ∀ j, B j = if j = 1 then A 1 + 1 else if 37 + 6 * A 1 ≤ j ∧ j < 37 + 6 * A 1 + 6 then 0 else A j) : pu (pu B (37 + 6 * A 1) w) (37 + 6 * A 1 + 1) 1 = perA A w := by
  funext j
  unfold perA pu
  rw [hB j]
  (repeat' split) <;> first | rfl | (exfalso; omega) | omega
set_option maxHeartbeats 4000000 in
theorem m_come {X : Int → Int} {XL : Int} {d : Nat} {h : Mem} {Q : RetP} {K : Int} {A : Int → Int} {w : Int} (hd : 9 ≤ d) (hR : Rr K h A) (r1 : gR h 127 1 = 129) (kn : kd h 129 = 101) (lnn : ln h 129 = 36) (hq0 : ¬ (1 ≤ w ∧ w ≤ 40) → Q (some (vI (-1))) (sG h 127 2 1)) (hq4 : (1 ≤ w ∧ w ≤ 40) → 6 ≤ A 1 → Q (some (vI (-1))) (sG h 127 2 4)) (hq : (1 ≤ w ∧ w ≤ 40) → A 1 < 6 → ∀ h', Rr K h' (perA A w) → FrA h h' → Q (some (vI (A 1))) (sG (sG h' 129 (A 1) 0) 127 2 0)) : WP X XL d 279 [vR 127, vI w] h Q := by
  have kq := hR.1.1
  have hA := hR.2.2
  have b1 := hA.2.1
  obtain ⟨⟨-, r0, kt, lt⟩, eA, -⟩ := id hR
  refine eX10_come (by omega) ?_
  by_cases hp : 1 ≤ w ∧ w ≤ 40
  · by_cases ho : A 1 < 6
    · have hq := hq hp ho
      have loop : ∀ (k : Nat) (i : Int) (hj : Mem) (B : Int → Int), (6 - i).toNat = k → 0 ≤ i → i ≤ 6 → Rz hj B → FrA h hj → (∀ j, B j = if j = 1 then A 1 + 1 else if 37 + 6 * A 1 ≤ j ∧ j < 37 + 6 * A 1 + i then 0 else A j) → Ex (WP X XL (d - 1)) KX10_come h.1 Q 49 [some (vR 127), some (vI w), some (vI (A 1)), some (vI i)] [] hj := by
        intro k; induction k with
        | zero =>
          intro i hj B hk h0 h1 hz fj hB
          obtain rfl : i = 6 := by omega
          obtain ⟨⟨kq, r0, kt, lt⟩, eA⟩ := id hz
          have y1 := (gR_fr fj.1 127 1).trans r1
          have yk := (kd_fr fj.1 129).trans kn
          have yl := (ln_fr fj.1 129).trans lnn
          have gj := fj.1.1
          (repeat' (first | (refine r_personRow (by omega) (by omega) ?_) | (refine r_gives (by omega) kq ?_) | (rw [y1]) | (rw [show gR (sG _ _ _ _) 127 1 = 129 from y1]) | (refine ⟨⟨yk, by omega, Int.lt_of_lt_of_le (by omega : _ < (36 : Int)) (Int.le_of_eq yl.symm)⟩, ?_⟩; conv => whnf) | (refine Ex_step ?_; conv => whnf) | (refine ⟨?_, trivial⟩) | (refine (show den _ _ _ _ _ _ _ _ from ?_); conv => whnf) | (refine ⟨by (first | assumption | rfl | (exact Nat.le_of_ble_eq_true rfl) | (exact ⟨fun h01 => absurd h01 (by decide), by first | rfl | assumption | trivial⟩) | (exact ⟨fun _ => by decide, by first | rfl | assumption | trivial⟩) | (exact ⟨kt, by omega, Int.lt_of_lt_of_le (by omega : _ < (3198 : Int)) (Int.le_of_eq lt.symm)⟩) | (unfold inI; omega) | omega), ?_⟩; conv => whnf; try simp (disch := omega) only [r0, gR_sG, g_same, g_ne, eA]) | (refine ⟨fun c => False.elim (by omega), fun c => ?_⟩) | (refine ⟨fun c => ?_, fun c => False.elim (by omega)⟩) | (refine ⟨fun c => ?_, fun c => ?_⟩) | (intro c) | fail))
          exact hq _ (hz.put.put.ok (per_c b1.1 hB) (per_ok hA ho (by omega) (by omega))) ((fj.sG (by omega)).sG (by omega))
        | succ k ih =>
          intro i hj B hk h0 h1 hz fj hB
          obtain ⟨⟨kq, r0, kt, lt⟩, eA⟩ := id hz
          have ih2 := ih (i + 1) (sG hj 128 (37 + 6 * A 1 + i) 0) (pu B (37 + 6 * A 1 + i) 0) (by omega) (by omega) (by omega) hz.put (fj.sG (by omega)) (fun j => by
            unfold pu
            rw [hB j]
            (repeat' split) <;> first | rfl | (exfalso; omega) | omega)
          refine Ex_step ?_; conv => whnf
          (repeat' (first | (exact ih2) | (refine r_personRow (by omega) (by omega) ?_) | (refine Ex_step ?_; conv => whnf) | (refine ⟨?_, trivial⟩) | (refine (show den _ _ _ _ _ _ _ _ from ?_); conv => whnf) | (refine ⟨by (first | assumption | rfl | (exact Nat.le_of_ble_eq_true rfl) | (exact ⟨fun h01 => absurd h01 (by decide), by first | rfl | assumption | trivial⟩) | (exact ⟨fun _ => by decide, by first | rfl | assumption | trivial⟩) | (exact ⟨kt, by omega, Int.lt_of_lt_of_le (by omega : _ < (3198 : Int)) (Int.le_of_eq lt.symm)⟩) | (unfold inI; omega) | omega), ?_⟩; conv => whnf; try simp (disch := omega) only [r0, gR_sG, g_same, g_ne, eA]) | (refine ⟨fun c => False.elim (by omega), fun c => ?_⟩) | (refine ⟨fun c => ?_, fun c => False.elim (by omega)⟩) | (refine ⟨fun c => ?_, fun c => ?_⟩) | (intro c) | fail))
      have l0 := loop _ 0 (sG h 128 1 (A 1 + 1)) (pu A 1 (A 1 + 1)) rfl (by omega) (by omega) hR.z.put (FrA.refl.sG (by omega)) (fun j => by
        unfold pu
        (repeat' split) <;> first | rfl | (exfalso; omega) | omega)
      (repeat' (first | (exact l0) | (refine r_isFrom (by omega) (fun c => ?_) (fun c => False.elim (by omega))) | (refine r_isFrom (by omega) (fun c => False.elim (by omega)) (fun c => ?_)) | (refine r_isFrom (by omega) (fun c => ?_) (fun c => ?_)) | (refine Ex_step ?_; conv => whnf) | (refine ⟨?_, trivial⟩) | (refine (show den _ _ _ _ _ _ _ _ from ?_); conv => whnf) | (refine ⟨by (first | assumption | rfl | (exact Nat.le_of_ble_eq_true rfl) | (exact ⟨fun h01 => absurd h01 (by decide), by first | rfl | assumption | trivial⟩) | (exact ⟨fun _ => by decide, by first | rfl | assumption | trivial⟩) | (exact ⟨kt, by omega, Int.lt_of_lt_of_le (by omega : _ < (3198 : Int)) (Int.le_of_eq lt.symm)⟩) | (unfold inI; omega) | omega), ?_⟩; conv => whnf; try simp (disch := omega) only [r0, gR_sG, g_same, g_ne, eA]) | (refine ⟨fun c => False.elim (by omega), fun c => ?_⟩) | (refine ⟨fun c => ?_, fun c => False.elim (by omega)⟩) | (refine ⟨fun c => ?_, fun c => ?_⟩) | (intro c) | fail))
    · have hq := hq4 hp (by omega)
      (repeat' (first | (refine r_isFrom (by omega) (fun c => ?_) (fun c => False.elim (by omega))) | (refine r_isFrom (by omega) (fun c => False.elim (by omega)) (fun c => ?_)) | (refine r_isFrom (by omega) (fun c => ?_) (fun c => ?_)) | (refine r_gives (by omega) kq ?_) | (refine r_refuse (by omega) kq ?_) | (refine Ex_step ?_; conv => whnf) | (refine ⟨?_, trivial⟩) | (refine (show den _ _ _ _ _ _ _ _ from ?_); conv => whnf) | (refine ⟨by (first | assumption | rfl | (exact Nat.le_of_ble_eq_true rfl) | (exact ⟨fun h01 => absurd h01 (by decide), by first | rfl | assumption | trivial⟩) | (exact ⟨fun _ => by decide, by first | rfl | assumption | trivial⟩) | (exact ⟨kt, by omega, Int.lt_of_lt_of_le (by omega : _ < (3198 : Int)) (Int.le_of_eq lt.symm)⟩) | (unfold inI; omega) | omega), ?_⟩; conv => whnf; try simp (disch := omega) only [r0, gR_sG, g_same, g_ne, eA]) | (refine ⟨fun c => False.elim (by omega), fun c => ?_⟩) | (refine ⟨fun c => ?_, fun c => False.elim (by omega)⟩) | (refine ⟨fun c => ?_, fun c => ?_⟩) | (intro c) | fail))
      exact hq
  · have hq := hq0 hp
    (repeat' (first | (refine r_isFrom (by omega) (fun c => ?_) (fun c => False.elim (by omega))) | (refine r_isFrom (by omega) (fun c => False.elim (by omega)) (fun c => ?_)) | (refine r_isFrom (by omega) (fun c => ?_) (fun c => ?_)) | (refine r_gives (by omega) kq ?_) | (refine r_refuse (by omega) kq ?_) | (refine Ex_step ?_; conv => whnf) | (refine ⟨?_, trivial⟩) | (refine (show den _ _ _ _ _ _ _ _ from ?_); conv => whnf) | (refine ⟨by (first | assumption | rfl | (exact Nat.le_of_ble_eq_true rfl) | (exact ⟨fun h01 => absurd h01 (by decide), by first | rfl | assumption | trivial⟩) | (exact ⟨fun _ => by decide, by first | rfl | assumption | trivial⟩) | (exact ⟨kt, by omega, Int.lt_of_lt_of_le (by omega : _ < (3198 : Int)) (Int.le_of_eq lt.symm)⟩) | (unfold inI; omega) | omega), ?_⟩; conv => whnf; try simp (disch := omega) only [r0, gR_sG, g_same, g_ne, eA]) | (refine ⟨fun c => False.elim (by omega), fun c => ?_⟩) | (refine ⟨fun c => ?_, fun c => False.elim (by omega)⟩) | (refine ⟨fun c => ?_, fun c => ?_⟩) | (intro c) | fail))
    exact hq
