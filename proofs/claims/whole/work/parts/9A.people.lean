/-! LEVEL 2: texts: people of a Viaduct, the class -/
def vPerson (P : Int → Int) (n e : Int) (A N : Int → Int) : (Int × Int) ⊕ ((Int → Int) × Int) := if 6 ≤ A 1 then .inl (fltK P n e 6, tF P n e) else if ¬ tC P n (tE P n e) = 25 then .inl (fltK P n (tE P n e) 2, tF P n (tE P n e)) else if ¬ nmI (A 1) N (c32 (tW P n (tE P n e))) = -1 then .inl (fltK P n (tE P n e) 3, tF P n (tE P n e)) else bd (pTok P n (tE P n (tE P n e)) 8) (fun e2 => bd (pNum P n e2 1 40) (fun q => bd (pOpt P n q.2 9 9 (perA A q.1) (dbP (perA A q.1) (A 1))) (fun u => bd (pOpt P n u.2 10 9 u.1 (loP u.1 (A 1))) (fun w => bd (pOpt P n w.2 11 (A 0) w.1 (bhP w.1 (A 1))) (fun y => bd (pTok P n y.2 28) (fun e7 => .inr (y.1, e7)))))))
theorem FZ.n {v : Nat} {h h' : Mem} (a : FZ v h h') (hv : 15 ≤ v) (i : Int) : gG h' (v + 4) i = gG h (v + 4) i := a.2.2 (v + 4) i (by unfold VP; omega) (by omega) (by omega)
set_option maxHeartbeats 4000000 in
theorem w_takePerson {X : Int → Int} {XL : Int} {d : Nat} {h : Mem} {Q : RetP} {K : Int} {A : Int → Int} {v : Nat} {P : Int → Int} {n e : Int} {r : (Int × Int) ⊕ ((Int → Int) × Int)} (hd : 6 ≤ d) (hRd : Rd h) (hA : At h P n e 0) (he : tC P n e = 7) (hV : Vr K h v A) (hT : VAt h v) (hv : 15 ≤ v) (hr : vPerson P n e A (gG h (v + 4)) = r) (hq0 : ∀ x h', r = .inl x → FZf v h h' x → Q (some (vI 0)) h') (hq1 : ∀ A' e' h', r = .inr (A', e') → Nx h' P n e' → Vr K h' v A' → FZq v h h' → (∀ i, gG h' (v + 4) i = if i = A 1 then c32 (tW P n (tE P n e)) else gG h (v + 4) i) → Q (some (vI 1)) h') : WP X XL d 80 [vR 55, vR v] h Q := by
  have k10 := hA.X
  obtain ⟨k55, r55⟩ := id hRd
  have kv := hV.1.1
  have g5 := hV.2.1.1.2.1
  have b0 := hV.2.2.1
  have b1 := hV.2.2.2.1
  unfold vPerson at hr
  refine eX8_takePerson (by omega) ?_
  by_cases c9 : 6 ≤ A 1
  · rw [if_pos c9] at hr
    (repeat' (first | (rw [g5]) | (rw [r55]) | (refine Ex_step ?_; conv => whnf) | (refine ⟨?_, trivial⟩) | (refine (show den _ _ _ _ _ _ _ _ from ?_); conv => whnf) | (refine ⟨fun c => False.elim (by omega), fun c => ?_⟩) | (refine ⟨fun c => ?_, fun c => False.elim (by omega)⟩) | (refine ⟨by (first | assumption | rfl | (exact Nat.le_of_ble_eq_true rfl) | (exact ⟨fun h01 => absurd h01 (by decide), by first | rfl | assumption⟩) | (exact ⟨fun _ => by decide, by first | rfl | assumption⟩) | (exact ⟨by assumption, by omega, by omega⟩) | (unfold inI; omega) | omega), ?_⟩; conv => whnf) | (refine ⟨fun c => ?_, fun c => ?_⟩) | fail))
    refine k_refuse (by omega) hA hr (fun x h1 er ff => ?_)
    have q := hq0 x h1 er (FZ.refl.f ff)
    have g1 := ff.1
    (repeat' (first | (exact q) | (refine Ex_step ?_; conv => whnf) | (refine ⟨?_, trivial⟩) | (refine (show den _ _ _ _ _ _ _ _ from ?_); conv => whnf) | (refine ⟨fun c => False.elim (by omega), fun c => ?_⟩) | (refine ⟨fun c => ?_, fun c => False.elim (by omega)⟩) | (refine ⟨by (first | assumption | rfl | (exact Nat.le_of_ble_eq_true rfl) | (exact ⟨fun h01 => absurd h01 (by decide), by first | rfl | assumption⟩) | (exact ⟨fun _ => by decide, by first | rfl | assumption⟩) | (exact ⟨by assumption, by omega, by omega⟩) | (unfold inI; omega) | omega), ?_⟩; conv => whnf) | (refine ⟨fun c => ?_, fun c => ?_⟩) | (intro c) | fail))
  · rw [if_neg c9] at hr
    (repeat' (first | (rw [g5]) | (rw [r55]) | (refine Ex_step ?_; conv => whnf) | (refine ⟨?_, trivial⟩) | (refine (show den _ _ _ _ _ _ _ _ from ?_); conv => whnf) | (refine ⟨fun c => False.elim (by omega), fun c => ?_⟩) | (refine ⟨fun c => ?_, fun c => False.elim (by omega)⟩) | (refine ⟨by (first | assumption | rfl | (exact Nat.le_of_ble_eq_true rfl) | (exact ⟨fun h01 => absurd h01 (by decide), by first | rfl | assumption⟩) | (exact ⟨fun _ => by decide, by first | rfl | assumption⟩) | (exact ⟨by assumption, by omega, by omega⟩) | (unfold inI; omega) | omega), ?_⟩; conv => whnf) | (refine ⟨fun c => ?_, fun c => ?_⟩) | fail))
    refine w_advA (by omega) hA (by omega) (by rw [he]; unfold isE; omega) (fun h1 hA1 f1 => ?_)
    have z1 : FZ v h h1 := f1.Z
    have k10_1 := hA1.X; have r55_1 := (hRd.z z1.1 z1.2.1).2; have k55_1 := (hRd.z z1.1 z1.2.1).1
    have a1 := hA1.M.2.2.1
    have hV1 : Vr K h1 v A := hV.x hT hv f1
    have hT1 : VAt h1 v := hT.z z1.2.1
    have kv1 := hV1.1.1
    have en : gG h1 (gR h1 v 6) = gG h (v + 4) := by
      funext i
      rw [hT1.2.2.2.1]
      exact z1.n hv i
    by_cases c25 : tC P n (tE P n e) = 25
    · rw [if_neg (fun q => q c25)] at hr
      have ev : gG h1 10 2 = c32 (tW P n (tE P n e)) := hA1.M.2.2.2.2.1 (by omega)
      have pn : ∀ (d' : Nat) (Q' : RetP), 1 ≤ d' → Q' (some (vI (nmI (A 1) (gG h (v + 4)) (c32 (tW P n (tE P n e)))))) h1 → WP X XL d' 16 [vR v, vL (c32 (tW P n (tE P n e)))] h1 Q' := fun d' Q' x y => w_personNamed x hV1 (by rw [en]; exact y)
      by_cases cn : nmI (A 1) (gG h (v + 4)) (c32 (tW P n (tE P n e))) = -1
      · rw [if_neg (fun q => q cn)] at hr
        (repeat' (first | (rw [r55_1]) | (rw [a1]) | (rw [ev]) | (refine pn _ _ (by omega) ?_) | (refine Ex_step ?_; conv => whnf) | (refine ⟨?_, trivial⟩) | (refine (show den _ _ _ _ _ _ _ _ from ?_); conv => whnf) | (refine ⟨fun c => False.elim (by omega), fun c => ?_⟩) | (refine ⟨fun c => ?_, fun c => False.elim (by omega)⟩) | (refine ⟨by (first | assumption | rfl | (exact Nat.le_of_ble_eq_true rfl) | (exact ⟨fun h01 => absurd h01 (by decide), by first | rfl | assumption⟩) | (exact ⟨fun _ => by decide, by first | rfl | assumption⟩) | (exact ⟨by assumption, by omega, by omega⟩) | (unfold inI; omega) | omega), ?_⟩; conv => whnf) | (refine ⟨fun c => ?_, fun c => ?_⟩) | fail))
        refine w_advA (by omega) hA1 (by omega) (by rw [c25]; unfold isE; omega) (fun h2 hA2 f2 => ?_)
        have z2 := z1.trans (v := v) f2.Z
        have k10_2 := hA2.X; have r55_2 := (hRd.z z2.1 z2.2.1).2; have k55_2 := (hRd.z z2.1 z2.2.1).1
        (repeat' (first | (rw [r55_2]) | (refine Ex_step ?_; conv => whnf) | (refine ⟨?_, trivial⟩) | (refine (show den _ _ _ _ _ _ _ _ from ?_); conv => whnf) | (refine ⟨fun c => False.elim (by omega), fun c => ?_⟩) | (refine ⟨fun c => ?_, fun c => False.elim (by omega)⟩) | (refine ⟨by (first | assumption | rfl | (exact Nat.le_of_ble_eq_true rfl) | (exact ⟨fun h01 => absurd h01 (by decide), by first | rfl | assumption⟩) | (exact ⟨fun _ => by decide, by first | rfl | assumption⟩) | (exact ⟨by assumption, by omega, by omega⟩) | (unfold inI; omega) | omega), ?_⟩; conv => whnf) | (refine ⟨fun c => ?_, fun c => ?_⟩) | fail))
        refine k_take (by omega) hA2 (by omega) (by unfold isE; omega) hr (fun x h3 er ff => ?_) (fun e3 h3 hr3 hA3 f3 => ?_)
        · have q := hq0 x h3 er (z2.f ff)
          have g3 := ff.1.trans z2.1
          (repeat' (first | (exact q) | (refine Ex_step ?_; conv => whnf) | (refine ⟨?_, trivial⟩) | (refine (show den _ _ _ _ _ _ _ _ from ?_); conv => whnf) | (refine ⟨fun c => False.elim (by omega), fun c => ?_⟩) | (refine ⟨fun c => ?_, fun c => False.elim (by omega)⟩) | (refine ⟨by (first | assumption | rfl | (exact Nat.le_of_ble_eq_true rfl) | (exact ⟨fun h01 => absurd h01 (by decide), by first | rfl | assumption⟩) | (exact ⟨fun _ => by decide, by first | rfl | assumption⟩) | (exact ⟨by assumption, by omega, by omega⟩) | (unfold inI; omega) | omega), ?_⟩; conv => whnf) | (refine ⟨fun c => ?_, fun c => ?_⟩) | (intro c) | fail))
        · have z3 := z2.trans (v := v) f3.Z
          have k10_3 := hA3.X; have r55_3 := (hRd.z z3.1 z3.2.1).2; have k55_3 := (hRd.z z3.1 z3.2.1).1
          (repeat' (first | (rw [r55_3]) | (refine Ex_step ?_; conv => whnf) | (refine ⟨?_, trivial⟩) | (refine (show den _ _ _ _ _ _ _ _ from ?_); conv => whnf) | (refine ⟨fun c => False.elim (by omega), fun c => ?_⟩) | (refine ⟨fun c => ?_, fun c => False.elim (by omega)⟩) | (refine ⟨by (first | assumption | rfl | (exact Nat.le_of_ble_eq_true rfl) | (exact ⟨fun h01 => absurd h01 (by decide), by first | rfl | assumption⟩) | (exact ⟨fun _ => by decide, by first | rfl | assumption⟩) | (exact ⟨by assumption, by omega, by omega⟩) | (unfold inI; omega) | omega), ?_⟩; conv => whnf) | (refine ⟨fun c => ?_, fun c => ?_⟩) | fail))
          refine k_num (by omega) hA3 (by omega) hr3 (fun x h4 er ff => ?_) (fun m e4 h4 m0 m0' m1 hr4 hA4 f4 => ?_)
          · have q := hq0 x h4 er (z3.f ff)
            have g4 := ff.1.trans z3.1
            (repeat' (first | (exact q) | (refine Ex_step ?_; conv => whnf) | (refine ⟨?_, trivial⟩) | (refine (show den _ _ _ _ _ _ _ _ from ?_); conv => whnf) | (refine ⟨fun c => False.elim (by omega), fun c => ?_⟩) | (refine ⟨fun c => ?_, fun c => False.elim (by omega)⟩) | (refine ⟨by (first | assumption | rfl | (exact Nat.le_of_ble_eq_true rfl) | (exact ⟨fun h01 => absurd h01 (by decide), by first | rfl | assumption⟩) | (exact ⟨fun _ => by decide, by first | rfl | assumption⟩) | (exact ⟨by assumption, by omega, by omega⟩) | (unfold inI; omega) | omega), ?_⟩; conv => whnf) | (refine ⟨fun c => ?_, fun c => ?_⟩) | (intro c) | fail))
          · have z4 := z3.trans (v := v) f4.Z
            have k10_4 := hA4.X; have r55_4 := (hRd.z z4.1 z4.2.1).2; have k55_4 := (hRd.z z4.1 z4.2.1).1
            have hT4 : VAt h4 v := hT.z z4.2.1
            have hV4 : Vr K h4 v A := ((hV1.x hT1 hv f2).x (hT.z z2.2.1) hv f3).x (hT.z z3.2.1) hv f4
            have kv4 := hV4.1.1
            have g54 := hV4.2.1.1.2.1
            (repeat' (first | (rw [g54]) | (refine w_addPerson (by omega) hV4 hT4 (by omega) m0' m1 (fun h5 hV5 f5 nm5 => ?_)) | (refine Ex_step ?_; conv => whnf) | (refine ⟨?_, trivial⟩) | (refine (show den _ _ _ _ _ _ _ _ from ?_); conv => whnf) | (refine ⟨fun c => False.elim (by omega), fun c => ?_⟩) | (refine ⟨fun c => ?_, fun c => False.elim (by omega)⟩) | (refine ⟨by (first | assumption | rfl | (exact Nat.le_of_ble_eq_true rfl) | (exact ⟨fun h01 => absurd h01 (by decide), by first | rfl | assumption⟩) | (exact ⟨fun _ => by decide, by first | rfl | assumption⟩) | (exact ⟨by assumption, by omega, by omega⟩) | (unfold inI; omega) | omega), ?_⟩; conv => whnf) | (refine ⟨fun c => ?_, fun c => ?_⟩) | fail))
            have z5 := z4.q.trans (v := v) f5.ZQ
            have hA5 := hA4.p hv f5
            have k10_5 := hA5.X; have r55_5 := (hRd.z z5.1 z5.2.1).2; have k55_5 := (hRd.z z5.1 z5.2.1).1
            have hT5 : VAt h5 v := hT.z z5.2.1
            have kv5 := hV5.1.1
            have q15 : perA A m 1 = A 1 + 1 := by unfold perA; rw [if_pos rfl]
            have q05 : perA A m 0 = A 0 := by unfold perA; rw [if_neg (by omega), if_neg (by omega), if_neg (by omega), if_neg (by omega)]
            have nm : ∀ i, gG h5 (v + 4) i = if i = A 1 then c32 (tW P n (tE P n e)) else gG h (v + 4) i := fun i => by rw [nm5 i, z4.n hv i]
            have t8 := hT5.2.2.2.2.2.1
            obtain ⟨-, -, -, -, -, -, ⟨kdb, ldb⟩, ⟨klo, llo⟩, ⟨kbh, lbh⟩, -⟩ := id hV5.1
            rw [hT5.2.2.2.2.2.1] at kdb ldb
            rw [hT5.2.2.2.2.2.2.1] at klo llo
            rw [hT5.2.2.2.2.2.2.2.1] at kbh lbh
            (repeat' (first | (rw [t8]) | (refine Ex_step ?_; conv => whnf) | (refine ⟨?_, trivial⟩) | (refine (show den _ _ _ _ _ _ _ _ from ?_); conv => whnf) | (refine ⟨fun c => False.elim (by omega), fun c => ?_⟩) | (refine ⟨fun c => ?_, fun c => False.elim (by omega)⟩) | (refine ⟨by (first | assumption | rfl | (exact Nat.le_of_ble_eq_true rfl) | (exact ⟨fun h01 => absurd h01 (by decide), by first | rfl | assumption⟩) | (exact ⟨fun _ => by decide, by first | rfl | assumption⟩) | (exact ⟨by assumption, by omega, by omega⟩) | (unfold inI; omega) | omega), ?_⟩; conv => whnf) | (refine ⟨fun c => ?_, fun c => ?_⟩) | fail))
            refine k_optV (by omega) (hRd.z z5.1 z5.2.1) hA5 (by omega) (by unfold isE; omega) (by omega) hV5 hT5 hv kdb ⟨b1.1, by rw [ldb]; omega⟩ (fun h' m' x1 x2 x3 x4 => dbP_v x1 x2 b1.1 (by omega) x3 x4) hr4 (fun x h6 er ff => ?_) (fun A6 e6 h6 c6 hc6 hr6 hA6 hV6 w6 f6 => ?_)
            · have q := hq0 x h6 er (z5.f ff)
              have g6 := ff.1.trans z5.1
              (repeat' (first | (exact q) | (refine Ex_step ?_; conv => whnf) | (refine ⟨?_, trivial⟩) | (refine (show den _ _ _ _ _ _ _ _ from ?_); conv => whnf) | (refine ⟨fun c => False.elim (by omega), fun c => ?_⟩) | (refine ⟨fun c => ?_, fun c => False.elim (by omega)⟩) | (refine ⟨by (first | assumption | rfl | (exact Nat.le_of_ble_eq_true rfl) | (exact ⟨fun h01 => absurd h01 (by decide), by first | rfl | assumption⟩) | (exact ⟨fun _ => by decide, by first | rfl | assumption⟩) | (exact ⟨by assumption, by omega, by omega⟩) | (unfold inI; omega) | omega), ?_⟩; conv => whnf) | (refine ⟨fun c => ?_, fun c => ?_⟩) | (intro c) | fail))
            · have z6 := z5.trans (v := v) f6.q
              have k10_6 := hA6.X; have r55_6 := (hRd.z z6.1 z6.2.1).2; have k55_6 := (hRd.z z6.1 z6.2.1).1
              have hT6 : VAt h6 v := hT.z z6.2.1
              have kv6 := hV6.1.1
              have t9 := hT6.2.2.2.2.2.2.1
              have q6 : A6 1 = A 1 + 1 ∧ A6 0 = A 0 := by
                rcases w6 with q | ⟨m', q⟩
                · rw [q]; exact ⟨q15, q05⟩
                · rw [q]; unfold dbP; rw [pu_n (by omega), pu_n (by omega)]; exact ⟨q15, q05⟩
              have klo6 : kd h6 (v + 7) = 100 := by unfold kd; rw [f6.1]; exact klo
              have llo6 : ln h6 (v + 7) = 6 := by unfold ln; rw [f6.1]; exact llo
              (repeat' (first | (rw [t9]) | (refine Ex_step ?_; conv => whnf) | (refine ⟨?_, trivial⟩) | (refine (show den _ _ _ _ _ _ _ _ from ?_); conv => whnf) | (refine ⟨fun c => False.elim (by omega), fun c => ?_⟩) | (refine ⟨fun c => ?_, fun c => False.elim (by omega)⟩) | (refine ⟨by (first | assumption | rfl | (exact Nat.le_of_ble_eq_true rfl) | (exact ⟨fun h01 => absurd h01 (by decide), by first | rfl | assumption⟩) | (exact ⟨fun _ => by decide, by first | rfl | assumption⟩) | (exact ⟨by assumption, by omega, by omega⟩) | (unfold inI; omega) | omega), ?_⟩; conv => whnf) | (refine ⟨fun c => ?_, fun c => ?_⟩) | fail))
              refine k_optV (by omega) (hRd.z z6.1 z6.2.1) hA6 (by omega) (by unfold isE; omega) (by omega) hV6 hT6 hv klo6 ⟨b1.1, by rw [llo6]; omega⟩ (fun h' m' x1 x2 x3 x4 => loP_v x1 x2 b1.1 (by omega) x3 x4) hr6 (fun x h7 er ff => ?_) (fun A7 e7 h7 c7 hc7 hr7 hA7 hV7 w7 f7 => ?_)
              · have q := hq0 x h7 er (z6.f ff)
                have g7 := ff.1.trans z6.1
                (repeat' (first | (exact q) | (refine Ex_step ?_; conv => whnf) | (refine ⟨?_, trivial⟩) | (refine (show den _ _ _ _ _ _ _ _ from ?_); conv => whnf) | (refine ⟨fun c => False.elim (by omega), fun c => ?_⟩) | (refine ⟨fun c => ?_, fun c => False.elim (by omega)⟩) | (refine ⟨by (first | assumption | rfl | (exact Nat.le_of_ble_eq_true rfl) | (exact ⟨fun h01 => absurd h01 (by decide), by first | rfl | assumption⟩) | (exact ⟨fun _ => by decide, by first | rfl | assumption⟩) | (exact ⟨by assumption, by omega, by omega⟩) | (unfold inI; omega) | omega), ?_⟩; conv => whnf) | (refine ⟨fun c => ?_, fun c => ?_⟩) | (intro c) | fail))
              · have z7 := z6.trans (v := v) f7.q
                have k10_7 := hA7.X; have r55_7 := (hRd.z z7.1 z7.2.1).2; have k55_7 := (hRd.z z7.1 z7.2.1).1
                have hT7 : VAt h7 v := hT.z z7.2.1
                have kv7 := hV7.1.1
                have t10 := hT7.2.2.2.2.2.2.2.1
                have q7 : A7 1 = A 1 + 1 ∧ A7 0 = A 0 := by
                  rcases w7 with q | ⟨m', q⟩
                  · rw [q]; exact q6
                  · rw [q]; unfold loP; rw [pu_n (by omega), pu_n (by omega)]; exact q6
                have g07 : gG h7 v 0 = A 0 := hV7.2.1.1.1.trans q7.2
                have kbh7 : kd h7 (v + 8) = 100 := by unfold kd; rw [f7.1, f6.1]; exact kbh
                have lbh7 : ln h7 (v + 8) = 6 := by unfold ln; rw [f7.1, f6.1]; exact lbh
                (repeat' (first | (rw [t10]) | (rw [g07]) | (refine Ex_step ?_; conv => whnf) | (refine ⟨?_, trivial⟩) | (refine (show den _ _ _ _ _ _ _ _ from ?_); conv => whnf) | (refine ⟨fun c => False.elim (by omega), fun c => ?_⟩) | (refine ⟨fun c => ?_, fun c => False.elim (by omega)⟩) | (refine ⟨by (first | assumption | rfl | (exact Nat.le_of_ble_eq_true rfl) | (exact ⟨fun h01 => absurd h01 (by decide), by first | rfl | assumption⟩) | (exact ⟨fun _ => by decide, by first | rfl | assumption⟩) | (exact ⟨by assumption, by omega, by omega⟩) | (unfold inI; omega) | omega), ?_⟩; conv => whnf) | (refine ⟨fun c => ?_, fun c => ?_⟩) | fail))
                refine k_optV (by omega) (hRd.z z7.1 z7.2.1) hA7 (by omega) (by unfold isE; omega) (by omega) hV7 hT7 hv kbh7 ⟨b1.1, by rw [lbh7]; omega⟩ (fun h' m' x1 x2 x3 x4 => bhP_v x1 x2 b1.1 (by omega) x3 (by rw [q7.2]; exact x4)) hr7 (fun x h8 er ff => ?_) (fun A8 e8 h8 c8 hc8 hr8 hA8 hV8 w8 f8 => ?_)
                · have q := hq0 x h8 er (z7.f ff)
                  have g8 := ff.1.trans z7.1
                  (repeat' (first | (exact q) | (refine Ex_step ?_; conv => whnf) | (refine ⟨?_, trivial⟩) | (refine (show den _ _ _ _ _ _ _ _ from ?_); conv => whnf) | (refine ⟨fun c => False.elim (by omega), fun c => ?_⟩) | (refine ⟨fun c => ?_, fun c => False.elim (by omega)⟩) | (refine ⟨by (first | assumption | rfl | (exact Nat.le_of_ble_eq_true rfl) | (exact ⟨fun h01 => absurd h01 (by decide), by first | rfl | assumption⟩) | (exact ⟨fun _ => by decide, by first | rfl | assumption⟩) | (exact ⟨by assumption, by omega, by omega⟩) | (unfold inI; omega) | omega), ?_⟩; conv => whnf) | (refine ⟨fun c => ?_, fun c => ?_⟩) | (intro c) | fail))
                · have z8 := z7.trans (v := v) f8.q
                  have k10_8 := hA8.X; have r55_8 := (hRd.z z8.1 z8.2.1).2; have k55_8 := (hRd.z z8.1 z8.2.1).1
                  (repeat' (first | (rw [r55_8]) | (refine Ex_step ?_; conv => whnf) | (refine ⟨?_, trivial⟩) | (refine (show den _ _ _ _ _ _ _ _ from ?_); conv => whnf) | (refine ⟨fun c => False.elim (by omega), fun c => ?_⟩) | (refine ⟨fun c => ?_, fun c => False.elim (by omega)⟩) | (refine ⟨by (first | assumption | rfl | (exact Nat.le_of_ble_eq_true rfl) | (exact ⟨fun h01 => absurd h01 (by decide), by first | rfl | assumption⟩) | (exact ⟨fun _ => by decide, by first | rfl | assumption⟩) | (exact ⟨by assumption, by omega, by omega⟩) | (unfold inI; omega) | omega), ?_⟩; conv => whnf) | (refine ⟨fun c => ?_, fun c => ?_⟩) | fail))
                  refine k_semi (by omega) hA8 hr8 (fun x h9 er ff => ?_) (fun e9 h9 hr9 hN9 f9 => ?_)
                  · have q := hq0 x h9 er (z8.f ff)
                    have g9 := ff.1.trans z8.1
                    (repeat' (first | (exact q) | (refine Ex_step ?_; conv => whnf) | (refine ⟨?_, trivial⟩) | (refine (show den _ _ _ _ _ _ _ _ from ?_); conv => whnf) | (refine ⟨fun c => False.elim (by omega), fun c => ?_⟩) | (refine ⟨fun c => ?_, fun c => False.elim (by omega)⟩) | (refine ⟨by (first | assumption | rfl | (exact Nat.le_of_ble_eq_true rfl) | (exact ⟨fun h01 => absurd h01 (by decide), by first | rfl | assumption⟩) | (exact ⟨fun _ => by decide, by first | rfl | assumption⟩) | (exact ⟨by assumption, by omega, by omega⟩) | (unfold inI; omega) | omega), ?_⟩; conv => whnf) | (refine ⟨fun c => ?_, fun c => ?_⟩) | (intro c) | fail))
                  · have q := hq1 A8 e9 h9 hr9.symm hN9 (hV8.x (hT.z z8.2.1) hv f9) (z8.trans (FX.Z f9).q) (fun i => by rw [(FX.Z f9 : FZ v h8 h9).n hv i, f8.n hv i, f7.n hv i, f6.n hv i]; exact nm i)
                    have g9 := f9.1.trans z8.1
                    (repeat' (first | (exact q) | (refine Ex_step ?_; conv => whnf) | (refine ⟨?_, trivial⟩) | (refine (show den _ _ _ _ _ _ _ _ from ?_); conv => whnf) | (refine ⟨fun c => False.elim (by omega), fun c => ?_⟩) | (refine ⟨fun c => ?_, fun c => False.elim (by omega)⟩) | (refine ⟨by (first | assumption | rfl | (exact Nat.le_of_ble_eq_true rfl) | (exact ⟨fun h01 => absurd h01 (by decide), by first | rfl | assumption⟩) | (exact ⟨fun _ => by decide, by first | rfl | assumption⟩) | (exact ⟨by assumption, by omega, by omega⟩) | (unfold inI; omega) | omega), ?_⟩; conv => whnf) | (refine ⟨fun c => ?_, fun c => ?_⟩) | (intro c) | fail))
      · rw [if_pos cn] at hr
        (repeat' (first | (rw [r55_1]) | (rw [a1]) | (rw [ev]) | (refine pn _ _ (by omega) ?_) | (refine Ex_step ?_; conv => whnf) | (refine ⟨?_, trivial⟩) | (refine (show den _ _ _ _ _ _ _ _ from ?_); conv => whnf) | (refine ⟨fun c => False.elim (by omega), fun c => ?_⟩) | (refine ⟨fun c => ?_, fun c => False.elim (by omega)⟩) | (refine ⟨by (first | assumption | rfl | (exact Nat.le_of_ble_eq_true rfl) | (exact ⟨fun h01 => absurd h01 (by decide), by first | rfl | assumption⟩) | (exact ⟨fun _ => by decide, by first | rfl | assumption⟩) | (exact ⟨by assumption, by omega, by omega⟩) | (unfold inI; omega) | omega), ?_⟩; conv => whnf) | (refine ⟨fun c => ?_, fun c => ?_⟩) | fail))
        refine k_refuse (by omega) hA1 hr (fun x h2 er ff => ?_)
        have q := hq0 x h2 er (z1.f ff)
        have g2 := ff.1.trans z1.1
        (repeat' (first | (exact q) | (refine Ex_step ?_; conv => whnf) | (refine ⟨?_, trivial⟩) | (refine (show den _ _ _ _ _ _ _ _ from ?_); conv => whnf) | (refine ⟨fun c => False.elim (by omega), fun c => ?_⟩) | (refine ⟨fun c => ?_, fun c => False.elim (by omega)⟩) | (refine ⟨by (first | assumption | rfl | (exact Nat.le_of_ble_eq_true rfl) | (exact ⟨fun h01 => absurd h01 (by decide), by first | rfl | assumption⟩) | (exact ⟨fun _ => by decide, by first | rfl | assumption⟩) | (exact ⟨by assumption, by omega, by omega⟩) | (unfold inI; omega) | omega), ?_⟩; conv => whnf) | (refine ⟨fun c => ?_, fun c => ?_⟩) | (intro c) | fail))
    · rw [if_pos c25] at hr
      (repeat' (first | (rw [r55_1]) | (rw [a1]) | (refine Ex_step ?_; conv => whnf) | (refine ⟨?_, trivial⟩) | (refine (show den _ _ _ _ _ _ _ _ from ?_); conv => whnf) | (refine ⟨fun c => False.elim (by omega), fun c => ?_⟩) | (refine ⟨fun c => ?_, fun c => False.elim (by omega)⟩) | (refine ⟨by (first | assumption | rfl | (exact Nat.le_of_ble_eq_true rfl) | (exact ⟨fun h01 => absurd h01 (by decide), by first | rfl | assumption⟩) | (exact ⟨fun _ => by decide, by first | rfl | assumption⟩) | (exact ⟨by assumption, by omega, by omega⟩) | (unfold inI; omega) | omega), ?_⟩; conv => whnf) | (refine ⟨fun c => ?_, fun c => ?_⟩) | fail))
      refine k_refuse (by omega) hA1 hr (fun x h2 er ff => ?_)
      have q := hq0 x h2 er (z1.f ff)
      have g2 := ff.1.trans z1.1
      (repeat' (first | (exact q) | (refine Ex_step ?_; conv => whnf) | (refine ⟨?_, trivial⟩) | (refine (show den _ _ _ _ _ _ _ _ from ?_); conv => whnf) | (refine ⟨fun c => False.elim (by omega), fun c => ?_⟩) | (refine ⟨fun c => ?_, fun c => False.elim (by omega)⟩) | (refine ⟨by (first | assumption | rfl | (exact Nat.le_of_ble_eq_true rfl) | (exact ⟨fun h01 => absurd h01 (by decide), by first | rfl | assumption⟩) | (exact ⟨fun _ => by decide, by first | rfl | assumption⟩) | (exact ⟨by assumption, by omega, by omega⟩) | (unfold inI; omega) | omega), ?_⟩; conv => whnf) | (refine ⟨fun c => ?_, fun c => ?_⟩) | (intro c) | fail))
