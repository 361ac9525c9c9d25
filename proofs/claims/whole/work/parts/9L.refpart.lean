/-! LEVEL 2: texts: a part of a Viaduct, the reference -/
theorem wR_tab : ∀ c : Nat, c < 25 → (wR (c : Int) = 0 ∧ c = 0) ∨ (wR (c : Int) = 1 ∧ c = 1) ∨ (wR (c : Int) = 2 ∧ c = 2) ∨ (wR (c : Int) = 3 ∧ c = 3) ∨ (wR (c : Int) = 4 ∧ c = 7) ∨ (wR (c : Int) = 5 ∧ c = 12) ∨ (5 < wR (c : Int) ∧ ¬ c = 0 ∧ ¬ c = 1 ∧ ¬ c = 2 ∧ ¬ c = 3 ∧ ¬ c = 7 ∧ ¬ c = 12) := by decide +kernel
theorem wQ_5 {c : Int} (h : 0 ≤ c) : (wQ c = 0 ∧ c = 0) ∨ (wQ c = 1 ∧ c = 1) ∨ (wQ c = 2 ∧ c = 2) ∨ (wQ c = 3 ∧ c = 3) ∨ (wQ c = 4 ∧ c = 7) ∨ (wQ c = 5 ∧ c = 12) ∨ ((wQ c < 0 ∨ 5 < wQ c) ∧ ¬ c = 0 ∧ ¬ c = 1 ∧ ¬ c = 2 ∧ ¬ c = 3 ∧ ¬ c = 7 ∧ ¬ c = 12) := by
  unfold wQ
  by_cases q : c ≤ 24
  · rw [if_pos q]
    have := wR_tab c.toNat (by omega)
    rw [show ((c.toNat : Nat) : Int) = c by omega] at this
    omega
  · rw [if_neg q]; omega
theorem tp_tab : ∀ t : Nat, t < 64 → ∀ k : Nat, k < 3 → (zand (shrZ (t : Int) (k : Int)) 1 = 1 ↔ bt ((t : Int) % 8) (k : Int) = true) := by decide +kernel
theorem to_tab : ∀ t : Nat, t < 64 → ∀ k : Nat, k < 6 → 0 ≤ zor (t : Int) (shlZ 1 (k : Int)) ∧ zor (t : Int) (shlZ 1 (k : Int)) < 64 ∧ zor (t : Int) (shlZ 1 (k : Int)) % 8 = (if k < 3 then zor ((t : Int) % 8) (shlZ 1 (k : Int)) else (t : Int) % 8) ∧ 0 ≤ shlZ 1 (k : Int) ∧ shlZ 1 (k : Int) ≤ 32 := by decide +kernel
theorem tp_b {t k : Int} (ht : 0 ≤ t ∧ t < 64) (hk : 0 ≤ k ∧ k < 3) : zand (shrZ t k) 1 = 1 ↔ bt (t % 8) k = true := by
  have := tp_tab t.toNat (by omega) k.toNat (by omega)
  rw [show ((t.toNat : Nat) : Int) = t by omega, show ((k.toNat : Nat) : Int) = k by omega] at this
  exact this
theorem to_b {t k : Int} (ht : 0 ≤ t ∧ t < 64) (hk : 0 ≤ k ∧ k < 6) : (0 ≤ zor t (shlZ 1 k) ∧ zor t (shlZ 1 k) < 64) ∧ (k < 3 → zor t (shlZ 1 k) % 8 = zor (t % 8) (shlZ 1 k)) ∧ (3 ≤ k → zor t (shlZ 1 k) % 8 = t % 8) ∧ 0 ≤ shlZ 1 k ∧ shlZ 1 k ≤ 32 := by
  have := to_tab t.toNat (by omega) k.toNat (by omega)
  rw [show ((t.toNat : Nat) : Int) = t by omega, show ((k.toNat : Nat) : Int) = k by omega] at this
  refine ⟨⟨this.1, this.2.1⟩, fun q => ?_, fun q => ?_, this.2.2.2⟩
  · have h3 := this.2.2.1
    rw [if_pos (by omega)] at h3
    exact h3
  · have h3 := this.2.2.1
    rw [if_neg (by omega)] at h3
    exact h3
theorem bd_semi {β γ : Type} {P : Int → Int} {n e : Int} {A' : γ} {v : (Int × Int) ⊕ (γ × Int)} {G : γ × Int → (Int × Int) ⊕ β} {r : (Int × Int) ⊕ β} (h1 : bd (pTok P n e 28) (fun e5 => .inr (A', e5)) = v) (h2 : bd v G = r) : bd (pTok P n e 28) (fun e5 => G (A', e5)) = r := by
  rw [← h2, ← h1]
  cases pTok P n e 28 with
  | inl x => rfl
  | inr a => rfl
set_option maxHeartbeats 4000000 in
theorem r_viaductPart {X : Int → Int} {XL : Int} {d : Nat} {h : Mem} {Q : RetP} {P N A : Int → Int} {n e td tp : Int} {r : (Int × Int) ⊕ (((Int → Int) × (Int → Int) × Int) × Int)} (hd : 12 ≤ d) (hA : Aq h P n e) (hX : RA h) (hY : RM h) (hN : RN h A) (hb : bA A) (hT : nmT h N (A 1)) (htp : gG h 127 20 = tp) (htb : 0 ≤ tp ∧ tp < 64) (htd : td = tp % 8) (hr : vPart P n e A N td = r) (hq0 : ∀ x h', r = .inl x → FRf h h' x → Q (some (vI 0)) h') (hq1 : ∀ A' N' td' tp' e' h', r = .inr ((A', N', td'), e') → Aq h' P n e' → RN h' A' → bA A' → nmT h' N' (A' 1) → gG h' 127 20 = tp' → 0 ≤ tp' ∧ tp' < 64 → td' = tp' % 8 → FR h h' → Q (some (vI 1)) h') : WP X XL d 236 [vR 127] h Q := by
  have kq := hA.1.1.1
  have tb := tC_b (P := P) (n := n) (e := e)
  have ie := iw_e (P := P) (n := n) (e := e)
  have w5 := wQ_5 tb.1
  have fin : ∀ (k1 : Int) (h2 : Mem) (e' : Int) (f : Int → (Int × Int) ⊕ (((Int → Int) × (Int → Int) × Int) × Int)), Aq h2 P n e' → FR h h2 → bd (pTok P n e' 28) f = r → (∀ e5 h3, f e5 = r → Aq h3 P n e5 → Fq h2 h3 → Q (some (vI 1)) h3) → Ex (WP X XL (d - 1)) KX10_viaductPart h.1 Q 162 [some (vR 127), some (vI k1), some (vI 1)] [] h2 := by
    intro k1 h2 e' f hA2 f2 hr2 hq2
    have kq2 := hA2.1.1.1
    (repeat' (first | (refine Ex_step ?_; conv => whnf) | (refine ⟨?_, trivial⟩) | (refine (show den _ _ _ _ _ _ _ _ from ?_); conv => whnf) | (refine ⟨fun c => False.elim (by omega), fun c => ?_⟩) | (refine ⟨fun c => ?_, fun c => False.elim (by omega)⟩) | (refine ⟨by (first | assumption | rfl | (exact Nat.le_of_ble_eq_true rfl) | (exact ⟨fun h01 => absurd h01 (by decide), by first | rfl | assumption⟩) | (exact ⟨fun _ => by decide, by first | rfl | assumption⟩) | (exact ⟨by assumption, by omega, by omega⟩) | (unfold inI; omega) | omega), ?_⟩; conv => whnf) | (refine ⟨fun c => ?_, fun c => ?_⟩) | fail))
    refine q_semi (by omega) hA2 hr2 (fun x h3 er ff => ?_) (fun e5 h3 er hA3 f3 => ?_)
    · have q := hq0 x h3 er (f2.f ff)
      have g3 := ff.1.trans f2.1
      (repeat' (first | (exact q) | (refine Ex_step ?_; conv => whnf) | (refine ⟨?_, trivial⟩) | (refine (show den _ _ _ _ _ _ _ _ from ?_); conv => whnf) | (refine ⟨fun c => False.elim (by omega), fun c => ?_⟩) | (refine ⟨fun c => ?_, fun c => False.elim (by omega)⟩) | (refine ⟨by (first | assumption | rfl | (exact Nat.le_of_ble_eq_true rfl) | (exact ⟨fun h01 => absurd h01 (by decide), by first | rfl | assumption⟩) | (exact ⟨fun _ => by decide, by first | rfl | assumption⟩) | (exact ⟨by assumption, by omega, by omega⟩) | (unfold inI; omega) | omega), ?_⟩; conv => whnf) | (refine ⟨fun c => ?_, fun c => ?_⟩) | (intro c) | fail))
    · have q := hq2 e5 h3 er hA3 f3
      have g3 := f3.1.trans f2.1
      (repeat' (first | (exact q) | (refine Ex_step ?_; conv => whnf) | (refine ⟨?_, trivial⟩) | (refine (show den _ _ _ _ _ _ _ _ from ?_); conv => whnf) | (refine ⟨fun c => False.elim (by omega), fun c => ?_⟩) | (refine ⟨fun c => ?_, fun c => False.elim (by omega)⟩) | (refine ⟨by (first | assumption | rfl | (exact Nat.le_of_ble_eq_true rfl) | (exact ⟨fun h01 => absurd h01 (by decide), by first | rfl | assumption⟩) | (exact ⟨fun _ => by decide, by first | rfl | assumption⟩) | (exact ⟨by assumption, by omega, by omega⟩) | (unfold inI; omega) | omega), ?_⟩; conv => whnf) | (refine ⟨fun c => ?_, fun c => ?_⟩) | (intro c) | fail))
  have bad : ∀ (k1 : Int) (h2 : Mem), h2.1 = h.1 → Q (some (vI 0)) h2 → Ex (WP X XL (d - 1)) KX10_viaductPart h.1 Q 162 [some (vR 127), some (vI k1), some (vI 0)] [] h2 := by
    intro k1 h2 g2 q
    (repeat' (first | (exact q) | (refine Ex_step ?_; conv => whnf) | (refine ⟨?_, trivial⟩) | (refine (show den _ _ _ _ _ _ _ _ from ?_); conv => whnf) | (refine ⟨fun c => False.elim (by omega), fun c => ?_⟩) | (refine ⟨fun c => ?_, fun c => False.elim (by omega)⟩) | (refine ⟨by (first | assumption | rfl | (exact Nat.le_of_ble_eq_true rfl) | (exact ⟨fun h01 => absurd h01 (by decide), by first | rfl | assumption⟩) | (exact ⟨fun _ => by decide, by first | rfl | assumption⟩) | (exact ⟨by assumption, by omega, by omega⟩) | (unfold inI; omega) | omega), ?_⟩; conv => whnf) | (refine ⟨fun c => ?_, fun c => ?_⟩) | (intro c) | fail))
  have sF : ∀ z, FR h (sG h 127 20 z) := fun z => FR.refl.s (Or.inl ⟨rfl, Or.inr (Or.inl rfl)⟩)
  have sA : ∀ z, Aq (sG h 127 20 z) P n e := fun z => hA.o rfl rfl (fun r j q => by rw [gG_sG, if_neg (by omega)])
  have sN : ∀ z, RN (sG h 127 20 z) A := fun z j x y => by rw [gG_sG, if_neg (by omega)]; exact hN j x y
  have sT : ∀ z, nmT (sG h 127 20 z) N (A 1) := fun z i x y => by rw [gG_sG, if_neg (by omega)]; exact hT i x y
  unfold vPart at hr
  refine eX10_viaductPart (by omega) ?_
  by_cases c0 : 0 ≤ tC P n e ∧ tC P n e < 3
  · rw [if_pos c0] at hr
    have go : ∀ (k to hi : Int), 0 ≤ k ∧ k < 3 → tC P n e = k → to = 1832 + (3 + k) → hi = ruX k → ¬ bt td k = true → bd (vRule P n e A td k) (fun q => .inr ((q.1, N, zor td (shlZ 1 k)), q.2)) = r → ∀ (d' : Nat) (h1 : Mem) (Q' : RetP), 3 ≤ d' → Aq h1 P n (tE P n e) → Fq (sG h 127 20 (zor tp (shlZ 1 k))) h1 → (∀ b h2, (b = 1 ∧ Ex (WP X XL (d - 1)) KX10_viaductPart h.1 Q 162 [some (vR 127), some (vI k), some (vI 1)] [] h2) ∨ (b = 0 ∧ h2.1 = h.1 ∧ Q (some (vI 0)) h2) → Q' (some (vI b)) h2) → WP X XL d' 221 [vR 127, vI to, vI 0, vI hi] h1 Q' := by
      intro k to hi hk ek eto ehi c9 hrk d' h1 Q' x1 hA1 f1 y
      obtain ⟨tob, tom, -, s0, s1⟩ := to_b htb (k := k) (by omega)
      have tom := tom (by omega)
      have hr1 : bd (pNum P n (tE P n e) 0 hi) (fun q => bd (pTok P n q.2 28) (fun e2 => .inr (ruP A k q.1, e2))) = vRule P n e A td k := by unfold vRule; rw [if_neg c9, ehi]
      have a1 : FR h h1 := (sF _).trans f1.R
      refine q_num x1 hA1 (hX.z a1.1 a1.2.1) (by omega) hr1 (fun x h2 er ff => ?_) (fun m e2 h2 m0 m0' m1 hr3 hA2 f2 => ?_)
      · refine y 0 h2 (Or.inr ⟨rfl, ff.1.trans a1.1, hq0 x h2 ?_ (a1.f ff)⟩)
        rw [← hrk, er]; rfl
      · have a2 := a1.trans (f2.w (by omega))
        refine y 1 h2 (Or.inl ⟨rfl, fin k h2 e2 _ hA2 a2 (bd_semi hr3 hrk) (fun e5 h3 er hA3 f3 => ?_)⟩)
        have g2 : ∀ j, gG h3 128 j = if j = to then m else gG h 128 j := fun j => by
          rw [f3.2.2 _ _ (by omega), f2.g j]
          by_cases ej : j = to
          · rw [if_pos ej, if_pos ej]
          · rw [if_neg ej, if_neg ej, f1.2.2 _ _ (by omega), gG_sG, if_neg (by omega)]
        have g9 : ∀ j, gG h3 129 j = gG h 129 j := fun j => by rw [f3.2.2 _ _ (by omega), f2.2.2 _ _ (by omega), gG_sG, if_neg (by omega), f1.2.2 _ _ (by omega), gG_sG, if_neg (by omega)]
        have g20 : gG h3 127 20 = zor tp (shlZ 1 k) := by rw [f3.2.2 _ _ (by omega), f2.2.2 _ _ (by omega), gG_sG, if_neg (by omega), f1.2.2 _ _ (by omega), g_same]
        have p0 : ∀ j, ¬ j = 3 + k → ruP A k m j = A j := fun j q => by unfold ruP; exact pu_n q
        refine hq1 (ruP A k m) N (zor td (shlZ 1 k)) _ e5 h3 er.symm hA3 (fun j j0 j1 => ?_) ?_ ?_ g20 tob (by rw [htd]; exact tom.symm) (a2.trans f3.R)
        · rw [g2]
          unfold ruP pu
          by_cases ej : j = 3 + k
          · rw [if_pos (by omega), if_pos ej]
          · rw [if_neg (by omega), if_neg ej]; exact hN j j0 j1
        · refine ⟨by rw [p0 0 (by omega)]; exact hb.1, by rw [p0 1 (by omega)]; exact hb.2.1, by rw [p0 2 (by omega)]; exact hb.2.2.1, fun j j0 j1 => ?_⟩
          rw [p0 1 (by omega)] at j0
          have := hb.2.1
          rw [p0 j (by omega)]
          exact hb.2.2.2 j j0 j1
        · show nmT h3 N (ruP A k m 1)
          rw [p0 1 (by omega)]
          exact fun i x y => by rw [g9]; exact hT i x y
    rcases (show tC P n e = 0 ∨ tC P n e = 1 ∨ tC P n e = 2 by omega) with e0 | e0 | e0
    · have ik : iw P n e = 0 := by omega
      rw [e0] at hr
      have tpb := tp_b htb (k := 0) (by omega)
      obtain ⟨tob, tom, -, s0, s1⟩ := to_b htb (k := 0) (by omega)
      by_cases c9 : bt td 0 = true
      · have t1 : zand (shrZ tp 0) 1 = 1 := tpb.mpr (by rw [← htd]; exact c9)
        have hr5 : .inl (fltK P n e 5, tF P n e) = r := by rw [← hr]; unfold vRule; rw [if_pos c9]; rfl
        (repeat' (first | (refine r_inWords (by omega) hA ?_) | (rw [ik]) | (rw [htp]) | (refine Ex_step ?_; conv => whnf) | (refine ⟨?_, trivial⟩) | (refine (show den _ _ _ _ _ _ _ _ from ?_); conv => whnf) | (refine ⟨fun c => False.elim (by omega), fun c => ?_⟩) | (refine ⟨fun c => ?_, fun c => False.elim (by omega)⟩) | (refine ⟨by (first | assumption | rfl | (exact Nat.le_of_ble_eq_true rfl) | (exact ⟨fun h01 => absurd h01 (by decide), by first | rfl | assumption⟩) | (exact ⟨fun _ => by decide, by first | rfl | assumption⟩) | (exact ⟨by assumption, by omega, by omega⟩) | (unfold inI; omega) | omega), ?_⟩; conv => whnf) | (refine ⟨fun c => ?_, fun c => ?_⟩) | fail))
        refine q_fails (by omega) hA (by omega) hr5 (fun x h1 er ff => ?_)
        have q := hq0 x h1 er ff
        have g1 := ff.1
        (repeat' (first | (exact q) | (refine Ex_step ?_; conv => whnf) | (refine ⟨?_, trivial⟩) | (refine (show den _ _ _ _ _ _ _ _ from ?_); conv => whnf) | (refine ⟨fun c => False.elim (by omega), fun c => ?_⟩) | (refine ⟨fun c => ?_, fun c => False.elim (by omega)⟩) | (refine ⟨by (first | assumption | rfl | (exact Nat.le_of_ble_eq_true rfl) | (exact ⟨fun h01 => absurd h01 (by decide), by first | rfl | assumption⟩) | (exact ⟨fun _ => by decide, by first | rfl | assumption⟩) | (exact ⟨by assumption, by omega, by omega⟩) | (unfold inI; omega) | omega), ?_⟩; conv => whnf) | (refine ⟨fun c => ?_, fun c => ?_⟩) | (intro c) | fail))
      · have t1 : ¬ zand (shrZ tp 0) 1 = 1 := fun q => c9 (by rw [htd]; exact tpb.mp q)
        (repeat' (first | (refine r_inWords (by omega) hA ?_) | (rw [ik]) | (rw [htp]) | (refine Ex_step ?_; conv => whnf) | (refine ⟨?_, trivial⟩) | (refine (show den _ _ _ _ _ _ _ _ from ?_); conv => whnf) | (refine ⟨fun c => False.elim (by omega), fun c => ?_⟩) | (refine ⟨fun c => ?_, fun c => False.elim (by omega)⟩) | (refine ⟨by (first | assumption | rfl | (exact Nat.le_of_ble_eq_true rfl) | (exact ⟨fun h01 => absurd h01 (by decide), by first | rfl | assumption⟩) | (exact ⟨fun _ => by decide, by first | rfl | assumption⟩) | (exact ⟨by assumption, by omega, by omega⟩) | (unfold inI; omega) | omega), ?_⟩; conv => whnf) | (refine ⟨fun c => ?_, fun c => ?_⟩) | fail))
        refine q_ahead (by omega) (sA _) (fun h1 hA1 f1 => ?_)
        have kq1 := hA1.1.1.1
        (repeat' (first | (refine Ex_step ?_; conv => whnf) | (refine ⟨?_, trivial⟩) | (refine (show den _ _ _ _ _ _ _ _ from ?_); conv => whnf) | (refine ⟨fun c => False.elim (by omega), fun c => ?_⟩) | (refine ⟨fun c => ?_, fun c => False.elim (by omega)⟩) | (refine ⟨by (first | assumption | rfl | (exact Nat.le_of_ble_eq_true rfl) | (exact ⟨fun h01 => absurd h01 (by decide), by first | rfl | assumption⟩) | (exact ⟨fun _ => by decide, by first | rfl | assumption⟩) | (exact ⟨by assumption, by omega, by omega⟩) | (unfold inI; omega) | omega), ?_⟩; conv => whnf) | (refine ⟨fun c => ?_, fun c => ?_⟩) | fail))
        refine go 0 1835 9 (by omega) e0 (by omega) rfl c9 hr _ h1 _ (by omega) hA1 f1 (fun b h2 hb2 => ?_)
        rcases hb2 with ⟨b1, q⟩ | ⟨b1, g2, q⟩
        · subst b1
          (repeat' (first | (exact q) | (refine Ex_step ?_; conv => whnf) | (refine ⟨?_, trivial⟩) | (refine (show den _ _ _ _ _ _ _ _ from ?_); conv => whnf) | (refine ⟨fun c => False.elim (by omega), fun c => ?_⟩) | (refine ⟨fun c => ?_, fun c => False.elim (by omega)⟩) | (refine ⟨by (first | assumption | rfl | (exact Nat.le_of_ble_eq_true rfl) | (exact ⟨fun h01 => absurd h01 (by decide), by first | rfl | assumption⟩) | (exact ⟨fun _ => by decide, by first | rfl | assumption⟩) | (exact ⟨by assumption, by omega, by omega⟩) | (unfold inI; omega) | omega), ?_⟩; conv => whnf) | (refine ⟨fun c => ?_, fun c => ?_⟩) | (intro c) | fail))
        · subst b1
          have q2 := bad 0 h2 g2 q
          (repeat' (first | (exact q2) | (refine Ex_step ?_; conv => whnf) | (refine ⟨?_, trivial⟩) | (refine (show den _ _ _ _ _ _ _ _ from ?_); conv => whnf) | (refine ⟨fun c => False.elim (by omega), fun c => ?_⟩) | (refine ⟨fun c => ?_, fun c => False.elim (by omega)⟩) | (refine ⟨by (first | assumption | rfl | (exact Nat.le_of_ble_eq_true rfl) | (exact ⟨fun h01 => absurd h01 (by decide), by first | rfl | assumption⟩) | (exact ⟨fun _ => by decide, by first | rfl | assumption⟩) | (exact ⟨by assumption, by omega, by omega⟩) | (unfold inI; omega) | omega), ?_⟩; conv => whnf) | (refine ⟨fun c => ?_, fun c => ?_⟩) | (intro c) | fail))
    · have ik : iw P n e = 1 := by omega
      rw [e0] at hr
      have tpb := tp_b htb (k := 1) (by omega)
      obtain ⟨tob, tom, -, s0, s1⟩ := to_b htb (k := 1) (by omega)
      by_cases c9 : bt td 1 = true
      · have t1 : zand (shrZ tp 1) 1 = 1 := tpb.mpr (by rw [← htd]; exact c9)
        have hr5 : .inl (fltK P n e 5, tF P n e) = r := by rw [← hr]; unfold vRule; rw [if_pos c9]; rfl
        (repeat' (first | (refine r_inWords (by omega) hA ?_) | (rw [ik]) | (rw [htp]) | (refine Ex_step ?_; conv => whnf) | (refine ⟨?_, trivial⟩) | (refine (show den _ _ _ _ _ _ _ _ from ?_); conv => whnf) | (refine ⟨fun c => False.elim (by omega), fun c => ?_⟩) | (refine ⟨fun c => ?_, fun c => False.elim (by omega)⟩) | (refine ⟨by (first | assumption | rfl | (exact Nat.le_of_ble_eq_true rfl) | (exact ⟨fun h01 => absurd h01 (by decide), by first | rfl | assumption⟩) | (exact ⟨fun _ => by decide, by first | rfl | assumption⟩) | (exact ⟨by assumption, by omega, by omega⟩) | (unfold inI; omega) | omega), ?_⟩; conv => whnf) | (refine ⟨fun c => ?_, fun c => ?_⟩) | fail))
        refine q_fails (by omega) hA (by omega) hr5 (fun x h1 er ff => ?_)
        have q := hq0 x h1 er ff
        have g1 := ff.1
        (repeat' (first | (exact q) | (refine Ex_step ?_; conv => whnf) | (refine ⟨?_, trivial⟩) | (refine (show den _ _ _ _ _ _ _ _ from ?_); conv => whnf) | (refine ⟨fun c => False.elim (by omega), fun c => ?_⟩) | (refine ⟨fun c => ?_, fun c => False.elim (by omega)⟩) | (refine ⟨by (first | assumption | rfl | (exact Nat.le_of_ble_eq_true rfl) | (exact ⟨fun h01 => absurd h01 (by decide), by first | rfl | assumption⟩) | (exact ⟨fun _ => by decide, by first | rfl | assumption⟩) | (exact ⟨by assumption, by omega, by omega⟩) | (unfold inI; omega) | omega), ?_⟩; conv => whnf) | (refine ⟨fun c => ?_, fun c => ?_⟩) | (intro c) | fail))
      · have t1 : ¬ zand (shrZ tp 1) 1 = 1 := fun q => c9 (by rw [htd]; exact tpb.mp q)
        (repeat' (first | (refine r_inWords (by omega) hA ?_) | (rw [ik]) | (rw [htp]) | (refine Ex_step ?_; conv => whnf) | (refine ⟨?_, trivial⟩) | (refine (show den _ _ _ _ _ _ _ _ from ?_); conv => whnf) | (refine ⟨fun c => False.elim (by omega), fun c => ?_⟩) | (refine ⟨fun c => ?_, fun c => False.elim (by omega)⟩) | (refine ⟨by (first | assumption | rfl | (exact Nat.le_of_ble_eq_true rfl) | (exact ⟨fun h01 => absurd h01 (by decide), by first | rfl | assumption⟩) | (exact ⟨fun _ => by decide, by first | rfl | assumption⟩) | (exact ⟨by assumption, by omega, by omega⟩) | (unfold inI; omega) | omega), ?_⟩; conv => whnf) | (refine ⟨fun c => ?_, fun c => ?_⟩) | fail))
        refine q_ahead (by omega) (sA _) (fun h1 hA1 f1 => ?_)
        have kq1 := hA1.1.1.1
        (repeat' (first | (refine Ex_step ?_; conv => whnf) | (refine ⟨?_, trivial⟩) | (refine (show den _ _ _ _ _ _ _ _ from ?_); conv => whnf) | (refine ⟨fun c => False.elim (by omega), fun c => ?_⟩) | (refine ⟨fun c => ?_, fun c => False.elim (by omega)⟩) | (refine ⟨by (first | assumption | rfl | (exact Nat.le_of_ble_eq_true rfl) | (exact ⟨fun h01 => absurd h01 (by decide), by first | rfl | assumption⟩) | (exact ⟨fun _ => by decide, by first | rfl | assumption⟩) | (exact ⟨by assumption, by omega, by omega⟩) | (unfold inI; omega) | omega), ?_⟩; conv => whnf) | (refine ⟨fun c => ?_, fun c => ?_⟩) | fail))
        refine go 1 1836 5 (by omega) e0 (by omega) rfl c9 hr _ h1 _ (by omega) hA1 f1 (fun b h2 hb2 => ?_)
        rcases hb2 with ⟨b1, q⟩ | ⟨b1, g2, q⟩
        · subst b1
          (repeat' (first | (exact q) | (refine Ex_step ?_; conv => whnf) | (refine ⟨?_, trivial⟩) | (refine (show den _ _ _ _ _ _ _ _ from ?_); conv => whnf) | (refine ⟨fun c => False.elim (by omega), fun c => ?_⟩) | (refine ⟨fun c => ?_, fun c => False.elim (by omega)⟩) | (refine ⟨by (first | assumption | rfl | (exact Nat.le_of_ble_eq_true rfl) | (exact ⟨fun h01 => absurd h01 (by decide), by first | rfl | assumption⟩) | (exact ⟨fun _ => by decide, by first | rfl | assumption⟩) | (exact ⟨by assumption, by omega, by omega⟩) | (unfold inI; omega) | omega), ?_⟩; conv => whnf) | (refine ⟨fun c => ?_, fun c => ?_⟩) | (intro c) | fail))
        · subst b1
          have q2 := bad 1 h2 g2 q
          (repeat' (first | (exact q2) | (refine Ex_step ?_; conv => whnf) | (refine ⟨?_, trivial⟩) | (refine (show den _ _ _ _ _ _ _ _ from ?_); conv => whnf) | (refine ⟨fun c => False.elim (by omega), fun c => ?_⟩) | (refine ⟨fun c => ?_, fun c => False.elim (by omega)⟩) | (refine ⟨by (first | assumption | rfl | (exact Nat.le_of_ble_eq_true rfl) | (exact ⟨fun h01 => absurd h01 (by decide), by first | rfl | assumption⟩) | (exact ⟨fun _ => by decide, by first | rfl | assumption⟩) | (exact ⟨by assumption, by omega, by omega⟩) | (unfold inI; omega) | omega), ?_⟩; conv => whnf) | (refine ⟨fun c => ?_, fun c => ?_⟩) | (intro c) | fail))
    · have ik : iw P n e = 2 := by omega
      rw [e0] at hr
      have tpb := tp_b htb (k := 2) (by omega)
      obtain ⟨tob, tom, -, s0, s1⟩ := to_b htb (k := 2) (by omega)
      by_cases c9 : bt td 2 = true
      · have t1 : zand (shrZ tp 2) 1 = 1 := tpb.mpr (by rw [← htd]; exact c9)
        have hr5 : .inl (fltK P n e 5, tF P n e) = r := by rw [← hr]; unfold vRule; rw [if_pos c9]; rfl
        (repeat' (first | (refine r_inWords (by omega) hA ?_) | (rw [ik]) | (rw [htp]) | (refine Ex_step ?_; conv => whnf) | (refine ⟨?_, trivial⟩) | (refine (show den _ _ _ _ _ _ _ _ from ?_); conv => whnf) | (refine ⟨fun c => False.elim (by omega), fun c => ?_⟩) | (refine ⟨fun c => ?_, fun c => False.elim (by omega)⟩) | (refine ⟨by (first | assumption | rfl | (exact Nat.le_of_ble_eq_true rfl) | (exact ⟨fun h01 => absurd h01 (by decide), by first | rfl | assumption⟩) | (exact ⟨fun _ => by decide, by first | rfl | assumption⟩) | (exact ⟨by assumption, by omega, by omega⟩) | (unfold inI; omega) | omega), ?_⟩; conv => whnf) | (refine ⟨fun c => ?_, fun c => ?_⟩) | fail))
        refine q_fails (by omega) hA (by omega) hr5 (fun x h1 er ff => ?_)
        have q := hq0 x h1 er ff
        have g1 := ff.1
        (repeat' (first | (exact q) | (refine Ex_step ?_; conv => whnf) | (refine ⟨?_, trivial⟩) | (refine (show den _ _ _ _ _ _ _ _ from ?_); conv => whnf) | (refine ⟨fun c => False.elim (by omega), fun c => ?_⟩) | (refine ⟨fun c => ?_, fun c => False.elim (by omega)⟩) | (refine ⟨by (first | assumption | rfl | (exact Nat.le_of_ble_eq_true rfl) | (exact ⟨fun h01 => absurd h01 (by decide), by first | rfl | assumption⟩) | (exact ⟨fun _ => by decide, by first | rfl | assumption⟩) | (exact ⟨by assumption, by omega, by omega⟩) | (unfold inI; omega) | omega), ?_⟩; conv => whnf) | (refine ⟨fun c => ?_, fun c => ?_⟩) | (intro c) | fail))
      · have t1 : ¬ zand (shrZ tp 2) 1 = 1 := fun q => c9 (by rw [htd]; exact tpb.mp q)
        (repeat' (first | (refine r_inWords (by omega) hA ?_) | (rw [ik]) | (rw [htp]) | (refine Ex_step ?_; conv => whnf) | (refine ⟨?_, trivial⟩) | (refine (show den _ _ _ _ _ _ _ _ from ?_); conv => whnf) | (refine ⟨fun c => False.elim (by omega), fun c => ?_⟩) | (refine ⟨fun c => ?_, fun c => False.elim (by omega)⟩) | (refine ⟨by (first | assumption | rfl | (exact Nat.le_of_ble_eq_true rfl) | (exact ⟨fun h01 => absurd h01 (by decide), by first | rfl | assumption⟩) | (exact ⟨fun _ => by decide, by first | rfl | assumption⟩) | (exact ⟨by assumption, by omega, by omega⟩) | (unfold inI; omega) | omega), ?_⟩; conv => whnf) | (refine ⟨fun c => ?_, fun c => ?_⟩) | fail))
        refine q_ahead (by omega) (sA _) (fun h1 hA1 f1 => ?_)
        have kq1 := hA1.1.1.1
        (repeat' (first | (refine Ex_step ?_; conv => whnf) | (refine ⟨?_, trivial⟩) | (refine (show den _ _ _ _ _ _ _ _ from ?_); conv => whnf) | (refine ⟨fun c => False.elim (by omega), fun c => ?_⟩) | (refine ⟨fun c => ?_, fun c => False.elim (by omega)⟩) | (refine ⟨by (first | assumption | rfl | (exact Nat.le_of_ble_eq_true rfl) | (exact ⟨fun h01 => absurd h01 (by decide), by first | rfl | assumption⟩) | (exact ⟨fun _ => by decide, by first | rfl | assumption⟩) | (exact ⟨by assumption, by omega, by omega⟩) | (unfold inI; omega) | omega), ?_⟩; conv => whnf) | (refine ⟨fun c => ?_, fun c => ?_⟩) | fail))
        refine go 2 1837 16 (by omega) e0 (by omega) rfl c9 hr _ h1 _ (by omega) hA1 f1 (fun b h2 hb2 => ?_)
        rcases hb2 with ⟨b1, q⟩ | ⟨b1, g2, q⟩
        · subst b1
          (repeat' (first | (exact q) | (refine Ex_step ?_; conv => whnf) | (refine ⟨?_, trivial⟩) | (refine (show den _ _ _ _ _ _ _ _ from ?_); conv => whnf) | (refine ⟨fun c => False.elim (by omega), fun c => ?_⟩) | (refine ⟨fun c => ?_, fun c => False.elim (by omega)⟩) | (refine ⟨by (first | assumption | rfl | (exact Nat.le_of_ble_eq_true rfl) | (exact ⟨fun h01 => absurd h01 (by decide), by first | rfl | assumption⟩) | (exact ⟨fun _ => by decide, by first | rfl | assumption⟩) | (exact ⟨by assumption, by omega, by omega⟩) | (unfold inI; omega) | omega), ?_⟩; conv => whnf) | (refine ⟨fun c => ?_, fun c => ?_⟩) | (intro c) | fail))
        · subst b1
          have q2 := bad 2 h2 g2 q
          (repeat' (first | (exact q2) | (refine Ex_step ?_; conv => whnf) | (refine ⟨?_, trivial⟩) | (refine (show den _ _ _ _ _ _ _ _ from ?_); conv => whnf) | (refine ⟨fun c => False.elim (by omega), fun c => ?_⟩) | (refine ⟨fun c => ?_, fun c => False.elim (by omega)⟩) | (refine ⟨by (first | assumption | rfl | (exact Nat.le_of_ble_eq_true rfl) | (exact ⟨fun h01 => absurd h01 (by decide), by first | rfl | assumption⟩) | (exact ⟨fun _ => by decide, by first | rfl | assumption⟩) | (exact ⟨by assumption, by omega, by omega⟩) | (unfold inI; omega) | omega), ?_⟩; conv => whnf) | (refine ⟨fun c => ?_, fun c => ?_⟩) | (intro c) | fail))
  · rw [if_neg c0] at hr
    by_cases c3 : tC P n e = 3
    · rw [if_pos c3] at hr
      have ik : iw P n e = 3 := by omega
      obtain ⟨tob, -, tom, s0, s1⟩ := to_b htb (k := 3) (by omega)
      have tom := tom (by omega)
      (repeat' (first | (refine r_inWords (by omega) hA ?_) | (rw [ik]) | (rw [htp]) | (refine Ex_step ?_; conv => whnf) | (refine ⟨?_, trivial⟩) | (refine (show den _ _ _ _ _ _ _ _ from ?_); conv => whnf) | (refine ⟨fun c => False.elim (by omega), fun c => ?_⟩) | (refine ⟨fun c => ?_, fun c => False.elim (by omega)⟩) | (refine ⟨by (first | assumption | rfl | (exact Nat.le_of_ble_eq_true rfl) | (exact ⟨fun h01 => absurd h01 (by decide), by first | rfl | assumption⟩) | (exact ⟨fun _ => by decide, by first | rfl | assumption⟩) | (exact ⟨by assumption, by omega, by omega⟩) | (unfold inI; omega) | omega), ?_⟩; conv => whnf) | (refine ⟨fun c => ?_, fun c => ?_⟩) | fail))
      refine r_anArch (by omega) (sA _) hX (sN _) hb vArch_f (fun x h2 er ff => ?_) (fun A2 e2 h2 er hA2 hN2 hb2 e1 f2 => ?_)
      · have q := hq0 x h2 (by rw [← hr, er]; rfl) ((sF _).f ff)
        have q2 := bad 3 h2 ff.1 q
        (repeat' (first | (exact q2) | (refine Ex_step ?_; conv => whnf) | (refine ⟨?_, trivial⟩) | (refine (show den _ _ _ _ _ _ _ _ from ?_); conv => whnf) | (refine ⟨fun c => False.elim (by omega), fun c => ?_⟩) | (refine ⟨fun c => ?_, fun c => False.elim (by omega)⟩) | (refine ⟨by (first | assumption | rfl | (exact Nat.le_of_ble_eq_true rfl) | (exact ⟨fun h01 => absurd h01 (by decide), by first | rfl | assumption⟩) | (exact ⟨fun _ => by decide, by first | rfl | assumption⟩) | (exact ⟨by assumption, by omega, by omega⟩) | (unfold inI; omega) | omega), ?_⟩; conv => whnf) | (refine ⟨fun c => ?_, fun c => ?_⟩) | (intro c) | fail))
      · have q2 := fin 3 h2 e2 _ hA2 ((sF _).trans f2.R) (bd_semi er hr) (fun e5 h3 er3 hA3 f3 => hq1 _ _ _ _ e5 h3 er3.symm hA3 (hN2.q f3) hb2 (fun i x y => by rw [f3.2.2 _ _ (by omega), f2.nm]; exact sT _ i x (by rw [← e1]; exact y)) (by rw [f3.2.2 _ _ (by omega), f2.2.2 _ _ (by omega) (by omega), g_same]) tob (by rw [htd]; exact tom.symm) (((sF _).trans f2.R).trans f3.R))
        (repeat' (first | (exact q2) | (refine Ex_step ?_; conv => whnf) | (refine ⟨?_, trivial⟩) | (refine (show den _ _ _ _ _ _ _ _ from ?_); conv => whnf) | (refine ⟨fun c => False.elim (by omega), fun c => ?_⟩) | (refine ⟨fun c => ?_, fun c => False.elim (by omega)⟩) | (refine ⟨by (first | assumption | rfl | (exact Nat.le_of_ble_eq_true rfl) | (exact ⟨fun h01 => absurd h01 (by decide), by first | rfl | assumption⟩) | (exact ⟨fun _ => by decide, by first | rfl | assumption⟩) | (exact ⟨by assumption, by omega, by omega⟩) | (unfold inI; omega) | omega), ?_⟩; conv => whnf) | (refine ⟨fun c => ?_, fun c => ?_⟩) | (intro c) | fail))
    · rw [if_neg c3] at hr
      by_cases c7 : tC P n e = 7
      · rw [if_pos c7] at hr
        have ik : iw P n e = 4 := by omega
        obtain ⟨tob, -, tom, s0, s1⟩ := to_b htb (k := 4) (by omega)
        have tom := tom (by omega)
        (repeat' (first | (refine r_inWords (by omega) hA ?_) | (rw [ik]) | (rw [htp]) | (refine Ex_step ?_; conv => whnf) | (refine ⟨?_, trivial⟩) | (refine (show den _ _ _ _ _ _ _ _ from ?_); conv => whnf) | (refine ⟨fun c => False.elim (by omega), fun c => ?_⟩) | (refine ⟨fun c => ?_, fun c => False.elim (by omega)⟩) | (refine ⟨by (first | assumption | rfl | (exact Nat.le_of_ble_eq_true rfl) | (exact ⟨fun h01 => absurd h01 (by decide), by first | rfl | assumption⟩) | (exact ⟨fun _ => by decide, by first | rfl | assumption⟩) | (exact ⟨by assumption, by omega, by omega⟩) | (unfold inI; omega) | omega), ?_⟩; conv => whnf) | (refine ⟨fun c => ?_, fun c => ?_⟩) | fail))
        refine r_aPerson (by omega) (sA _) hX hY (sN _) hb (sT _) vPerson_f (fun x h2 er ff => ?_) (fun A2 e2 h2 er hA2 hN2 hb2 e1 hT2 f2 g20 => ?_)
        · have q := hq0 x h2 (by rw [← hr, er]; rfl) ((sF _).f ff)
          have q2 := bad 4 h2 ff.1 q
          (repeat' (first | (exact q2) | (refine Ex_step ?_; conv => whnf) | (refine ⟨?_, trivial⟩) | (refine (show den _ _ _ _ _ _ _ _ from ?_); conv => whnf) | (refine ⟨fun c => False.elim (by omega), fun c => ?_⟩) | (refine ⟨fun c => ?_, fun c => False.elim (by omega)⟩) | (refine ⟨by (first | assumption | rfl | (exact Nat.le_of_ble_eq_true rfl) | (exact ⟨fun h01 => absurd h01 (by decide), by first | rfl | assumption⟩) | (exact ⟨fun _ => by decide, by first | rfl | assumption⟩) | (exact ⟨by assumption, by omega, by omega⟩) | (unfold inI; omega) | omega), ?_⟩; conv => whnf) | (refine ⟨fun c => ?_, fun c => ?_⟩) | (intro c) | fail))
        · have q2 := fin 4 h2 e2 _ hA2 ((sF _).trans f2) (bd_semi er hr) (fun e5 h3 er3 hA3 f3 => hq1 _ _ _ _ e5 h3 er3.symm hA3 (hN2.q f3) hb2 (fun i x y => by rw [f3.2.2 _ _ (by omega)]; exact hT2 i x (by rw [← e1]; exact y)) (by rw [f3.2.2 _ _ (by omega), g20, g_same]) tob (by rw [htd]; exact tom.symm) (((sF _).trans f2).trans f3.R))
          (repeat' (first | (exact q2) | (refine Ex_step ?_; conv => whnf) | (refine ⟨?_, trivial⟩) | (refine (show den _ _ _ _ _ _ _ _ from ?_); conv => whnf) | (refine ⟨fun c => False.elim (by omega), fun c => ?_⟩) | (refine ⟨fun c => ?_, fun c => False.elim (by omega)⟩) | (refine ⟨by (first | assumption | rfl | (exact Nat.le_of_ble_eq_true rfl) | (exact ⟨fun h01 => absurd h01 (by decide), by first | rfl | assumption⟩) | (exact ⟨fun _ => by decide, by first | rfl | assumption⟩) | (exact ⟨by assumption, by omega, by omega⟩) | (unfold inI; omega) | omega), ?_⟩; conv => whnf) | (refine ⟨fun c => ?_, fun c => ?_⟩) | (intro c) | fail))
      · rw [if_neg c7] at hr
        by_cases c12 : tC P n e = 12
        · rw [if_pos c12] at hr
          have ik : iw P n e = 5 := by omega
          obtain ⟨tob, -, tom, s0, s1⟩ := to_b htb (k := 5) (by omega)
          have tom := tom (by omega)
          (repeat' (first | (refine r_inWords (by omega) hA ?_) | (rw [ik]) | (rw [htp]) | (refine Ex_step ?_; conv => whnf) | (refine ⟨?_, trivial⟩) | (refine (show den _ _ _ _ _ _ _ _ from ?_); conv => whnf) | (refine ⟨fun c => False.elim (by omega), fun c => ?_⟩) | (refine ⟨fun c => ?_, fun c => False.elim (by omega)⟩) | (refine ⟨by (first | assumption | rfl | (exact Nat.le_of_ble_eq_true rfl) | (exact ⟨fun h01 => absurd h01 (by decide), by first | rfl | assumption⟩) | (exact ⟨fun _ => by decide, by first | rfl | assumption⟩) | (exact ⟨by assumption, by omega, by omega⟩) | (unfold inI; omega) | omega), ?_⟩; conv => whnf) | (refine ⟨fun c => ?_, fun c => ?_⟩) | fail))
          refine r_aPlant (by omega) (sA _) hX (sN _) hb vPlant_f (fun x h2 er ff => ?_) (fun A2 e2 h2 er hA2 hN2 hb2 e1 f2 => ?_)
          · have q := hq0 x h2 (by rw [← hr, er]; rfl) ((sF _).f ff)
            have q2 := bad 5 h2 ff.1 q
            (repeat' (first | (exact q2) | (refine Ex_step ?_; conv => whnf) | (refine ⟨?_, trivial⟩) | (refine (show den _ _ _ _ _ _ _ _ from ?_); conv => whnf) | (refine ⟨fun c => False.elim (by omega), fun c => ?_⟩) | (refine ⟨fun c => ?_, fun c => False.elim (by omega)⟩) | (refine ⟨by (first | assumption | rfl | (exact Nat.le_of_ble_eq_true rfl) | (exact ⟨fun h01 => absurd h01 (by decide), by first | rfl | assumption⟩) | (exact ⟨fun _ => by decide, by first | rfl | assumption⟩) | (exact ⟨by assumption, by omega, by omega⟩) | (unfold inI; omega) | omega), ?_⟩; conv => whnf) | (refine ⟨fun c => ?_, fun c => ?_⟩) | (intro c) | fail))
          · have q2 := fin 5 h2 e2 _ hA2 ((sF _).trans f2.R) (bd_semi er hr) (fun e5 h3 er3 hA3 f3 => hq1 _ _ _ _ e5 h3 er3.symm hA3 (hN2.q f3) hb2 (fun i x y => by rw [f3.2.2 _ _ (by omega), f2.nm]; exact sT _ i x (by rw [← e1]; exact y)) (by rw [f3.2.2 _ _ (by omega), f2.2.2 _ _ (by omega) (by omega), g_same]) tob (by rw [htd]; exact tom.symm) (((sF _).trans f2.R).trans f3.R))
            (repeat' (first | (exact q2) | (refine Ex_step ?_; conv => whnf) | (refine ⟨?_, trivial⟩) | (refine (show den _ _ _ _ _ _ _ _ from ?_); conv => whnf) | (refine ⟨fun c => False.elim (by omega), fun c => ?_⟩) | (refine ⟨fun c => ?_, fun c => False.elim (by omega)⟩) | (refine ⟨by (first | assumption | rfl | (exact Nat.le_of_ble_eq_true rfl) | (exact ⟨fun h01 => absurd h01 (by decide), by first | rfl | assumption⟩) | (exact ⟨fun _ => by decide, by first | rfl | assumption⟩) | (exact ⟨by assumption, by omega, by omega⟩) | (unfold inI; omega) | omega), ?_⟩; conv => whnf) | (refine ⟨fun c => ?_, fun c => ?_⟩) | (intro c) | fail))
        · rw [if_neg c12] at hr
          (repeat' (first | (refine r_inWords (by omega) hA ?_) | (refine Ex_step ?_; conv => whnf) | (refine ⟨?_, trivial⟩) | (refine (show den _ _ _ _ _ _ _ _ from ?_); conv => whnf) | (refine ⟨fun c => False.elim (by omega), fun c => ?_⟩) | (refine ⟨fun c => ?_, fun c => False.elim (by omega)⟩) | (refine ⟨by (first | assumption | rfl | (exact Nat.le_of_ble_eq_true rfl) | (exact ⟨fun h01 => absurd h01 (by decide), by first | rfl | assumption⟩) | (exact ⟨fun _ => by decide, by first | rfl | assumption⟩) | (exact ⟨by assumption, by omega, by omega⟩) | (unfold inI; omega) | omega), ?_⟩; conv => whnf) | (refine ⟨fun c => ?_, fun c => ?_⟩) | fail))
          all_goals (refine q_fails (by omega) hA (by omega) hr (fun x h1 er ff => ?_); have q := hq0 x h1 er ff; have g1 := ff.1; (repeat' (first | (exact q) | (refine Ex_step ?_; conv => whnf) | (refine ⟨?_, trivial⟩) | (refine (show den _ _ _ _ _ _ _ _ from ?_); conv => whnf) | (refine ⟨fun c => False.elim (by omega), fun c => ?_⟩) | (refine ⟨fun c => ?_, fun c => False.elim (by omega)⟩) | (refine ⟨by (first | assumption | rfl | (exact Nat.le_of_ble_eq_true rfl) | (exact ⟨fun h01 => absurd h01 (by decide), by first | rfl | assumption⟩) | (exact ⟨fun _ => by decide, by first | rfl | assumption⟩) | (exact ⟨by assumption, by omega, by omega⟩) | (unfold inI; omega) | omega), ?_⟩; conv => whnf) | (refine ⟨fun c => ?_, fun c => ?_⟩) | (intro c) | fail)))
