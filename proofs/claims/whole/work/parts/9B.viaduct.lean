/-! LEVEL 2: texts: a Viaduct, part by part, the class -/
theorem bd_i {α β : Type} {r : (Int × Int) ⊕ α} {f : α → (Int × Int) ⊕ β} {y : β} (h : bd r f = .inr y) : ∃ a, r = .inr a ∧ f a = .inr y := by
  cases r with
  | inl x => cases h
  | inr a => exact ⟨a, rfl, h⟩
theorem tC_end {P : Int → Int} {n e : Int} (h : ¬ tC P n e = 32) : tF P n e < n := by
  by_cases c : tF P n e < n
  · exact c
  · exact absurd (by unfold tC; rw [if_pos c]) h
theorem tE_lt {P : Int → Int} {n e : Int} (he : e ≤ n) (h : ¬ tC P n e = 32) : e < tE P n e ∧ tE P n e ≤ n := by
  have := tF_b (P := P) he
  have := tE_b (P := P) he
  have := tC_end h
  omega
theorem pTok_lt {P : Int → Int} {n e w e' : Int} (he : e ≤ n) (hw : ¬ w = 32) (h : pTok P n e w = .inr e') : e < e' ∧ e' ≤ n := by
  unfold pTok at h
  by_cases c : tC P n e = w
  · rw [if_pos c] at h
    rw [← Sum.inr.inj h]
    exact tE_lt he (by omega)
  · rw [if_neg c] at h; cases h
theorem pNum_lt {P : Int → Int} {n e lo hi : Int} {q : Int × Int} (he : e ≤ n) (h : pNum P n e lo hi = .inr q) : e < q.2 ∧ q.2 ≤ n := by
  unfold pNum at h
  by_cases c : tC P n e = 27
  · rw [if_neg (fun x => x c)] at h
    split at h
    · cases h
    · rw [← Sum.inr.inj h]
      exact tE_lt he (by omega)
  · rw [if_pos c] at h; cases h
theorem pOpt_le {P : Int → Int} {n e w hi : Int} {A : Int → Int} {g : Int → Int → Int} {q : (Int → Int) × Int} (he : e ≤ n) (hw : ¬ w = 32) (h : pOpt P n e w hi A g = .inr q) : e ≤ q.2 ∧ q.2 ≤ n := by
  unfold pOpt at h
  by_cases c : tC P n e = w
  · rw [if_pos c] at h
    obtain ⟨a, a1, a2⟩ := bd_i h
    have t := tE_lt (P := P) he (by omega)
    have := pNum_lt t.2 a1
    rw [← Sum.inr.inj a2]
    show e ≤ a.2 ∧ a.2 ≤ n
    omega
  · rw [if_neg c] at h
    rw [← Sum.inr.inj h]
    exact ⟨Int.le_refl _, he⟩
theorem vArch_lt {P : Int → Int} {n e : Int} {A : Int → Int} {q : (Int → Int) × Int} (he : e ≤ n) (hc : ¬ tC P n e = 32) (h : vArch P n e A = .inr q) : e < q.2 ∧ q.2 ≤ n := by
  unfold vArch at h
  split at h
  · cases h
  · have t0 := tE_lt (P := P) he hc
    obtain ⟨a1, x1, h⟩ := bd_i h
    have t1 := pTok_lt t0.2 (by omega) x1
    obtain ⟨a2, x2, h⟩ := bd_i h
    have t2 := pNum_lt t1.2 x2
    obtain ⟨a3, x3, h⟩ := bd_i h
    have t3 := pOpt_le t2.2 (by omega) x3
    obtain ⟨a4, x4, h⟩ := bd_i h
    have t4 := pOpt_le t3.2 (by omega) x4
    obtain ⟨a5, x5, h⟩ := bd_i h
    have t5 := pTok_lt t4.2 (by omega) x5
    rw [← Sum.inr.inj h]
    show e < a5 ∧ a5 ≤ n
    omega
theorem vPlant_lt {P : Int → Int} {n e : Int} {A : Int → Int} {q : (Int → Int) × Int} (he : e ≤ n) (hc : ¬ tC P n e = 32) (h : vPlant P n e A = .inr q) : e < q.2 ∧ q.2 ≤ n := by
  unfold vPlant at h
  split at h
  · cases h
  · have t0 := tE_lt (P := P) he hc
    obtain ⟨a1, x1, h⟩ := bd_i h
    have t1 := pNum_lt t0.2 x1
    obtain ⟨a2, x2, h⟩ := bd_i h
    have t2 := pTok_lt t1.2 (by omega) x2
    obtain ⟨a3, x3, h⟩ := bd_i h
    have t3 := pNum_lt t2.2 x3
    obtain ⟨a4, x4, h⟩ := bd_i h
    have t4 := pTok_lt t3.2 (by omega) x4
    rw [← Sum.inr.inj h]
    show e < a4 ∧ a4 ≤ n
    omega
theorem vRule_lt {P : Int → Int} {n e td k : Int} {A : Int → Int} {q : (Int → Int) × Int} (he : e ≤ n) (hc : ¬ tC P n e = 32) (h : vRule P n e A td k = .inr q) : e < q.2 ∧ q.2 ≤ n := by
  unfold vRule at h
  split at h
  · cases h
  · have t0 := tE_lt (P := P) he hc
    obtain ⟨a1, x1, h⟩ := bd_i h
    have t1 := pNum_lt t0.2 x1
    obtain ⟨a2, x2, h⟩ := bd_i h
    have t2 := pTok_lt t1.2 (by omega) x2
    rw [← Sum.inr.inj h]
    show e < a2 ∧ a2 ≤ n
    omega
theorem vPerson_lt {P : Int → Int} {n e : Int} {A N : Int → Int} {q : (Int → Int) × Int} (he : e ≤ n) (hc : ¬ tC P n e = 32) (h : vPerson P n e A N = .inr q) : e < q.2 ∧ q.2 ≤ n := by
  unfold vPerson at h
  split at h
  · cases h
  · split at h
    · cases h
    · rename_i c25
      split at h
      · cases h
      · have t0 := tE_lt (P := P) he hc
        have t00 := tE_lt (P := P) (e := tE P n e) t0.2 (by omega)
        obtain ⟨a1, x1, h⟩ := bd_i h
        have t1 := pTok_lt t00.2 (by omega) x1
        obtain ⟨a2, x2, h⟩ := bd_i h
        have t2 := pNum_lt t1.2 x2
        obtain ⟨a3, x3, h⟩ := bd_i h
        have t3 := pOpt_le t2.2 (by omega) x3
        obtain ⟨a4, x4, h⟩ := bd_i h
        have t4 := pOpt_le t3.2 (by omega) x4
        obtain ⟨a5, x5, h⟩ := bd_i h
        have t5 := pOpt_le t4.2 (by omega) x5
        obtain ⟨a6, x6, h⟩ := bd_i h
        have t6 := pTok_lt t5.2 (by omega) x6
        rw [← Sum.inr.inj h]
        show e < a6 ∧ a6 ≤ n
        omega
/-- a part of a text: state, names, what is told -/
def vPart (P : Int → Int) (n e : Int) (A N : Int → Int) (td : Int) : (Int × Int) ⊕ (((Int → Int) × (Int → Int) × Int) × Int) := if 0 ≤ tC P n e ∧ tC P n e < 3 then bd (vRule P n e A td (tC P n e)) (fun q => .inr ((q.1, N, zor td (shlZ 1 (tC P n e))), q.2)) else if tC P n e = 3 then bd (vArch P n e A) (fun q => .inr ((q.1, N, td), q.2)) else if tC P n e = 7 then bd (vPerson P n e A N) (fun q => .inr ((q.1, fun i => if i = A 1 then c32 (tW P n (tE P n e)) else N i, td), q.2)) else if tC P n e = 12 then bd (vPlant P n e A) (fun q => .inr ((q.1, N, td), q.2)) else .inl (fltK P n e 2, tF P n e)
theorem vPart_lt {P : Int → Int} {n e td : Int} {A N : Int → Int} {q : ((Int → Int) × (Int → Int) × Int) × Int} (he : e ≤ n) (hc : ¬ tC P n e = 32) (h : vPart P n e A N td = .inr q) : e < q.2 ∧ q.2 ≤ n := by
  unfold vPart at h
  split at h
  · obtain ⟨a, x, h⟩ := bd_i h
    rw [← Sum.inr.inj h]; exact vRule_lt he hc x
  · split at h
    · obtain ⟨a, x, h⟩ := bd_i h
      rw [← Sum.inr.inj h]; exact vArch_lt he hc x
    · split at h
      · obtain ⟨a, x, h⟩ := bd_i h
        rw [← Sum.inr.inj h]; exact vPerson_lt he hc x
      · split at h
        · obtain ⟨a, x, h⟩ := bd_i h
          rw [← Sum.inr.inj h]; exact vPlant_lt he hc x
        · cases h
def FZp (v : Nat) (h h' : Mem) : Prop := h'.1 = h.1 ∧ h'.2.2 = h.2.2 ∧ ∀ r i, ¬ VQ v r → ¬ (r = 10 ∧ ¬ i = 0 ∧ ¬ i = 3 ∧ ¬ i = 4 ∧ ¬ i = 6) → ¬ (r = 12 ∨ r = 13 ∨ r = 14) → ¬ (r = 55 ∧ i = 1) → gG h' r i = gG h r i
theorem FZp.trans {v : Nat} {h h' h'' : Mem} (a : FZp v h h') (b : FZp v h' h'') : FZp v h h'' := ⟨b.1.trans a.1, b.2.1.trans a.2.1, fun r i p q t u => (b.2.2 r i p q t u).trans (a.2.2 r i p q t u)⟩
theorem FZq.p {v : Nat} {h h' : Mem} (a : FZq v h h') : FZp v h h' := ⟨a.1, a.2.1, fun r i p q t _ => a.2.2 r i p q t⟩
theorem FZp.f {v : Nat} {h h' h'' : Mem} {x : Int × Int} (a : FZp v h h') (b : FZf v h' h'' x) : FZf v h h'' x := ⟨b.1.trans a.1, b.2.1.trans a.2.1, fun r i p q t u => (b.2.2.1 r i p q t u).trans (a.2.2 r i p (by omega) t u), b.2.2.2⟩
theorem FZ.s {v : Nat} {h h' : Mem} {z : Int} (a : FZ v (sG h 55 1 z) h') : FZp v h h' := ⟨a.1, a.2.1, fun r i p q t u => by rw [a.q.2.2 r i p q t, gG_sG, if_neg u]⟩
theorem FZ.td {v : Nat} {h h' : Mem} (a : FZ v h h') (hv : v + 12 < 55) : gG h' 55 1 = gG h 55 1 := a.2.2 55 1 (by unfold VP; omega) (by omega) (by omega)
theorem FZq.td {v : Nat} {h h' : Mem} (a : FZq v h h') (hv : v + 12 < 55) : gG h' 55 1 = gG h 55 1 := a.2.2 55 1 (by unfold VQ; omega) (by omega) (by omega)
theorem bd_l {α β : Type} {x : Int × Int} {f : α → (Int × Int) ⊕ β} : bd (.inl x) f = .inl x := rfl
set_option maxHeartbeats 4000000 in
theorem w_takePart {X : Int → Int} {XL : Int} {d : Nat} {h : Mem} {Q : RetP} {K : Int} {A : Int → Int} {v : Nat} {P N : Int → Int} {n e td : Int} {r : (Int × Int) ⊕ (((Int → Int) × (Int → Int) × Int) × Int)} (hd : 7 ≤ d) (hRd : Rd h) (hA : At h P n e 0) (htd : gG h 55 1 = td) (hb : 0 ≤ td ∧ td < 8) (hNm : gG h (v + 4) = N) (hV : Vr K h v A) (hT : VAt h v) (hv : 15 ≤ v) (hv2 : v + 12 < 55) (hr : vPart P n e A N td = r) (hq0 : ∀ x h', r = .inl x → FZf v h h' x → Q (some (vI 0)) h') (hq1 : ∀ A' N' td' e' h', r = .inr ((A', N', td'), e') → Nx h' P n e' → Vr K h' v A' → gG h' (v + 4) = N' → gG h' 55 1 = td' → 0 ≤ td' ∧ td' < 8 → FZp v h h' → Q (some (vI 1)) h') : WP X XL d 77 [vR 55, vR v] h Q := by
  have k10 := hA.X
  obtain ⟨k55, r55⟩ := id hRd
  have a1 := hA.M.2.2.1
  subst hNm
  unfold vPart at hr
  refine eX8_takePart (by omega) ?_
  by_cases c0 : 0 ≤ tC P n e ∧ tC P n e < 3
  · rw [if_pos c0] at hr
    have tb := (td_b hb c0).1
    have go : ∀ (d' : Nat) (Q' : RetP), 6 ≤ d' → (∀ h' b, h'.1 = h.1 → (b = 0 ∨ b = 1) → Q (some (vI b)) h' → Q' (some (vI b)) h') → WP X XL d' 78 [vR 55, vR v, vI (tC P n e)] h Q' := fun d' Q' x y => w_takeRule x hRd hA c0 rfl htd hb hV hT hv hv2 rfl (fun z h' er ff => y h' 0 ff.1 (Or.inl rfl) (hq0 z h' (by rw [← hr, er]; rfl) ff)) (fun A' e' h' er hN' hV' f' => y h' 1 f'.1 (Or.inr rfl) (hq1 A' _ _ e' h' (by rw [← hr, er]; rfl) hN' hV' (by funext i; rw [f'.n hv i, gG_sG, if_neg (by omega)]) (by rw [f'.td hv2, g_same]) tb f'.s))
    rcases (show tC P n e = 0 ∨ tC P n e = 1 ∨ tC P n e = 2 by omega) with e0 | e0 | e0
    all_goals ((repeat' (first | (exact q') | (rw [r55]) | (rw [a1]) | (refine go _ _ (by omega) (fun h' b g' hb' q' => ?_)) | (refine ⟨⟨fun _ => hb', g'⟩, ?_⟩) | (refine Ex_step ?_; conv => whnf) | (refine ⟨?_, trivial⟩) | (refine (show den _ _ _ _ _ _ _ _ from ?_); conv => whnf) | (refine ⟨fun c => False.elim (by omega), fun c => ?_⟩) | (refine ⟨fun c => ?_, fun c => False.elim (by omega)⟩) | (refine ⟨by (first | assumption | rfl | (exact Nat.le_of_ble_eq_true rfl) | (exact ⟨fun h01 => absurd h01 (by decide), by first | rfl | assumption⟩) | (exact ⟨fun _ => by decide, by first | rfl | assumption⟩) | (exact ⟨by assumption, by omega, by omega⟩) | (unfold inI; omega) | omega), ?_⟩; conv => whnf) | (refine ⟨fun c => ?_, fun c => ?_⟩) | (intro c) | fail)))
  · rw [if_neg c0] at hr
    by_cases c3 : tC P n e = 3
    · rw [if_pos c3] at hr
      have go : ∀ (d' : Nat) (Q' : RetP), 6 ≤ d' → (∀ h' b, h'.1 = h.1 → (b = 0 ∨ b = 1) → Q (some (vI b)) h' → Q' (some (vI b)) h') → WP X XL d' 79 [vR 55, vR v] h Q' := fun d' Q' x y => w_takeArch x hRd hA c3 hV hT hv rfl (fun z h' er ff => y h' 0 ff.1 (Or.inl rfl) (hq0 z h' (by rw [← hr, er]; rfl) ff)) (fun A' e' h' er hN' hV' f' => y h' 1 f'.1 (Or.inr rfl) (hq1 A' _ _ e' h' (by rw [← hr, er]; rfl) hN' hV' (by funext i; exact f'.n hv i) ((f'.td hv2).trans htd) hb f'.q.p))
      (repeat' (first | (exact q') | (rw [r55]) | (rw [a1]) | (refine go _ _ (by omega) (fun h' b g' hb' q' => ?_)) | (refine ⟨⟨fun _ => hb', g'⟩, ?_⟩) | (refine Ex_step ?_; conv => whnf) | (refine ⟨?_, trivial⟩) | (refine (show den _ _ _ _ _ _ _ _ from ?_); conv => whnf) | (refine ⟨fun c => False.elim (by omega), fun c => ?_⟩) | (refine ⟨fun c => ?_, fun c => False.elim (by omega)⟩) | (refine ⟨by (first | assumption | rfl | (exact Nat.le_of_ble_eq_true rfl) | (exact ⟨fun h01 => absurd h01 (by decide), by first | rfl | assumption⟩) | (exact ⟨fun _ => by decide, by first | rfl | assumption⟩) | (exact ⟨by assumption, by omega, by omega⟩) | (unfold inI; omega) | omega), ?_⟩; conv => whnf) | (refine ⟨fun c => ?_, fun c => ?_⟩) | (intro c) | fail))
    · rw [if_neg c3] at hr
      by_cases c7 : tC P n e = 7
      · rw [if_pos c7] at hr
        have go : ∀ (d' : Nat) (Q' : RetP), 6 ≤ d' → (∀ h' b, h'.1 = h.1 → (b = 0 ∨ b = 1) → Q (some (vI b)) h' → Q' (some (vI b)) h') → WP X XL d' 80 [vR 55, vR v] h Q' := fun d' Q' x y => w_takePerson x hRd hA c7 hV hT hv rfl (fun z h' er ff => y h' 0 ff.1 (Or.inl rfl) (hq0 z h' (by rw [← hr, er]; rfl) ff)) (fun A' e' h' er hN' hV' f' nm => y h' 1 f'.1 (Or.inr rfl) (hq1 A' _ _ e' h' (by rw [← hr, er]; rfl) hN' hV' (by funext i; exact nm i) ((f'.td hv2).trans htd) hb f'.p))
        (repeat' (first | (exact q') | (rw [r55]) | (rw [a1]) | (refine go _ _ (by omega) (fun h' b g' hb' q' => ?_)) | (refine ⟨⟨fun _ => hb', g'⟩, ?_⟩) | (refine Ex_step ?_; conv => whnf) | (refine ⟨?_, trivial⟩) | (refine (show den _ _ _ _ _ _ _ _ from ?_); conv => whnf) | (refine ⟨fun c => False.elim (by omega), fun c => ?_⟩) | (refine ⟨fun c => ?_, fun c => False.elim (by omega)⟩) | (refine ⟨by (first | assumption | rfl | (exact Nat.le_of_ble_eq_true rfl) | (exact ⟨fun h01 => absurd h01 (by decide), by first | rfl | assumption⟩) | (exact ⟨fun _ => by decide, by first | rfl | assumption⟩) | (exact ⟨by assumption, by omega, by omega⟩) | (unfold inI; omega) | omega), ?_⟩; conv => whnf) | (refine ⟨fun c => ?_, fun c => ?_⟩) | (intro c) | fail))
      · rw [if_neg c7] at hr
        by_cases c12 : tC P n e = 12
        · rw [if_pos c12] at hr
          have go : ∀ (d' : Nat) (Q' : RetP), 6 ≤ d' → (∀ h' b, h'.1 = h.1 → (b = 0 ∨ b = 1) → Q (some (vI b)) h' → Q' (some (vI b)) h') → WP X XL d' 81 [vR 55, vR v] h Q' := fun d' Q' x y => w_takePlant x hRd hA c12 hV hT hv rfl (fun z h' er ff => y h' 0 ff.1 (Or.inl rfl) (hq0 z h' (by rw [← hr, er]; rfl) ff)) (fun A' e' h' er hN' hV' f' => y h' 1 f'.1 (Or.inr rfl) (hq1 A' _ _ e' h' (by rw [← hr, er]; rfl) hN' hV' (by funext i; exact f'.n hv i) ((f'.td hv2).trans htd) hb f'.q.p))
          (repeat' (first | (exact q') | (rw [r55]) | (rw [a1]) | (refine go _ _ (by omega) (fun h' b g' hb' q' => ?_)) | (refine ⟨⟨fun _ => hb', g'⟩, ?_⟩) | (refine Ex_step ?_; conv => whnf) | (refine ⟨?_, trivial⟩) | (refine (show den _ _ _ _ _ _ _ _ from ?_); conv => whnf) | (refine ⟨fun c => False.elim (by omega), fun c => ?_⟩) | (refine ⟨fun c => ?_, fun c => False.elim (by omega)⟩) | (refine ⟨by (first | assumption | rfl | (exact Nat.le_of_ble_eq_true rfl) | (exact ⟨fun h01 => absurd h01 (by decide), by first | rfl | assumption⟩) | (exact ⟨fun _ => by decide, by first | rfl | assumption⟩) | (exact ⟨by assumption, by omega, by omega⟩) | (unfold inI; omega) | omega), ?_⟩; conv => whnf) | (refine ⟨fun c => ?_, fun c => ?_⟩) | (intro c) | fail))
        · rw [if_neg c12] at hr
          have go : ∀ (d' : Nat) (Q' : RetP), 1 ≤ d' → (∀ h', h'.1 = h.1 → Q (some (vI 0)) h' → Q' (some (vI 0)) h') → WP X XL d' 69 [vR 10, vI 2] h Q' := fun d' Q' x y => k_refuse x hA hr (fun z h' er ff => y h' ff.1 (hq0 z h' er (FZ.refl.f ff)))
          (repeat' (first | (exact q') | (rw [r55]) | (rw [a1]) | (refine go _ _ (by omega) (fun h' g' q' => ?_)) | (refine Ex_step ?_; conv => whnf) | (refine ⟨?_, trivial⟩) | (refine (show den _ _ _ _ _ _ _ _ from ?_); conv => whnf) | (refine ⟨fun c => False.elim (by omega), fun c => ?_⟩) | (refine ⟨fun c => ?_, fun c => False.elim (by omega)⟩) | (refine ⟨by (first | assumption | rfl | (exact Nat.le_of_ble_eq_true rfl) | (exact ⟨fun h01 => absurd h01 (by decide), by first | rfl | assumption⟩) | (exact ⟨fun _ => by decide, by first | rfl | assumption⟩) | (exact ⟨by assumption, by omega, by omega⟩) | (unfold inI; omega) | omega), ?_⟩; conv => whnf) | (refine ⟨fun c => ?_, fun c => ?_⟩) | (intro c) | fail))
