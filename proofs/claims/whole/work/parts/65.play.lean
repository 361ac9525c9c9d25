/-! LEVEL 2: games: the reference -/
def stB (l bd got its : Int) : Prop := bd = -1 ∨ (l % 2 = 0 ∧ got < its) ∨ (¬ l % 2 = 0 ∧ its < got)
set_option maxHeartbeats 4000000 in
theorem r_settles {X : Int → Int} {XL : Int} {d : Nat} {h : Mem} {Q : RetP} {l its : Int} (hd : 1 ≤ d) (kq : kd h 127 = 10) (hX : RK h) (hl : 0 ≤ l ∧ l ≤ 4) (hq1 : stB l (gG h 142 l) (gG h 141 l) its → Q none (sG (sG h 141 l its) 142 l (gG h 140 l))) (hq0 : ¬ stB l (gG h 142 l) (gG h 141 l) its → Q none h) : WP X XL d 319 [vR 127, vI l, vI its] h Q := by
  obtain ⟨⟨x1, xk1, xl1⟩, ⟨x8, xk8, xl8⟩, ⟨x9, xk9, xl9⟩, ⟨x21, xk21, xl21⟩, ⟨x25, xk25, xl25⟩, ⟨x26, xk26, xl26⟩, ⟨x27, xk27, xl27⟩, ⟨x28, xk28, xl28⟩, ⟨x29, xk29, xl29⟩, ⟨x30, xk30, xl30⟩, ⟨x31, xk31, xl31⟩, ⟨x34, xk34, xl34⟩, ⟨x35, xk35, xl35⟩, ⟨x36, xk36, xl36⟩⟩ := id hX
  have hz := r2_e hl.1 (by omega)
  have e0 : gG (sG h 141 l its) 140 l = gG h 140 l := by rw [gG_sG, if_neg (by omega)]
  rw [← e0] at hq1
  unfold stB at hq1 hq0
  refine eX10_settles (by omega) ?_
  (repeat' (first | (rw [hz]) | (rw [x31]) | (rw [x30]) | (rw [x29]) | (rw [gR_sG]) | (refine ⟨⟨xk29, by omega, Int.lt_of_lt_of_le (by omega : _ < (5 : Int)) (Int.le_of_eq xl29.symm)⟩, ?_⟩; conv => whnf) | (refine ⟨⟨xk30, by omega, Int.lt_of_lt_of_le (by omega : _ < (5 : Int)) (Int.le_of_eq xl30.symm)⟩, ?_⟩; conv => whnf) | (refine ⟨⟨xk31, by omega, Int.lt_of_lt_of_le (by omega : _ < (5 : Int)) (Int.le_of_eq xl31.symm)⟩, ?_⟩; conv => whnf) | (refine Ex_step ?_; conv => whnf) | (refine ⟨?_, trivial⟩) | (refine (show den _ _ _ _ _ _ _ _ from ?_); conv => whnf) | (refine ⟨fun c => False.elim (by omega), fun c => ?_⟩) | (refine ⟨fun c => ?_, fun c => False.elim (by omega)⟩) | (refine ⟨by (first | assumption | rfl | (exact Nat.le_of_ble_eq_true rfl) | (exact ⟨fun h01 => absurd h01 (by decide), by first | rfl | assumption⟩) | (exact ⟨fun _ => by decide, by first | rfl | assumption⟩) | (exact ⟨by assumption, by omega, by omega⟩) | (unfold inI; omega) | omega), ?_⟩; conv => whnf) | (refine ⟨fun c => ?_, fun c => ?_⟩) | (intro c) | fail))
  all_goals first | (exact hq1 (by omega)) | (exact hq0 (by omega))
theorem goA_8 {A : Int → Int} {m a : Int} (hm : 0 ≤ m) : eq8 (goB A m) (goA A m a) := by
  intro j hj
  unfold goB goA
  by_cases e : j = 37 + 6 * m + 3
  · rw [e, pu_e, pu_e]
  · rw [pu_n e, pu_n e, pu_n hj]
def alw (A : Int → Int) (m e : Int) : Prop := (e = 0 ∧ cGo A m) ∨ (e = 1 ∧ cJp A m) ∨ e = 2
def vle (p o : Int) (k : Nat) (t m e : Int) (A : Int → Int) : Int := if e = 0 then gvN p o k t (goB A m) else if e = 1 then gvN p o k t (jmB A (pA A m 3)) else gvN p o k t A
set_option maxHeartbeats 4000000 in
theorem r_doesDeed {X : Int → Int} {XL : Int} {d : Nat} {h : Mem} {Q : RetP} {K : Int} {A : Int → Int} {p o m e t : Int} {k : Nat} (hd : 7 ≤ d) (hR : Rr K h A) (hm0 : 0 ≤ m) (hm1 : m < A 1) (hp0 : 0 ≤ p) (hp1 : p < A 1) (ho0 : 0 ≤ o) (ho1 : o < A 1) (he : 0 ≤ e ∧ e ≤ 2) (hq1 : alw A m e → ∀ h' A', Rr K h' A' → A' 1 = A 1 → FrA h h' → gvN p o k t A' = vle p o k t m e A → Q (some (vI 1)) h') (hq0 : ¬ alw A m e → Q (some (vI 0)) h) : WP X XL d 320 [vR 127, vI m, vI e] h Q := by
  have kq := hR.1.1
  have hA := hR.2.2
  have b0 := hA.1
  have b1 := hA.2.1
  have hb := bp_of hA hm0 hm1
  unfold alw cGo cJp at hq1 hq0
  refine eX10_doesDeed (by omega) ?_
  rcases (show e = 0 ∨ e = 1 ∨ e = 2 by omega) with rfl | rfl | rfl
  · by_cases ho : pA A m 3 < A 0
    · have q1 : goA A m (pA A m 3) 1 = A 1 := by unfold goA; rw [pu_n (by omega), pu_n (by omega)]
      have gi : okB A m m (pA A m 3) = decide (sAl A m (pA A m 3) ≤ hoA A (pA A m 3)) := by rw [okB_1]; exact okBy_sAl
      by_cases hg : sAl A m (pA A m 3) ≤ hoA A (pA A m 3)
      · rw [decide_eq_true hg] at gi
        (repeat' (first | (refine r_personOf (by omega) hR (by omega) (by omega) ?_) | (refine r_isOver (by omega) hR hm0 hm1 (fun c => absurd c (by omega)) (fun c => ?_)) | (refine r_bears (by omega) hR hm0 hm1 hm0 hm1 (by omega) (by omega) (fun c => ?_) (fun c => absurd (c.symm.trans gi) (by decide))) | (refine r_goes (by omega) hR hm0 hm1 (by omega) (by omega) (by omega) (fun h1 hR1 f1 => ?_); have g1 := f1.1.1) | (refine Ex_step ?_; conv => whnf) | (refine ⟨?_, trivial⟩) | (refine (show den _ _ _ _ _ _ _ _ from ?_); conv => whnf) | (refine ⟨fun c => False.elim (by omega), fun c => ?_⟩) | (refine ⟨fun c => ?_, fun c => False.elim (by omega)⟩) | (refine ⟨by (first | assumption | rfl | (exact Nat.le_of_ble_eq_true rfl) | (exact ⟨fun h01 => absurd h01 (by decide), by first | rfl | assumption⟩) | (exact ⟨fun _ => by decide, by first | rfl | assumption⟩) | (exact ⟨by assumption, by omega, by omega⟩) | (unfold inI; omega) | omega), ?_⟩; conv => whnf) | (refine ⟨fun c => ?_, fun c => ?_⟩) | (intro c) | fail))
        refine hq1 (Or.inl ⟨rfl, ho, hg⟩) h1 _ hR1 q1 f1 ?_
        rw [show vle p o k t m 0 A = gvN p o k t (goB A m) from if_pos rfl]
        exact (gv_c hp0 ho0 k t K (goB A m) _ (goB_ok hA hm0 hm1 ho) (by unfold goB; rw [pu_n (by omega)]; exact hp1) (by unfold goB; rw [pu_n (by omega)]; exact ho1) (goA_8 hm0)).symm
      · rw [decide_eq_false hg] at gi
        (repeat' (first | (refine r_personOf (by omega) hR (by omega) (by omega) ?_) | (refine r_isOver (by omega) hR hm0 hm1 (fun c => absurd c (by omega)) (fun c => ?_)) | (refine r_bears (by omega) hR hm0 hm1 hm0 hm1 (by omega) (by omega) (fun c => absurd (c.symm.trans gi) (by decide)) (fun c => ?_)) | (refine Ex_step ?_; conv => whnf) | (refine ⟨?_, trivial⟩) | (refine (show den _ _ _ _ _ _ _ _ from ?_); conv => whnf) | (refine ⟨fun c => False.elim (by omega), fun c => ?_⟩) | (refine ⟨fun c => ?_, fun c => False.elim (by omega)⟩) | (refine ⟨by (first | assumption | rfl | (exact Nat.le_of_ble_eq_true rfl) | (exact ⟨fun h01 => absurd h01 (by decide), by first | rfl | assumption⟩) | (exact ⟨fun _ => by decide, by first | rfl | assumption⟩) | (exact ⟨by assumption, by omega, by omega⟩) | (unfold inI; omega) | omega), ?_⟩; conv => whnf) | (refine ⟨fun c => ?_, fun c => ?_⟩) | (intro c) | fail))
        exact hq0 (by omega)
    · (repeat' (first | (refine r_personOf (by omega) hR (by omega) (by omega) ?_) | (refine r_isOver (by omega) hR hm0 hm1 (fun c => ?_) (fun c => absurd c ho)) | (refine Ex_step ?_; conv => whnf) | (refine ⟨?_, trivial⟩) | (refine (show den _ _ _ _ _ _ _ _ from ?_); conv => whnf) | (refine ⟨fun c => False.elim (by omega), fun c => ?_⟩) | (refine ⟨fun c => ?_, fun c => False.elim (by omega)⟩) | (refine ⟨by (first | assumption | rfl | (exact Nat.le_of_ble_eq_true rfl) | (exact ⟨fun h01 => absurd h01 (by decide), by first | rfl | assumption⟩) | (exact ⟨fun _ => by decide, by first | rfl | assumption⟩) | (exact ⟨by assumption, by omega, by omega⟩) | (unfold inI; omega) | omega), ?_⟩; conv => whnf) | (refine ⟨fun c => ?_, fun c => ?_⟩) | (intro c) | fail))
      exact hq0 (by omega)
  · by_cases ho : pA A m 3 < A 0
    · have q1 : jmpA A (pA A m 3) 1 = A 1 := by unfold jmpA; rw [pu_n (by omega), pu_n (by omega), pu_n (by omega)]
      (repeat' (first | (refine r_personOf (by omega) hR (by omega) (by omega) ?_) | (refine r_isOver (by omega) hR hm0 hm1 (fun c => absurd c (by omega)) (fun c => ?_)) | (refine r_jumps (by omega) hR (by omega) ho (fun c => ?_) (fun c h1 hR1 f1 => ?_)) | (refine ⟨⟨fun _ => Or.inr rfl, f1.1.1⟩, ?_⟩) | (refine Ex_step ?_; conv => whnf) | (refine ⟨?_, trivial⟩) | (refine (show den _ _ _ _ _ _ _ _ from ?_); conv => whnf) | (refine ⟨fun c => False.elim (by omega), fun c => ?_⟩) | (refine ⟨fun c => ?_, fun c => False.elim (by omega)⟩) | (refine ⟨by (first | assumption | rfl | (exact Nat.le_of_ble_eq_true rfl) | (exact ⟨fun h01 => absurd h01 (by decide), by first | rfl | assumption⟩) | (exact ⟨fun _ => by decide, by first | rfl | assumption⟩) | (exact ⟨by assumption, by omega, by omega⟩) | (unfold inI; omega) | omega), ?_⟩; conv => whnf) | (refine ⟨fun c => ?_, fun c => ?_⟩) | (intro c) | fail))
      · exact hq0 (by omega)
      · refine hq1 (Or.inr (Or.inl ⟨rfl, ho, by assumption⟩)) h1 _ hR1 q1 f1 ?_
        rw [show vle p o k t m 1 A = gvN p o k t (jmB A (pA A m 3)) by unfold vle; rw [if_neg (by omega), if_pos rfl]]
        exact (gv_c hp0 ho0 k t K (jmB A (pA A m 3)) _ (jmB_ok hA (by omega) ho) (by unfold jmB; rw [pu_n (by omega), pu_n (by omega)]; exact hp1) (by unfold jmB; rw [pu_n (by omega), pu_n (by omega)]; exact ho1) jm_8).symm
    · (repeat' (first | (refine r_personOf (by omega) hR (by omega) (by omega) ?_) | (refine r_isOver (by omega) hR hm0 hm1 (fun c => ?_) (fun c => absurd c ho)) | (refine Ex_step ?_; conv => whnf) | (refine ⟨?_, trivial⟩) | (refine (show den _ _ _ _ _ _ _ _ from ?_); conv => whnf) | (refine ⟨fun c => False.elim (by omega), fun c => ?_⟩) | (refine ⟨fun c => ?_, fun c => False.elim (by omega)⟩) | (refine ⟨by (first | assumption | rfl | (exact Nat.le_of_ble_eq_true rfl) | (exact ⟨fun h01 => absurd h01 (by decide), by first | rfl | assumption⟩) | (exact ⟨fun _ => by decide, by first | rfl | assumption⟩) | (exact ⟨by assumption, by omega, by omega⟩) | (unfold inI; omega) | omega), ?_⟩; conv => whnf) | (refine ⟨fun c => ?_, fun c => ?_⟩) | (intro c) | fail))
      exact hq0 (by omega)
  · (repeat' (first | (refine r_personOf (by omega) hR (by omega) (by omega) ?_) | (refine Ex_step ?_; conv => whnf) | (refine ⟨?_, trivial⟩) | (refine (show den _ _ _ _ _ _ _ _ from ?_); conv => whnf) | (refine ⟨fun c => False.elim (by omega), fun c => ?_⟩) | (refine ⟨fun c => ?_, fun c => False.elim (by omega)⟩) | (refine ⟨by (first | assumption | rfl | (exact Nat.le_of_ble_eq_true rfl) | (exact ⟨fun h01 => absurd h01 (by decide), by first | rfl | assumption⟩) | (exact ⟨fun _ => by decide, by first | rfl | assumption⟩) | (exact ⟨by assumption, by omega, by omega⟩) | (unfold inI; omega) | omega), ?_⟩; conv => whnf) | (refine ⟨fun c => ?_, fun c => ?_⟩) | (intro c) | fail))
    refine hq1 (Or.inr (Or.inr rfl)) h A hR rfl FrA.refl ?_
    unfold vle
    rw [if_neg (by omega), if_neg (by omega)]
set_option maxHeartbeats 4000000 in
theorem r_standing {X : Int → Int} {XL : Int} {d : Nat} {h : Mem} {Q : RetP} {K : Int} {A : Int → Int} {p o : Int} (hd : 3 ≤ d) (hR : Rr K h A) (hp0 : 0 ≤ p) (hp1 : p < A 1) (ho0 : 0 ≤ o) (ho1 : o < A 1) (hq : Q (some (vI (pA A p 3 - pA A o 3))) h) : WP X XL d 321 [vR 127, vI p, vI o] h Q := by
  have kq := hR.1.1
  have b0 := hR.2.2.1
  have b1 := hR.2.2.2.1
  have h1 := bp_of hR.2.2 hp0 hp1
  have h2 := bp_of hR.2.2 ho0 ho1
  refine eX10_standing (by omega) ?_
  (repeat' (first | (refine r_personOf (by omega) hR (by omega) (by omega) ?_) | (refine Ex_step ?_; conv => whnf) | (refine ⟨?_, trivial⟩) | (refine (show den _ _ _ _ _ _ _ _ from ?_); conv => whnf) | (refine ⟨fun c => False.elim (by omega), fun c => ?_⟩) | (refine ⟨fun c => ?_, fun c => False.elim (by omega)⟩) | (refine ⟨by (first | assumption | rfl | (exact Nat.le_of_ble_eq_true rfl) | (exact ⟨fun h01 => absurd h01 (by decide), by first | rfl | assumption⟩) | (exact ⟨fun _ => by decide, by first | rfl | assumption⟩) | (exact ⟨by assumption, by omega, by omega⟩) | (unfold inI; omega) | omega), ?_⟩; conv => whnf) | (refine ⟨fun c => ?_, fun c => ?_⟩) | (intro c) | fail))
  exact hq
/-- nothing of the levels below l has changed -/
def FrL (l : Int) (h h' : Mem) : Prop := FrH h h' ∧ (∀ c, (c = 140 ∨ c = 141 ∨ c = 142) → ∀ j, j < l → gG h' c j = gG h c j) ∧ ∀ i, 90 ≤ i → i < 2748 + 90 * l → gG h' 128 i = gG h 128 i
theorem FrL.refl {l : Int} {h : Mem} : FrL l h h := ⟨FrH.refl, fun _ _ _ _ => rfl, fun _ _ _ => rfl⟩
theorem FrL.trans {l : Int} {h h' h'' : Mem} (a : FrL l h h') (b : FrL l h' h'') : FrL l h h'' := ⟨a.1.trans b.1, fun c hc j hj => (b.2.1 c hc j hj).trans (a.2.1 c hc j hj), fun i h0 h1 => (b.2.2 i h0 h1).trans (a.2.2 i h0 h1)⟩
theorem FrL.mono {l l' : Int} {h h' : Mem} (a : FrL l' h h') (b : l ≤ l') : FrL l h h' := ⟨a.1, fun c hc j hj => a.2.1 c hc j (by omega), fun i h0 h1 => a.2.2 i h0 (by omega)⟩
theorem FrA.L {l : Int} {h h' : Mem} (a : FrA h h') : FrL l h h' := ⟨a.H, fun c hc j _ => a.1.2.2 c (by omega) j, fun i h0 _ => a.2 i (Or.inr h0)⟩
theorem FrL.o {l : Int} {h h' : Mem} {c : Nat} {i z : Int} (a : FrL l h h') (hc : c = 140 ∨ c = 141 ∨ c = 142) (hi : l ≤ i) : FrL l h (sG h' c i z) := ⟨a.1.o (by omega), fun c' hc' j hj => by rw [gG_sG, if_neg (by omega)]; exact a.2.1 c' hc' j hj, fun j h0 h1 => by rw [gG_sG, if_neg (by omega)]; exact a.2.2 j h0 h1⟩
theorem FrL.kp {l : Int} {h h' : Mem} (hl : 0 ≤ l) (a : Fr (fun r => r = 128) h h') (b : ∀ j, j < 2748 + 90 * (l + 1) ∨ 2748 + 90 * (l + 1) + 90 ≤ j → gG h' 128 j = gG h 128 j) : FrL (l + 1) h h' := ⟨FrH.kp a (by omega) b, fun c hc j _ => a.2.2 c (by omega) j, fun i h0 h1 => b i (Or.inl h1)⟩
theorem Kp.L {l : Int} {h h' : Mem} {B : Int → Int} (a : Kp h (2748 + 90 * l) B) (hl : 0 ≤ l) (b : FrL (l + 1) h h') : Kp h' (2748 + 90 * l) B := fun j h0 h1 => (b.2.2 _ (by omega) (by omega)).trans (a j h0 h1)
def LC (X : Int → Int) (XL K : Int) (d : Nat) (p o n : Int) (S1 : List (Nat × Nat)) (Q : RetP) (k : Nat) (l : Int) : Prop := ∀ (h : Mem) (A A0 : Int → Int), Rr K h A0 → AOk K A → Kp h (2748 + 90 * l) A → RK h → gG h 140 l = -1 → gG h 142 l = -1 → p < A 1 → o < A 1 → (∀ h', Rr K h' A → FrL l h h' → gG h' 141 l = gvN p o (k + 1) l A → (l = 0 → gG h' 142 0 = fmA p o k A) → (l = 0 → Kp h' 2748 A) → (l = 0 → Ex (WP X XL d) KX10_playing S1 Q 179 [some (vR 127), some (vI p), some (vI o), some (vI n), some (vI l)] [] h') ∧ (0 < l → Ex (WP X XL d) KX10_playing S1 Q 75 [some (vR 127), some (vI p), some (vI o), some (vI n), some (vI l)] [] h')) → Ex (WP X XL d) KX10_playing S1 Q 36 [some (vR 127), some (vI p), some (vI o), some (vI n), some (vI l)] [] h
/-- how deeds are gone through at a level -/
def nxt (l bd got its e : Int) (bd' got' : Int) : Prop := (stB l bd got its ∧ bd' = e ∧ got' = its) ∨ (¬ stB l bd got its ∧ bd' = bd ∧ got' = got)
theorem fold_val {p o l : Int} {k : Nat} {A : Int → Int} {m b0 g0 b1 g1 b2 g2 bI gI : Int} (hm : mvr p o l = m) (hI : bI = -1) (h0 : (cGo A m ∧ nxt l bI gI (gvN p o k (l + 1) (goB A m)) 0 b0 g0) ∨ (¬ cGo A m ∧ b0 = bI ∧ g0 = gI)) (h1 : (cJp A m ∧ nxt l b0 g0 (gvN p o k (l + 1) (jmB A (pA A m 3))) 1 b1 g1) ∨ (¬ cJp A m ∧ b1 = b0 ∧ g1 = g0)) (h2 : nxt l b1 g1 (gvN p o k (l + 1) A) 2 b2 g2) : g2 = gvN p o (k + 1) l A ∧ (l = 0 → m = p → b2 = fmA p o k A) := by
  obtain ⟨gv1, gv2, gv3, gv4⟩ := gv_val (p := p) (o := o) (t := l) (k := k) (A := A) (m := m) hm
  have hfm : l = 0 → m = p → fmA p o k A = (if (pA A m 3 < A 0 ∧ sAl A m (pA A m 3) ≤ hoA A (pA A m 3)) ∧ gvN p o k (l + 1) (goB A m) = gvN p o (k + 1) l A then 0 else if (pA A m 3 < A 0 ∧ (hoA A (pA A m 3) < 60 ∨ 0 < moA A (pA A m 3))) ∧ gvN p o k (l + 1) (jmB A (pA A m 3)) = gvN p o (k + 1) l A then 1 else 2) := by
    intro e f; subst e; subst f; rfl
  unfold bst at gv1 gv2 gv3
  generalize gvN p o k (l + 1) (goB A m) = v0 at *
  generalize gvN p o k (l + 1) (jmB A (pA A m 3)) = v1 at *
  generalize gvN p o k (l + 1) A = v2 at *
  generalize gvN p o (k + 1) l A = V at *
  unfold nxt stB at *
  by_cases hl2 : l % 2 = 0
  · rw [if_pos hl2] at gv2 gv3
    rw [if_pos hl2, if_pos hl2] at gv1
    by_cases c0 : cGo A m
    · have h0 := (h0.resolve_right (fun q => q.1 c0)).2
      by_cases c1 : cJp A m
      · have h1 := (h1.resolve_right (fun q => q.1 c1)).2
        have hV := gv1 c0 c1
        clear gv1 gv2 gv3 gv4
        refine ⟨by omega, fun e f => ?_⟩
        rw [hfm e f]
        by_cases q0 : v0 = V
        · rw [if_pos (show (pA A m 3 < A 0 ∧ sAl A m (pA A m 3) ≤ hoA A (pA A m 3)) ∧ v0 = V from ⟨c0, q0⟩)]; omega
        · rw [if_neg (fun q => q0 q.2)]
          by_cases q1 : v1 = V
          · rw [if_pos (show (pA A m 3 < A 0 ∧ (hoA A (pA A m 3) < 60 ∨ 0 < moA A (pA A m 3))) ∧ v1 = V from ⟨c1, q1⟩)]; omega
          · rw [if_neg (fun q => q1 q.2)]; omega
      · have h1 := (h1.resolve_left (fun q => c1 q.1)).2
        have hV := gv2 c0 c1
        clear gv1 gv2 gv3 gv4
        refine ⟨by omega, fun e f => ?_⟩
        rw [hfm e f]
        by_cases q0 : v0 = V
        · rw [if_pos (show (pA A m 3 < A 0 ∧ sAl A m (pA A m 3) ≤ hoA A (pA A m 3)) ∧ v0 = V from ⟨c0, q0⟩)]; omega
        · rw [if_neg (fun q => q0 q.2), if_neg (fun q => c1 q.1)]; omega
    · have h0 := (h0.resolve_left (fun q => c0 q.1)).2
      by_cases c1 : cJp A m
      · have h1 := (h1.resolve_right (fun q => q.1 c1)).2
        have hV := gv3 c0 c1
        clear gv1 gv2 gv3 gv4
        refine ⟨by omega, fun e f => ?_⟩
        rw [hfm e f, if_neg (fun q => c0 q.1)]
        by_cases q1 : v1 = V
        · rw [if_pos (show (pA A m 3 < A 0 ∧ (hoA A (pA A m 3) < 60 ∨ 0 < moA A (pA A m 3))) ∧ v1 = V from ⟨c1, q1⟩)]; omega
        · rw [if_neg (fun q => q1 q.2)]; omega
      · have h1 := (h1.resolve_left (fun q => c1 q.1)).2
        have hV := gv4 c0 c1
        clear gv1 gv2 gv3 gv4
        refine ⟨by omega, fun e f => ?_⟩
        rw [hfm e f, if_neg (fun q => c0 q.1), if_neg (fun q => c1 q.1)]; omega
  · rw [if_neg hl2] at gv2 gv3
    rw [if_neg hl2, if_neg hl2] at gv1
    refine ⟨?_, fun e => by omega⟩
    clear hfm
    by_cases c0 : cGo A m
    · have h0 := (h0.resolve_right (fun q => q.1 c0)).2
      by_cases c1 : cJp A m
      · have h1 := (h1.resolve_right (fun q => q.1 c1)).2
        have hV := gv1 c0 c1; clear gv1 gv2 gv3 gv4; omega
      · have h1 := (h1.resolve_left (fun q => c1 q.1)).2
        have hV := gv2 c0 c1; clear gv1 gv2 gv3 gv4; omega
    · have h0 := (h0.resolve_left (fun q => c0 q.1)).2
      by_cases c1 : cJp A m
      · have h1 := (h1.resolve_right (fun q => q.1 c1)).2
        have hV := gv3 c0 c1; clear gv1 gv2 gv3 gv4; omega
      · have h1 := (h1.resolve_left (fun q => c1 q.1)).2
        have hV := gv4 c0 c1; clear gv1 gv2 gv3 gv4; omega
set_option maxHeartbeats 4000000 in
theorem lc_after {X : Int → Int} {XL K : Int} {d : Nat} {p o n : Int} {S1 : List (Nat × Nat)} {Q : RetP} (hd : 12 ≤ d) (hp0 : 0 ≤ p) (ho0 : 0 ≤ o) (hn4 : n ≤ 4) {k : Nat} {l e val : Int} {A A' : Int → Int} {h h3 : Mem} (hkl : n - l = (k : Int) + 1) (hl : 0 ≤ l) (hnext : ∀ k', k = k' + 1 → LC X XL K d p o n S1 Q k' (l + 1)) (hX : RK h) (hpA : p < A 1) (hoA : o < A 1) (hR3 : Rr K h3 A') (hA1 : A' 1 = A 1) (hK3 : Kp h3 (2748 + 90 * l) A) (f3 : FrL l h h3) (d3 : gG h3 140 l = e) (hv : gvN p o k (l + 1) A' = val) (cont : ∀ h' B, Rr K h' B → Kp h' (2748 + 90 * l) A → FrL l h h' → gG h' 140 l = e → nxt l (gG h3 142 l) (gG h3 141 l) val e (gG h' 142 l) (gG h' 141 l) → Ex (WP X XL d) KX10_playing S1 Q 36 [some (vR 127), some (vI p), some (vI o), some (vI n), some (vI l)] [] h') : Ex (WP X XL d) KX10_playing S1 Q 125 [some (vR 127), some (vI p), some (vI o), some (vI n), some (vI l)] [] h3 := by
  have kq := hR3.1.1
  have hX3 := hX.eq f3.1.1 f3.1.2.1
  obtain ⟨⟨x1, xk1, xl1⟩, ⟨x8, xk8, xl8⟩, ⟨x9, xk9, xl9⟩, ⟨x21, xk21, xl21⟩, ⟨x25, xk25, xl25⟩, ⟨x26, xk26, xl26⟩, ⟨x27, xk27, xl27⟩, ⟨x28, xk28, xl28⟩, ⟨x29, xk29, xl29⟩, ⟨x30, xk30, xl30⟩, ⟨x31, xk31, xl31⟩, ⟨x34, xk34, xl34⟩, ⟨x35, xk35, xl35⟩, ⟨x36, xk36, xl36⟩⟩ := id hX3
  have c1 : stB l (gG h3 142 l) (gG h3 141 l) val → Ex (WP X XL d) KX10_playing S1 Q 36 [some (vR 127), some (vI p), some (vI o), some (vI n), some (vI l)] [] (sG (sG h3 141 l val) 142 l (gG h3 140 l)) := fun hs => cont _ A' ((hR3.o (by omega)).o (by omega)) ((hK3.o (by omega)).o (by omega)) ((f3.o (by omega) (by omega)).o (by omega) (by omega)) (by rw [gG_sG, if_neg (by omega), gG_sG, if_neg (by omega)]; exact d3) (Or.inl ⟨hs, by rw [g_same]; exact d3, by rw [gG_sG, if_neg (by omega), g_same]⟩)
  have c0 : ¬ stB l (gG h3 142 l) (gG h3 141 l) val → Ex (WP X XL d) KX10_playing S1 Q 36 [some (vR 127), some (vI p), some (vI o), some (vI n), some (vI l)] [] h3 := fun hs => cont _ A' hR3 hK3 f3 d3 (Or.inr ⟨hs, rfl, rfl⟩)
  cases k with
  | zero =>
    have hv0 : pA A' p 3 - pA A' o 3 = val := hv
    refine Ex_step ?_; conv => whnf
    (repeat' (first | (rw [hv0]) | (exact c1 (by assumption)) | (exact c0 (by assumption)) | (refine r_standing (by omega) hR3 hp0 (by omega) ho0 (by omega) ?_) | (refine r_settles (by omega) kq hX3 (by omega) (fun c => ?_) (fun c => ?_)) | (refine Ex_step ?_; conv => whnf) | (refine ⟨?_, trivial⟩) | (refine (show den _ _ _ _ _ _ _ _ from ?_); conv => whnf) | (refine ⟨fun c => False.elim (by omega), fun c => ?_⟩) | (refine ⟨fun c => ?_, fun c => False.elim (by omega)⟩) | (refine ⟨by (first | assumption | rfl | (exact Nat.le_of_ble_eq_true rfl) | (exact ⟨fun h01 => absurd h01 (by decide), by first | rfl | assumption⟩) | (exact ⟨fun _ => by decide, by first | rfl | assumption⟩) | (exact ⟨by assumption, by omega, by omega⟩) | (unfold inI; omega) | omega), ?_⟩; conv => whnf) | (refine ⟨fun c => ?_, fun c => ?_⟩) | (intro c) | fail))
  | succ k =>
    have hn := hnext k rfl
    have fin : ∀ h4, Rr K h4 A' → Fr (fun r => r = 128) h3 h4 → Kp h4 (2748 + 90 * (l + 1)) A' → (∀ j, j < 2748 + 90 * (l + 1) ∨ 2748 + 90 * (l + 1) + 90 ≤ j → gG h4 128 j = gG h3 128 j) → Ex (WP X XL d) KX10_playing S1 Q 36 [some (vR 127), some (vI p), some (vI o), some (vI n), some (vI (l + 1))] [] (sG (sG h4 140 (l + 1) (-1)) 142 (l + 1) (-1)) := by
      intro h4 hR4 f4 kp4 fx4
      have fl4 := FrL.kp hl f4 fx4
      have fl5 : FrL (l + 1) h3 (sG (sG h4 140 (l + 1) (-1)) 142 (l + 1) (-1)) := (fl4.o (by omega) (by omega)).o (by omega) (by omega)
      refine hn _ A' A' ((hR4.o (by omega)).o (by omega)) hR4.2.2 ((kp4.o (by omega)).o (by omega)) (hX3.eq fl5.1.1 fl5.1.2.1) (by rw [gG_sG, if_neg (by omega), g_same]) g_same (by omega) (by omega) (fun h6 hR6 f6 v6 _ _ => ⟨fun q => by omega, fun _ => ?_⟩)
      rw [hv] at v6
      have f36 := fl5.trans f6
      have kq6 := hR6.1.1
      have hX6 := hX3.eq f36.1.1 f36.1.2.1
      have y30 := hX6.2.2.2.2.2.2.2.2.2.1
      have u1 := f36.2.1 141 (by omega) l (by omega)
      have u2 := f36.2.1 142 (by omega) l (by omega)
      have u0 := f36.2.1 140 (by omega) l (by omega)
      have el : l + 1 + -1 = l := by omega
      have yk := y30.2.1
      have yl := y30.2.2
      have z1 : stB l (gG h6 142 l) (gG h6 141 l) val → Ex (WP X XL d) KX10_playing S1 Q 36 [some (vR 127), some (vI p), some (vI o), some (vI n), some (vI l)] [] (sG (sG h6 141 l val) 142 l (gG h6 140 l)) := fun hs => cont _ A' ((hR6.o (by omega)).o (by omega)) (((hK3.L hl f36).o (by omega)).o (by omega)) (((f3.trans (f36.mono (by omega))).o (by omega) (by omega)).o (by omega) (by omega)) (by rw [gG_sG, if_neg (by omega), gG_sG, if_neg (by omega), u0]; exact d3) (Or.inl ⟨by rw [u1, u2] at hs; exact hs, by rw [g_same, u0]; exact d3, by rw [gG_sG, if_neg (by omega), g_same]⟩)
      have z0 : ¬ stB l (gG h6 142 l) (gG h6 141 l) val → Ex (WP X XL d) KX10_playing S1 Q 36 [some (vR 127), some (vI p), some (vI o), some (vI n), some (vI l)] [] h6 := fun hs => cont _ A' hR6 (hK3.L hl f36) (f3.trans (f36.mono (by omega))) (u0.trans d3) (Or.inr ⟨by rw [u1, u2] at hs; exact hs, u2, u1⟩)
      refine Ex_step ?_; conv => whnf
      (repeat' (first | (rw [el]) | (rw [y30.1]) | (rw [v6]) | (exact z1 (by assumption)) | (exact z0 (by assumption)) | (refine r_settles (by omega) kq6 hX6 (by omega) (fun c => ?_) (fun c => ?_)) | (refine ⟨⟨yk, by omega, Int.lt_of_lt_of_le (by omega : _ < (5 : Int)) (Int.le_of_eq yl.symm)⟩, ?_⟩; conv => whnf) | (refine Ex_step ?_; conv => whnf) | (refine ⟨?_, trivial⟩) | (refine (show den _ _ _ _ _ _ _ _ from ?_); conv => whnf) | (refine ⟨fun c => False.elim (by omega), fun c => ?_⟩) | (refine ⟨fun c => ?_, fun c => False.elim (by omega)⟩) | (refine ⟨by (first | assumption | rfl | (exact Nat.le_of_ble_eq_true rfl) | (exact ⟨fun h01 => absurd h01 (by decide), by first | rfl | assumption⟩) | (exact ⟨fun _ => by decide, by first | rfl | assumption⟩) | (exact ⟨by assumption, by omega, by omega⟩) | (unfold inI; omega) | omega), ?_⟩; conv => whnf) | (refine ⟨fun c => ?_, fun c => ?_⟩) | (intro c) | fail))
    refine Ex_step ?_; conv => whnf
    (repeat' (first | (exact fin h4 hR4 f4 kp4 fx4) | (rw [y29]) | (rw [gR_sG]) | (rw [y31]) | (refine r_levelAt (by omega) (by omega) ?_) | (refine r_keeps (by omega) hR3 (by omega) (by omega) (fun h4 hR4 f4 kp4 fx4 => ?_); have kq4 := hR4.1.1; have y29 := (gR_fr f4 127 29).trans x29; have y31 := (gR_fr f4 127 31).trans x31; have yk29 := (kd_fr f4 140).trans xk29; have yl29 := (ln_fr f4 140).trans xl29; have yk31 := (kd_fr f4 142).trans xk31; have yl31 := (ln_fr f4 142).trans xl31) | (refine ⟨⟨yk29, by omega, Int.lt_of_lt_of_le (by omega : _ < (5 : Int)) (Int.le_of_eq yl29.symm)⟩, ?_⟩; conv => whnf) | (refine ⟨⟨yk31, by omega, Int.lt_of_lt_of_le (by omega : _ < (5 : Int)) (Int.le_of_eq yl31.symm)⟩, ?_⟩; conv => whnf) | (refine Ex_step ?_; conv => whnf) | (refine ⟨?_, trivial⟩) | (refine (show den _ _ _ _ _ _ _ _ from ?_); conv => whnf) | (refine ⟨fun c => False.elim (by omega), fun c => ?_⟩) | (refine ⟨fun c => ?_, fun c => False.elim (by omega)⟩) | (refine ⟨by (first | assumption | rfl | (exact Nat.le_of_ble_eq_true rfl) | (exact ⟨fun h01 => absurd h01 (by decide), by first | rfl | assumption⟩) | (exact ⟨fun _ => by decide, by first | rfl | assumption⟩) | (exact ⟨by assumption, by omega, by omega⟩) | (unfold inI; omega) | omega), ?_⟩; conv => whnf) | (refine ⟨fun c => ?_, fun c => ?_⟩) | (intro c) | fail))
set_option maxHeartbeats 4000000 in
theorem lc_head {X : Int → Int} {XL K : Int} {d : Nat} {p o n : Int} {S1 : List (Nat × Nat)} {Q : RetP} (hd : 12 ≤ d) (hp0 : 0 ≤ p) (ho0 : 0 ≤ o) (hn4 : n ≤ 4) {k : Nat} {l e : Int} {A A1 : Int → Int} {h h1 : Mem} (hkl : n - l = (k : Int) + 1) (hl : 0 ≤ l) (hnext : ∀ k', k = k' + 1 → LC X XL K d p o n S1 Q k' (l + 1)) (hX : RK h) (hA : AOk K A) (hpA : p < A 1) (hoA : o < A 1) (he : 0 ≤ e ∧ e ≤ 2) (hR1 : Rr K h1 A1) (hK1 : Kp h1 (2748 + 90 * l) A) (f1 : FrL l h h1) (d1 : gG h1 140 l = e - 1)
    (c0 : ¬ alw A (mvr p o l) e → ∀ h' B, Rr K h' B → Kp h' (2748 + 90 * l) A → FrL l h h' → gG h' 140 l = e → gG h' 142 l = gG h1 142 l → gG h' 141 l = gG h1 141 l → Ex (WP X XL d) KX10_playing S1 Q 36 [some (vR 127), some (vI p), some (vI o), some (vI n), some (vI l)] [] h')
    (c1 : alw A (mvr p o l) e → ∀ h' B, Rr K h' B → Kp h' (2748 + 90 * l) A → FrL l h h' → gG h' 140 l = e → nxt l (gG h1 142 l) (gG h1 141 l) (vle p o k (l + 1) (mvr p o l) e A) e (gG h' 142 l) (gG h' 141 l) → Ex (WP X XL d) KX10_playing S1 Q 36 [some (vR 127), some (vI p), some (vI o), some (vI n), some (vI l)] [] h') : Ex (WP X XL d) KX10_playing S1 Q 36 [some (vR 127), some (vI p), some (vI o), some (vI n), some (vI l)] [] h1 := by
  have kq := hR1.1.1
  have hX1 := hX.eq f1.1.1 f1.1.2.1
  obtain ⟨⟨x1, xk1, xl1⟩, ⟨x8, xk8, xl8⟩, ⟨x9, xk9, xl9⟩, ⟨x21, xk21, xl21⟩, ⟨x25, xk25, xl25⟩, ⟨x26, xk26, xl26⟩, ⟨x27, xk27, xl27⟩, ⟨x28, xk28, xl28⟩, ⟨x29, xk29, xl29⟩, ⟨x30, xk30, xl30⟩, ⟨x31, xk31, xl31⟩, ⟨x34, xk34, xl34⟩, ⟨x35, xk35, xl35⟩, ⟨x36, xk36, xl36⟩⟩ := id hX1
  have ee : e - 1 + 1 = e := by omega
  have hz := r2_e hl (by omega)
  have hm := mvr_b (A := A) (t := l) ⟨hp0, hpA⟩ ⟨ho0, hoA⟩
  have main : ∀ (m : Int) (h2 : Mem) (Q0 : RetP), mvr p o l = m → Rr K h2 A → FrA h1 h2 → (∀ h', Ex (WP X XL d) KX10_playing S1 Q 36 [some (vR 127), some (vI p), some (vI o), some (vI n), some (vI l)] [] h' → Q0 (some (vI 0)) h') → (∀ h', Ex (WP X XL d) KX10_playing S1 Q 125 [some (vR 127), some (vI p), some (vI o), some (vI n), some (vI l)] [] h' → Q0 (some (vI 1)) h') → WP X XL d 320 [vR 127, vI m, vI e] (sG h2 140 l e) Q0 := by
    intro m h2 Q0 hmm hR2 f2 z0 z1
    rw [hmm] at hm c0 c1
    have hR2o : Rr K (sG h2 140 l e) A := hR2.o (by omega)
    have fl2 : FrL l h (sG h2 140 l e) := (f1.trans f2.L).o (by omega) (by omega)
    have kp2 : Kp (sG h2 140 l e) (2748 + 90 * l) A := (hK1.fr f2 (by omega)).o (by omega)
    have u1 : gG (sG h2 140 l e) 141 l = gG h1 141 l := by rw [gG_sG, if_neg (by omega)]; exact f2.1.2.2 141 (by omega) l
    have u2 : gG (sG h2 140 l e) 142 l = gG h1 142 l := by rw [gG_sG, if_neg (by omega)]; exact f2.1.2.2 142 (by omega) l
    refine r_doesDeed (k := k) (t := l + 1) (p := p) (o := o) (by omega) hR2o hm.1 hm.2 hp0 hpA ho0 hoA he (fun ha h3 A3 hR3 a31 f3 hv => z1 _ ?_) (fun ha => z0 _ (c0 ha _ A hR2o kp2 fl2 g_same u2 u1))
    have w0 := f3.1.2.2 140 (by omega) l
    have w1 := f3.1.2.2 141 (by omega) l
    have w2 := f3.1.2.2 142 (by omega) l
    refine lc_after hd hp0 ho0 hn4 hkl hl hnext hX hpA hoA hR3 a31 (kp2.fr f3 (by omega)) (fl2.trans f3.L) (w0.trans g_same) hv (fun h' B a b c d' nx => c1 ha h' B a b c d' ?_)
    rw [w1, w2, u1, u2] at nx
    exact nx
  by_cases hl2 : l % 2 = 0
  · refine Ex_step ?_; conv => whnf
    (repeat' (first | (exact hx) | (rw [y29]) | (rw [gR_sG]) | (rw [e2]) | (rw [ee]) | (rw [g_same]) | (rw [hz]) | (refine r_levelAt (by omega) (by omega) ?_) | (refine r_restores (by omega) hR1 (by omega) (by omega) hK1 hA (fun h2 hR2 f2 => ?_); have kq2 := hR2.1.1; have y29 := (gR_fr f2.1 127 29).trans x29; have yk29 := (kd_fr f2.1 140).trans xk29; have yl29 := (ln_fr f2.1 140).trans xl29; have e2 := (f2.1.2.2 140 (by omega) l).trans d1) | (refine main p h2 _ (if_pos hl2) hR2 f2 (fun h5 hx => ?_) (fun h5 hx => ?_)) | (refine ⟨⟨yk29, by omega, Int.lt_of_lt_of_le (by omega : _ < (5 : Int)) (Int.le_of_eq yl29.symm)⟩, ?_⟩; conv => whnf) | (refine Ex_step ?_; conv => whnf) | (refine ⟨?_, trivial⟩) | (refine (show den _ _ _ _ _ _ _ _ from ?_); conv => whnf) | (refine ⟨fun c => False.elim (by omega), fun c => ?_⟩) | (refine ⟨fun c => ?_, fun c => False.elim (by omega)⟩) | (refine ⟨by (first | assumption | rfl | (exact Nat.le_of_ble_eq_true rfl) | (exact ⟨fun h01 => absurd h01 (by decide), by first | rfl | assumption⟩) | (exact ⟨fun _ => by decide, by first | rfl | assumption⟩) | (exact ⟨by assumption, by omega, by omega⟩) | (unfold inI; omega) | omega), ?_⟩; conv => whnf) | (refine ⟨fun c => ?_, fun c => ?_⟩) | (intro c) | fail))
  · refine Ex_step ?_; conv => whnf
    (repeat' (first | (exact hx) | (rw [y29]) | (rw [gR_sG]) | (rw [e2]) | (rw [ee]) | (rw [g_same]) | (rw [hz]) | (refine r_levelAt (by omega) (by omega) ?_) | (refine r_restores (by omega) hR1 (by omega) (by omega) hK1 hA (fun h2 hR2 f2 => ?_); have kq2 := hR2.1.1; have y29 := (gR_fr f2.1 127 29).trans x29; have yk29 := (kd_fr f2.1 140).trans xk29; have yl29 := (ln_fr f2.1 140).trans xl29; have e2 := (f2.1.2.2 140 (by omega) l).trans d1) | (refine main o h2 _ (if_neg hl2) hR2 f2 (fun h5 hx => ?_) (fun h5 hx => ?_)) | (refine ⟨⟨yk29, by omega, Int.lt_of_lt_of_le (by omega : _ < (5 : Int)) (Int.le_of_eq yl29.symm)⟩, ?_⟩; conv => whnf) | (refine Ex_step ?_; conv => whnf) | (refine ⟨?_, trivial⟩) | (refine (show den _ _ _ _ _ _ _ _ from ?_); conv => whnf) | (refine ⟨fun c => False.elim (by omega), fun c => ?_⟩) | (refine ⟨fun c => ?_, fun c => False.elim (by omega)⟩) | (refine ⟨by (first | assumption | rfl | (exact Nat.le_of_ble_eq_true rfl) | (exact ⟨fun h01 => absurd h01 (by decide), by first | rfl | assumption⟩) | (exact ⟨fun _ => by decide, by first | rfl | assumption⟩) | (exact ⟨by assumption, by omega, by omega⟩) | (unfold inI; omega) | omega), ?_⟩; conv => whnf) | (refine ⟨fun c => ?_, fun c => ?_⟩) | (intro c) | fail))
theorem lc_step {X : Int → Int} {XL K : Int} {d : Nat} {p o n : Int} {S1 : List (Nat × Nat)} {Q : RetP} (hd : 12 ≤ d) (hp0 : 0 ≤ p) (ho0 : 0 ≤ o) (hn4 : n ≤ 4) {k : Nat} {l : Int} (hkl : n - l = (k : Int) + 1) (hl : 0 ≤ l) (hnext : ∀ k', k = k' + 1 → LC X XL K d p o n S1 Q k' (l + 1)) : LC X XL K d p o n S1 Q k l := by
  intro h A A0 hR0 hA hK hX d0 b0 hpA hoA hfin
  have last : ∀ (h1 : Mem) (A1 : Int → Int), Rr K h1 A1 → Kp h1 (2748 + 90 * l) A → FrL l h h1 → gG h1 140 l = 2 → gG h1 141 l = gvN p o (k + 1) l A → (l = 0 → gG h1 142 0 = fmA p o k A) → Ex (WP X XL d) KX10_playing S1 Q 36 [some (vR 127), some (vI p), some (vI o), some (vI n), some (vI l)] [] h1 := by
    intro h1 A1 hR1 hK1 f1 d1 v1 m1
    have kq := hR1.1.1
    have hX1 := hX.eq f1.1.1 f1.1.2.1
    obtain ⟨⟨x1, xk1, xl1⟩, ⟨x8, xk8, xl8⟩, ⟨x9, xk9, xl9⟩, ⟨x21, xk21, xl21⟩, ⟨x25, xk25, xl25⟩, ⟨x26, xk26, xl26⟩, ⟨x27, xk27, xl27⟩, ⟨x28, xk28, xl28⟩, ⟨x29, xk29, xl29⟩, ⟨x30, xk30, xl30⟩, ⟨x31, xk31, xl31⟩, ⟨x34, xk34, xl34⟩, ⟨x35, xk35, xl35⟩, ⟨x36, xk36, xl36⟩⟩ := id hX1
    have fin := fun (h2 : Mem) (hR2 : Rr K h2 A) (f2 : FrA h1 h2) => hfin (sG h2 140 l (2 + 1)) (hR2.o (by omega)) ((f1.trans f2.L).o (by omega) (by omega)) (by rw [gG_sG, if_neg (by omega), f2.1.2.2 141 (by omega)]; exact v1) (fun q => by rw [gG_sG, if_neg (by omega), f2.1.2.2 142 (by omega)]; exact m1 q) (fun q => by have := (hK1.fr f2 (by omega)).o (r := 140) (i := l) (z := 2 + 1) (by omega); rw [q] at this ⊢; exact this)
    by_cases hl0 : l = 0
    · refine Ex_step ?_; conv => whnf
      (repeat' (first | (exact (fin h2 hR2 f2).1 hl0) | (rw [y29]) | (rw [gR_sG]) | (rw [e2]) | (rw [g_same]) | (refine r_levelAt (by omega) (by omega) ?_) | (refine r_restores (by omega) hR1 (by omega) (by omega) hK1 hA (fun h2 hR2 f2 => ?_); have kq2 := hR2.1.1; have y29 := (gR_fr f2.1 127 29).trans x29; have yk29 := (kd_fr f2.1 140).trans xk29; have yl29 := (ln_fr f2.1 140).trans xl29; have e2 := (f2.1.2.2 140 (by omega) l).trans d1) | (refine ⟨⟨yk29, by omega, Int.lt_of_lt_of_le (by omega : _ < (5 : Int)) (Int.le_of_eq yl29.symm)⟩, ?_⟩; conv => whnf) | (refine Ex_step ?_; conv => whnf) | (refine ⟨?_, trivial⟩) | (refine (show den _ _ _ _ _ _ _ _ from ?_); conv => whnf) | (refine ⟨fun c => False.elim (by omega), fun c => ?_⟩) | (refine ⟨fun c => ?_, fun c => False.elim (by omega)⟩) | (refine ⟨by (first | assumption | rfl | (exact Nat.le_of_ble_eq_true rfl) | (exact ⟨fun h01 => absurd h01 (by decide), by first | rfl | assumption⟩) | (exact ⟨fun _ => by decide, by first | rfl | assumption⟩) | (exact ⟨by assumption, by omega, by omega⟩) | (unfold inI; omega) | omega), ?_⟩; conv => whnf) | (refine ⟨fun c => ?_, fun c => ?_⟩) | (intro c) | fail))
    · refine Ex_step ?_; conv => whnf
      (repeat' (first | (exact (fin h2 hR2 f2).2 (by omega)) | (rw [y29]) | (rw [gR_sG]) | (rw [e2]) | (rw [g_same]) | (refine r_levelAt (by omega) (by omega) ?_) | (refine r_restores (by omega) hR1 (by omega) (by omega) hK1 hA (fun h2 hR2 f2 => ?_); have kq2 := hR2.1.1; have y29 := (gR_fr f2.1 127 29).trans x29; have yk29 := (kd_fr f2.1 140).trans xk29; have yl29 := (ln_fr f2.1 140).trans xl29; have e2 := (f2.1.2.2 140 (by omega) l).trans d1) | (refine ⟨⟨yk29, by omega, Int.lt_of_lt_of_le (by omega : _ < (5 : Int)) (Int.le_of_eq yl29.symm)⟩, ?_⟩; conv => whnf) | (refine Ex_step ?_; conv => whnf) | (refine ⟨?_, trivial⟩) | (refine (show den _ _ _ _ _ _ _ _ from ?_); conv => whnf) | (refine ⟨fun c => False.elim (by omega), fun c => ?_⟩) | (refine ⟨fun c => ?_, fun c => False.elim (by omega)⟩) | (refine ⟨by (first | assumption | rfl | (exact Nat.le_of_ble_eq_true rfl) | (exact ⟨fun h01 => absurd h01 (by decide), by first | rfl | assumption⟩) | (exact ⟨fun _ => by decide, by first | rfl | assumption⟩) | (exact ⟨by assumption, by omega, by omega⟩) | (unfold inI; omega) | omega), ?_⟩; conv => whnf) | (refine ⟨fun c => ?_, fun c => ?_⟩) | (intro c) | fail))
  have mp : l = 0 → mvr p o l = p := fun q => by subst q; rfl
  have a0 : alw A (mvr p o l) 0 ↔ cGo A (mvr p o l) := ⟨fun q => by rcases q with ⟨_, q⟩ | ⟨q, _⟩ | q; exact q; omega; omega, fun q => Or.inl ⟨rfl, q⟩⟩
  have a1 : alw A (mvr p o l) 1 ↔ cJp A (mvr p o l) := ⟨fun q => by rcases q with ⟨q, _⟩ | ⟨_, q⟩ | q; omega; exact q; omega, fun q => Or.inr (Or.inl ⟨rfl, q⟩)⟩
  have a2 : alw A (mvr p o l) 2 := Or.inr (Or.inr rfl)
  have w0 : vle p o k (l + 1) (mvr p o l) 0 A = gvN p o k (l + 1) (goB A (mvr p o l)) := if_pos rfl
  have w1 : vle p o k (l + 1) (mvr p o l) 1 A = gvN p o k (l + 1) (jmB A (pA A (mvr p o l) 3)) := by unfold vle; rw [if_neg (by omega), if_pos rfl]
  have w2 : vle p o k (l + 1) (mvr p o l) 2 A = gvN p o k (l + 1) A := by unfold vle; rw [if_neg (by omega), if_neg (by omega)]
  have two : ∀ (h1 h2 : Mem) (B2 : Int → Int), ((cGo A (mvr p o l) ∧ nxt l (gG h 142 l) (gG h 141 l) (gvN p o k (l + 1) (goB A (mvr p o l))) 0 (gG h1 142 l) (gG h1 141 l)) ∨ (¬ cGo A (mvr p o l) ∧ gG h1 142 l = gG h 142 l ∧ gG h1 141 l = gG h 141 l)) → ((cJp A (mvr p o l) ∧ nxt l (gG h1 142 l) (gG h1 141 l) (gvN p o k (l + 1) (jmB A (pA A (mvr p o l) 3))) 1 (gG h2 142 l) (gG h2 141 l)) ∨ (¬ cJp A (mvr p o l) ∧ gG h2 142 l = gG h1 142 l ∧ gG h2 141 l = gG h1 141 l)) → Rr K h2 B2 → Kp h2 (2748 + 90 * l) A → FrL l h h2 → gG h2 140 l = 1 → Ex (WP X XL d) KX10_playing S1 Q 36 [some (vR 127), some (vI p), some (vI o), some (vI n), some (vI l)] [] h2 := by
    intro h1 h2 B2 s1 s2 hR2 hK2 f2 d2
    refine lc_head (k := k) (e := 2) hd hp0 ho0 hn4 hkl hl hnext hX hA hpA hoA (by omega) hR2 hK2 f2 (by omega) (fun q => absurd a2 q) (fun _ h3 B3 hR3 hK3 f3 d3 nx => ?_)
    rw [w2] at nx
    obtain ⟨fv1, fv2⟩ := fold_val rfl b0 s1 s2 nx
    exact last h3 B3 hR3 hK3 f3 d3 fv1 (fun q => by have := fv2 q (mp q); rw [q] at this; exact this)
  have one : ∀ (h1 : Mem) (B1 : Int → Int), ((cGo A (mvr p o l) ∧ nxt l (gG h 142 l) (gG h 141 l) (gvN p o k (l + 1) (goB A (mvr p o l))) 0 (gG h1 142 l) (gG h1 141 l)) ∨ (¬ cGo A (mvr p o l) ∧ gG h1 142 l = gG h 142 l ∧ gG h1 141 l = gG h 141 l)) → Rr K h1 B1 → Kp h1 (2748 + 90 * l) A → FrL l h h1 → gG h1 140 l = 0 → Ex (WP X XL d) KX10_playing S1 Q 36 [some (vR 127), some (vI p), some (vI o), some (vI n), some (vI l)] [] h1 := by
    intro h1 B1 s1 hR1 hK1 f1 d1
    refine lc_head (k := k) (e := 1) hd hp0 ho0 hn4 hkl hl hnext hX hA hpA hoA (by omega) hR1 hK1 f1 (by omega) (fun q h2 B2 hR2 hK2 f2 d2 e1 e2 => ?_) (fun q h2 B2 hR2 hK2 f2 d2 nx => ?_)
    · exact two h1 h2 B2 s1 (Or.inr ⟨fun c => q (a1.mpr c), e1, e2⟩) hR2 hK2 f2 d2
    · rw [w1] at nx
      exact two h1 h2 B2 s1 (Or.inl ⟨a1.mp q, nx⟩) hR2 hK2 f2 d2
  refine lc_head (k := k) (e := 0) hd hp0 ho0 hn4 hkl hl hnext hX hA hpA hoA (by omega) hR0 hK FrL.refl (by omega) (fun q h2 B2 hR2 hK2 f2 d2 e1 e2 => ?_) (fun q h2 B2 hR2 hK2 f2 d2 nx => ?_)
  · exact one h2 B2 (Or.inr ⟨fun c => q (a0.mpr c), e1, e2⟩) hR2 hK2 f2 d2
  · rw [w0] at nx
    exact one h2 B2 (Or.inl ⟨a0.mp q, nx⟩) hR2 hK2 f2 d2
theorem lc_all {X : Int → Int} {XL K : Int} {d : Nat} {p o n : Int} {S1 : List (Nat × Nat)} {Q : RetP} (hd : 12 ≤ d) (hp0 : 0 ≤ p) (ho0 : 0 ≤ o) (hn4 : n ≤ 4) : ∀ (k : Nat) (l : Int), n - l = (k : Int) + 1 → 0 ≤ l → LC X XL K d p o n S1 Q k l := by
  intro k; induction k with
  | zero => intro l h0 h1; exact lc_step hd hp0 ho0 hn4 h0 h1 (fun k' q => by omega)
  | succ k ih =>
    intro l h0 h1
    refine lc_step hd hp0 ho0 hn4 h0 h1 (fun k' q => ?_)
    have : k' = k := by omega
    subst this
    exact ih (l + 1) (by omega) (by omega)
set_option maxHeartbeats 4000000 in
theorem r_playing {X : Int → Int} {XL : Int} {d : Nat} {h : Mem} {Q : RetP} {K : Int} {A : Int → Int} {p o n : Int} (hd : 14 ≤ d) (hR : Rr K h A) (hX : RK h) (hp0 : 0 ≤ p) (hp1 : p < A 1) (ho0 : 0 ≤ o) (ho1 : o < A 1) (hn : 0 ≤ n ∧ n ≤ 4) (hq : ∀ h', Rr K h' A → FrH h h' → (1 ≤ n → gG h' 142 0 = fmA p o (n.toNat - 1) A) → Q (some (vI (gvN p o n.toNat 0 A))) h') : WP X XL d 322 [vR 127, vI p, vI o, vI n] h Q := by
  have kq := hR.1.1
  have hA := hR.2.2
  refine eX10_playing (by omega) ?_
  by_cases h0 : n = 0
  · subst h0
    (repeat' (first | (refine r_standing (by omega) hR hp0 hp1 ho0 ho1 ?_) | (refine Ex_step ?_; conv => whnf) | (refine ⟨?_, trivial⟩) | (refine (show den _ _ _ _ _ _ _ _ from ?_); conv => whnf) | (refine ⟨fun c => False.elim (by omega), fun c => ?_⟩) | (refine ⟨fun c => ?_, fun c => False.elim (by omega)⟩) | (refine ⟨by (first | assumption | rfl | (exact Nat.le_of_ble_eq_true rfl) | (exact ⟨fun h01 => absurd h01 (by decide), by first | rfl | assumption⟩) | (exact ⟨fun _ => by decide, by first | rfl | assumption⟩) | (exact ⟨by assumption, by omega, by omega⟩) | (unfold inI; omega) | omega), ?_⟩; conv => whnf) | (refine ⟨fun c => ?_, fun c => ?_⟩) | (intro c) | fail))
    exact hq h hR FrH.refl (fun q => by omega)
  · have lc := lc_all (X := X) (XL := XL) (K := K) (d := d - 1) (p := p) (o := o) (n := n) (S1 := h.1) (Q := Q) (by omega) hp0 ho0 hn.2 (n.toNat - 1) 0 (by omega) (by omega)
    obtain ⟨⟨x1, xk1, xl1⟩, ⟨x8, xk8, xl8⟩, ⟨x9, xk9, xl9⟩, ⟨x21, xk21, xl21⟩, ⟨x25, xk25, xl25⟩, ⟨x26, xk26, xl26⟩, ⟨x27, xk27, xl27⟩, ⟨x28, xk28, xl28⟩, ⟨x29, xk29, xl29⟩, ⟨x30, xk30, xl30⟩, ⟨x31, xk31, xl31⟩, ⟨x34, xk34, xl34⟩, ⟨x35, xk35, xl35⟩, ⟨x36, xk36, xl36⟩⟩ := id hX
    have fin : ∀ h1, Rr K h1 A → Fr (fun r => r = 128) h h1 → Kp h1 2748 A → (∀ j, j < 2748 ∨ 2748 + 90 ≤ j → gG h1 128 j = gG h 128 j) → Ex (WP X XL (d - 1)) KX10_playing h.1 Q 36 [some (vR 127), some (vI p), some (vI o), some (vI n), some (vI 0)] [] (sG (sG h1 140 0 (-1)) 142 0 (-1)) := by
      intro h1 hR1 f1 kp1 fx1
      have fh1 := FrH.kp f1 (by omega) fx1
      have fh2 : FrH h (sG (sG h1 140 0 (-1)) 142 0 (-1)) := (fh1.o (by omega)).o (by omega)
      refine lc _ A A ((hR1.o (by omega)).o (by omega)) hA ((kp1.o (by omega)).o (by omega)) (hX.eq fh2.1 fh2.2.1) (by rw [gG_sG, if_neg (by omega), g_same]) g_same hp1 ho1 (fun h6 hR6 f6 v6 m6 kp6 => ⟨fun _ => ?_, fun q => by omega⟩)
      have f06 := fh2.trans f6.1
      have kq6 := hR6.1.1
      have g6 := f06.1
      have y30 := (hX.eq f06.1 f06.2.1).2.2.2.2.2.2.2.2.2.1
      have hen : n.toNat - 1 + 1 = n.toNat := by omega
      rw [hen] at v6
      have kp6 := kp6 rfl
      refine Ex_step ?_; conv => whnf
      (repeat' (first | (rw [r30]) | (rw [v7]) | (refine r_levelAt (by omega) (by omega) ?_) | (refine r_restores (by omega) hR6 (by omega) (by omega) kp6 hA (fun h7 hR7 f7 => ?_); have kq7 := hR7.1.1; have g7 : h7.1 = h.1 := f7.1.1.trans g6; have r30 := (gR_fr f7.1 127 30).trans y30.1; have yk := (kd_fr f7.1 141).trans y30.2.1; have yl := (ln_fr f7.1 141).trans y30.2.2; have v7 := (f7.1.2.2 141 (by omega) 0).trans v6) | (refine ⟨⟨yk, by omega, Int.lt_of_lt_of_le (by omega : _ < (5 : Int)) (Int.le_of_eq yl.symm)⟩, ?_⟩; conv => whnf) | (refine Ex_step ?_; conv => whnf) | (refine ⟨?_, trivial⟩) | (refine (show den _ _ _ _ _ _ _ _ from ?_); conv => whnf) | (refine ⟨fun c => False.elim (by omega), fun c => ?_⟩) | (refine ⟨fun c => ?_, fun c => False.elim (by omega)⟩) | (refine ⟨by (first | assumption | rfl | (exact Nat.le_of_ble_eq_true rfl) | (exact ⟨fun h01 => absurd h01 (by decide), by first | rfl | assumption⟩) | (exact ⟨fun _ => by decide, by first | rfl | assumption⟩) | (exact ⟨by assumption, by omega, by omega⟩) | (unfold inI; omega) | omega), ?_⟩; conv => whnf) | (refine ⟨fun c => ?_, fun c => ?_⟩) | (intro c) | fail))
      exact hq h7 hR7 (f06.trans f7.H) (fun _ => (f7.1.2.2 142 (by omega) 0).trans (m6 rfl))
    (repeat' (first | (exact fin h1 hR1 f1 kp1 fx1) | (rw [y29]) | (rw [gR_sG]) | (rw [y31]) | (refine r_levelAt (by omega) (by omega) ?_) | (refine r_keeps (by omega) hR (by omega) (by omega) (fun h1 hR1 f1 kp1 fx1 => ?_); have kq1 := hR1.1.1; have y29 := (gR_fr f1 127 29).trans x29; have y31 := (gR_fr f1 127 31).trans x31; have yk29 := (kd_fr f1 140).trans xk29; have yl29 := (ln_fr f1 140).trans xl29; have yk31 := (kd_fr f1 142).trans xk31; have yl31 := (ln_fr f1 142).trans xl31) | (refine ⟨⟨yk29, by omega, Int.lt_of_lt_of_le (by omega : _ < (5 : Int)) (Int.le_of_eq yl29.symm)⟩, ?_⟩; conv => whnf) | (refine ⟨⟨yk31, by omega, Int.lt_of_lt_of_le (by omega : _ < (5 : Int)) (Int.le_of_eq yl31.symm)⟩, ?_⟩; conv => whnf) | (refine Ex_step ?_; conv => whnf) | (refine ⟨?_, trivial⟩) | (refine (show den _ _ _ _ _ _ _ _ from ?_); conv => whnf) | (refine ⟨fun c => False.elim (by omega), fun c => ?_⟩) | (refine ⟨fun c => ?_, fun c => False.elim (by omega)⟩) | (refine ⟨by (first | assumption | rfl | (exact Nat.le_of_ble_eq_true rfl) | (exact ⟨fun h01 => absurd h01 (by decide), by first | rfl | assumption⟩) | (exact ⟨fun _ => by decide, by first | rfl | assumption⟩) | (exact ⟨by assumption, by omega, by omega⟩) | (unfold inI; omega) | omega), ?_⟩; conv => whnf) | (refine ⟨fun c => ?_, fun c => ?_⟩) | (intro c) | fail))
set_option maxHeartbeats 4000000 in
theorem r_areTwo {X : Int → Int} {XL : Int} {d : Nat} {h : Mem} {Q : RetP} {K : Int} {A : Int → Int} {p o : Int} (hd : 2 ≤ d) (hR : Rr K h A) (hq1 : (0 ≤ p ∧ p < A 1) ∧ (0 ≤ o ∧ o < A 1) ∧ ¬ p = o → Q (some (vI 1)) h) (hq0 : ¬ ((0 ≤ p ∧ p < A 1) ∧ (0 ≤ o ∧ o < A 1) ∧ ¬ p = o) → Q (some (vI 0)) h) : WP X XL d 323 [vR 127, vI p, vI o] h Q := by
  have kq := hR.1.1
  refine eX10_areTwo (by omega) ?_
  (repeat' (first | (refine r_isPerson (by omega) hR (fun c => ?_) (fun c => False.elim (by omega))) | (refine r_isPerson (by omega) hR (fun c => False.elim (by omega)) (fun c => ?_)) | (refine r_isPerson (by omega) hR (fun c => ?_) (fun c => ?_)) | (refine Ex_step ?_; conv => whnf) | (refine ⟨?_, trivial⟩) | (refine (show den _ _ _ _ _ _ _ _ from ?_); conv => whnf) | (refine ⟨fun c => False.elim (by omega), fun c => ?_⟩) | (refine ⟨fun c => ?_, fun c => False.elim (by omega)⟩) | (refine ⟨by (first | assumption | rfl | (exact Nat.le_of_ble_eq_true rfl) | (exact ⟨fun h01 => absurd h01 (by decide), by first | rfl | assumption⟩) | (exact ⟨fun _ => by decide, by first | rfl | assumption⟩) | (exact ⟨by assumption, by omega, by omega⟩) | (unfold inI; omega) | omega), ?_⟩; conv => whnf) | (refine ⟨fun c => ?_, fun c => ?_⟩) | (intro c) | fail))
  all_goals first | (exact hq1 (by omega)) | (exact hq0 (by omega))
set_option maxHeartbeats 4000000 in
theorem m_gameY {X : Int → Int} {XL : Int} {d : Nat} {h : Mem} {Q : RetP} {K : Int} {A : Int → Int} {p o n : Int} (hd : 16 ≤ d) (hR : Rr K h A) (hX : RK h) (ht : (0 ≤ p ∧ p < A 1) ∧ (0 ≤ o ∧ o < A 1) ∧ ¬ p = o) (hn : 0 ≤ n ∧ n ≤ 4) (hq : ∀ h', Rr K h' A → FrH h h' → Q (some (vI (gvN p o n.toNat 0 A))) (sG h' 127 2 0)) : WP X XL d 324 [vR 127, vI p, vI o, vI n] h Q := by
  have kq := hR.1.1
  refine eX10_game (by omega) ?_
  (repeat' (first | (refine r_isFrom (by omega) (fun c => ?_) (fun c => False.elim (by omega))) | (refine r_isFrom (by omega) (fun c => False.elim (by omega)) (fun c => ?_)) | (refine r_isFrom (by omega) (fun c => ?_) (fun c => ?_)) | (refine r_areTwo (by omega) hR (fun c => ?_) (fun c => absurd ht c)) | (refine r_playing (by omega) hR hX ht.1.1 ht.1.2 ht.2.1.1 ht.2.1.2 hn (fun h1 hR1 f1 m1 => ?_); have kq1 := hR1.1.1; have g1 := f1.1) | (refine r_gives (by omega) kq1 ?_) | (refine Ex_step ?_; conv => whnf) | (refine ⟨?_, trivial⟩) | (refine (show den _ _ _ _ _ _ _ _ from ?_); conv => whnf) | (refine ⟨fun c => False.elim (by omega), fun c => ?_⟩) | (refine ⟨fun c => ?_, fun c => False.elim (by omega)⟩) | (refine ⟨by (first | assumption | rfl | (exact Nat.le_of_ble_eq_true rfl) | (exact ⟨fun h01 => absurd h01 (by decide), by first | rfl | assumption⟩) | (exact ⟨fun _ => by decide, by first | rfl | assumption⟩) | (exact ⟨by assumption, by omega, by omega⟩) | (unfold inI; omega) | omega), ?_⟩; conv => whnf) | (refine ⟨fun c => ?_, fun c => ?_⟩) | (intro c) | fail))
  exact hq h1 hR1 f1
set_option maxHeartbeats 4000000 in
theorem m_gameN {X : Int → Int} {XL : Int} {d : Nat} {h : Mem} {Q : RetP} {K : Int} {A : Int → Int} {p o n : Int} (hd : 16 ≤ d) (hR : Rr K h A) (hX : RK h) (hb : ¬ (((0 ≤ p ∧ p < A 1) ∧ (0 ≤ o ∧ o < A 1) ∧ ¬ p = o) ∧ 0 ≤ n ∧ n ≤ 4)) (hq : Q (some (vI (-1))) (sG h 127 2 1)) : WP X XL d 324 [vR 127, vI p, vI o, vI n] h Q := by
  have kq := hR.1.1
  refine eX10_game (by omega) ?_
  (repeat' (first | (refine r_isFrom (by omega) (fun c => ?_) (fun c => False.elim (by omega))) | (refine r_isFrom (by omega) (fun c => False.elim (by omega)) (fun c => ?_)) | (refine r_isFrom (by omega) (fun c => ?_) (fun c => ?_)) | (refine r_areTwo (by omega) hR (fun c => ?_) (fun c => ?_)) | (refine r_gives (by omega) kq ?_) | (refine r_refuse (by omega) kq ?_) | (refine Ex_step ?_; conv => whnf) | (refine ⟨?_, trivial⟩) | (refine (show den _ _ _ _ _ _ _ _ from ?_); conv => whnf) | (refine ⟨fun c => False.elim (by omega), fun c => ?_⟩) | (refine ⟨fun c => ?_, fun c => False.elim (by omega)⟩) | (refine ⟨by (first | assumption | rfl | (exact Nat.le_of_ble_eq_true rfl) | (exact ⟨fun h01 => absurd h01 (by decide), by first | rfl | assumption⟩) | (exact ⟨fun _ => by decide, by first | rfl | assumption⟩) | (exact ⟨by assumption, by omega, by omega⟩) | (unfold inI; omega) | omega), ?_⟩; conv => whnf) | (refine ⟨fun c => ?_, fun c => ?_⟩) | (intro c) | fail))
  all_goals first | (exact hq) | (exfalso; omega)
set_option maxHeartbeats 4000000 in
theorem m_moveY {X : Int → Int} {XL : Int} {d : Nat} {h : Mem} {Q : RetP} {K : Int} {A : Int → Int} {p o n : Int} (hd : 16 ≤ d) (hR : Rr K h A) (hX : RK h) (ht : (0 ≤ p ∧ p < A 1) ∧ (0 ≤ o ∧ o < A 1) ∧ ¬ p = o) (hn : 1 ≤ n ∧ n ≤ 4) (hq : ∀ h', Rr K h' A → FrH h h' → Q (some (vI (fmA p o (n.toNat - 1) A))) (sG h' 127 2 0)) : WP X XL d 325 [vR 127, vI p, vI o, vI n] h Q := by
  have kq := hR.1.1
  refine eX10_moveOf (by omega) ?_
  (repeat' (first | (rw [y31.1]) | (rw [m1]) | (refine r_isFrom (by omega) (fun c => ?_) (fun c => False.elim (by omega))) | (refine r_isFrom (by omega) (fun c => False.elim (by omega)) (fun c => ?_)) | (refine r_isFrom (by omega) (fun c => ?_) (fun c => ?_)) | (refine r_areTwo (by omega) hR (fun c => ?_) (fun c => absurd ht c)) | (refine r_playing (by omega) hR hX ht.1.1 ht.1.2 ht.2.1.1 ht.2.1.2 (by omega) (fun h1 hR1 f1 m1 => ?_); have m1 := m1 (by omega); have kq1 := hR1.1.1; have g1 := f1.1; have y31 := (hX.eq f1.1 f1.2.1).2.2.2.2.2.2.2.2.2.2.1; have yk := y31.2.1; have yl := y31.2.2) | (refine r_gives (by omega) kq1 ?_) | (refine ⟨⟨yk, by omega, Int.lt_of_lt_of_le (by omega : _ < (5 : Int)) (Int.le_of_eq yl.symm)⟩, ?_⟩; conv => whnf) | (refine Ex_step ?_; conv => whnf) | (refine ⟨?_, trivial⟩) | (refine (show den _ _ _ _ _ _ _ _ from ?_); conv => whnf) | (refine ⟨fun c => False.elim (by omega), fun c => ?_⟩) | (refine ⟨fun c => ?_, fun c => False.elim (by omega)⟩) | (refine ⟨by (first | assumption | rfl | (exact Nat.le_of_ble_eq_true rfl) | (exact ⟨fun h01 => absurd h01 (by decide), by first | rfl | assumption⟩) | (exact ⟨fun _ => by decide, by first | rfl | assumption⟩) | (exact ⟨by assumption, by omega, by omega⟩) | (unfold inI; omega) | omega), ?_⟩; conv => whnf) | (refine ⟨fun c => ?_, fun c => ?_⟩) | (intro c) | fail))
  exact hq h1 hR1 f1
set_option maxHeartbeats 4000000 in
theorem m_moveN {X : Int → Int} {XL : Int} {d : Nat} {h : Mem} {Q : RetP} {K : Int} {A : Int → Int} {p o n : Int} (hd : 16 ≤ d) (hR : Rr K h A) (hX : RK h) (hb : ¬ (((0 ≤ p ∧ p < A 1) ∧ (0 ≤ o ∧ o < A 1) ∧ ¬ p = o) ∧ 1 ≤ n ∧ n ≤ 4)) (hq : Q (some (vI (-1))) (sG h 127 2 1)) : WP X XL d 325 [vR 127, vI p, vI o, vI n] h Q := by
  have kq := hR.1.1
  refine eX10_moveOf (by omega) ?_
  (repeat' (first | (refine r_isFrom (by omega) (fun c => ?_) (fun c => False.elim (by omega))) | (refine r_isFrom (by omega) (fun c => False.elim (by omega)) (fun c => ?_)) | (refine r_isFrom (by omega) (fun c => ?_) (fun c => ?_)) | (refine r_areTwo (by omega) hR (fun c => ?_) (fun c => ?_)) | (refine r_gives (by omega) kq ?_) | (refine r_refuse (by omega) kq ?_) | (refine Ex_step ?_; conv => whnf) | (refine ⟨?_, trivial⟩) | (refine (show den _ _ _ _ _ _ _ _ from ?_); conv => whnf) | (refine ⟨fun c => False.elim (by omega), fun c => ?_⟩) | (refine ⟨fun c => ?_, fun c => False.elim (by omega)⟩) | (refine ⟨by (first | assumption | rfl | (exact Nat.le_of_ble_eq_true rfl) | (exact ⟨fun h01 => absurd h01 (by decide), by first | rfl | assumption⟩) | (exact ⟨fun _ => by decide, by first | rfl | assumption⟩) | (exact ⟨by assumption, by omega, by omega⟩) | (unfold inI; omega) | omega), ?_⟩; conv => whnf) | (refine ⟨fun c => ?_, fun c => ?_⟩) | (intro c) | fail))
  all_goals first | (exact hq) | (exfalso; omega)
