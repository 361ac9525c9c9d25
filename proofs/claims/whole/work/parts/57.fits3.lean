/-! LEVEL 2: which doubt it was: the calls -/
theorem foN_congr {σ : Type} {n : Int} {f g : Int → σ → σ} : ∀ (k : Nat) (i : Int) (s : σ), (n - i).toNat = k → (∀ x t, i ≤ x → x < n → f x t = g x t) → foN n f i s = foN n g i s := by
  intro k; induction k with
  | zero => intro i s hk h; rw [foN_end (f := f) (by omega), foN_end (f := g) (by omega)]
  | succ k ih =>
    intro i s hk h
    rw [foN_go (f := f) (by omega), foN_go (f := g) (by omega), h i s (by omega) (by omega)]
    exact ih (i + 1) _ (by omega) (fun x t h0 h1 => h x t (by omega) h1)
theorem cn_b {n : Int} {f : Int → Bool} : ∀ (k : Nat) (i s : Int), (n - i).toNat = k → s ≤ foN n (cnF f) i s ∧ foN n (cnF f) i s ≤ s + k := by
  intro k; induction k with
  | zero => intro i s hk; rw [foN_end (by omega)]; omega
  | succ k ih =>
    intro i s hk
    rw [foN_go (by omega)]
    have := ih (i + 1) (cnF f i s) (by omega)
    have : cnF f i s = s ∨ cnF f i s = s + 1 := by unfold cnF; split <;> omega
    omega
theorem cn_0 {n : Int} {f : Int → Bool} : ∀ (k : Nat) (i s : Int), (n - i).toNat = k → (∀ x, i ≤ x → x < n → f x = false) → foN n (cnF f) i s = s := by
  intro k; induction k with
  | zero => intro i s hk h; rw [foN_end (by omega)]
  | succ k ih =>
    intro i s hk h
    rw [foN_go (by omega), show cnF f i s = s from if_neg (by rw [h i (by omega) (by omega)]; decide)]
    exact ih (i + 1) s (by omega) (fun x h0 h1 => h x (by omega) h1)
theorem cn_c {n : Int} {f g : Int → Bool} {i s : Int} (h : ∀ x, i ≤ x → x < n → f x = g x) : foN n (cnF f) i s = foN n (cnF g) i s := foN_congr _ i s rfl (fun x t h0 h1 => by unfold cnF; rw [h x h0 h1])
def mxF (c : Int → Int) : Int → Int → Int := fun i s => max s (c i)
theorem mx_le {n b : Int} {c : Int → Int} : ∀ (k : Nat) (i s : Int), (n - i).toNat = k → (∀ x, i ≤ x → x < n → c x ≤ b) → s ≤ b → foN n (mxF c) i s ≤ b := by
  intro k; induction k with
  | zero => intro i s hk h hs; rw [foN_end (by omega)]; exact hs
  | succ k ih =>
    intro i s hk h hs
    rw [foN_go (by omega)]
    have := h i (by omega) (by omega)
    exact ih (i + 1) _ (by omega) (fun x h0 h1 => h x (by omega) h1) (by unfold mxF; omega)
theorem mx_ge {n : Int} {c : Int → Int} : ∀ (k : Nat) (i s : Int), (n - i).toNat = k → s ≤ foN n (mxF c) i s ∧ ∀ x, i ≤ x → x < n → c x ≤ foN n (mxF c) i s := by
  intro k; induction k with
  | zero => intro i s hk; rw [foN_end (by omega)]; exact ⟨by omega, fun x h0 h1 => by omega⟩
  | succ k ih =>
    intro i s hk
    rw [foN_go (by omega)]
    obtain ⟨u1, u2⟩ := ih (i + 1) (mxF c i s) (by omega)
    unfold mxF at u1
    refine ⟨by unfold mxF; omega, fun x h0 h1 => ?_⟩
    by_cases e : x = i
    · subst e; unfold mxF; omega
    · exact u2 x (by omega) h1
def mlL (N : Int) (f : Int → Bool) (g : Int → Int) : Int := foN (N + 1) (mxF (fun r => foN 10 (cnF (fun i => f i && decide (g i = r))) 0 0)) 0 0
def mlR (f : Int → Bool) (g : Int → Int) : Int := foN 10 (mxF (fun e => foN 10 (cnF (fun o => f e && (f o && decide (g e = g o)))) 0 0)) 0 0
theorem ml_eq {N : Int} {f : Int → Bool} {g : Int → Int} (hb : ∀ i, 0 ≤ i → i < 10 → 0 ≤ g i ∧ g i ≤ N) : mlL N f g = mlR f g := by
  have hL := mx_ge (n := N + 1) (c := fun r => foN 10 (cnF (fun i => f i && decide (g i = r))) 0 0) _ 0 0 rfl
  have hR := mx_ge (n := 10) (c := fun e => foN 10 (cnF (fun o => f e && (f o && decide (g e = g o)))) 0 0) _ 0 0 rfl
  refine Int.le_antisymm (mx_le _ 0 0 rfl (fun r r0 r1 => ?_) hR.1) (mx_le _ 0 0 rfl (fun e e0 e1 => ?_) hL.1)
  · by_cases hx : ∃ i, 0 ≤ i ∧ i < 10 ∧ (f i && decide (g i = r)) = true
    · obtain ⟨i, i0, i1, hi⟩ := hx
      rw [Bool.and_eq_true, decide_eq_true_eq] at hi
      refine Int.le_trans (Int.le_of_eq ?_) (hR.2 i i0 i1)
      refine cn_c (fun x x0 x1 => ?_)
      rw [hi.1, hi.2]
      simp [eq_comm]
    · rw [cn_0 _ 0 0 rfl (fun x x0 x1 => by
        cases hq : (f x && decide (g x = r))
        · rfl
        · exact absurd ⟨x, x0, x1, hq⟩ hx)]
      exact hR.1
  · cases hf : f e
    · rw [cn_0 _ 0 0 rfl (fun x x0 x1 => by rfl)]
      exact hL.1
    · have hg := hb e e0 e1
      refine Int.le_trans (Int.le_of_eq ?_) (hL.2 (g e) hg.1 (by omega))
      refine cn_c (fun x x0 x1 => ?_)
      simp [eq_comm]
theorem rch_b {K : Int} {A : Int → Int} (hA : AOk K A) {p db fg : Int} : 0 ≤ rch A p db fg ∧ rch A p db fg ≤ A 0 := by
  have b0 := hA.1
  have b3 := hA.2.2.2.1
  have hs := stN_rng (n := A 0) (ok := okBy A p db fg) _ 0 rfl b0.1
  exact aft_b b3.1 hs.1 hs.2
theorem mal_f {K : Int} {A : Int → Int} {T : Int → Int → Int} {p t n fg : Int} (hA : AOk K A) : malA A p (dsS A T p t n) fg = mlR (fitB A T p t n) (fun e => rch A p e fg) := by
  rw [← ml_eq (N := A 0) (fun i _ _ => rch_b hA)]
  unfold malA mlL
  refine foN_congr _ 0 0 rfl (fun r s r0 r1 => ?_)
  unfold malF mxF
  congr 1
  refine foN_congr _ 0 0 rfl (fun i c i0 i1 => ?_)
  unfold cntF cnF
  rw [(ds_10 (A := A) (T := T) (p := p) (t := t) (n := n)).2.2 i i0 i1]
  simp only [Bool.and_eq_true, decide_eq_true_eq]
def askA (ml : Int → Int) : Int := foN 6 (fun f b => if ml f < ml b then f else b) 1 0
def faN (f : Int → Bool) : Nat → Int → Int → Int
  | 0, _, _ => -1
  | k + 1, e, l => if f e = true then (if l = 0 then e else faN f k (e + 1) (l - 1)) else faN f k (e + 1) l
def o_fits (A M : Int → Int) (T : Int → Int → Int) (p t n : Int) : Int × Int := if wsZ A M T p t n = 0 then (fitN A T p t n, 0) else (-1, wsZ A M T p t n)
def o_fitsAt (A M : Int → Int) (T : Int → Int → Int) (p t n k : Int) : Int × Int := if k < 0 then (-1, 1) else if wsZ A M T p t n = 0 then (if faN (fitB A T p t n) 10 0 k = -1 then (-1, 6) else (faN (fitB A T p t n) 10 0 k, 0)) else (-1, wsZ A M T p t n)
def o_ask (A M : Int → Int) (T : Int → Int → Int) (p t n : Int) : Int × Int := if wsZ A M T p t n = 0 then (if fitN A T p t n < 2 then (-1, 6) else (askA (fun fg => mlR (fitB A T p t n) (fun e => rch A p e fg)), 0)) else (-1, wsZ A M T p t n)
set_option maxHeartbeats 4000000 in
theorem c_fits {X : Int → Int} {XL : Int} {d : Nat} {h : Mem} {Q : RetP} {S M : Int → Int} {T : Int → Int → Int} {K : Int} {A : Int → Int} {v : Nat} {p t n : Int} (hd : 9 ≤ d) (hC : Cls K v h A) (hT2 : TC h S M T) (hB : TB S M) (hq : Q (some (vI (o_fits A M T p t n).1)) (sG h 0 0 (o_fits A M T p t n).2)) : WP X XL d 159 [vR 0, vI p, vI t, vI n] h Q := by
  have k00 := hC.1.1
  unfold o_fits at hq
  refine eX9_fits (by omega) ?_
  by_cases hz : wsZ A M T p t n = 0
  · obtain ⟨⟨hp, ht, hn⟩, h2, h3, h4⟩ := ws_b.1 hz
    obtain ⟨u1, u2, u3⟩ := ds_10 (A := A) (T := T) (p := p) (t := t) (n := n)
    rw [if_pos hz] at hq
    (repeat' (first | (rw [hz]) | (rw [u1]) | (refine w_twosStatus (by omega) hC hT2 hB ?_) | (refine w_doubtsThatFit (by omega) hC hT2 hB hp.1 hp.2 ht hn h3 h4 ?_) | (refine w_bitCount (by omega) u2 ?_) | (refine w_given (by omega) k00 ?_) | (refine w_none (by omega) k00 ?_) | (refine Ex_step ?_; conv => whnf) | (refine ⟨?_, trivial⟩) | (refine (show den _ _ _ _ _ _ _ _ from ?_); conv => whnf) | (refine ⟨by (first | assumption | rfl | (exact Nat.le_of_ble_eq_true rfl) | (exact ⟨fun h01 => absurd h01 (by decide), by first | rfl | assumption⟩) | (exact ⟨fun _ => by decide, by first | rfl | assumption⟩) | (exact ⟨by assumption, by omega, by omega⟩) | (unfold inI; omega) | omega), ?_⟩; conv => whnf) | (refine ⟨fun c => False.elim (by omega), fun c => ?_⟩) | (refine ⟨fun c => ?_, fun c => False.elim (by omega)⟩) | (refine ⟨fun c => ?_, fun c => ?_⟩) | (intro c) | fail))
    exact hq
  · rw [if_neg hz] at hq
    (repeat' (first | (refine w_twosStatus (by omega) hC hT2 hB ?_) | (refine ⟨fun c => absurd c hz, fun c => ?_⟩) | (refine w_given (by omega) k00 ?_) | (refine w_none (by omega) k00 ?_) | (refine Ex_step ?_; conv => whnf) | (refine ⟨?_, trivial⟩) | (refine (show den _ _ _ _ _ _ _ _ from ?_); conv => whnf) | (refine ⟨by (first | assumption | rfl | (exact Nat.le_of_ble_eq_true rfl) | (exact ⟨fun h01 => absurd h01 (by decide), by first | rfl | assumption⟩) | (exact ⟨fun _ => by decide, by first | rfl | assumption⟩) | (exact ⟨by assumption, by omega, by omega⟩) | (unfold inI; omega) | omega), ?_⟩; conv => whnf) | (refine ⟨fun c => False.elim (by omega), fun c => ?_⟩) | (refine ⟨fun c => ?_, fun c => False.elim (by omega)⟩) | (refine ⟨fun c => ?_, fun c => ?_⟩) | (intro c) | fail))
    exact hq
set_option maxHeartbeats 4000000 in
theorem c_fitsAt {X : Int → Int} {XL : Int} {d : Nat} {h : Mem} {Q : RetP} {S M : Int → Int} {T : Int → Int → Int} {K : Int} {A : Int → Int} {v : Nat} {p t n : Int} (hd : 9 ≤ d) (hC : Cls K v h A) (hT2 : TC h S M T) (hB : TB S M) {k : Int} (hq : Q (some (vI (o_fitsAt A M T p t n k).1)) (sG h 0 0 (o_fitsAt A M T p t n k).2)) : WP X XL d 160 [vR 0, vI p, vI t, vI n, vI k] h Q := by
  have k00 := hC.1.1
  unfold o_fitsAt at hq
  refine eX9_fitsAt (by omega) ?_
  by_cases hk : k < 0
  · rw [if_pos hk] at hq
    (repeat' (first | (refine w_given (by omega) k00 ?_) | (refine w_none (by omega) k00 ?_) | (refine Ex_step ?_; conv => whnf) | (refine ⟨?_, trivial⟩) | (refine (show den _ _ _ _ _ _ _ _ from ?_); conv => whnf) | (refine ⟨by (first | assumption | rfl | (exact Nat.le_of_ble_eq_true rfl) | (exact ⟨fun h01 => absurd h01 (by decide), by first | rfl | assumption⟩) | (exact ⟨fun _ => by decide, by first | rfl | assumption⟩) | (exact ⟨by assumption, by omega, by omega⟩) | (unfold inI; omega) | omega), ?_⟩; conv => whnf) | (refine ⟨fun c => False.elim (by omega), fun c => ?_⟩) | (refine ⟨fun c => ?_, fun c => False.elim (by omega)⟩) | (refine ⟨fun c => ?_, fun c => ?_⟩) | (intro c) | fail))
    exact hq
  · rw [if_neg hk] at hq
    by_cases hz : wsZ A M T p t n = 0
    · obtain ⟨⟨hp, ht, hn⟩, h2, h3, h4⟩ := ws_b.1 hz
      obtain ⟨u1, u2, u3⟩ := ds_10 (A := A) (T := T) (p := p) (t := t) (n := n)
      rw [if_pos hz] at hq
      have loop : ∀ (f : Nat) (e a : Int), 10 - e = f → 0 ≤ e → 0 ≤ a → a ≤ e → faN (fitB A T p t n) 10 0 k = faN (fitB A T p t n) f e (k - a) → Ex (WP X XL (d - 1)) KX9_fitsAt h.1 Q 47 [some (vR 0), some (vI p), some (vI t), some (vI n), some (vI k), some (vI 0), some (vI (dsS A T p t n)), some (vI a), some (vI e)] [] h := by
        intro f; induction f with
        | zero =>
          intro e a hf h0 h1 h5 he
          rw [he, show faN (fitB A T p t n) 0 e (k - a) = -1 from rfl, if_pos rfl] at hq
          (repeat' (first | (refine w_given (by omega) k00 ?_) | (refine w_none (by omega) k00 ?_) | (refine Ex_step ?_; conv => whnf) | (refine ⟨?_, trivial⟩) | (refine (show den _ _ _ _ _ _ _ _ from ?_); conv => whnf) | (refine ⟨by (first | assumption | rfl | (exact Nat.le_of_ble_eq_true rfl) | (exact ⟨fun h01 => absurd h01 (by decide), by first | rfl | assumption⟩) | (exact ⟨fun _ => by decide, by first | rfl | assumption⟩) | (exact ⟨by assumption, by omega, by omega⟩) | (unfold inI; omega) | omega), ?_⟩; conv => whnf) | (refine ⟨fun c => False.elim (by omega), fun c => ?_⟩) | (refine ⟨fun c => ?_, fun c => False.elim (by omega)⟩) | (refine ⟨fun c => ?_, fun c => ?_⟩) | (intro c) | fail))
          exact hq
        | succ f ih =>
          intro e a hf h0 h1 h5 he
          rw [show faN (fitB A T p t n) (f + 1) e (k - a) = (if fitB A T p t n e = true then (if k - a = 0 then e else faN (fitB A T p t n) f (e + 1) (k - a - 1)) else faN (fitB A T p t n) f (e + 1) (k - a)) from rfl] at he
          have ub := u3 e h0 (by omega)
          by_cases hb : fitB A T p t n e = true
          · rw [if_pos hb] at he
            rw [hb] at ub
            by_cases hl : k - a = 0
            · rw [if_pos hl] at he
              rw [he, if_neg (by omega)] at hq
              refine Ex_step ?_; conv => whnf
              (repeat' (first | (refine w_contains (by omega) (by omega) (fun c => ?_) (fun c => absurd (c.symm.trans ub) (by decide))) | (refine w_given (by omega) k00 ?_) | (refine w_none (by omega) k00 ?_) | (refine Ex_step ?_; conv => whnf) | (refine ⟨?_, trivial⟩) | (refine (show den _ _ _ _ _ _ _ _ from ?_); conv => whnf) | (refine ⟨by (first | assumption | rfl | (exact Nat.le_of_ble_eq_true rfl) | (exact ⟨fun h01 => absurd h01 (by decide), by first | rfl | assumption⟩) | (exact ⟨fun _ => by decide, by first | rfl | assumption⟩) | (exact ⟨by assumption, by omega, by omega⟩) | (unfold inI; omega) | omega), ?_⟩; conv => whnf) | (refine ⟨fun c => False.elim (by omega), fun c => ?_⟩) | (refine ⟨fun c => ?_, fun c => False.elim (by omega)⟩) | (refine ⟨fun c => ?_, fun c => ?_⟩) | (intro c) | fail))
              exact hq
            · rw [if_neg hl] at he
              have ih2 := ih (e + 1) (a + 1) (by omega) (by omega) (by omega) (by omega) (by rw [he, show k - a - 1 = k - (a + 1) by omega])
              refine Ex_step ?_; conv => whnf
              (repeat' (first | (exact ih2) | (refine w_contains (by omega) (by omega) (fun c => ?_) (fun c => absurd (c.symm.trans ub) (by decide))) | (refine Ex_step ?_; conv => whnf) | (refine ⟨?_, trivial⟩) | (refine (show den _ _ _ _ _ _ _ _ from ?_); conv => whnf) | (refine ⟨by (first | assumption | rfl | (exact Nat.le_of_ble_eq_true rfl) | (exact ⟨fun h01 => absurd h01 (by decide), by first | rfl | assumption⟩) | (exact ⟨fun _ => by decide, by first | rfl | assumption⟩) | (exact ⟨by assumption, by omega, by omega⟩) | (unfold inI; omega) | omega), ?_⟩; conv => whnf) | (refine ⟨fun c => False.elim (by omega), fun c => ?_⟩) | (refine ⟨fun c => ?_, fun c => False.elim (by omega)⟩) | (refine ⟨fun c => ?_, fun c => ?_⟩) | (intro c) | fail))
          · rw [if_neg hb] at he
            rw [show fitB A T p t n e = false by simpa using hb] at ub
            have ih2 := ih (e + 1) a (by omega) (by omega) (by omega) (by omega) he
            refine Ex_step ?_; conv => whnf
            (repeat' (first | (exact ih2) | (refine w_contains (by omega) (by omega) (fun c => absurd (c.symm.trans ub) (by decide)) (fun c => ?_)) | (refine Ex_step ?_; conv => whnf) | (refine ⟨?_, trivial⟩) | (refine (show den _ _ _ _ _ _ _ _ from ?_); conv => whnf) | (refine ⟨by (first | assumption | rfl | (exact Nat.le_of_ble_eq_true rfl) | (exact ⟨fun h01 => absurd h01 (by decide), by first | rfl | assumption⟩) | (exact ⟨fun _ => by decide, by first | rfl | assumption⟩) | (exact ⟨by assumption, by omega, by omega⟩) | (unfold inI; omega) | omega), ?_⟩; conv => whnf) | (refine ⟨fun c => False.elim (by omega), fun c => ?_⟩) | (refine ⟨fun c => ?_, fun c => False.elim (by omega)⟩) | (refine ⟨fun c => ?_, fun c => ?_⟩) | (intro c) | fail))
      have l0 := loop 10 0 0 (by omega) (by omega) (by omega) (by omega) (by rw [show k - 0 = k by omega])
      (repeat' (first | (exact l0) | (rw [hz]) | (refine w_twosStatus (by omega) hC hT2 hB ?_) | (refine w_doubtsThatFit (by omega) hC hT2 hB hp.1 hp.2 ht hn h3 h4 ?_) | (refine Ex_step ?_; conv => whnf) | (refine ⟨?_, trivial⟩) | (refine (show den _ _ _ _ _ _ _ _ from ?_); conv => whnf) | (refine ⟨by (first | assumption | rfl | (exact Nat.le_of_ble_eq_true rfl) | (exact ⟨fun h01 => absurd h01 (by decide), by first | rfl | assumption⟩) | (exact ⟨fun _ => by decide, by first | rfl | assumption⟩) | (exact ⟨by assumption, by omega, by omega⟩) | (unfold inI; omega) | omega), ?_⟩; conv => whnf) | (refine ⟨fun c => False.elim (by omega), fun c => ?_⟩) | (refine ⟨fun c => ?_, fun c => False.elim (by omega)⟩) | (refine ⟨fun c => ?_, fun c => ?_⟩) | (intro c) | fail))
    · rw [if_neg hz] at hq
      (repeat' (first | (refine w_twosStatus (by omega) hC hT2 hB ?_) | (refine ⟨fun c => absurd c hz, fun c => ?_⟩) | (refine w_given (by omega) k00 ?_) | (refine w_none (by omega) k00 ?_) | (refine Ex_step ?_; conv => whnf) | (refine ⟨?_, trivial⟩) | (refine (show den _ _ _ _ _ _ _ _ from ?_); conv => whnf) | (refine ⟨by (first | assumption | rfl | (exact Nat.le_of_ble_eq_true rfl) | (exact ⟨fun h01 => absurd h01 (by decide), by first | rfl | assumption⟩) | (exact ⟨fun _ => by decide, by first | rfl | assumption⟩) | (exact ⟨by assumption, by omega, by omega⟩) | (unfold inI; omega) | omega), ?_⟩; conv => whnf) | (refine ⟨fun c => False.elim (by omega), fun c => ?_⟩) | (refine ⟨fun c => ?_, fun c => False.elim (by omega)⟩) | (refine ⟨fun c => ?_, fun c => ?_⟩) | (intro c) | fail))
      exact hq
set_option maxHeartbeats 4000000 in
theorem c_ask {X : Int → Int} {XL : Int} {d : Nat} {h : Mem} {Q : RetP} {S M : Int → Int} {T : Int → Int → Int} {K : Int} {A : Int → Int} {v : Nat} {p t n : Int} (hd : 9 ≤ d) (hC : Cls K v h A) (hT2 : TC h S M T) (hB : TB S M) (hq : Q (some (vI (o_ask A M T p t n).1)) (sG h 0 0 (o_ask A M T p t n).2)) : WP X XL d 161 [vR 0, vI p, vI t, vI n] h Q := by
  obtain ⟨⟨k00, r7, hT⟩, hV⟩ := id hC; have kn := hV.1.1; have hA := hV.2.2
  unfold o_ask at hq
  refine eX9_ask (by omega) ?_
  by_cases hz : wsZ A M T p t n = 0
  · obtain ⟨⟨hp, ht, hn⟩, h2, h3, h4⟩ := ws_b.1 hz
    obtain ⟨u1, u2, u3⟩ := ds_10 (A := A) (T := T) (p := p) (t := t) (n := n)
    rw [if_pos hz] at hq
    by_cases hc : fitN A T p t n < 2
    · rw [if_pos hc] at hq
      (repeat' (first | (rw [hz]) | (rw [u1]) | (refine w_twosStatus (by omega) hC hT2 hB ?_) | (refine w_doubtsThatFit (by omega) hC hT2 hB hp.1 hp.2 ht hn h3 h4 ?_) | (refine w_bitCount (by omega) u2 ?_) | (refine w_given (by omega) k00 ?_) | (refine w_none (by omega) k00 ?_) | (refine Ex_step ?_; conv => whnf) | (refine ⟨?_, trivial⟩) | (refine (show den _ _ _ _ _ _ _ _ from ?_); conv => whnf) | (refine ⟨by (first | assumption | rfl | (exact Nat.le_of_ble_eq_true rfl) | (exact ⟨fun h01 => absurd h01 (by decide), by first | rfl | assumption⟩) | (exact ⟨fun _ => by decide, by first | rfl | assumption⟩) | (exact ⟨by assumption, by omega, by omega⟩) | (unfold inI; omega) | omega), ?_⟩; conv => whnf) | (refine ⟨fun c => False.elim (by omega), fun c => ?_⟩) | (refine ⟨fun c => ?_, fun c => False.elim (by omega)⟩) | (refine ⟨fun c => ?_, fun c => ?_⟩) | (intro c) | fail))
      exact hq
    · rw [if_neg hc] at hq
      have em : ∀ fg, malA A p (dsS A T p t n) fg = mlR (fitB A T p t n) (fun e => rch A p e fg) := fun fg => mal_f hA
      have loop : ∀ (k : Nat) (f b : Int) (w : Option MV), (6 - f).toNat = k → 1 ≤ f → f ≤ 6 → askA (fun fg => mlR (fitB A T p t n) (fun e => rch A p e fg)) = foN 6 (fun f b => if mlR (fitB A T p t n) (fun e => rch A p e f) < mlR (fitB A T p t n) (fun e => rch A p e b) then f else b) f b → Ex (WP X XL (d - 1)) KX9_ask h.1 Q 65 [some (vR 0), some (vI p), some (vI t), some (vI n), some (vI 0), some (vI (dsS A T p t n)), some (vI b), some (vI (mlR (fitB A T p t n) (fun e => rch A p e b))), some (vI f), w] [] h := by
        intro k; induction k with
        | zero =>
          intro f b w hk h0 h1 he
          rw [foN_end (by omega)] at he
          rw [he] at hq
          (repeat' (first | (refine w_given (by omega) k00 ?_) | (refine w_none (by omega) k00 ?_) | (refine Ex_step ?_; conv => whnf) | (refine ⟨?_, trivial⟩) | (refine (show den _ _ _ _ _ _ _ _ from ?_); conv => whnf) | (refine ⟨by (first | assumption | rfl | (exact Nat.le_of_ble_eq_true rfl) | (exact ⟨fun h01 => absurd h01 (by decide), by first | rfl | assumption⟩) | (exact ⟨fun _ => by decide, by first | rfl | assumption⟩) | (exact ⟨by assumption, by omega, by omega⟩) | (unfold inI; omega) | omega), ?_⟩; conv => whnf) | (refine ⟨fun c => False.elim (by omega), fun c => ?_⟩) | (refine ⟨fun c => ?_, fun c => False.elim (by omega)⟩) | (refine ⟨fun c => ?_, fun c => ?_⟩) | (intro c) | fail))
          exact hq
        | succ k ih =>
          intro f b w hk h0 h1 he
          rw [foN_go (by omega)] at he
          by_cases hl : mlR (fitB A T p t n) (fun e => rch A p e f) < mlR (fitB A T p t n) (fun e => rch A p e b)
          · rw [if_pos hl] at he
            have ih2 := fun w => ih (f + 1) f w (by omega) (by omega) (by omega) he
            refine Ex_step ?_; conv => whnf
            (repeat' (first | (refine ih2 _) | (rw [r7]) | (rw [em]) | (refine w_mostAlike (by omega) hV hp.1 hp.2 (by omega) ?_) | (refine Ex_step ?_; conv => whnf) | (refine ⟨?_, trivial⟩) | (refine (show den _ _ _ _ _ _ _ _ from ?_); conv => whnf) | (refine ⟨by (first | assumption | rfl | (exact Nat.le_of_ble_eq_true rfl) | (exact ⟨fun h01 => absurd h01 (by decide), by first | rfl | assumption⟩) | (exact ⟨fun _ => by decide, by first | rfl | assumption⟩) | (exact ⟨by assumption, by omega, by omega⟩) | (unfold inI; omega) | omega), ?_⟩; conv => whnf) | (refine ⟨fun c => False.elim (by omega), fun c => ?_⟩) | (refine ⟨fun c => ?_, fun c => False.elim (by omega)⟩) | (refine ⟨fun c => ?_, fun c => ?_⟩) | (intro c) | fail))
          · rw [if_neg hl] at he
            have ih2 := fun w => ih (f + 1) b w (by omega) (by omega) (by omega) he
            refine Ex_step ?_; conv => whnf
            (repeat' (first | (refine ih2 _) | (rw [r7]) | (rw [em]) | (refine w_mostAlike (by omega) hV hp.1 hp.2 (by omega) ?_) | (refine Ex_step ?_; conv => whnf) | (refine ⟨?_, trivial⟩) | (refine (show den _ _ _ _ _ _ _ _ from ?_); conv => whnf) | (refine ⟨by (first | assumption | rfl | (exact Nat.le_of_ble_eq_true rfl) | (exact ⟨fun h01 => absurd h01 (by decide), by first | rfl | assumption⟩) | (exact ⟨fun _ => by decide, by first | rfl | assumption⟩) | (exact ⟨by assumption, by omega, by omega⟩) | (unfold inI; omega) | omega), ?_⟩; conv => whnf) | (refine ⟨fun c => False.elim (by omega), fun c => ?_⟩) | (refine ⟨fun c => ?_, fun c => False.elim (by omega)⟩) | (refine ⟨fun c => ?_, fun c => ?_⟩) | (intro c) | fail))
      have l0 := loop _ 1 0 none rfl (by omega) (by omega) rfl
      (repeat' (first | (exact l0) | (rw [r7]) | (rw [hz]) | (rw [u1]) | (rw [em]) | (refine w_twosStatus (by omega) hC hT2 hB ?_) | (refine w_doubtsThatFit (by omega) hC hT2 hB hp.1 hp.2 ht hn h3 h4 ?_) | (refine w_bitCount (by omega) u2 ?_) | (refine w_mostAlike (by omega) hV hp.1 hp.2 (by omega) ?_) | (refine Ex_step ?_; conv => whnf) | (refine ⟨?_, trivial⟩) | (refine (show den _ _ _ _ _ _ _ _ from ?_); conv => whnf) | (refine ⟨by (first | assumption | rfl | (exact Nat.le_of_ble_eq_true rfl) | (exact ⟨fun h01 => absurd h01 (by decide), by first | rfl | assumption⟩) | (exact ⟨fun _ => by decide, by first | rfl | assumption⟩) | (exact ⟨by assumption, by omega, by omega⟩) | (unfold inI; omega) | omega), ?_⟩; conv => whnf) | (refine ⟨fun c => False.elim (by omega), fun c => ?_⟩) | (refine ⟨fun c => ?_, fun c => False.elim (by omega)⟩) | (refine ⟨fun c => ?_, fun c => ?_⟩) | (intro c) | fail))
  · rw [if_neg hz] at hq
    (repeat' (first | (refine w_twosStatus (by omega) hC hT2 hB ?_) | (refine ⟨fun c => absurd c hz, fun c => ?_⟩) | (refine w_given (by omega) k00 ?_) | (refine w_none (by omega) k00 ?_) | (refine Ex_step ?_; conv => whnf) | (refine ⟨?_, trivial⟩) | (refine (show den _ _ _ _ _ _ _ _ from ?_); conv => whnf) | (refine ⟨by (first | assumption | rfl | (exact Nat.le_of_ble_eq_true rfl) | (exact ⟨fun h01 => absurd h01 (by decide), by first | rfl | assumption⟩) | (exact ⟨fun _ => by decide, by first | rfl | assumption⟩) | (exact ⟨by assumption, by omega, by omega⟩) | (unfold inI; omega) | omega), ?_⟩; conv => whnf) | (refine ⟨fun c => False.elim (by omega), fun c => ?_⟩) | (refine ⟨fun c => ?_, fun c => False.elim (by omega)⟩) | (refine ⟨fun c => ?_, fun c => ?_⟩) | (intro c) | fail))
    exact hq
set_option maxHeartbeats 4000000 in
theorem m_fits {X : Int → Int} {XL : Int} {d : Nat} {h : Mem} {Q : RetP} {S M : Int → Int} {T : Int → Int → Int} {K : Int} {A : Int → Int} {p t n : Int} (hd : 11 ≤ d) (hR : Rr K h A) (hK : K + 100 ≤ 30000000) (hX : RK h) (hT : TR h S M T) (hB : TB S M) (hq : ∀ h', Rr K h' A → FrH h h' → Q (some (vI (o_fits A M T p t n).1)) (sG h' 127 2 (o_fits A M T p t n).2)) : WP X XL d 315 [vR 127, vI p, vI t, vI n] h Q := by
  have kq := hR.1.1
  have hwb := (ws_b (A := A) (M := M) (T := T) (p := p) (t := t) (n := n)).2
  unfold o_fits at hq
  refine eX10_fits (by omega) ?_
  by_cases hz : wsZ A M T p t n = 0
  · obtain ⟨⟨hp, ht, hn⟩, h2, h3, h4⟩ := ws_b.1 hz
    rw [if_pos hz] at hq
    (repeat' (first | (rw [hz]) | (refine r_wrongSeen (by omega) hR hT hB ?_) | (refine r_laysFits (by omega) hR (by omega) hX hT hB hp.1 hp.2 ht hn h3 h4 (fun h1 hR1 f1 q1 p1 => ?_); have kq1 := hR1.1.1; have g1 := f1.1) | (refine r_gives (by omega) kq1 ?_) | (refine Ex_step ?_; conv => whnf) | (refine ⟨?_, trivial⟩) | (refine (show den _ _ _ _ _ _ _ _ from ?_); conv => whnf) | (refine ⟨by (first | assumption | rfl | (exact Nat.le_of_ble_eq_true rfl) | (exact ⟨fun h01 => absurd h01 (by decide), by first | rfl | assumption⟩) | (exact ⟨fun _ => by decide, by first | rfl | assumption⟩) | (exact ⟨by assumption, by omega, by omega⟩) | (unfold inI; omega) | omega), ?_⟩; conv => whnf) | (refine ⟨fun c => False.elim (by omega), fun c => ?_⟩) | (refine ⟨fun c => ?_, fun c => False.elim (by omega)⟩) | (refine ⟨fun c => ?_, fun c => ?_⟩) | (intro c) | fail))
    exact hq h1 hR1 f1
  · rw [if_neg hz] at hq
    (repeat' (first | (refine r_wrongSeen (by omega) hR hT hB ?_) | (refine r_gives (by omega) kq ?_) | (refine r_refuse (by omega) kq ?_) | (refine Ex_step ?_; conv => whnf) | (refine ⟨?_, trivial⟩) | (refine (show den _ _ _ _ _ _ _ _ from ?_); conv => whnf) | (refine ⟨by (first | assumption | rfl | (exact Nat.le_of_ble_eq_true rfl) | (exact ⟨fun h01 => absurd h01 (by decide), by first | rfl | assumption⟩) | (exact ⟨fun _ => by decide, by first | rfl | assumption⟩) | (exact ⟨by assumption, by omega, by omega⟩) | (unfold inI; omega) | omega), ?_⟩; conv => whnf) | (refine ⟨fun c => False.elim (by omega), fun c => ?_⟩) | (refine ⟨fun c => ?_, fun c => False.elim (by omega)⟩) | (refine ⟨fun c => ?_, fun c => ?_⟩) | (intro c) | fail))
    exact hq h hR FrH.refl
set_option maxHeartbeats 4000000 in
theorem m_fitsAt {X : Int → Int} {XL : Int} {d : Nat} {h : Mem} {Q : RetP} {S M : Int → Int} {T : Int → Int → Int} {K : Int} {A : Int → Int} {p t n : Int} (hd : 11 ≤ d) (hR : Rr K h A) (hK : K + 100 ≤ 30000000) (hX : RK h) (hT : TR h S M T) (hB : TB S M) {k : Int} (hk2 : k ≤ 2147483647) (hq : ∀ h', Rr K h' A → FrH h h' → Q (some (vI (o_fitsAt A M T p t n k).1)) (sG h' 127 2 (o_fitsAt A M T p t n k).2)) : WP X XL d 316 [vR 127, vI p, vI t, vI n, vI k] h Q := by
  have kq := hR.1.1
  have hwb := (ws_b (A := A) (M := M) (T := T) (p := p) (t := t) (n := n)).2
  unfold o_fitsAt at hq
  refine eX10_fitsAt (by omega) ?_
  by_cases hk : k < 0
  · rw [if_pos hk] at hq
    (repeat' (first | (refine r_gives (by omega) kq ?_) | (refine r_refuse (by omega) kq ?_) | (refine Ex_step ?_; conv => whnf) | (refine ⟨?_, trivial⟩) | (refine (show den _ _ _ _ _ _ _ _ from ?_); conv => whnf) | (refine ⟨by (first | assumption | rfl | (exact Nat.le_of_ble_eq_true rfl) | (exact ⟨fun h01 => absurd h01 (by decide), by first | rfl | assumption⟩) | (exact ⟨fun _ => by decide, by first | rfl | assumption⟩) | (exact ⟨by assumption, by omega, by omega⟩) | (unfold inI; omega) | omega), ?_⟩; conv => whnf) | (refine ⟨fun c => False.elim (by omega), fun c => ?_⟩) | (refine ⟨fun c => ?_, fun c => False.elim (by omega)⟩) | (refine ⟨fun c => ?_, fun c => ?_⟩) | (intro c) | fail))
    exact hq h hR FrH.refl
  · rw [if_neg hk] at hq
    by_cases hz : wsZ A M T p t n = 0
    · obtain ⟨⟨hp, ht, hn⟩, h2, h3, h4⟩ := ws_b.1 hz
      rw [if_pos hz] at hq
      have loop : ∀ (hj : Mem), Rr K hj A → FrH h hj → fitP hj (fitB A T p t n) 10 → ∀ (f : Nat) (e l : Int), 10 - e = f → 0 ≤ e → 0 ≤ l ∧ l ≤ k → faN (fitB A T p t n) 10 0 k = faN (fitB A T p t n) f e l → Ex (WP X XL (d - 1)) KX10_fitsAt h.1 Q 45 [some (vR 127), some (vI p), some (vI t), some (vI n), some (vI k), some (vI 0), some (vI l), some (vI e)] [] hj := by
        intro hj hRj fj pj
        have kqj := hRj.1.1
        have gj := fj.1
        obtain ⟨⟨x1, xk1, xl1⟩, ⟨x8, xk8, xl8⟩, ⟨x9, xk9, xl9⟩, ⟨x21, xk21, xl21⟩, ⟨x25, xk25, xl25⟩, ⟨x26, xk26, xl26⟩, ⟨x27, xk27, xl27⟩, ⟨x28, xk28, xl28⟩, ⟨x29, xk29, xl29⟩, ⟨x30, xk30, xl30⟩, ⟨x31, xk31, xl31⟩, ⟨x34, xk34, xl34⟩, ⟨x35, xk35, xl35⟩, ⟨x36, xk36, xl36⟩⟩ := id (hX.eq fj.1 fj.2.1)
        intro f; induction f with
        | zero =>
          intro e l hf h0 h1 he
          rw [he, show faN (fitB A T p t n) 0 e l = -1 from rfl, if_pos rfl] at hq
          (repeat' (first | (refine r_refuse (by omega) kqj ?_) | (refine Ex_step ?_; conv => whnf) | (refine ⟨?_, trivial⟩) | (refine (show den _ _ _ _ _ _ _ _ from ?_); conv => whnf) | (refine ⟨by (first | assumption | rfl | (exact Nat.le_of_ble_eq_true rfl) | (exact ⟨fun h01 => absurd h01 (by decide), by first | rfl | assumption⟩) | (exact ⟨fun _ => by decide, by first | rfl | assumption⟩) | (exact ⟨by assumption, by omega, by omega⟩) | (unfold inI; omega) | omega), ?_⟩; conv => whnf) | (refine ⟨fun c => False.elim (by omega), fun c => ?_⟩) | (refine ⟨fun c => ?_, fun c => False.elim (by omega)⟩) | (refine ⟨fun c => ?_, fun c => ?_⟩) | (intro c) | fail))
          exact hq hj hRj fj
        | succ f ih =>
          intro e l hf h0 h1 he
          rw [show faN (fitB A T p t n) (f + 1) e l = (if fitB A T p t n e = true then (if l = 0 then e else faN (fitB A T p t n) f (e + 1) (l - 1)) else faN (fitB A T p t n) f (e + 1) l) from rfl] at he
          have ub := pj e h0 (by omega)
          by_cases hb : fitB A T p t n e = true
          · rw [if_pos hb] at he ub
            by_cases hl : l = 0
            · rw [if_pos hl] at he
              rw [he, if_neg (by omega)] at hq
              refine Ex_step ?_; conv => whnf
              (repeat' (first | (rw [x28]) | (rw [ub]) | (refine r_gives (by omega) kqj ?_) | (refine Ex_step ?_; conv => whnf) | (refine ⟨?_, trivial⟩) | (refine (show den _ _ _ _ _ _ _ _ from ?_); conv => whnf) | (refine ⟨by (first | assumption | rfl | (exact Nat.le_of_ble_eq_true rfl) | (exact ⟨fun h01 => absurd h01 (by decide), by first | rfl | assumption⟩) | (exact ⟨fun _ => by decide, by first | rfl | assumption⟩) | (exact ⟨by assumption, by omega, by omega⟩) | (unfold inI; omega) | omega), ?_⟩; conv => whnf) | (refine ⟨fun c => False.elim (by omega), fun c => ?_⟩) | (refine ⟨fun c => ?_, fun c => False.elim (by omega)⟩) | (refine ⟨fun c => ?_, fun c => ?_⟩) | (intro c) | fail))
              exact hq hj hRj fj
            · rw [if_neg hl] at he
              have ih2 := ih (e + 1) (l - 1) (by omega) (by omega) (by omega) he
              refine Ex_step ?_; conv => whnf
              (repeat' (first | (exact ih2) | (rw [x28]) | (rw [ub]) | (refine Ex_step ?_; conv => whnf) | (refine ⟨?_, trivial⟩) | (refine (show den _ _ _ _ _ _ _ _ from ?_); conv => whnf) | (refine ⟨by (first | assumption | rfl | (exact Nat.le_of_ble_eq_true rfl) | (exact ⟨fun h01 => absurd h01 (by decide), by first | rfl | assumption⟩) | (exact ⟨fun _ => by decide, by first | rfl | assumption⟩) | (exact ⟨by assumption, by omega, by omega⟩) | (unfold inI; omega) | omega), ?_⟩; conv => whnf) | (refine ⟨fun c => False.elim (by omega), fun c => ?_⟩) | (refine ⟨fun c => ?_, fun c => False.elim (by omega)⟩) | (refine ⟨fun c => ?_, fun c => ?_⟩) | (intro c) | fail))
          · rw [if_neg hb] at he ub
            have ih2 := ih (e + 1) l (by omega) (by omega) (by omega) he
            refine Ex_step ?_; conv => whnf
            (repeat' (first | (exact ih2) | (rw [x28]) | (rw [ub]) | (refine Ex_step ?_; conv => whnf) | (refine ⟨?_, trivial⟩) | (refine (show den _ _ _ _ _ _ _ _ from ?_); conv => whnf) | (refine ⟨by (first | assumption | rfl | (exact Nat.le_of_ble_eq_true rfl) | (exact ⟨fun h01 => absurd h01 (by decide), by first | rfl | assumption⟩) | (exact ⟨fun _ => by decide, by first | rfl | assumption⟩) | (exact ⟨by assumption, by omega, by omega⟩) | (unfold inI; omega) | omega), ?_⟩; conv => whnf) | (refine ⟨fun c => False.elim (by omega), fun c => ?_⟩) | (refine ⟨fun c => ?_, fun c => False.elim (by omega)⟩) | (refine ⟨fun c => ?_, fun c => ?_⟩) | (intro c) | fail))
      (repeat' (first | (refine loop h1 hR1 f1 p1 10 0 k (by omega) (by omega) (by omega) rfl) | (rw [hz]) | (refine r_wrongSeen (by omega) hR hT hB ?_) | (refine r_laysFits (by omega) hR (by omega) hX hT hB hp.1 hp.2 ht hn h3 h4 (fun h1 hR1 f1 q1 p1 => ?_); have kq1 := hR1.1.1; have g1 := f1.1) | (refine Ex_step ?_; conv => whnf) | (refine ⟨?_, trivial⟩) | (refine (show den _ _ _ _ _ _ _ _ from ?_); conv => whnf) | (refine ⟨by (first | assumption | rfl | (exact Nat.le_of_ble_eq_true rfl) | (exact ⟨fun h01 => absurd h01 (by decide), by first | rfl | assumption⟩) | (exact ⟨fun _ => by decide, by first | rfl | assumption⟩) | (exact ⟨by assumption, by omega, by omega⟩) | (unfold inI; omega) | omega), ?_⟩; conv => whnf) | (refine ⟨fun c => False.elim (by omega), fun c => ?_⟩) | (refine ⟨fun c => ?_, fun c => False.elim (by omega)⟩) | (refine ⟨fun c => ?_, fun c => ?_⟩) | (intro c) | fail))
    · rw [if_neg hz] at hq
      (repeat' (first | (refine r_wrongSeen (by omega) hR hT hB ?_) | (refine r_gives (by omega) kq ?_) | (refine r_refuse (by omega) kq ?_) | (refine Ex_step ?_; conv => whnf) | (refine ⟨?_, trivial⟩) | (refine (show den _ _ _ _ _ _ _ _ from ?_); conv => whnf) | (refine ⟨by (first | assumption | rfl | (exact Nat.le_of_ble_eq_true rfl) | (exact ⟨fun h01 => absurd h01 (by decide), by first | rfl | assumption⟩) | (exact ⟨fun _ => by decide, by first | rfl | assumption⟩) | (exact ⟨by assumption, by omega, by omega⟩) | (unfold inI; omega) | omega), ?_⟩; conv => whnf) | (refine ⟨fun c => False.elim (by omega), fun c => ?_⟩) | (refine ⟨fun c => ?_, fun c => False.elim (by omega)⟩) | (refine ⟨fun c => ?_, fun c => ?_⟩) | (intro c) | fail))
      exact hq h hR FrH.refl
set_option maxHeartbeats 4000000 in
theorem r_mostAlike {X : Int → Int} {XL : Int} {d : Nat} {h : Mem} {Q : RetP} {A : Int → Int} {p fg : Int} {f : Int → Bool} (hd : 1 ≤ d) (kq : kd h 127 = 10) (hX : RK h) (hfg : 0 ≤ fg ∧ fg ≤ 5) (hfar : farP h A p 60) (hfit : fitP h f 10) (hq : Q (some (vI (mlR f (fun e => rch A p e fg)))) h) : WP X XL d 317 [vR 127, vI fg] h Q := by
  obtain ⟨⟨x1, xk1, xl1⟩, ⟨x8, xk8, xl8⟩, ⟨x9, xk9, xl9⟩, ⟨x21, xk21, xl21⟩, ⟨x25, xk25, xl25⟩, ⟨x26, xk26, xl26⟩, ⟨x27, xk27, xl27⟩, ⟨x28, xk28, xl28⟩, ⟨x29, xk29, xl29⟩, ⟨x30, xk30, xl30⟩, ⟨x31, xk31, xl31⟩, ⟨x34, xk34, xl34⟩, ⟨x35, xk35, xl35⟩, ⟨x36, xk36, xl36⟩⟩ := id hX
  have inner : ∀ (most e : Int), 0 ≤ e → e < 10 → (∀ w, Ex (WP X XL (d - 1)) KX10_mostAlike h.1 Q 84 [some (vR 127), some (vI fg), some (vI most), some (vI e), some (vI (foN 10 (cnF (fun o => f e && (f o && decide (rch A p e fg = rch A p o fg)))) 0 0)), w] [] h) → ∀ (k : Nat) (o n : Int), (10 - o).toNat = k → 0 ≤ o → o ≤ 10 → 0 ≤ n → n ≤ o → foN 10 (cnF (fun o => f e && (f o && decide (rch A p e fg = rch A p o fg)))) 0 0 = foN 10 (cnF (fun o => f e && (f o && decide (rch A p e fg = rch A p o fg)))) o n → Ex (WP X XL (d - 1)) KX10_mostAlike h.1 Q 16 [some (vR 127), some (vI fg), some (vI most), some (vI e), some (vI n), some (vI o)] [] h := by
    intro most e e0 e1 fin
    have ue := hfit e e0 e1
    have re := hfar e fg e0 (by omega) hfg.1 hfg.2 (by omega)
    intro k; induction k with
    | zero =>
      intro o n hk h0 h1 n0 n1 he
      rw [foN_end (n := 10) (i := o) (by omega)] at he
      rw [he] at fin
      (repeat' (first | (refine fin _) | (refine Ex_step ?_; conv => whnf) | (refine ⟨?_, trivial⟩) | (refine (show den _ _ _ _ _ _ _ _ from ?_); conv => whnf) | (refine ⟨by (first | assumption | rfl | (exact Nat.le_of_ble_eq_true rfl) | (exact ⟨fun h01 => absurd h01 (by decide), by first | rfl | assumption⟩) | (exact ⟨fun _ => by decide, by first | rfl | assumption⟩) | (exact ⟨by assumption, by omega, by omega⟩) | (unfold inI; omega) | omega), ?_⟩; conv => whnf) | (refine ⟨fun c => False.elim (by omega), fun c => ?_⟩) | (refine ⟨fun c => ?_, fun c => False.elim (by omega)⟩) | (refine ⟨fun c => ?_, fun c => ?_⟩) | (intro c) | fail))
    | succ k ih =>
      intro o n hk h0 h1 n0 n1 he
      rw [foN_go (n := 10) (i := o) (by omega)] at he
      have uo := hfit o h0 (by omega)
      have ro := hfar o fg h0 (by omega) hfg.1 hfg.2 (by omega)
      by_cases b1 : f e = true
      · rw [if_pos b1] at ue
        by_cases b2 : f o = true
        · rw [if_pos b2] at uo
          by_cases b3 : rch A p e fg = rch A p o fg
          · rw [show cnF (fun o => f e && (f o && decide (rch A p e fg = rch A p o fg))) o n = n + 1 from if_pos (by show (f e && (f o && decide (rch A p e fg = rch A p o fg))) = true; rw [b1, b2, decide_eq_true b3]; rfl)] at he
            have ih2 := ih (o + 1) (n + 1) (by omega) (by omega) (by omega) (by omega) (by omega) he
            refine Ex_step ?_; conv => whnf
            (repeat' (first | (exact ih2) | (rw [x28]) | (rw [x27]) | (rw [ue]) | (rw [uo]) | (rw [re]) | (rw [ro]) | (refine Ex_step ?_; conv => whnf) | (refine ⟨?_, trivial⟩) | (refine (show den _ _ _ _ _ _ _ _ from ?_); conv => whnf) | (refine ⟨by (first | assumption | rfl | (exact Nat.le_of_ble_eq_true rfl) | (exact ⟨fun h01 => absurd h01 (by decide), by first | rfl | assumption⟩) | (exact ⟨fun _ => by decide, by first | rfl | assumption⟩) | (exact ⟨by assumption, by omega, by omega⟩) | (unfold inI; omega) | omega), ?_⟩; conv => whnf) | (refine ⟨fun c => False.elim (by omega), fun c => ?_⟩) | (refine ⟨fun c => ?_, fun c => False.elim (by omega)⟩) | (refine ⟨fun c => ?_, fun c => ?_⟩) | (intro c) | fail))
          · rw [show cnF (fun o => f e && (f o && decide (rch A p e fg = rch A p o fg))) o n = n from if_neg (by show ¬ (f e && (f o && decide (rch A p e fg = rch A p o fg))) = true; rw [decide_eq_false b3]; simp)] at he
            have ih2 := ih (o + 1) n (by omega) (by omega) (by omega) (by omega) (by omega) he
            refine Ex_step ?_; conv => whnf
            (repeat' (first | (rw [Int.add_zero]; exact ih2) | (rw [x28]) | (rw [x27]) | (rw [ue]) | (rw [uo]) | (rw [re]) | (rw [ro]) | (refine Ex_step ?_; conv => whnf) | (refine ⟨?_, trivial⟩) | (refine (show den _ _ _ _ _ _ _ _ from ?_); conv => whnf) | (refine ⟨by (first | assumption | rfl | (exact Nat.le_of_ble_eq_true rfl) | (exact ⟨fun h01 => absurd h01 (by decide), by first | rfl | assumption⟩) | (exact ⟨fun _ => by decide, by first | rfl | assumption⟩) | (exact ⟨by assumption, by omega, by omega⟩) | (unfold inI; omega) | omega), ?_⟩; conv => whnf) | (refine ⟨fun c => False.elim (by omega), fun c => ?_⟩) | (refine ⟨fun c => ?_, fun c => False.elim (by omega)⟩) | (refine ⟨fun c => ?_, fun c => ?_⟩) | (intro c) | fail))
        · rw [if_neg b2] at uo
          rw [show cnF (fun o => f e && (f o && decide (rch A p e fg = rch A p o fg))) o n = n from if_neg (by show ¬ (f e && (f o && decide (rch A p e fg = rch A p o fg))) = true; rw [show f o = false by simpa using b2]; simp)] at he
          have ih2 := ih (o + 1) n (by omega) (by omega) (by omega) (by omega) (by omega) he
          refine Ex_step ?_; conv => whnf
          (repeat' (first | (rw [Int.add_zero]; exact ih2) | (rw [x28]) | (rw [x27]) | (rw [ue]) | (rw [uo]) | (refine Ex_step ?_; conv => whnf) | (refine ⟨?_, trivial⟩) | (refine (show den _ _ _ _ _ _ _ _ from ?_); conv => whnf) | (refine ⟨by (first | assumption | rfl | (exact Nat.le_of_ble_eq_true rfl) | (exact ⟨fun h01 => absurd h01 (by decide), by first | rfl | assumption⟩) | (exact ⟨fun _ => by decide, by first | rfl | assumption⟩) | (exact ⟨by assumption, by omega, by omega⟩) | (unfold inI; omega) | omega), ?_⟩; conv => whnf) | (refine ⟨fun c => False.elim (by omega), fun c => ?_⟩) | (refine ⟨fun c => ?_, fun c => False.elim (by omega)⟩) | (refine ⟨fun c => ?_, fun c => ?_⟩) | (intro c) | fail))
      · rw [if_neg b1] at ue
        rw [show cnF (fun o => f e && (f o && decide (rch A p e fg = rch A p o fg))) o n = n from if_neg (by show ¬ (f e && (f o && decide (rch A p e fg = rch A p o fg))) = true; rw [show f e = false by simpa using b1]; simp)] at he
        have ih2 := ih (o + 1) n (by omega) (by omega) (by omega) (by omega) (by omega) he
        refine Ex_step ?_; conv => whnf
        (repeat' (first | (rw [Int.add_zero]; exact ih2) | (rw [x28]) | (rw [x27]) | (rw [ue]) | (refine Ex_step ?_; conv => whnf) | (refine ⟨?_, trivial⟩) | (refine (show den _ _ _ _ _ _ _ _ from ?_); conv => whnf) | (refine ⟨by (first | assumption | rfl | (exact Nat.le_of_ble_eq_true rfl) | (exact ⟨fun h01 => absurd h01 (by decide), by first | rfl | assumption⟩) | (exact ⟨fun _ => by decide, by first | rfl | assumption⟩) | (exact ⟨by assumption, by omega, by omega⟩) | (unfold inI; omega) | omega), ?_⟩; conv => whnf) | (refine ⟨fun c => False.elim (by omega), fun c => ?_⟩) | (refine ⟨fun c => ?_, fun c => False.elim (by omega)⟩) | (refine ⟨fun c => ?_, fun c => ?_⟩) | (intro c) | fail))
  have outer : ∀ (k : Nat) (e s : Int) (w1 w2 : Option MV), (10 - e).toNat = k → 0 ≤ e → e ≤ 10 → mlR f (fun e => rch A p e fg) = foN 10 (mxF (fun e => foN 10 (cnF (fun o => f e && (f o && decide (rch A p e fg = rch A p o fg)))) 0 0)) e s → Ex (WP X XL (d - 1)) KX10_mostAlike h.1 Q 4 [some (vR 127), some (vI fg), some (vI s), some (vI e), w1, w2] [] h := by
    intro k; induction k with
    | zero =>
      intro e s w1 w2 hk h0 h1 he
      rw [foN_end (n := 10) (i := e) (by omega)] at he
      rw [he] at hq
      (repeat' (first | (refine Ex_step ?_; conv => whnf) | (refine ⟨?_, trivial⟩) | (refine (show den _ _ _ _ _ _ _ _ from ?_); conv => whnf) | (refine ⟨by (first | assumption | rfl | (exact Nat.le_of_ble_eq_true rfl) | (exact ⟨fun h01 => absurd h01 (by decide), by first | rfl | assumption⟩) | (exact ⟨fun _ => by decide, by first | rfl | assumption⟩) | (exact ⟨by assumption, by omega, by omega⟩) | (unfold inI; omega) | omega), ?_⟩; conv => whnf) | (refine ⟨fun c => False.elim (by omega), fun c => ?_⟩) | (refine ⟨fun c => ?_, fun c => False.elim (by omega)⟩) | (refine ⟨fun c => ?_, fun c => ?_⟩) | (intro c) | fail))
      exact hq
    | succ k ih =>
      intro e s w1 w2 hk h0 h1 he
      rw [foN_go (n := 10) (i := e) (by omega)] at he
      have i0 := inner s e h0 (by omega) (fun w => by
        have ih2 := fun w1 w2 => ih (e + 1) _ w1 w2 (by omega) (by omega) (by omega) he
        (repeat' (first | (refine ih2 _ _) | (refine Ex_step ?_; conv => whnf) | (refine ⟨?_, trivial⟩) | (refine (show den _ _ _ _ _ _ _ _ from ?_); conv => whnf) | (refine ⟨by (first | assumption | rfl | (exact Nat.le_of_ble_eq_true rfl) | (exact ⟨fun h01 => absurd h01 (by decide), by first | rfl | assumption⟩) | (exact ⟨fun _ => by decide, by first | rfl | assumption⟩) | (exact ⟨by assumption, by omega, by omega⟩) | (unfold inI; omega) | omega), ?_⟩; conv => whnf) | (refine ⟨fun c => False.elim (by omega), fun c => ?_⟩) | (refine ⟨fun c => ?_, fun c => False.elim (by omega)⟩) | (refine ⟨fun c => ?_, fun c => ?_⟩) | (intro c) | fail))) _ 0 0 rfl (by omega) (by omega) (by omega) (by omega) rfl
      refine Ex_step ?_; conv => whnf
      (repeat' (first | (exact i0) | (refine Ex_step ?_; conv => whnf) | (refine ⟨?_, trivial⟩) | (refine (show den _ _ _ _ _ _ _ _ from ?_); conv => whnf) | (refine ⟨by (first | assumption | rfl | (exact Nat.le_of_ble_eq_true rfl) | (exact ⟨fun h01 => absurd h01 (by decide), by first | rfl | assumption⟩) | (exact ⟨fun _ => by decide, by first | rfl | assumption⟩) | (exact ⟨by assumption, by omega, by omega⟩) | (unfold inI; omega) | omega), ?_⟩; conv => whnf) | (refine ⟨fun c => False.elim (by omega), fun c => ?_⟩) | (refine ⟨fun c => ?_, fun c => False.elim (by omega)⟩) | (refine ⟨fun c => ?_, fun c => ?_⟩) | (intro c) | fail))
  have o0 := outer _ 0 0 none none rfl (by omega) (by omega) rfl
  refine eX10_mostAlike (by omega) ?_
  (repeat' (first | (exact o0) | (refine Ex_step ?_; conv => whnf) | (refine ⟨?_, trivial⟩) | (refine (show den _ _ _ _ _ _ _ _ from ?_); conv => whnf) | (refine ⟨by (first | assumption | rfl | (exact Nat.le_of_ble_eq_true rfl) | (exact ⟨fun h01 => absurd h01 (by decide), by first | rfl | assumption⟩) | (exact ⟨fun _ => by decide, by first | rfl | assumption⟩) | (exact ⟨by assumption, by omega, by omega⟩) | (unfold inI; omega) | omega), ?_⟩; conv => whnf) | (refine ⟨fun c => False.elim (by omega), fun c => ?_⟩) | (refine ⟨fun c => ?_, fun c => False.elim (by omega)⟩) | (refine ⟨fun c => ?_, fun c => ?_⟩) | (intro c) | fail))
set_option maxHeartbeats 4000000 in
theorem m_ask {X : Int → Int} {XL : Int} {d : Nat} {h : Mem} {Q : RetP} {S M : Int → Int} {T : Int → Int → Int} {K : Int} {A : Int → Int} {p t n : Int} (hd : 11 ≤ d) (hR : Rr K h A) (hK : K + 100 ≤ 30000000) (hX : RK h) (hT : TR h S M T) (hB : TB S M) (hq : ∀ h', Rr K h' A → FrH h h' → Q (some (vI (o_ask A M T p t n).1)) (sG h' 127 2 (o_ask A M T p t n).2)) : WP X XL d 318 [vR 127, vI p, vI t, vI n] h Q := by
  have kq := hR.1.1
  have hwb := (ws_b (A := A) (M := M) (T := T) (p := p) (t := t) (n := n)).2
  unfold o_ask at hq
  refine eX10_ask (by omega) ?_
  by_cases hz : wsZ A M T p t n = 0
  · obtain ⟨⟨hp, ht, hn⟩, h2, h3, h4⟩ := ws_b.1 hz
    rw [if_pos hz] at hq
    by_cases hc : fitN A T p t n < 2
    · rw [if_pos hc] at hq
      (repeat' (first | (rw [hz]) | (refine r_wrongSeen (by omega) hR hT hB ?_) | (refine r_laysFits (by omega) hR (by omega) hX hT hB hp.1 hp.2 ht hn h3 h4 (fun h1 hR1 f1 q1 p1 => ?_); have kq1 := hR1.1.1; have g1 := f1.1) | (refine r_refuse (by omega) kq1 ?_) | (refine Ex_step ?_; conv => whnf) | (refine ⟨?_, trivial⟩) | (refine (show den _ _ _ _ _ _ _ _ from ?_); conv => whnf) | (refine ⟨by (first | assumption | rfl | (exact Nat.le_of_ble_eq_true rfl) | (exact ⟨fun h01 => absurd h01 (by decide), by first | rfl | assumption⟩) | (exact ⟨fun _ => by decide, by first | rfl | assumption⟩) | (exact ⟨by assumption, by omega, by omega⟩) | (unfold inI; omega) | omega), ?_⟩; conv => whnf) | (refine ⟨fun c => False.elim (by omega), fun c => ?_⟩) | (refine ⟨fun c => ?_, fun c => False.elim (by omega)⟩) | (refine ⟨fun c => ?_, fun c => ?_⟩) | (intro c) | fail))
      exact hq h1 hR1 f1
    · rw [if_neg hc] at hq
      have loop : ∀ (hj : Mem), Rr K hj A → FrH h hj → farP hj A p 60 → fitP hj (fitB A T p t n) 10 → ∀ (k : Nat) (f b : Int), (6 - f).toNat = k → 1 ≤ f → f ≤ 6 → 0 ≤ b → b ≤ 5 → askA (fun fg => mlR (fitB A T p t n) (fun e => rch A p e fg)) = foN 6 (fun f b => if mlR (fitB A T p t n) (fun e => rch A p e f) < mlR (fitB A T p t n) (fun e => rch A p e b) then f else b) f b → Ex (WP X XL (d - 1)) KX10_ask h.1 Q 45 [some (vR 127), some (vI p), some (vI t), some (vI n), some (vI 0), some (vI b), some (vI f)] [] hj := by
        intro hj hRj fj qj pj
        have kqj := hRj.1.1
        have gj := fj.1
        have hXj := hX.eq fj.1 fj.2.1
        intro k; induction k with
        | zero =>
          intro f b hk h0 h1 c0 c1 he
          rw [foN_end (by omega)] at he
          rw [he] at hq
          (repeat' (first | (refine r_gives (by omega) kqj ?_) | (refine Ex_step ?_; conv => whnf) | (refine ⟨?_, trivial⟩) | (refine (show den _ _ _ _ _ _ _ _ from ?_); conv => whnf) | (refine ⟨by (first | assumption | rfl | (exact Nat.le_of_ble_eq_true rfl) | (exact ⟨fun h01 => absurd h01 (by decide), by first | rfl | assumption⟩) | (exact ⟨fun _ => by decide, by first | rfl | assumption⟩) | (exact ⟨by assumption, by omega, by omega⟩) | (unfold inI; omega) | omega), ?_⟩; conv => whnf) | (refine ⟨fun c => False.elim (by omega), fun c => ?_⟩) | (refine ⟨fun c => ?_, fun c => False.elim (by omega)⟩) | (refine ⟨fun c => ?_, fun c => ?_⟩) | (intro c) | fail))
          exact hq hj hRj fj
        | succ k ih =>
          intro f b hk h0 h1 c0 c1 he
          rw [foN_go (by omega)] at he
          by_cases hl : mlR (fitB A T p t n) (fun e => rch A p e f) < mlR (fitB A T p t n) (fun e => rch A p e b)
          · rw [if_pos hl] at he
            have ih2 := ih (f + 1) f (by omega) (by omega) (by omega) (by omega) (by omega) he
            refine Ex_step ?_; conv => whnf
            (repeat' (first | (exact ih2) | (refine r_mostAlike (by omega) kqj hXj (by omega) qj pj ?_) | (refine Ex_step ?_; conv => whnf) | (refine ⟨?_, trivial⟩) | (refine (show den _ _ _ _ _ _ _ _ from ?_); conv => whnf) | (refine ⟨by (first | assumption | rfl | (exact Nat.le_of_ble_eq_true rfl) | (exact ⟨fun h01 => absurd h01 (by decide), by first | rfl | assumption⟩) | (exact ⟨fun _ => by decide, by first | rfl | assumption⟩) | (exact ⟨by assumption, by omega, by omega⟩) | (unfold inI; omega) | omega), ?_⟩; conv => whnf) | (refine ⟨fun c => False.elim (by omega), fun c => ?_⟩) | (refine ⟨fun c => ?_, fun c => False.elim (by omega)⟩) | (refine ⟨fun c => ?_, fun c => ?_⟩) | (intro c) | fail))
          · rw [if_neg hl] at he
            have ih2 := ih (f + 1) b (by omega) (by omega) (by omega) (by omega) (by omega) he
            refine Ex_step ?_; conv => whnf
            (repeat' (first | (exact ih2) | (refine r_mostAlike (by omega) kqj hXj (by omega) qj pj ?_) | (refine Ex_step ?_; conv => whnf) | (refine ⟨?_, trivial⟩) | (refine (show den _ _ _ _ _ _ _ _ from ?_); conv => whnf) | (refine ⟨by (first | assumption | rfl | (exact Nat.le_of_ble_eq_true rfl) | (exact ⟨fun h01 => absurd h01 (by decide), by first | rfl | assumption⟩) | (exact ⟨fun _ => by decide, by first | rfl | assumption⟩) | (exact ⟨by assumption, by omega, by omega⟩) | (unfold inI; omega) | omega), ?_⟩; conv => whnf) | (refine ⟨fun c => False.elim (by omega), fun c => ?_⟩) | (refine ⟨fun c => ?_, fun c => False.elim (by omega)⟩) | (refine ⟨fun c => ?_, fun c => ?_⟩) | (intro c) | fail))
      (repeat' (first | (refine loop h1 hR1 f1 q1 p1 _ 1 0 rfl (by omega) (by omega) (by omega) (by omega) rfl) | (rw [hz]) | (refine r_wrongSeen (by omega) hR hT hB ?_) | (refine r_laysFits (by omega) hR (by omega) hX hT hB hp.1 hp.2 ht hn h3 h4 (fun h1 hR1 f1 q1 p1 => ?_); have kq1 := hR1.1.1; have g1 := f1.1) | (refine Ex_step ?_; conv => whnf) | (refine ⟨?_, trivial⟩) | (refine (show den _ _ _ _ _ _ _ _ from ?_); conv => whnf) | (refine ⟨by (first | assumption | rfl | (exact Nat.le_of_ble_eq_true rfl) | (exact ⟨fun h01 => absurd h01 (by decide), by first | rfl | assumption⟩) | (exact ⟨fun _ => by decide, by first | rfl | assumption⟩) | (exact ⟨by assumption, by omega, by omega⟩) | (unfold inI; omega) | omega), ?_⟩; conv => whnf) | (refine ⟨fun c => False.elim (by omega), fun c => ?_⟩) | (refine ⟨fun c => ?_, fun c => False.elim (by omega)⟩) | (refine ⟨fun c => ?_, fun c => ?_⟩) | (intro c) | fail))
  · rw [if_neg hz] at hq
    (repeat' (first | (refine r_wrongSeen (by omega) hR hT hB ?_) | (refine r_gives (by omega) kq ?_) | (refine r_refuse (by omega) kq ?_) | (refine Ex_step ?_; conv => whnf) | (refine ⟨?_, trivial⟩) | (refine (show den _ _ _ _ _ _ _ _ from ?_); conv => whnf) | (refine ⟨by (first | assumption | rfl | (exact Nat.le_of_ble_eq_true rfl) | (exact ⟨fun h01 => absurd h01 (by decide), by first | rfl | assumption⟩) | (exact ⟨fun _ => by decide, by first | rfl | assumption⟩) | (exact ⟨by assumption, by omega, by omega⟩) | (unfold inI; omega) | omega), ?_⟩; conv => whnf) | (refine ⟨fun c => False.elim (by omega), fun c => ?_⟩) | (refine ⟨fun c => ?_, fun c => False.elim (by omega)⟩) | (refine ⟨fun c => ?_, fun c => ?_⟩) | (intro c) | fail))
    exact hq h hR FrH.refl
