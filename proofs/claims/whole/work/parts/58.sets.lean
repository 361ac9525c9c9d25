/-! LEVEL 2: sets of people and their groups, pure -/
def rs (s p o : Int) : Int := zand (zand s (zxor (shlZ 1 p) (-1))) (zxor (shlZ 1 o) (-1))
def fst6 (s : Int) : Int := stN 6 (fun i => !bt s i) 0
theorem rs_tA : ∀ s, s < 64 → ∀ p, p < 6 → ∀ o, o < 6 → 0 ≤ rs (s : Nat) (p : Nat) (o : Nat) ∧ rs (s : Nat) (p : Nat) (o : Nat) ≤ (s : Nat) := by decide +kernel
theorem rs_tB : ∀ s, s < 64 → ∀ p, p < 6 → ∀ o, o < 6 → (!(bt (s : Nat) (p : Nat)) || decide (rs (s : Nat) (p : Nat) (o : Nat) < (s : Nat))) = true := by decide +kernel
theorem rs_tC : ∀ s, s < 64 → ∀ p, p < 6 → ∀ o, o < 6 → (!(bt (s : Nat) (p : Nat)) || !(bt (s : Nat) (o : Nat)) || decide (popc (s : Nat) = popc (rs (s : Nat) (p : Nat) (o : Nat)) + (if o = p then 1 else 2))) = true := by decide +kernel
theorem rs_tD : ∀ s, s < 64 → ∀ p, p < 6 → ∀ o, o < 6 → ∀ i, i < 6 → bt (rs (s : Nat) (p : Nat) (o : Nat)) (i : Nat) = (bt (s : Nat) (i : Nat) && !(decide (i = p)) && !(decide (i = o))) := by decide +kernel
theorem rs_b {s p o : Int} (h0 : 0 ≤ s) (h1 : s < 64) (p0 : 0 ≤ p) (p1 : p < 6) (o0 : 0 ≤ o) (o1 : o < 6) : (0 ≤ rs s p o ∧ rs s p o ≤ s) ∧ (bt s p = true → rs s p o < s) ∧ (bt s p = true → bt s o = true → popc s = popc (rs s p o) + (if o = p then 1 else 2)) ∧ ∀ i, 0 ≤ i → i < 6 → bt (rs s p o) i = (bt s i && !(decide (i = p)) && !(decide (i = o))) := by
  obtain ⟨s, rfl⟩ := Int.eq_ofNat_of_zero_le h0
  obtain ⟨p, rfl⟩ := Int.eq_ofNat_of_zero_le p0
  obtain ⟨o, rfl⟩ := Int.eq_ofNat_of_zero_le o0
  have t1 := rs_tA s (by omega) p (by omega) o (by omega)
  have t2 := rs_tB s (by omega) p (by omega) o (by omega)
  have t3 := rs_tC s (by omega) p (by omega) o (by omega)
  have t4 := rs_tD s (by omega) p (by omega) o (by omega)
  refine ⟨t1, fun a => ?_, fun a b => ?_, fun i i0 i1 => ?_⟩
  · rw [a] at t2
    exact of_decide_eq_true (by simpa using t2)
  · rw [a, b] at t3
    have t5 : popc (s : Nat) = popc (rs (s : Nat) (p : Nat) (o : Nat)) + (if o = p then 1 else 2) := of_decide_eq_true (by simpa using t3)
    rw [t5]
    by_cases e : o = p
    · rw [if_pos e, if_pos (by omega)]
    · rw [if_neg e, if_neg (by omega)]
  · obtain ⟨i, rfl⟩ := Int.eq_ofNat_of_zero_le i0
    rw [t4 i (by omega)]
    rw [show decide ((i : Int) = p) = decide (i = p) from decide_eq_decide.mpr (by omega), show decide ((i : Int) = o) = decide (i = o) from decide_eq_decide.mpr (by omega)]
theorem rs2_tab : ∀ s, s < 64 → ∀ p, p < 6 → rs (s : Nat) (p : Nat) (p : Nat) = zand (s : Nat) (zxor (shlZ 1 (p : Nat)) (-1)) ∧ ∀ o, o < 6 → zand (s : Nat) (zxor (zor (shlZ 1 (p : Nat)) (shlZ 1 (o : Nat))) (-1)) = rs (s : Nat) (p : Nat) (o : Nat) := by decide +kernel
theorem rs2 {s p o : Int} (h0 : 0 ≤ s) (h1 : s < 64) (p0 : 0 ≤ p) (p1 : p < 6) (o0 : 0 ≤ o) (o1 : o < 6) : rs s p p = zand s (zxor (shlZ 1 p) (-1)) ∧ zand s (zxor (zor (shlZ 1 p) (shlZ 1 o)) (-1)) = rs s p o := by
  obtain ⟨s, rfl⟩ := Int.eq_ofNat_of_zero_le h0
  obtain ⟨p, rfl⟩ := Int.eq_ofNat_of_zero_le p0
  obtain ⟨o, rfl⟩ := Int.eq_ofNat_of_zero_le o0
  have := rs2_tab s (by omega) p (by omega)
  exact ⟨this.1, this.2 o (by omega)⟩
theorem fst_tab : ∀ s : Nat, s < 64 → ¬ s = 0 → 0 ≤ fst6 (s : Nat) ∧ fst6 (s : Nat) < 6 ∧ bt (s : Nat) (fst6 (s : Nat)) = true ∧ ∀ j : Nat, j < 6 → ((j : Nat) : Int) < fst6 (s : Nat) → bt (s : Nat) (j : Nat) = false := by decide +kernel
theorem fst_b {s : Int} (h0 : 0 < s) (h1 : s < 64) : 0 ≤ fst6 s ∧ fst6 s < 6 ∧ bt s (fst6 s) = true ∧ ∀ j, 0 ≤ j → j < fst6 s → bt s j = false := by
  obtain ⟨s, rfl⟩ := Int.eq_ofNat_of_zero_le (show 0 ≤ s by omega)
  obtain ⟨t1, t2, t3, t4⟩ := fst_tab s (by omega) (by omega)
  refine ⟨t1, t2, t3, fun j j0 j1 => ?_⟩
  obtain ⟨j, rfl⟩ := Int.eq_ofNat_of_zero_le j0
  exact t4 j (by omega) j1
theorem fst_u {s p : Int} (h0 : 0 < s) (h1 : s < 64) (p0 : 0 ≤ p) (p1 : p < 6) (hb : bt s p = true) (hl : ∀ j, 0 ≤ j → j < p → bt s j = false) : fst6 s = p := by
  obtain ⟨t1, t2, t3, t4⟩ := fst_b h0 h1
  rcases Int.lt_trichotomy (fst6 s) p with h | h | h
  · rw [hl _ t1 h] at t3; cases t3
  · exact h
  · rw [t4 p p0 h] at hb; cases hb
theorem ext_tab : ∀ s, s < 64 → ∀ t, t < 64 → (∀ i, i < 6 → bt (s : Nat) (i : Nat) = bt (t : Nat) (i : Nat)) → s = t := by decide +kernel
theorem ext6 {s t : Int} (h0 : 0 ≤ s) (h1 : s < 64) (h2 : 0 ≤ t) (h3 : t < 64) (h : ∀ i, 0 ≤ i → i < 6 → bt s i = bt t i) : s = t := by
  obtain ⟨s, rfl⟩ := Int.eq_ofNat_of_zero_le h0
  obtain ⟨t, rfl⟩ := Int.eq_ofNat_of_zero_le h2
  have := ext_tab s (by omega) t (by omega) (fun i hi => h i (by omega) (by omega))
  omega
theorem pos_bt {s p : Int} (h0 : 0 ≤ s) (hb : bt s p = true) : 0 < s := by
  by_cases e : s = 0
  · subst e; rw [bt0] at hb; cases hb
  · omega
theorem lt_tab : ∀ n, n ≤ 6 → ∀ s, s < 64 → (∀ i, i < 6 → n ≤ i → bt (s : Nat) (i : Nat) = false) → s < 2 ^ n := by decide +kernel
theorem lt_bt {s n : Int} (hn0 : 0 ≤ n) (hn1 : n ≤ 6) (h0 : 0 ≤ s) (h1 : s < 64) (h : ∀ i, n ≤ i → i < 6 → bt s i = false) : s < shlZ 1 n := by
  obtain ⟨n, rfl⟩ := Int.eq_ofNat_of_zero_le hn0
  obtain ⟨s, rfl⟩ := Int.eq_ofNat_of_zero_le h0
  have h6 := sh6_tab n (by omega)
  have := lt_tab n (by omega) s (by omega) (fun i hi h2 => h i (by omega) (by omega))
  rw [h6.1]
  omega
theorem fst_n {s n : Int} (hn0 : 0 ≤ n) (hn1 : n ≤ 6) (h0 : 0 < s) (h1 : s < shlZ 1 n) : 0 ≤ fst6 s ∧ fst6 s < n ∧ s < 64 := by
  have h6 := sh6 hn0 hn1
  obtain ⟨t1, t2, t3, t4⟩ := fst_b h0 (by omega)
  refine ⟨t1, ?_, by omega⟩
  by_cases e : n ≤ fst6 s
  · rw [bt_hi hn0 hn1 (by omega) h1 e t2] at t3; cases t3
  · omega
-- how few groups, how many people, how cheap
def fwF (w : Int → Int → Bool) (F : Int → Int) (s : Int) : Int → Int → Int := fun o acc => if bt s o = true ∧ w (fst6 s) o = true then min acc (F (rs s (fst6 s) o) + 1) else acc
def isF (n : Int) (w : Int → Int → Bool) (F : Int → Int) : Prop := F 0 = 0 ∧ ∀ s, 0 < s → s < shlZ 1 n → F s = foN n (fwF w F s) (fst6 s) 1000000
def maF (w : Int → Int → Bool) (M : Int → Int) (s : Int) : Int → Int → Int := fun o acc => if bt s o = true ∧ w (fst6 s) o = true then max acc (M (rs s (fst6 s) o) + (if o = fst6 s then 1 else 2)) else acc
def isM (n : Int) (w : Int → Int → Bool) (M : Int → Int) : Prop := M 0 = 0 ∧ ∀ s, 0 < s → s < shlZ 1 n → M s = foN n (maF w M s) (fst6 s) (M (rs s (fst6 s) (fst6 s)))
def prC (w : Int → Int → Bool) (tl : Int) (C : Int → Int) (s p i : Int) : Int := if bt s i = true ∧ w p i = true ∧ ¬ C (rs s p i) = -1 then C (rs s p i) + tl else -1
def chF (w : Int → Int → Bool) (tl : Int) (C : Int → Int) (s : Int) : Int → Int → Int := fun i l => if ¬ prC w tl C s (fst6 s) i = -1 ∧ (l = -1 ∨ prC w tl C s (fst6 s) i < l) then prC w tl C s (fst6 s) i else l
def isC (n : Int) (w : Int → Int → Bool) (tl : Int) (C : Int → Int) : Prop := C 0 = 0 ∧ ∀ s, 0 < s → s < shlZ 1 n → C s = foN n (chF w tl C s) (fst6 s) (-1)
def Rl (tl s f c : Int) : Prop := (f = 1000000 ∧ c = -1) ∨ ((0 ≤ f ∧ f ≤ s) ∧ c = tl * f)
theorem mulP {a b : Int} (h0 : 0 ≤ a) (h1 : 0 ≤ b) : 0 ≤ a * b := Int.mul_nonneg h0 h1
theorem fc_step {w : Int → Int → Bool} {tl : Int} {F C : Int → Int} {s i f c : Int} (ht : 0 ≤ tl) (hs : s < 64) (hf : Rl tl s f c) (hr : bt s i = true → w (fst6 s) i = true → rs s (fst6 s) i < s ∧ Rl tl (rs s (fst6 s) i) (F (rs s (fst6 s) i)) (C (rs s (fst6 s) i))) : Rl tl s (fwF w F s i f) (chF w tl C s i c) := by
  unfold fwF chF
  by_cases hb : bt s i = true ∧ w (fst6 s) i = true
  · rw [if_pos hb]
    obtain ⟨h1, h2⟩ := hr hb.1 hb.2
    generalize hX : rs s (fst6 s) i = x at *
    rcases h2 with ⟨g1, g2⟩ | ⟨g1, g2⟩
    · have hp : prC w tl C s (fst6 s) i = -1 := by unfold prC; rw [hX, if_neg (fun q => q.2.2 g2)]
      rw [hp, if_neg (fun q => q.1 rfl), g1]
      rcases hf with ⟨k1, k2⟩ | ⟨k1, k2⟩
      · exact Or.inl ⟨by omega, k2⟩
      · exact Or.inr ⟨by omega, by rw [show min f (1000000 + 1) = f by omega]; exact k2⟩
    · have hm := mulP ht g1.1
      have hp : prC w tl C s (fst6 s) i = tl * (F x + 1) := by
        unfold prC
        rw [hX, if_pos ⟨hb.1, hb.2, by omega⟩, g2, Int.mul_add, Int.mul_one]
      have hm1 := mulP ht (show 0 ≤ F x + 1 by omega)
      rw [hp]
      generalize hY : F x + 1 = y at *
      rcases hf with ⟨k1, k2⟩ | ⟨k1, k2⟩
      · rw [if_pos ⟨by omega, Or.inl k2⟩, show min f y = y by omega]
        exact Or.inr ⟨by omega, rfl⟩
      · have hmf := mulP ht k1.1
        by_cases hl : tl * y < c
        · rw [if_pos ⟨by omega, Or.inr hl⟩]
          have : y < f := by
            by_cases e : y < f
            · exact e
            · have := Int.mul_le_mul_of_nonneg_left (show f ≤ y by omega) ht
              omega
          rw [show min f y = y by omega]
          exact Or.inr ⟨by omega, rfl⟩
        · rw [if_neg (fun q => by rcases q.2 with q | q <;> omega)]
          by_cases e : y < f
          · have := Int.mul_le_mul_of_nonneg_left (show y ≤ f by omega) ht
            rw [show min f y = y by omega]
            exact Or.inr ⟨by omega, by omega⟩
          · rw [show min f y = f by omega]
            exact Or.inr ⟨k1, k2⟩
  · rw [if_neg hb]
    have hp : prC w tl C s (fst6 s) i = -1 := by unfold prC; rw [if_neg (fun q => hb ⟨q.1, q.2.1⟩)]
    rw [hp, if_neg (fun q => q.1 rfl)]
    exact hf
theorem fc_all {n tl : Int} {w : Int → Int → Bool} {F C : Int → Int} (hn0 : 0 ≤ n) (hn1 : n ≤ 6) (ht : 0 ≤ tl) (hF : isF n w F) (hC : isC n w tl C) : ∀ (m : Nat) (s : Int), s.toNat < m → 0 ≤ s → s < shlZ 1 n → Rl tl s (F s) (C s) := by
  intro m; induction m with
  | zero => intro s h; omega
  | succ m ih =>
    intro s hm h0 h1
    by_cases e : s = 0
    · subst e
      rw [hF.1, hC.1]
      exact Or.inr ⟨by omega, by omega⟩
    · obtain ⟨p0, p1, h64⟩ := fst_n hn0 hn1 (by omega) h1
      obtain ⟨q0, q1, q2, q3⟩ := fst_b (s := s) (by omega) h64
      rw [hF.2 s (by omega) h1, hC.2 s (by omega) h1]
      have loop : ∀ (k : Nat) (i f c : Int), (n - i).toNat = k → fst6 s ≤ i → Rl tl s f c → Rl tl s (foN n (fwF w F s) i f) (foN n (chF w tl C s) i c) := by
        intro k; induction k with
        | zero => intro i f c hk hi hr; rw [foN_end (f := fwF w F s) (by omega), foN_end (f := chF w tl C s) (by omega)]; exact hr
        | succ k ihk =>
          intro i f c hk hi hr
          rw [foN_go (f := fwF w F s) (by omega), foN_go (f := chF w tl C s) (by omega)]
          refine ihk (i + 1) _ _ (by omega) (by omega) (fc_step ht h64 hr (fun b1 b2 => ?_))
          obtain ⟨r1, r2, -, -⟩ := rs_b h0 h64 p0 (by omega) (show 0 ≤ i by omega) (by omega)
          have := r2 q2
          exact ⟨this, ih _ (by omega) r1.1 (by omega)⟩
      exact loop _ _ _ _ rfl (by omega) (Or.inl ⟨rfl, rfl⟩)
theorem ch_ex {n tl : Int} {w : Int → Int → Bool} {C : Int → Int} {s : Int} : ∀ (k : Nat) (i l : Int), (n - i).toNat = k → ¬ foN n (chF w tl C s) i l = -1 → foN n (chF w tl C s) i l = l ∨ ∃ x, i ≤ x ∧ x < n ∧ ¬ prC w tl C s (fst6 s) x = -1 ∧ prC w tl C s (fst6 s) x = foN n (chF w tl C s) i l := by
  intro k; induction k with
  | zero => intro i l hk h; rw [foN_end (by omega)]; exact Or.inl rfl
  | succ k ih =>
    intro i l hk h
    rw [foN_go (by omega)] at h ⊢
    rcases ih (i + 1) _ (by omega) h with e | ⟨x, x0, x1, x2, x3⟩
    · by_cases hc : ¬ prC w tl C s (fst6 s) i = -1 ∧ (l = -1 ∨ prC w tl C s (fst6 s) i < l)
      · rw [show chF w tl C s i l = prC w tl C s (fst6 s) i from if_pos hc] at e ⊢
        exact Or.inr ⟨i, by omega, by omega, hc.1, e.symm⟩
      · rw [show chF w tl C s i l = l from if_neg hc] at e ⊢
        exact Or.inl e
    · exact Or.inr ⟨x, by omega, x1, x2, x3⟩
/-- whoever can be over has one to go with -/
theorem mate_ex {n tl : Int} {w : Int → Int → Bool} {C : Int → Int} (hC : isC n w tl C) {s : Int} (h0 : 0 < s) (h1 : s < shlZ 1 n) (hc : ¬ C s = -1) : ∃ x, fst6 s ≤ x ∧ x < n ∧ ¬ prC w tl C s (fst6 s) x = -1 ∧ prC w tl C s (fst6 s) x = C s := by
  have e := hC.2 s h0 h1
  rcases ch_ex (n := n) (w := w) (tl := tl) (C := C) (s := s) _ (fst6 s) (-1) rfl (by rw [← e]; exact hc) with h | ⟨x, x0, x1, x2, x3⟩
  · exact absurd (e.trans h) hc
  · exact ⟨x, x0, x1, x2, x3.trans e.symm⟩
theorem ch_mono {n tl : Int} {w : Int → Int → Bool} {C : Int → Int} {s : Int} : ∀ (k : Nat) (i l : Int), (n - i).toNat = k → (¬ l = -1 → ¬ foN n (chF w tl C s) i l = -1) ∧ ∀ x, i ≤ x → x < n → ¬ prC w tl C s (fst6 s) x = -1 → ¬ foN n (chF w tl C s) i l = -1 := by
  intro k; induction k with
  | zero => intro i l hk; rw [foN_end (by omega)]; exact ⟨fun h => h, fun x x0 x1 => by omega⟩
  | succ k ih =>
    intro i l hk
    rw [foN_go (by omega)]
    obtain ⟨u1, u2⟩ := ih (i + 1) (chF w tl C s i l) (by omega)
    refine ⟨fun h => u1 ?_, fun x x0 x1 h => ?_⟩
    · unfold chF; split
      · rename_i q; exact q.1
      · exact h
    · by_cases e : x = i
      · subst e
        refine u1 ?_
        unfold chF
        by_cases hc : l = -1 ∨ prC w tl C s (fst6 s) x < l
        · rw [if_pos ⟨h, hc⟩]; exact h
        · rw [if_neg (fun q => hc q.2)]; omega
      · exact u2 x (by omega) x1 h
theorem ma_ge {n : Int} {w : Int → Int → Bool} {M : Int → Int} {s : Int} : ∀ (k : Nat) (i a : Int), (n - i).toNat = k → a ≤ foN n (maF w M s) i a ∧ ∀ x, i ≤ x → x < n → bt s x = true → w (fst6 s) x = true → M (rs s (fst6 s) x) + (if x = fst6 s then 1 else 2) ≤ foN n (maF w M s) i a := by
  intro k; induction k with
  | zero => intro i a hk; rw [foN_end (by omega)]; exact ⟨by omega, fun x x0 x1 => by omega⟩
  | succ k ih =>
    intro i a hk
    rw [foN_go (by omega)]
    obtain ⟨u1, u2⟩ := ih (i + 1) (maF w M s i a) (by omega)
    refine ⟨Int.le_trans ?_ u1, fun x x0 x1 b1 b2 => ?_⟩
    · unfold maF; split <;> omega
    · by_cases e : x = i
      · subst e
        refine Int.le_trans ?_ u1
        rw [show maF w M s x a = max a (M (rs s (fst6 s) x) + (if x = fst6 s then 1 else 2)) from if_pos ⟨b1, b2⟩]
        exact Int.le_max_right _ _
      · exact u2 x (by omega) x1 b1 b2
theorem ma_ex {n : Int} {w : Int → Int → Bool} {M : Int → Int} {s : Int} : ∀ (k : Nat) (i a : Int), (n - i).toNat = k → foN n (maF w M s) i a = a ∨ ∃ x, i ≤ x ∧ x < n ∧ bt s x = true ∧ w (fst6 s) x = true ∧ foN n (maF w M s) i a = M (rs s (fst6 s) x) + (if x = fst6 s then 1 else 2) := by
  intro k; induction k with
  | zero => intro i a hk; rw [foN_end (by omega)]; exact Or.inl rfl
  | succ k ih =>
    intro i a hk
    rw [foN_go (by omega)]
    rcases ih (i + 1) (maF w M s i a) (by omega) with e | ⟨x, x0, x1, x2, x3, x4⟩
    · by_cases hc : bt s i = true ∧ w (fst6 s) i = true
      · rw [show maF w M s i a = max a (M (rs s (fst6 s) i) + (if i = fst6 s then 1 else 2)) from if_pos hc] at e ⊢
        by_cases hm : M (rs s (fst6 s) i) + (if i = fst6 s then 1 else 2) ≤ a
        · rw [e]; exact Or.inl (by omega)
        · exact Or.inr ⟨i, by omega, by omega, hc.1, hc.2, by omega⟩
      · rw [show maF w M s i a = a from if_neg hc] at e ⊢
        exact Or.inl e
    · exact Or.inr ⟨x, by omega, x1, x2, x3, x4⟩
def sub6 (t s : Int) : Prop := ∀ i, 0 ≤ i → i < 6 → bt t i = true → bt s i = true
theorem rs_f {s p o i : Int} (h0 : 0 ≤ s) (h1 : s < 64) (p0 : 0 ≤ p) (p1 : p < 6) (o0 : 0 ≤ o) (o1 : o < 6) (i0 : 0 ≤ i) (i1 : i < 6) : bt (rs s p o) i = true ↔ bt s i = true ∧ ¬ i = p ∧ ¬ i = o := by
  rw [(rs_b h0 h1 p0 p1 o0 o1).2.2.2 i i0 i1]
  simp [and_assoc]
theorem most_ge {n tl : Int} {w : Int → Int → Bool} {M C : Int → Int} (hn0 : 0 ≤ n) (hn1 : n ≤ 6) (hM : isM n w M) (hC : isC n w tl C) : ∀ (m : Nat) (s t : Int), s.toNat < m → 0 ≤ s → s < shlZ 1 n → 0 ≤ t → t < 64 → sub6 t s → ¬ C t = -1 → popc t ≤ M s := by
  have h6 := sh6 hn0 hn1
  intro m; induction m with
  | zero => intro s t h; omega
  | succ m ih =>
    intro s t hm h0 h1 t0 t1 hst hc
    by_cases e : s = 0
    · subst e
      have : t = 0 := ext6 t0 t1 (by omega) (by omega) (fun i i0 i1 => by
        rw [bt0]
        cases hb : bt t i
        · rfl
        · have := hst i i0 i1 hb; rw [bt0] at this; exact this.symm)
      subst this
      rw [hM.1]
      decide
    · obtain ⟨p0, p1, h64⟩ := fst_n hn0 hn1 (by omega) h1
      obtain ⟨q0, q1, q2, q3⟩ := fst_b (s := s) (by omega) h64
      obtain ⟨u1, u2⟩ := ma_ge (n := n) (w := w) (M := M) (s := s) _ (fst6 s) (M (rs s (fst6 s) (fst6 s))) rfl
      rw [← hM.2 s (by omega) h1] at u1 u2
      obtain ⟨r1, r2, -, -⟩ := rs_b h0 h64 p0 (by omega) p0 (by omega)
      have r2 := r2 q2
      cases hb : bt t (fst6 s)
      · refine Int.le_trans (ih _ t (by omega) r1.1 (by omega) t0 t1 (fun i i0 i1 hi => ?_) hc) u1
        rw [rs_f h0 h64 p0 (by omega) p0 (by omega) i0 i1]
        have ne : ¬ i = fst6 s := by
          intro e
          rw [e, hb] at hi; cases hi
        exact ⟨hst i i0 i1 hi, ne, ne⟩
      · have tp := pos_bt t0 hb
        have hft : fst6 t = fst6 s := fst_u tp t1 p0 (by omega) hb (fun j j0 j1 => by
          cases hj : bt t j
          · rfl
          · have := hst j j0 (by omega) hj
            rw [q3 j j0 j1] at this; cases this)
        have tn : t < shlZ 1 n := lt_bt hn0 hn1 t0 t1 (fun i i0 i1 => by
          cases hj : bt t i
          · rfl
          · have := hst i (by omega) i1 hj
            rw [bt_hi hn0 hn1 h0 h1 i0 i1] at this; cases this)
        obtain ⟨x, x0, x1, x2, x3⟩ := mate_ex hC tp tn hc
        rw [hft] at x0 x2 x3
        have hx : bt t x = true ∧ w (fst6 s) x = true ∧ ¬ C (rs t (fst6 s) x) = -1 := by
          by_cases q : bt t x = true ∧ w (fst6 s) x = true ∧ ¬ C (rs t (fst6 s) x) = -1
          · exact q
          · exact absurd (if_neg q) x2
        obtain ⟨a1, a2, a3, a4⟩ := rs_b t0 t1 p0 (show fst6 s < 6 by omega) (show 0 ≤ x by omega) (show x < 6 by omega)
        obtain ⟨b1, b2, -, -⟩ := rs_b h0 h64 p0 (show fst6 s < 6 by omega) (show 0 ≤ x by omega) (show x < 6 by omega)
        have b2 := b2 q2
        have hi := ih (rs s (fst6 s) x) (rs t (fst6 s) x) (by omega) b1.1 (by omega) a1.1 (by omega) (fun i i0 i1 hi => by
          rw [rs_f t0 t1 p0 (by omega) (by omega) (by omega) i0 i1] at hi
          rw [rs_f h0 h64 p0 (by omega) (by omega) (by omega) i0 i1]
          exact ⟨hst i i0 i1 hi.1, hi.2⟩) hx.2.2
        have := u2 x x0 x1 (hst x (by omega) (by omega) hx.1) hx.2.1
        rw [a3 hb hx.1]
        omega
theorem most_ex {n tl : Int} {w : Int → Int → Bool} {M C : Int → Int} (hn0 : 0 ≤ n) (hn1 : n ≤ 6) (ht : 0 ≤ tl) (hCb : ∀ s, 0 ≤ s → s < shlZ 1 n → -1 ≤ C s) (hM : isM n w M) (hC : isC n w tl C) : ∀ (m : Nat) (s : Int), s.toNat < m → 0 ≤ s → s < shlZ 1 n → ∃ t, (0 ≤ t ∧ t < shlZ 1 n) ∧ sub6 t s ∧ ¬ C t = -1 ∧ popc t = M s := by
  have h6 := sh6 hn0 hn1
  intro m; induction m with
  | zero => intro s h; omega
  | succ m ih =>
    intro s hm h0 h1
    by_cases e : s = 0
    · subst e
      refine ⟨0, by omega, fun i _ _ h => h, by rw [hC.1]; omega, by rw [hM.1]; decide⟩
    · obtain ⟨p0, p1, h64⟩ := fst_n hn0 hn1 (by omega) h1
      obtain ⟨q0, q1, q2, q3⟩ := fst_b (s := s) (by omega) h64
      have eM := hM.2 s (by omega) h1
      rcases ma_ex (n := n) (w := w) (M := M) (s := s) _ (fst6 s) (M (rs s (fst6 s) (fst6 s))) rfl with hq | ⟨x, x0, x1, x2, x3, x4⟩
      · obtain ⟨r1, r2, -, -⟩ := rs_b h0 h64 p0 (show fst6 s < 6 by omega) p0 (by omega)
        have r2 := r2 q2
        obtain ⟨t, t1, t2, t3, t4⟩ := ih _ (by omega) r1.1 (by omega)
        refine ⟨t, t1, fun i i0 i1 hi => ?_, t3, by rw [t4, eM, hq]⟩
        have := t2 i i0 i1 hi
        rw [rs_f h0 h64 p0 (by omega) p0 (by omega) i0 i1] at this
        exact this.1
      · obtain ⟨b1, b2, -, -⟩ := rs_b h0 h64 p0 (show fst6 s < 6 by omega) (show 0 ≤ x by omega) (show x < 6 by omega)
        have b2 := b2 q2
        obtain ⟨t, t1, t2, t3, t4⟩ := ih _ (by omega) b1.1 (by omega)
        have c1 := s6_b t1.1 (by omega) p0 (show fst6 s < 6 by omega)
        have c2 := s6_b c1.1 c1.2 (show 0 ≤ x by omega) (show x < 6 by omega)
        have cb : ∀ i, 0 ≤ i → i < 6 → bt (zor (zor t (shlZ 1 (fst6 s))) (shlZ 1 x)) i = (bt t i || decide (i = fst6 s) || decide (i = x)) := fun i i0 i1 => by
          rw [s6_bt c1.1 c1.2 (by omega) (by omega) i0 i1, s6_bt t1.1 (by omega) p0 (by omega) i0 i1]
        generalize zor (zor t (shlZ 1 (fst6 s))) (shlZ 1 x) = u at *
        have nt : ∀ i, 0 ≤ i → i < 6 → bt t i = true → bt s i = true ∧ ¬ i = fst6 s ∧ ¬ i = x := fun i i0 i1 hi => (rs_f h0 h64 p0 (by omega) (by omega) (by omega) i0 i1).mp (t2 i i0 i1 hi)
        have us : sub6 u s := fun i i0 i1 hi => by
          rw [cb i i0 i1, Bool.or_eq_true, Bool.or_eq_true, decide_eq_true_eq, decide_eq_true_eq] at hi
          rcases hi with (hi | hi) | hi
          · exact (nt i i0 i1 hi).1
          · rw [hi]; exact q2
          · rw [hi]; exact x2
        have up : bt u (fst6 s) = true := by rw [cb _ p0 (by omega)]; simp
        have ux : bt u x = true := by rw [cb _ (by omega) (by omega)]; simp
        have upos := pos_bt c2.1 up
        have hfu : fst6 u = fst6 s := fst_u upos c2.2 p0 (by omega) up (fun j j0 j1 => by
          cases hj : bt u j
          · rfl
          · have := us j j0 (by omega) hj
            rw [q3 j j0 j1] at this; cases this)
        have un : u < shlZ 1 n := lt_bt hn0 hn1 c2.1 c2.2 (fun i i0 i1 => by
          cases hj : bt u i
          · rfl
          · have := us i (by omega) i1 hj
            rw [bt_hi hn0 hn1 h0 h1 i0 i1] at this; cases this)
        obtain ⟨a1, a2, a3, a4⟩ := rs_b c2.1 c2.2 p0 (show fst6 s < 6 by omega) (show 0 ≤ x by omega) (show x < 6 by omega)
        have hr : rs u (fst6 s) x = t := ext6 a1.1 (by omega) t1.1 (by omega) (fun i i0 i1 => by
          rw [a4 i i0 i1, cb i i0 i1]
          cases hi : bt t i
          · by_cases e1 : i = fst6 s
            · simp [e1]
            · by_cases e2 : i = x
              · simp [e2]
              · simp [e1, e2]
          · have := nt i i0 i1 hi
            simp [this.2.1, this.2.2])
        have hcb := hCb t t1.1 t1.2
        have pr : ¬ prC w tl C u (fst6 u) x = -1 := by
          unfold prC
          rw [hfu, hr, if_pos ⟨ux, x3, t3⟩]
          omega
        refine ⟨u, ⟨c2.1, un⟩, us, ?_, ?_⟩
        · rw [hC.2 u upos un]
          exact (ch_mono _ (fst6 u) (-1) rfl).2 x (by rw [hfu]; exact x0) x1 pr
        · rw [eM, x4, a3 up ux, hr, t4]
def moF (C : Int → Int) : Int → Int → Int := fun s m => if C s = -1 then m else max m (popc s)
theorem mo_b {n : Int} {C : Int → Int} : ∀ (k : Nat) (i m : Int), (n - i).toNat = k → m ≤ foN n (moF C) i m ∧ (∀ x, i ≤ x → x < n → ¬ C x = -1 → popc x ≤ foN n (moF C) i m) ∧ (foN n (moF C) i m = m ∨ ∃ x, i ≤ x ∧ x < n ∧ ¬ C x = -1 ∧ foN n (moF C) i m = popc x) := by
  intro k; induction k with
  | zero => intro i m hk; rw [foN_end (by omega)]; exact ⟨by omega, fun x x0 x1 => by omega, Or.inl rfl⟩
  | succ k ih =>
    intro i m hk
    rw [foN_go (by omega)]
    obtain ⟨u1, u2, u3⟩ := ih (i + 1) (moF C i m) (by omega)
    by_cases hc : C i = -1
    · rw [show moF C i m = m from if_pos hc] at *
      refine ⟨u1, fun x x0 x1 h => ?_, ?_⟩
      · by_cases e : x = i
        · subst e; exact absurd hc h
        · exact u2 x (by omega) x1 h
      · rcases u3 with h | ⟨x, x0, x1, x2, x3⟩
        · exact Or.inl h
        · exact Or.inr ⟨x, by omega, x1, x2, x3⟩
    · rw [show moF C i m = max m (popc i) from if_neg hc] at *
      have a1 := Int.le_trans (Int.le_max_left m (popc i)) u1
      have a2 := Int.le_trans (Int.le_max_right m (popc i)) u1
      refine ⟨a1, fun x x0 x1 h => ?_, ?_⟩
      · by_cases e : x = i
        · subst e; exact a2
        · exact u2 x (by omega) x1 h
      · rcases u3 with h | ⟨x, x0, x1, x2, x3⟩
        · by_cases hm : popc i ≤ m
          · exact Or.inl (by omega)
          · exact Or.inr ⟨i, by omega, by omega, hc, by omega⟩
        · exact Or.inr ⟨x, by omega, x1, x2, x3⟩
theorem most_eq {n tl : Int} {w : Int → Int → Bool} {M C : Int → Int} (hn0 : 0 ≤ n) (hn1 : n ≤ 6) (ht : 0 ≤ tl) (hCb : ∀ s, 0 ≤ s → s < shlZ 1 n → -1 ≤ C s) (hM : isM n w M) (hC : isC n w tl C) : foN (shlZ 1 n) (moF C) 1 0 = M (shlZ 1 n - 1) := by
  have h6 := sh6 hn0 hn1
  obtain ⟨u1, u2, u3⟩ := mo_b (n := shlZ 1 n) (C := C) _ 1 0 rfl
  have full : ∀ t, 0 ≤ t → t < shlZ 1 n → sub6 t (shlZ 1 n - 1) := by
    intro t t0 t1 i i0 i1 hi
    have hin : i < n := by
      by_cases e : i < n
      · exact e
      · rw [bt_hi hn0 hn1 t0 t1 (by omega) i1] at hi; cases hi
    have tab : ∀ n, n ≤ 6 → ∀ i, i < n → bt (shlZ 1 (n : Nat) - 1) (i : Nat) = true := by decide +kernel
    obtain ⟨n, rfl⟩ := Int.eq_ofNat_of_zero_le hn0
    obtain ⟨i, rfl⟩ := Int.eq_ofNat_of_zero_le i0
    exact tab n (by omega) i (by omega)
  refine Int.le_antisymm ?_ ?_
  · rcases u3 with h | ⟨x, x0, x1, x2, x3⟩
    · rw [h]
      have := most_ge hn0 hn1 hM hC _ (shlZ 1 n - 1) 0 (Nat.lt_succ_self _) (by omega) (by omega) (by omega) (by omega) (full 0 (by omega) (by omega)) (by rw [hC.1]; omega)
      exact Int.le_trans (by decide) this
    · rw [x3]
      exact most_ge hn0 hn1 hM hC _ (shlZ 1 n - 1) x (Nat.lt_succ_self _) (by omega) (by omega) (by omega) (by omega) (full x (by omega) x1) x2
  · obtain ⟨t, t1, t2, t3, t4⟩ := most_ex hn0 hn1 ht hCb hM hC _ (shlZ 1 n - 1) (Nat.lt_succ_self _) (by omega) (by omega)
    rw [← t4]
    by_cases e : t = 0
    · subst e
      exact Int.le_trans (by decide) u1
    · exact u2 t (by omega) t1.2 t3
