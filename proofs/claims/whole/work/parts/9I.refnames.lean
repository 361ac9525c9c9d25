/-! LEVEL 2: texts: names of the class and of the reference -/
theorem b8_tb (n : Nat) : (Int64.ofInt (n : Int)).toBitVec = BitVec.ofNat 64 n := by
  show BitVec.ofInt 64 (n : Int) = _
  exact BitVec.ofInt_natCast 64 n
theorem b8_shl (n : Nat) : Int64.ofInt (n : Int) <<< ((Int32.ofInt 8).toInt64 &&& 63) = Int64.ofInt ((n * 2 ^ 8 : Nat) : Int) := by
  rw [show ((Int32.ofInt 8).toInt64 &&& 63) = (8 : Int64) by decide]
  apply Int64.toBitVec_inj.mp
  rw [Int64.toBitVec_shiftLeft, b8_tb, b8_tb, show ((8 : Int64).toBitVec.smod 64) = BitVec.ofNat 64 8 by decide]
  apply BitVec.eq_of_toNat_eq
  rw [BitVec.shiftLeft_eq', BitVec.toNat_shiftLeft, BitVec.toNat_ofNat, BitVec.toNat_ofNat, BitVec.toNat_ofNat, Nat.mod_eq_of_lt (show 8 < 2 ^ 64 by decide), Nat.shiftLeft_eq, Nat.mul_mod, Nat.mod_mod, ← Nat.mul_mod]
theorem b8_n {a : Nat} (h : a < 18446744073709551616) : (BitVec.ofNat 64 a).toNat = a := by
  rw [BitVec.toNat_ofNat]
  exact Nat.mod_eq_of_lt h
theorem b8_o {n b : Nat} (hb : b < 2 ^ 8) : n * 2 ^ 8 ||| b = n * 2 ^ 8 + b := by rw [← Nat.shiftLeft_eq, Nat.shiftLeft_add_eq_or_of_lt hb]
theorem b8_or {n b : Nat} (hb : b < 2 ^ 8) (h : n * 2 ^ 8 + b < 18446744073709551616) : Int64.ofInt ((n * 2 ^ 8 : Nat) : Int) ||| Int64.ofInt (b : Int) = Int64.ofInt ((n * 2 ^ 8 + b : Nat) : Int) := by
  have h1 := b8_o (n := n) hb
  generalize n * 2 ^ 8 = m at *
  apply Int64.toBitVec_inj.mp
  rw [Int64.toBitVec_or, b8_tb, b8_tb, b8_tb]
  apply BitVec.eq_of_toNat_eq
  rw [BitVec.toNat_or, b8_n (by omega), b8_n (by omega), b8_n h, h1]
theorem b8_e {a b : Int} (h0 : 0 ≤ a) (h1 : a * 512 < 18446744073709551616) (h2 : 0 ≤ b) (h3 : b < 128) : lorZ (lshZ a 8) b = a * 256 + b := by
  obtain ⟨n, rfl⟩ : ∃ n : Nat, a = n := ⟨a.toNat, by omega⟩
  obtain ⟨m, rfl⟩ : ∃ m : Nat, b = m := ⟨b.toNat, by omega⟩
  have e1 : lshZ (n : Int) 8 = ((n * 2 ^ 8 : Nat) : Int) := by
    unfold lshZ
    rw [b8_shl]
    exact i64_to ⟨by omega, by omega⟩
  rw [e1]
  unfold lorZ
  rw [b8_or (by omega) (by omega), i64_to ⟨by omega, by omega⟩]
  omega
theorem p256 : ∀ k : Nat, k < 9 → (256 : Int) ^ k ≤ 18446744073709551616 ∧ (k < 8 → (256 : Int) ^ k ≤ 72057594037927936) := by decide +kernel
theorem c256_b {P : Int → Int} {a : Int} : ∀ k : Nat, (∀ j, a ≤ j → j < a + k → lt P j = true) → 0 ≤ c256 (fs P a k) ∧ c256 (fs P a k) * 2 < 256 ^ k := by
  intro k; induction k with
  | zero => intro _; exact ⟨Int.le_refl _, (by decide : (0 : Int) * 2 < 256 ^ 0)⟩
  | succ k ih =>
    intro hl
    obtain ⟨i2, i3⟩ := ih (fun j h0 h1 => hl j h0 (by omega))
    have hb := lt_t.mp (hl (a + k) (by omega) (by omega))
    have hs : (256 : Int) ^ (k + 1) = 256 ^ k * 256 := Int.pow_succ 256 k
    rw [hs, c256_s]
    generalize (256 : Int) ^ k = Y at *
    omega
theorem tC_25 {P : Int → Int} {n e : Int} (he : e ≤ n) (h : tC P n e = 25) : tF P n e < tE P n e ∧ tE P n e ≤ n ∧ tE P n e - tF P n e ≤ 8 ∧ ∀ j, tF P n e ≤ j → j < tE P n e → lt P j = true := by
  obtain ⟨c, l, hE⟩ := tC_w (by omega : tC P n e ≤ 26)
  have hb := tF_b (P := P) he
  have hb2 := tE_b (P := P) he
  have tl := tC_len (by omega : tC P n e ≤ 26)
  obtain ⟨b1, b2, b3, b4⟩ := sc_b (p := lt P) (n := n) _ (tF P n e) rfl (by omega)
  exact ⟨by omega, by omega, by omega, fun j x y => b3 j x (by omega)⟩
set_option maxHeartbeats 4000000 in
theorem r_nameHere {X : Int → Int} {XL : Int} {d : Nat} {h : Mem} {Q : RetP} {P : Int → Int} {n e : Int} (hd : 2 ≤ d) (hA : Aq h P n e) (h25 : tC P n e = 25) (hq : Q (some (vL (c256 (tW P n e)))) h) : WP X XL d 223 [vR 127] h Q := by
  obtain ⟨hM, he, -, -, e13, e14, -, -⟩ := id hA
  have kq := hM.1.1
  have hn := hM.2.2.1
  have hb := tF_b (P := P) he.2
  obtain ⟨t1, t2, t3, t4⟩ := tC_25 he.2 h25
  unfold tW at hq
  have loop : ∀ (m j : Nat) (k : Int), j + m = (tE P n e - tF P n e).toNat → k = tF P n e + j → Ex (WP X XL (d - 1)) KX10_nameHere h.1 Q 7 [some (vR 127), some (vL (c256 (fs P (tF P n e) j))), none, some (vI k)] [] h := by
    intro m; induction m with
    | zero =>
      intro j k hm hk
      rw [show (tE P n e - tF P n e).toNat = j by omega] at hq
      refine Ex_step ?_; conv => whnf
      (repeat' (first | (exact hq) | (rw [e14]) | (refine Ex_step ?_; conv => whnf) | (refine ⟨?_, trivial⟩) | (refine (show den _ _ _ _ _ _ _ _ from ?_); conv => whnf) | (refine ⟨fun c => False.elim (by omega), fun c => ?_⟩) | (refine ⟨fun c => ?_, fun c => False.elim (by omega)⟩) | (refine ⟨by (first | assumption | rfl | (exact Nat.le_of_ble_eq_true rfl) | (exact ⟨fun h01 => absurd h01 (by decide), by first | rfl | assumption⟩) | (exact ⟨fun _ => by decide, by first | rfl | assumption⟩) | (exact ⟨by assumption, by omega, by omega⟩) | (unfold inI; omega) | omega), ?_⟩; conv => whnf) | (refine ⟨fun c => ?_, fun c => ?_⟩) | (intro c) | fail))
    | succ m ih =>
      intro j k hm hk
      have nx := ih (j + 1) (k + 1) (by omega) (by omega)
      have hl := lt_t.mp (t4 (tF P n e + j) (by omega) (by omega))
      have cb := c256_b (P := P) (a := tF P n e) j (fun x x0 x1 => t4 x x0 (by omega))
      have pb := (p256 j (by omega)).2 (by omega)
      have bc := by_c hM (k := k) (by omega)
      have ek : P k = P (tF P n e + j) := by rw [hk]
      have eb : byB P n k = P (tF P n e + j) := by omega
      have es : lorZ (lshZ (c256 (fs P (tF P n e) j)) 8) (P (tF P n e + j)) = c256 (fs P (tF P n e) (j + 1)) := by
        rw [c256_s]
        generalize (256 : Int) ^ j = Y at cb pb
        exact b8_e cb.1 (by omega) (by omega) (by omega)
      refine Ex_step ?_; conv => whnf
      (repeat' (first | (exact nx) | (rw [e14]) | (refine r_byteAt (by omega) hM (by omega) ?_) | (rw [eb]) | (rw [es]) | (refine Ex_step ?_; conv => whnf) | (refine ⟨?_, trivial⟩) | (refine (show den _ _ _ _ _ _ _ _ from ?_); conv => whnf) | (refine ⟨fun c => False.elim (by omega), fun c => ?_⟩) | (refine ⟨fun c => ?_, fun c => False.elim (by omega)⟩) | (refine ⟨by (first | assumption | rfl | (exact Nat.le_of_ble_eq_true rfl) | (exact ⟨fun h01 => absurd h01 (by decide), by first | rfl | assumption⟩) | (exact ⟨fun _ => by decide, by first | rfl | assumption⟩) | (exact ⟨by assumption, by omega, by omega⟩) | (unfold inI; omega) | omega), ?_⟩; conv => whnf) | (refine ⟨fun c => ?_, fun c => ?_⟩) | (intro c) | fail))
  have l0 : Ex (WP X XL (d - 1)) KX10_nameHere h.1 Q 7 [some (vR 127), some (vL 0), none, some (vI (tF P n e))] [] h := loop (tE P n e - tF P n e).toNat 0 (tF P n e) (by omega) (by omega)
  refine eX10_nameHere (by omega) ?_
  (repeat' (first | (exact l0) | (rw [lc0]) | (rw [e13]) | (refine Ex_step ?_; conv => whnf) | (refine ⟨?_, trivial⟩) | (refine (show den _ _ _ _ _ _ _ _ from ?_); conv => whnf) | (refine ⟨fun c => False.elim (by omega), fun c => ?_⟩) | (refine ⟨fun c => ?_, fun c => False.elim (by omega)⟩) | (refine ⟨by (first | assumption | rfl | (exact Nat.le_of_ble_eq_true rfl) | (exact ⟨fun h01 => absurd h01 (by decide), by first | rfl | assumption⟩) | (exact ⟨fun _ => by decide, by first | rfl | assumption⟩) | (exact ⟨by assumption, by omega, by omega⟩) | (unfold inI; omega) | omega), ?_⟩; conv => whnf) | (refine ⟨fun c => ?_, fun c => ?_⟩) | (intro c) | fail))
/-- the reference's names -/
def RM (h : Mem) : Prop := gR h 127 1 = 129 ∧ kd h 129 = 101 ∧ ln h 129 = 36
theorem RM.z {h h' : Mem} (q : RM h) (e1 : h'.1 = h.1) (e2 : h'.2.2 = h.2.2) : RM h' := by unfold RM kd ln gR at *; rw [e1, e2]; exact q
set_option maxHeartbeats 4000000 in
theorem r_findHere {X : Int → Int} {XL : Int} {d : Nat} {h : Mem} {Q : RetP} {P : Int → Int} {n e base many : Int} (hd : 3 ≤ d) (hA : Aq h P n e) (h25 : tC P n e = 25) (hm9 : RM h) (hb : 0 ≤ base) (hm : 0 ≤ many ∧ base + many ≤ 36) (hq : Q (some (vI (nmI many (fun i => gG h 129 (base + i)) (c256 (tW P n e))))) h) : WP X XL d 224 [vR 127, vI base, vI many] h Q := by
  have kq := hA.1.1.1
  obtain ⟨r1, k129, l129⟩ := id hm9
  refine eX10_findHere (by omega) ?_
  have loop : ∀ (k : Nat) (i : Int), (many - i).toNat = k → 0 ≤ i → i ≤ many → stN many (nmB (fun i => gG h 129 (base + i)) (c256 (tW P n e))) 0 = stN many (nmB (fun i => gG h 129 (base + i)) (c256 (tW P n e))) i → Ex (WP X XL (d - 1)) KX10_findHere h.1 Q 2 [some (vR 127), some (vI base), some (vI many), some (vI i)] [] h := by
    intro k; induction k with
    | zero =>
      intro i hk hi0 hi1 he
      rw [stN_end (a := i) (Or.inl (by omega))] at he
      unfold nmI at hq
      rw [if_neg (by omega)] at hq
      (repeat' (first | (exact hq) | (refine Ex_step ?_; conv => whnf) | (refine ⟨?_, trivial⟩) | (refine (show den _ _ _ _ _ _ _ _ from ?_); conv => whnf) | (refine ⟨fun c => False.elim (by omega), fun c => ?_⟩) | (refine ⟨fun c => ?_, fun c => False.elim (by omega)⟩) | (refine ⟨by (first | assumption | rfl | (exact Nat.le_of_ble_eq_true rfl) | (exact ⟨fun h01 => absurd h01 (by decide), by first | rfl | assumption⟩) | (exact ⟨fun _ => by decide, by first | rfl | assumption⟩) | (exact ⟨by assumption, by omega, by omega⟩) | (unfold inI; omega) | omega), ?_⟩; conv => whnf) | (refine ⟨fun c => ?_, fun c => ?_⟩) | (intro c) | fail))
    | succ k ih =>
      intro i hk hi0 hi1 he
      by_cases hx : gG h 129 (base + i) = c256 (tW P n e)
      · rw [stN_end (a := i) (Or.inr (nmB_f hx))] at he
        have hz := cmpZ_e hx
        unfold nmI at hq
        rw [if_pos (by omega), he] at hq
        (repeat' (first | (exact hq) | (rw [r1]) | (refine ⟨⟨k129, by omega, Int.lt_of_lt_of_le (by omega : _ < (36 : Int)) (Int.le_of_eq l129.symm)⟩, ?_⟩; conv => whnf) | (refine r_nameHere (by omega) hA h25 ?_) | (refine Ex_step ?_; conv => whnf) | (refine ⟨?_, trivial⟩) | (refine (show den _ _ _ _ _ _ _ _ from ?_); conv => whnf) | (refine ⟨fun c => False.elim (by omega), fun c => ?_⟩) | (refine ⟨fun c => ?_, fun c => False.elim (by omega)⟩) | (refine ⟨by (first | assumption | rfl | (exact Nat.le_of_ble_eq_true rfl) | (exact ⟨fun h01 => absurd h01 (by decide), by first | rfl | assumption⟩) | (exact ⟨fun _ => by decide, by first | rfl | assumption⟩) | (exact ⟨by assumption, by omega, by omega⟩) | (unfold inI; omega) | omega), ?_⟩; conv => whnf) | (refine ⟨fun c => ?_, fun c => ?_⟩) | (intro c) | fail))
      · rw [stN_go (a := i) (by omega) (nmB_t hx)] at he
        have hz := cmpZ_n hx
        have nx := ih (i + 1) (by omega) (by omega) (by omega) he
        refine Ex_step ?_; conv => whnf
        (repeat' (first | (exact nx) | (rw [r1]) | (refine ⟨⟨k129, by omega, Int.lt_of_lt_of_le (by omega : _ < (36 : Int)) (Int.le_of_eq l129.symm)⟩, ?_⟩; conv => whnf) | (refine r_nameHere (by omega) hA h25 ?_) | (refine Ex_step ?_; conv => whnf) | (refine ⟨?_, trivial⟩) | (refine (show den _ _ _ _ _ _ _ _ from ?_); conv => whnf) | (refine ⟨fun c => False.elim (by omega), fun c => ?_⟩) | (refine ⟨fun c => ?_, fun c => False.elim (by omega)⟩) | (refine ⟨by (first | assumption | rfl | (exact Nat.le_of_ble_eq_true rfl) | (exact ⟨fun h01 => absurd h01 (by decide), by first | rfl | assumption⟩) | (exact ⟨fun _ => by decide, by first | rfl | assumption⟩) | (exact ⟨by assumption, by omega, by omega⟩) | (unfold inI; omega) | omega), ?_⟩; conv => whnf) | (refine ⟨fun c => ?_, fun c => ?_⟩) | (intro c) | fail))
  have l0 := loop _ 0 rfl (by omega) (by omega) rfl
  (repeat' (first | (exact l0) | (refine Ex_step ?_; conv => whnf) | (refine ⟨?_, trivial⟩) | (refine (show den _ _ _ _ _ _ _ _ from ?_); conv => whnf) | (refine ⟨fun c => False.elim (by omega), fun c => ?_⟩) | (refine ⟨fun c => ?_, fun c => False.elim (by omega)⟩) | (refine ⟨by (first | assumption | rfl | (exact Nat.le_of_ble_eq_true rfl) | (exact ⟨fun h01 => absurd h01 (by decide), by first | rfl | assumption⟩) | (exact ⟨fun _ => by decide, by first | rfl | assumption⟩) | (exact ⟨by assumption, by omega, by omega⟩) | (unfold inI; omega) | omega), ?_⟩; conv => whnf) | (refine ⟨fun c => ?_, fun c => ?_⟩) | (intro c) | fail))
-- words and their numbers
def ltW (w : List Int) : Prop := ∀ c ∈ w, 97 ≤ c ∧ c ≤ 122
def okWd (w : List Int) : Prop := 1 ≤ w.length ∧ w.length ≤ 8 ∧ ltW w
/-- a name of the class and one of the reference -/
def nmP (a b : Int) : Prop := (a = 0 ∧ b = 0) ∨ ∃ w, okWd w ∧ a = c32 w ∧ b = c256 w
theorem sn_c : ∀ l : List Int, l = [] ∨ ∃ m b, l = m ++ [b] := by
  intro l; induction l with
  | nil => exact Or.inl rfl
  | cons x l ih =>
    rcases ih with q | ⟨m, b, q⟩
    · exact Or.inr ⟨[], x, by rw [q]; rfl⟩
    · exact Or.inr ⟨x :: m, b, by rw [q]; rfl⟩
theorem c32_a {m : List Int} {b : Int} : c32 (m ++ [b]) = c32 m * 32 + (b - 96) := by unfold c32; rw [List.foldl_append]; rfl
theorem c256_a {m : List Int} {b : Int} : c256 (m ++ [b]) = c256 m * 256 + b := by unfold c256; rw [List.foldl_append]; rfl
theorem ltW_a {m : List Int} {b : Int} (h : ltW (m ++ [b])) : ltW m ∧ 97 ≤ b ∧ b ≤ 122 := ⟨fun c q => h c (List.mem_append_left _ q), h b (List.mem_append_right _ List.mem_cons_self)⟩
theorem c_ge : ∀ (k : Nat) (w : List Int), w.length = k → ltW w → (0 ≤ c32 w ∧ 0 ≤ c256 w) ∧ (1 ≤ k → 1 ≤ c32 w ∧ 1 ≤ c256 w) := by
  intro k; induction k with
  | zero =>
    intro w hk hw
    have : w = [] := List.length_eq_zero_iff.mp hk
    rw [this]
    exact ⟨⟨Int.le_refl _, Int.le_refl _⟩, fun q => by omega⟩
  | succ k ih =>
    intro w hk hw
    rcases sn_c w with q | ⟨m, b, q⟩
    · rw [q] at hk; cases hk
    · rw [q] at hk hw ⊢
      obtain ⟨w1, w2⟩ := ltW_a hw
      have i := (ih m (by rw [List.length_append] at hk; exact Nat.succ.inj hk) w1).1
      rw [c32_a, c256_a]
      omega
theorem c_inj : ∀ (k : Nat) (u v : List Int), u.length = k → ltW u → ltW v → (c32 u = c32 v → u = v) ∧ (c256 u = c256 v → u = v) := by
  intro k; induction k with
  | zero =>
    intro u v hk hu hv
    have : u = [] := List.length_eq_zero_iff.mp hk
    rw [this]
    have e1 : c32 [] = 0 := rfl
    have e2 : c256 [] = 0 := rfl
    rcases sn_c v with q | ⟨m, b, q⟩
    · rw [q]; exact ⟨fun _ => rfl, fun _ => rfl⟩
    · have := (c_ge v.length v rfl hv).2 (by rw [q, List.length_append]; exact Nat.le_add_left _ _)
      exact ⟨fun x => by omega, fun x => by omega⟩
  | succ k ih =>
    intro u v hk hu hv
    have ug := (c_ge u.length u rfl hu).2 (by omega)
    rcases sn_c u with q | ⟨m, b, q⟩
    · rw [q] at hk; cases hk
    · rcases sn_c v with q2 | ⟨m2, b2, q2⟩
      · have e1 : c32 v = 0 := by rw [q2]; rfl
        have e2 : c256 v = 0 := by rw [q2]; rfl
        exact ⟨fun x => by omega, fun x => by omega⟩
      · rw [q] at hk hu ⊢
        rw [q2] at hv ⊢
        obtain ⟨u1, u2⟩ := ltW_a hu
        obtain ⟨v1, v2⟩ := ltW_a hv
        have i := ih m m2 (by rw [List.length_append] at hk; exact Nat.succ.inj hk) u1 v1
        have mg := (c_ge m.length m rfl u1).1
        have mg2 := (c_ge m2.length m2 rfl v1).1
        rw [c32_a, c256_a, c32_a, c256_a]
        refine ⟨fun x => ?_, fun x => ?_⟩
        · rw [i.1 (by omega), show b = b2 by omega]
        · rw [i.2 (by omega), show b = b2 by omega]
theorem nm_iff {a b : Int} {w : List Int} (h : nmP a b) (hw : okWd w) : a = c32 w ↔ b = c256 w := by
  have g := (c_ge w.length w rfl hw.2.2).2 hw.1
  rcases h with ⟨x, y⟩ | ⟨u, hu, x, y⟩
  · exact ⟨fun q => by omega, fun q => by omega⟩
  · have i := c_inj u.length u w rfl hu.2.2 hw.2.2
    rw [x, y]
    exact ⟨fun q => by rw [i.1 q], fun q => by rw [i.2 q]⟩
theorem stN_k {n : Int} {ok ok' : Int → Bool} : ∀ (k : Nat) (i : Int), (n - i).toNat = k → (∀ j, i ≤ j → j < n → ok j = ok' j) → stN n ok i = stN n ok' i := by
  intro k; induction k with
  | zero => intro i hk _; rw [stN_end (Or.inl (by omega)), stN_end (Or.inl (by omega))]
  | succ k ih =>
    intro i hk he
    have e0 := he i (by omega) (by omega)
    cases c : ok i with
    | true => rw [stN_go (by omega) c, stN_go (by omega) (e0.symm.trans c)]; exact ih (i + 1) (by omega) (fun j x y => he j (by omega) y)
    | false => rw [stN_end (Or.inr c), stN_end (Or.inr (e0.symm.trans c))]
theorem nmI_t {n : Int} {N M : Int → Int} {w : List Int} (h : ∀ i, 0 ≤ i → i < n → nmP (N i) (M i)) (hw : okWd w) : nmI n M (c256 w) = nmI n N (c32 w) := by
  have e : stN n (nmB M (c256 w)) 0 = stN n (nmB N (c32 w)) 0 := stN_k _ 0 rfl (fun j x y => by
    have i := nm_iff (h j x y) hw
    by_cases q : N j = c32 w
    · rw [nmB_f (i.mp q), nmB_f q]
    · rw [nmB_t (fun z => q (i.mpr z)), nmB_t q])
  unfold nmI
  rw [e]
theorem fs_mem {P : Int → Int} : ∀ (m : Nat) (a c : Int), c ∈ fs P a m → ∃ j : Nat, j < m ∧ c = P (a + j) := by
  intro m; induction m with
  | zero => intro a c h; exact absurd h List.not_mem_nil
  | succ m ih =>
    intro a c h
    rcases List.mem_cons.mp h with q | q
    · exact ⟨0, by omega, by rw [q, show a + ((0 : Nat) : Int) = a by omega]⟩
    · obtain ⟨j, j1, j2⟩ := ih (a + 1) c q
      exact ⟨j + 1, by omega, by rw [j2, show a + ((j + 1 : Nat) : Int) = a + 1 + j by omega]⟩
theorem tW_ok {P : Int → Int} {n e : Int} (he : e ≤ n) (h : tC P n e = 25) : okWd (tW P n e) := by
  obtain ⟨t1, t2, t3, t4⟩ := tC_25 he h
  unfold tW
  refine ⟨by rw [fs_len]; omega, by rw [fs_len]; omega, fun c q => ?_⟩
  obtain ⟨j, j1, j2⟩ := fs_mem _ _ _ q
  rw [j2]
  exact lt_t.mp (t4 (tF P n e + j) (by omega) (by omega))
