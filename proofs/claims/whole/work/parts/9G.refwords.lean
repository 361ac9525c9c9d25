/-! LEVEL 2: texts: words of the reference -/
theorem tC_w {P : Int → Int} {n e : Int} (h : tC P n e ≤ 26) : tF P n e < n ∧ lt P (tF P n e) = true ∧ tE P n e = sc (lt P) n (tF P n e) := by
  by_cases c : tF P n e < n
  · by_cases l : lt P (tF P n e) = true
    · exact ⟨c, l, by unfold tE; rw [if_neg (fun q => q c), if_pos l]⟩
    · by_cases g : dg P (tF P n e) = true
      · have := tC_d c l g
        split at this <;> omega
      · have := tC_s c l g
        have := sgC_c (P (tF P n e))
        omega
  · have := tC_e c
    omega
/-- the reference's word -/
def iw (P : Int → Int) (n e : Int) : Int := if tC P n e ≤ 26 then kx RKW (tW P n e) 0 else -1
theorem kx_long {s : List Int} (h : 8 < s.length) : kx CKW s 0 = -1 := (kx_in CKW s 0 (by omega)).mpr (fun m => by have := (kw_all s m).2; omega)
theorem tC_b {P : Int → Int} {n e : Int} : 0 ≤ tC P n e ∧ tC P n e ≤ 33 := by
  by_cases c : tF P n e < n
  · by_cases l : lt P (tF P n e) = true
    · have := tC_l c l; omega
    · by_cases g : dg P (tF P n e) = true
      · have := tC_d c l g
        split at this <;> omega
      · have := tC_s c l g
        have := sgC_c (P (tF P n e))
        omega
  · have := tC_e c
    omega
/-- the class's code, the reference's word -/
def wQ (c : Int) : Int := if c ≤ 24 then wR c else -1
theorem iw_e {P : Int → Int} {n e : Int} : iw P n e = wQ (tC P n e) := by
  unfold iw wQ
  by_cases c : tC P n e ≤ 26
  · rw [if_pos c]
    obtain ⟨hc, l, hE⟩ := tC_w c
    have eC : tC P n e = (if 8 < tE P n e - tF P n e then 26 else if kx CKW (tW P n e) 0 = -1 then 25 else kx CKW (tW P n e) 0) := by unfold tC; rw [if_neg (fun q => q hc), if_pos l]
    have hk := kx_b CKW (tW P n e) 0
    have hl : (CKW.length : Int) = 25 := by decide
    rw [kw_R]
    by_cases c8 : 8 < tE P n e - tF P n e
    · rw [if_pos c8] at eC
      have : kx CKW (tW P n e) 0 = -1 := kx_long (by unfold tW; rw [fs_len]; omega)
      rw [if_pos this, if_neg (by omega)]
    · rw [if_neg c8] at eC
      by_cases c1 : kx CKW (tW P n e) 0 = -1
      · rw [if_pos c1] at eC
        rw [if_pos c1, if_neg (by omega)]
      · rw [if_neg c1] at eC
        rw [if_neg c1, eC, if_pos (by omega)]
  · rw [if_neg c, if_neg (by omega)]
theorem wQ_tab : ∀ k : Nat, k < 25 → ∀ j : Nat, j < 25 → (wR (k : Int) = wR (j : Int) → k = j) := by decide +kernel
/-- a word of the class is told by the reference's -/
theorem wQ_i {c j : Int} (hc : 0 ≤ c) (hj : 0 ≤ j ∧ j ≤ 24) : wQ c = wR j ↔ c = j := by
  unfold wQ
  have w := wR_n hj.1 (by omega : j < 25)
  by_cases q : c ≤ 24
  · rw [if_pos q]
    refine ⟨fun x => ?_, fun x => by rw [x]⟩
    have := wQ_tab c.toNat (by omega) j.toNat (by omega)
    rw [show ((c.toNat : Nat) : Int) = c by omega, show ((j.toNat : Nat) : Int) = j by omega] at this
    have := this x
    omega
  · rw [if_neg q]
    exact ⟨fun x => by omega, fun x => by omega⟩
theorem st1_ch {i c : Int} {r : List Int} (hdr : st1.drop i.toNat = c :: r) : strC 900002 i = c := by
  show st1.getD i.toNat 0 = c
  rw [List.getD_eq_getElem?_getD, ← List.head?_drop, hdr]
  rfl
theorem st1_nx {i c : Int} {r : List Int} (h0 : 0 ≤ i) (hdr : st1.drop i.toNat = c :: r) : st1.drop (i + 1).toNat = r := by
  rw [show (i + 1).toNat = i.toNat + 1 by omega, ← List.drop_drop, hdr]
  rfl
theorem st1_l : st1.length = 124 := by decide +kernel
theorem st1_lt {i c : Int} {r : List Int} (h0 : 0 ≤ i) (hdr : st1.drop i.toNat = c :: r) : i < 124 := by
  have t := congrArg List.length hdr
  rw [List.length_drop, st1_l] at t
  have t2 : 124 - i.toNat = r.length + 1 := t
  omega
theorem st1_no {i : Int} (h0 : 0 ≤ i) (hdr : st1.drop i.toNat = []) : 124 ≤ i := by
  have t := congrArg List.length hdr
  rw [List.length_drop, st1_l] at t
  have t2 : 124 - i.toNat = 0 := t
  omega
set_option maxHeartbeats 4000000 in
theorem r_inWords {X : Int → Int} {XL : Int} {d : Nat} {h : Mem} {Q : RetP} {P : Int → Int} {n e : Int} (hd : 6 ≤ d) (hA : Aq h P n e) (hq : Q (some (vI (iw P n e))) h) : WP X XL d 216 [vR 127, vR 900002] h Q := by
  obtain ⟨hM, he, -, e12, e13, e14, -, -⟩ := id hA
  have kq := hM.1.1
  unfold iw at hq
  have rt := rTk_c (tC P n e)
  have hb := tF_b (P := P) he.2
  have hb2 := tE_b (P := P) he.2
  have hn := hM.2.2.1
  refine eX10_inWords (by omega) ?_
  by_cases c26 : tC P n e ≤ 26
  · rw [if_pos c26] at hq
    obtain ⟨hc, hl, hE⟩ := tC_w c26
    obtain ⟨b1, b2, b3, b4⟩ := sc_b (p := lt P) (n := n) _ (tF P n e) rfl (by omega)
    have bya : ∀ (j : Nat) (i k : Int) (d' : Nat) (Q' : RetP), i = k + j → tF P n e + j < tE P n e → 1 ≤ d' → Q' (some (vI (P (tF P n e + j)))) h → WP X XL d' 211 [vR 127, vI (tF P n e + i - k)] h Q' := fun j i k d' Q' x1 x2 x3 x4 => by
      rw [show tF P n e + i - k = tF P n e + j by omega]
      refine r_byteAt x3 hM (by omega) ?_
      have bc := by_c hM (k := tF P n e + j) (by omega)
      have := lt_t.mp (b3 (tF P n e + j) (by omega) (by omega))
      rw [show byB P n (tF P n e + j) = P (tF P n e + j) by omega]
      exact x4
    have loop : ∀ (ws : List (List Int)) (cnt k : Int) (w4 w5 w6 : Option MV), 0 ≤ k → 0 ≤ cnt ∧ cnt ≤ k → st1.drop k.toNat = cat32 ws → (∀ w ∈ ws, ∀ c ∈ w, ¬ c = 32) → kx ws (tW P n e) cnt = kx RKW (tW P n e) 0 → Ex (WP X XL (d - 1)) KX10_inWords h.1 Q 14 [some (vR 127), some (vR 900002), some (vI cnt), some (vI k), w4, w5, w6] [] h := by
      intro ws; induction ws with
      | nil =>
        intro cnt k w4 w5 w6 hk hcn hdr hws hx
        have k124 := st1_no hk hdr
        rw [← hx, show kx [] (tW P n e) cnt = -1 from rfl] at hq
        (repeat' (first | (exact hq) | (refine x_len1 (by omega) ?_) | (refine Ex_step ?_; conv => whnf) | (refine ⟨?_, trivial⟩) | (refine (show den _ _ _ _ _ _ _ _ from ?_); conv => whnf) | (refine ⟨fun c => False.elim (by omega), fun c => ?_⟩) | (refine ⟨fun c => ?_, fun c => False.elim (by omega)⟩) | (refine ⟨by (first | assumption | rfl | (exact Nat.le_of_ble_eq_true rfl) | (exact ⟨fun h01 => absurd h01 (by decide), by first | rfl | assumption⟩) | (exact ⟨fun _ => by decide, by first | rfl | assumption⟩) | (exact ⟨by assumption, by omega, by omega⟩) | (unfold inI; omega) | omega), ?_⟩; conv => whnf) | (refine ⟨fun c => ?_, fun c => ?_⟩) | (intro c) | fail))
      | cons w ws ih =>
        intro cnt k w4 w5 w6 hk hcn hdr hws hx
        have hdr0 : st1.drop k.toNat = w ++ 32 :: cat32 ws := hdr
        have hw := hws w List.mem_cons_self
        have hx2 : (if w = tW P n e then cnt else kx ws (tW P n e) (cnt + 1)) = kx RKW (tW P n e) 0 := hx
        have fin : ∀ (e4 lk : Int) (w6 : Option MV), k ≤ e4 → st1.drop e4.toNat = 32 :: cat32 ws → (lk = 1 ∧ w = tW P n e) ∨ (lk = 0 ∧ ¬ w = tW P n e) → Ex (WP X XL (d - 1)) KX10_inWords h.1 Q 115 [some (vR 127), some (vR 900002), some (vI cnt), some (vI k), some (vI e4), some (vI lk), w6] [] h := by
          intro e4 lk w6 hke hde hlk
          have e124 := st1_lt (by omega) hde
          rcases hlk with ⟨l1, l2⟩ | ⟨l1, l2⟩
          · rw [if_pos l2] at hx2
            rw [← hx2] at hq
            (repeat' (first | (exact hq) | (refine Ex_step ?_; conv => whnf) | (refine ⟨?_, trivial⟩) | (refine (show den _ _ _ _ _ _ _ _ from ?_); conv => whnf) | (refine ⟨fun c => False.elim (by omega), fun c => ?_⟩) | (refine ⟨fun c => ?_, fun c => False.elim (by omega)⟩) | (refine ⟨by (first | assumption | rfl | (exact Nat.le_of_ble_eq_true rfl) | (exact ⟨fun h01 => absurd h01 (by decide), by first | rfl | assumption⟩) | (exact ⟨fun _ => by decide, by first | rfl | assumption⟩) | (exact ⟨by assumption, by omega, by omega⟩) | (unfold inI; omega) | omega), ?_⟩; conv => whnf) | (refine ⟨fun c => ?_, fun c => ?_⟩) | (intro c) | fail))
          · rw [if_neg l2] at hx2
            have nx := fun w4 w5 w6 => ih (cnt + 1) (e4 + 1) w4 w5 w6 (by omega) (by omega) (st1_nx (by omega) hde) (fun x m => hws x (List.mem_cons_of_mem _ m)) hx2
            (repeat' (first | (exact nx _ _ _) | (refine Ex_step ?_; conv => whnf) | (refine ⟨?_, trivial⟩) | (refine (show den _ _ _ _ _ _ _ _ from ?_); conv => whnf) | (refine ⟨fun c => False.elim (by omega), fun c => ?_⟩) | (refine ⟨fun c => ?_, fun c => False.elim (by omega)⟩) | (refine ⟨by (first | assumption | rfl | (exact Nat.le_of_ble_eq_true rfl) | (exact ⟨fun h01 => absurd h01 (by decide), by first | rfl | assumption⟩) | (exact ⟨fun _ => by decide, by first | rfl | assumption⟩) | (exact ⟨by assumption, by omega, by omega⟩) | (unfold inI; omega) | omega), ?_⟩; conv => whnf) | (refine ⟨fun c => ?_, fun c => ?_⟩) | (intro c) | fail))
        have no68 : ∀ (e4 i : Int), k ≤ e4 → st1.drop e4.toNat = 32 :: cat32 ws → ¬ w = tW P n e → Ex (WP X XL (d - 1)) KX10_inWords h.1 Q 68 [some (vR 127), some (vR 900002), some (vI cnt), some (vI k), some (vI e4), some (vI 0), some (vI i)] [] h := by
          intro e4 i hke hde hne
          have f := fin e4 0 (some (vI i)) hke hde (Or.inr ⟨rfl, hne⟩)
          by_cases ci : i < e4
          · (repeat' (first | (exact f) | (refine Ex_step ?_; conv => whnf) | (refine ⟨?_, trivial⟩) | (refine (show den _ _ _ _ _ _ _ _ from ?_); conv => whnf) | (refine ⟨fun c => False.elim (by omega), fun c => ?_⟩) | (refine ⟨fun c => ?_, fun c => False.elim (by omega)⟩) | (refine ⟨by (first | assumption | rfl | (exact Nat.le_of_ble_eq_true rfl) | (exact ⟨fun h01 => absurd h01 (by decide), by first | rfl | assumption⟩) | (exact ⟨fun _ => by decide, by first | rfl | assumption⟩) | (exact ⟨by assumption, by omega, by omega⟩) | (unfold inI; omega) | omega), ?_⟩; conv => whnf) | (refine ⟨fun c => ?_, fun c => ?_⟩) | (intro c) | fail))
          · (repeat' (first | (exact f) | (refine Ex_step ?_; conv => whnf) | (refine ⟨?_, trivial⟩) | (refine (show den _ _ _ _ _ _ _ _ from ?_); conv => whnf) | (refine ⟨fun c => False.elim (by omega), fun c => ?_⟩) | (refine ⟨fun c => ?_, fun c => False.elim (by omega)⟩) | (refine ⟨by (first | assumption | rfl | (exact Nat.le_of_ble_eq_true rfl) | (exact ⟨fun h01 => absurd h01 (by decide), by first | rfl | assumption⟩) | (exact ⟨fun _ => by decide, by first | rfl | assumption⟩) | (exact ⟨by assumption, by omega, by omega⟩) | (unfold inI; omega) | omega), ?_⟩; conv => whnf) | (refine ⟨fun c => ?_, fun c => ?_⟩) | (intro c) | fail))
        have l68 : ∀ (u : List Int) (j : Nat) (i e4 : Int), i = k + j → k ≤ e4 → st1.drop e4.toNat = 32 :: cat32 ws → i + u.length = e4 → st1.drop i.toNat = u ++ 32 :: cat32 ws → tF P n e + j + u.length = tE P n e → (w = tW P n e ↔ u = fs P (tF P n e + j) u.length) → Ex (WP X XL (d - 1)) KX10_inWords h.1 Q 68 [some (vR 127), some (vR 900002), some (vI cnt), some (vI k), some (vI e4), some (vI 1), some (vI i)] [] h := by
          intro u; induction u with
          | nil =>
            intro j i e4 hi hke hde hie hdi hlen hiff
            have f := fin e4 1 (some (vI i)) hke hde (Or.inl ⟨rfl, hiff.mpr rfl⟩)
            have hie2 : i + ((0 : Nat) : Int) = e4 := hie
            refine Ex_step ?_; conv => whnf
            (repeat' (first | (exact f) | (refine Ex_step ?_; conv => whnf) | (refine ⟨?_, trivial⟩) | (refine (show den _ _ _ _ _ _ _ _ from ?_); conv => whnf) | (refine ⟨fun c => False.elim (by omega), fun c => ?_⟩) | (refine ⟨fun c => ?_, fun c => False.elim (by omega)⟩) | (refine ⟨by (first | assumption | rfl | (exact Nat.le_of_ble_eq_true rfl) | (exact ⟨fun h01 => absurd h01 (by decide), by first | rfl | assumption⟩) | (exact ⟨fun _ => by decide, by first | rfl | assumption⟩) | (exact ⟨by assumption, by omega, by omega⟩) | (unfold inI; omega) | omega), ?_⟩; conv => whnf) | (refine ⟨fun c => ?_, fun c => ?_⟩) | (intro c) | fail))
          | cons c u ih2 =>
            intro j i e4 hi hke hde hie hdi hlen hiff
            have hie2 : i + ((u.length + 1 : Nat) : Int) = e4 := hie
            have hlen2 : tF P n e + j + ((u.length + 1 : Nat) : Int) = tE P n e := hlen
            have hdi2 : st1.drop i.toNat = c :: (u ++ 32 :: cat32 ws) := hdi
            have hch := st1_ch hdi2
            have i124 := st1_lt (by omega) hdi2
            have hs : fs P (tF P n e + j) (c :: u).length = P (tF P n e + j) :: fs P (tF P n e + j + 1) u.length := rfl
            rw [hs] at hiff
            by_cases ce : c = P (tF P n e + j)
            · have nx := ih2 (j + 1) (i + 1) e4 (by omega) hke hde (by omega) (st1_nx (by omega) hdi2) (by omega) ⟨fun q => by rw [show tF P n e + ((j + 1 : Nat) : Int) = tF P n e + j + 1 by omega]; exact (List.cons.inj (hiff.mp q)).2, fun q => hiff.mpr (by rw [ce, q, fs_len, show tF P n e + ((j + 1 : Nat) : Int) = tF P n e + j + 1 by omega])⟩
              refine Ex_step ?_; conv => whnf
              (repeat' (first | (exact nx) | (rw [e13]) | (refine x_char1 (by omega) (by omega) (by omega) hch ?_) | (refine bya j i k _ _ hi (by omega) (by omega) ?_) | (refine Ex_step ?_; conv => whnf) | (refine ⟨?_, trivial⟩) | (refine (show den _ _ _ _ _ _ _ _ from ?_); conv => whnf) | (refine ⟨fun c => False.elim (by omega), fun c => ?_⟩) | (refine ⟨fun c => ?_, fun c => False.elim (by omega)⟩) | (refine ⟨by (first | assumption | rfl | (exact Nat.le_of_ble_eq_true rfl) | (exact ⟨fun h01 => absurd h01 (by decide), by first | rfl | assumption⟩) | (exact ⟨fun _ => by decide, by first | rfl | assumption⟩) | (exact ⟨by assumption, by omega, by omega⟩) | (unfold inI; omega) | omega), ?_⟩; conv => whnf) | (refine ⟨fun c => ?_, fun c => ?_⟩) | (intro c) | fail))
            · have nx := no68 e4 (i + 1) hke hde (fun q => ce (List.cons.inj (hiff.mp q)).1)
              refine Ex_step ?_; conv => whnf
              (repeat' (first | (exact nx) | (rw [e13]) | (refine x_char1 (by omega) (by omega) (by omega) hch ?_) | (refine bya j i k _ _ hi (by omega) (by omega) ?_) | (refine Ex_step ?_; conv => whnf) | (refine ⟨?_, trivial⟩) | (refine (show den _ _ _ _ _ _ _ _ from ?_); conv => whnf) | (refine ⟨fun c => False.elim (by omega), fun c => ?_⟩) | (refine ⟨fun c => ?_, fun c => False.elim (by omega)⟩) | (refine ⟨by (first | assumption | rfl | (exact Nat.le_of_ble_eq_true rfl) | (exact ⟨fun h01 => absurd h01 (by decide), by first | rfl | assumption⟩) | (exact ⟨fun _ => by decide, by first | rfl | assumption⟩) | (exact ⟨by assumption, by omega, by omega⟩) | (unfold inI; omega) | omega), ?_⟩; conv => whnf) | (refine ⟨fun c => ?_, fun c => ?_⟩) | (intro c) | fail))
        have l42 : ∀ (e4 : Int) (w5 w6 : Option MV), e4 = k + w.length → st1.drop e4.toNat = 32 :: cat32 ws → Ex (WP X XL (d - 1)) KX10_inWords h.1 Q 42 [some (vR 127), some (vR 900002), some (vI cnt), some (vI k), some (vI e4), w5, w6] [] h := by
          intro e4 w5 w6 he4 hde
          have e124 := st1_lt (by omega) hde
          by_cases cl : e4 - k = tE P n e - tF P n e
          · have l := l68 w 0 k e4 (by omega) (by omega) hde (by omega) hdr0 (by omega) (by
              rw [show tF P n e + ((0 : Nat) : Int) = tF P n e by omega]
              unfold tW
              rw [show (tE P n e - tF P n e).toNat = w.length by omega])
            (repeat' (first | (exact l) | (rw [e13]) | (rw [e14]) | (refine Ex_step ?_; conv => whnf) | (refine ⟨?_, trivial⟩) | (refine (show den _ _ _ _ _ _ _ _ from ?_); conv => whnf) | (refine ⟨fun c => False.elim (by omega), fun c => ?_⟩) | (refine ⟨fun c => ?_, fun c => False.elim (by omega)⟩) | (refine ⟨by (first | assumption | rfl | (exact Nat.le_of_ble_eq_true rfl) | (exact ⟨fun h01 => absurd h01 (by decide), by first | rfl | assumption⟩) | (exact ⟨fun _ => by decide, by first | rfl | assumption⟩) | (exact ⟨by assumption, by omega, by omega⟩) | (unfold inI; omega) | omega), ?_⟩; conv => whnf) | (refine ⟨fun c => ?_, fun c => ?_⟩) | (intro c) | fail))
          · have l := no68 e4 k (by omega) hde (fun q => cl (by
              have := congrArg List.length q
              unfold tW at this
              rw [fs_len] at this
              omega))
            (repeat' (first | (exact l) | (rw [e13]) | (rw [e14]) | (refine Ex_step ?_; conv => whnf) | (refine ⟨?_, trivial⟩) | (refine (show den _ _ _ _ _ _ _ _ from ?_); conv => whnf) | (refine ⟨fun c => False.elim (by omega), fun c => ?_⟩) | (refine ⟨fun c => ?_, fun c => False.elim (by omega)⟩) | (refine ⟨by (first | assumption | rfl | (exact Nat.le_of_ble_eq_true rfl) | (exact ⟨fun h01 => absurd h01 (by decide), by first | rfl | assumption⟩) | (exact ⟨fun _ => by decide, by first | rfl | assumption⟩) | (exact ⟨by assumption, by omega, by omega⟩) | (unfold inI; omega) | omega), ?_⟩; conv => whnf) | (refine ⟨fun c => ?_, fun c => ?_⟩) | (intro c) | fail))
        have l25 : ∀ (u : List Int) (e4 : Int) (w5 w6 : Option MV), k ≤ e4 → e4 + u.length = k + w.length → st1.drop e4.toNat = u ++ 32 :: cat32 ws → (∀ c ∈ u, ¬ c = 32) → Ex (WP X XL (d - 1)) KX10_inWords h.1 Q 25 [some (vR 127), some (vR 900002), some (vI cnt), some (vI k), some (vI e4), w5, w6] [] h := by
          intro u; induction u with
          | nil =>
            intro e4 w5 w6 hke hle hde hu
            have hle2 : e4 + ((0 : Nat) : Int) = k + w.length := hle
            have hch := st1_ch hde
            have e124 := st1_lt (by omega) hde
            have l := l42 e4 w5 w6 (by omega) hde
            refine Ex_step ?_; conv => whnf
            (repeat' (first | (exact l) | (refine x_char1 (by omega) (by omega) (by omega) hch ?_) | (refine Ex_step ?_; conv => whnf) | (refine ⟨?_, trivial⟩) | (refine (show den _ _ _ _ _ _ _ _ from ?_); conv => whnf) | (refine ⟨fun c => False.elim (by omega), fun c => ?_⟩) | (refine ⟨fun c => ?_, fun c => False.elim (by omega)⟩) | (refine ⟨by (first | assumption | rfl | (exact Nat.le_of_ble_eq_true rfl) | (exact ⟨fun h01 => absurd h01 (by decide), by first | rfl | assumption⟩) | (exact ⟨fun _ => by decide, by first | rfl | assumption⟩) | (exact ⟨by assumption, by omega, by omega⟩) | (unfold inI; omega) | omega), ?_⟩; conv => whnf) | (refine ⟨fun c => ?_, fun c => ?_⟩) | (intro c) | fail))
          | cons c u ih2 =>
            intro e4 w5 w6 hke hle hde hu
            have hle2 : e4 + ((u.length + 1 : Nat) : Int) = k + w.length := hle
            have hde2 : st1.drop e4.toNat = c :: (u ++ 32 :: cat32 ws) := hde
            have hch := st1_ch hde2
            have e124 := st1_lt (by omega) hde2
            have hc32 := hu c List.mem_cons_self
            have nx := ih2 (e4 + 1) w5 w6 (by omega) (by omega) (st1_nx (by omega) hde2) (fun x m => hu x (List.mem_cons_of_mem _ m))
            refine Ex_step ?_; conv => whnf
            (repeat' (first | (exact nx) | (refine x_char1 (by omega) (by omega) (by omega) hch ?_) | (refine Ex_step ?_; conv => whnf) | (refine ⟨?_, trivial⟩) | (refine (show den _ _ _ _ _ _ _ _ from ?_); conv => whnf) | (refine ⟨fun c => False.elim (by omega), fun c => ?_⟩) | (refine ⟨fun c => ?_, fun c => False.elim (by omega)⟩) | (refine ⟨by (first | assumption | rfl | (exact Nat.le_of_ble_eq_true rfl) | (exact ⟨fun h01 => absurd h01 (by decide), by first | rfl | assumption⟩) | (exact ⟨fun _ => by decide, by first | rfl | assumption⟩) | (exact ⟨by assumption, by omega, by omega⟩) | (unfold inI; omega) | omega), ?_⟩; conv => whnf) | (refine ⟨fun c => ?_, fun c => ?_⟩) | (intro c) | fail))
        have k124 : k < 124 := by
          cases w with
          | nil => exact st1_lt hk hdr0
          | cons c u => exact st1_lt hk hdr0
        have l := fun w5 w6 => l25 w k w5 w6 (by omega) rfl hdr0 hw
        (repeat' (first | (exact l _ _) | (refine x_len1 (by omega) ?_) | (refine Ex_step ?_; conv => whnf) | (refine ⟨?_, trivial⟩) | (refine (show den _ _ _ _ _ _ _ _ from ?_); conv => whnf) | (refine ⟨fun c => False.elim (by omega), fun c => ?_⟩) | (refine ⟨fun c => ?_, fun c => False.elim (by omega)⟩) | (refine ⟨by (first | assumption | rfl | (exact Nat.le_of_ble_eq_true rfl) | (exact ⟨fun h01 => absurd h01 (by decide), by first | rfl | assumption⟩) | (exact ⟨fun _ => by decide, by first | rfl | assumption⟩) | (exact ⟨by assumption, by omega, by omega⟩) | (unfold inI; omega) | omega), ?_⟩; conv => whnf) | (refine ⟨fun c => ?_, fun c => ?_⟩) | (intro c) | fail))
    have l0 := loop RKW 0 1 none none none (by omega) (by omega) (by rw [st1_w.1]; rfl) st1_w.2 rfl
    (repeat' (first | (exact l0) | (rw [e12]) | (refine Ex_step ?_; conv => whnf) | (refine ⟨?_, trivial⟩) | (refine (show den _ _ _ _ _ _ _ _ from ?_); conv => whnf) | (refine ⟨fun c => False.elim (by omega), fun c => ?_⟩) | (refine ⟨fun c => ?_, fun c => False.elim (by omega)⟩) | (refine ⟨by (first | assumption | rfl | (exact Nat.le_of_ble_eq_true rfl) | (exact ⟨fun h01 => absurd h01 (by decide), by first | rfl | assumption⟩) | (exact ⟨fun _ => by decide, by first | rfl | assumption⟩) | (exact ⟨by assumption, by omega, by omega⟩) | (unfold inI; omega) | omega), ?_⟩; conv => whnf) | (refine ⟨fun c => ?_, fun c => ?_⟩) | (intro c) | fail))
  · rw [if_neg c26] at hq
    (repeat' (first | (exact hq) | (rw [e12]) | (refine Ex_step ?_; conv => whnf) | (refine ⟨?_, trivial⟩) | (refine (show den _ _ _ _ _ _ _ _ from ?_); conv => whnf) | (refine ⟨fun c => False.elim (by omega), fun c => ?_⟩) | (refine ⟨fun c => ?_, fun c => False.elim (by omega)⟩) | (refine ⟨by (first | assumption | rfl | (exact Nat.le_of_ble_eq_true rfl) | (exact ⟨fun h01 => absurd h01 (by decide), by first | rfl | assumption⟩) | (exact ⟨fun _ => by decide, by first | rfl | assumption⟩) | (exact ⟨by assumption, by omega, by omega⟩) | (unfold inI; omega) | omega), ?_⟩; conv => whnf) | (refine ⟨fun c => ?_, fun c => ?_⟩) | (intro c) | fail))
