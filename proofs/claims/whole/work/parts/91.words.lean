/-! LEVEL 2: texts: tokens of the class -/
/-- the class's text: n bytes P -/
def TxM (h : Mem) (P : Int → Int) (n : Int) : Prop := (kd h 10 = 5 ∧ gR h 10 5 = 11 ∧ kd h 11 = 102 ∧ ln h 11 = 900) ∧ (gR h 10 8 = 12 ∧ kd h 12 = 100 ∧ ln h 12 = 12) ∧ (gR h 10 9 = 13 ∧ kd h 13 = 100 ∧ ln h 13 = 12) ∧ (gR h 10 10 = 14 ∧ kd h 14 = 101 ∧ ln h 14 = 12) ∧ gG h 10 6 = n ∧ (0 ≤ n ∧ n ≤ 900) ∧ ∀ i, 0 ≤ i → i < n → gG h 11 i = P i ∧ -128 ≤ P i ∧ P i ≤ 127
theorem TxM.c {h h' : Mem} {P : Int → Int} {n : Int} (q : TxM h P n) (e1 : h'.1 = h.1) (e2 : ∀ i, gR h' 10 i = gR h 10 i) (e3 : gG h' 10 6 = gG h 10 6) (e4 : ∀ i, gG h' 11 i = gG h 11 i) : TxM h' P n := by
  obtain ⟨q1, q2, q3, q4, q5, q6, q7⟩ := q
  refine ⟨?_, ?_, ?_, ?_, e3.trans q5, q6, fun i a b => ⟨(e4 i).trans (q7 i a b).1, (q7 i a b).2⟩⟩
  · unfold kd ln; rw [e1, e2]; exact q1
  · unfold kd ln; rw [e1, e2]; exact q2
  · unfold kd ln; rw [e1, e2]; exact q3
  · unfold kd ln; rw [e1, e2]; exact q4
set_option maxHeartbeats 4000000 in
theorem w_isLetter {X : Int → Int} {XL : Int} {d : Nat} {h : Mem} {Q : RetP} {c : Int} (hd : 1 ≤ d) (hq1 : 97 ≤ c ∧ c ≤ 122 → Q (some (vI 1)) h) (hq0 : ¬ (97 ≤ c ∧ c ≤ 122) → Q (some (vI 0)) h) : WP X XL d 65 [vI c] h Q := by
  refine eX5_isLetter hd ?_
  (repeat' (first | (refine Ex_step ?_; conv => whnf) | (refine ⟨?_, trivial⟩) | (refine (show den _ _ _ _ _ _ _ _ from ?_); conv => whnf) | (refine ⟨fun c => False.elim (by omega), fun c => ?_⟩) | (refine ⟨fun c => ?_, fun c => False.elim (by omega)⟩) | (refine ⟨by (first | assumption | rfl | (exact Nat.le_of_ble_eq_true rfl) | (exact ⟨fun h01 => absurd h01 (by decide), by first | rfl | assumption⟩) | (exact ⟨fun _ => by decide, by first | rfl | assumption⟩) | (exact ⟨by assumption, by omega, by omega⟩) | (unfold inI; omega) | omega), ?_⟩; conv => whnf) | (refine ⟨fun c => ?_, fun c => ?_⟩) | (intro c) | fail)) <;> (first | (exact hq1 (by omega)) | (exact hq0 (by omega)))
set_option maxHeartbeats 4000000 in
theorem w_isDigit {X : Int → Int} {XL : Int} {d : Nat} {h : Mem} {Q : RetP} {c : Int} (hd : 1 ≤ d) (hq1 : 48 ≤ c ∧ c ≤ 57 → Q (some (vI 1)) h) (hq0 : ¬ (48 ≤ c ∧ c ≤ 57) → Q (some (vI 0)) h) : WP X XL d 66 [vI c] h Q := by
  refine eX5_isDigit hd ?_
  (repeat' (first | (refine Ex_step ?_; conv => whnf) | (refine ⟨?_, trivial⟩) | (refine (show den _ _ _ _ _ _ _ _ from ?_); conv => whnf) | (refine ⟨fun c => False.elim (by omega), fun c => ?_⟩) | (refine ⟨fun c => ?_, fun c => False.elim (by omega)⟩) | (refine ⟨by (first | assumption | rfl | (exact Nat.le_of_ble_eq_true rfl) | (exact ⟨fun h01 => absurd h01 (by decide), by first | rfl | assumption⟩) | (exact ⟨fun _ => by decide, by first | rfl | assumption⟩) | (exact ⟨by assumption, by omega, by omega⟩) | (unfold inI; omega) | omega), ?_⟩; conv => whnf) | (refine ⟨fun c => ?_, fun c => ?_⟩) | (intro c) | fail)) <;> (first | (exact hq1 (by omega)) | (exact hq0 (by omega)))
set_option maxHeartbeats 4000000 in
theorem w_signCode {X : Int → Int} {XL : Int} {d : Nat} {h : Mem} {Q : RetP} {c : Int} (hd : 1 ≤ d) (hq : Q (some (vI (sgC c))) h) : WP X XL d 67 [vI c] h Q := by
  refine eX5_signCode hd ?_
  have h59 : c = 59 → sgC c = 28 := fun e => by unfold sgC; rw [if_pos e]
  have h60 : c = 60 → sgC c = 29 := fun e => by unfold sgC; rw [if_neg (by omega), if_pos e]
  have h62 : c = 62 → sgC c = 30 := fun e => by unfold sgC; rw [if_neg (by omega), if_neg (by omega), if_pos e]
  have h61 : c = 61 → sgC c = 31 := fun e => by unfold sgC; rw [if_neg (by omega), if_neg (by omega), if_neg (by omega), if_pos e]
  have hno : ¬ c = 59 → ¬ c = 60 → ¬ c = 61 → ¬ c = 62 → sgC c = 33 := fun a b e f => by unfold sgC; rw [if_neg (by omega), if_neg (by omega), if_neg (by omega), if_neg (by omega)]
  (repeat' (first | (refine Ex_step ?_; conv => whnf) | (refine ⟨?_, trivial⟩) | (refine (show den _ _ _ _ _ _ _ _ from ?_); conv => whnf) | (refine ⟨fun c => False.elim (by omega), fun c => ?_⟩) | (refine ⟨fun c => ?_, fun c => False.elim (by omega)⟩) | (refine ⟨by (first | assumption | rfl | (exact Nat.le_of_ble_eq_true rfl) | (exact ⟨fun h01 => absurd h01 (by decide), by first | rfl | assumption⟩) | (exact ⟨fun _ => by decide, by first | rfl | assumption⟩) | (exact ⟨by assumption, by omega, by omega⟩) | (unfold inI; omega) | omega), ?_⟩; conv => whnf) | (refine ⟨fun c => ?_, fun c => ?_⟩) | (intro c) | fail))
  all_goals (first | (rw [h59 (by omega)] at hq; exact hq) | (rw [h60 (by omega)] at hq; exact hq) | (rw [h61 (by omega)] at hq; exact hq) | (rw [h62 (by omega)] at hq; exact hq) | (rw [hno (by omega) (by omega) (by omega) (by omega)] at hq; exact hq))
-- the search for a key word
def fk (P : Int → Int) (a letters : Int) : List Int → Int → Int → Int
  | [], _, _ => -1
  | c :: cs, cand, alike => if c = 32 then (if alike = letters then cand else fk P a letters cs (cand + 1) 0) else if (¬ alike = -1 ∧ alike < letters) ∧ P (a + alike) = c then fk P a letters cs cand (alike + 1) else fk P a letters cs cand (-1)
theorem fk_dead {P : Int → Int} {a letters : Int} (hl : 0 ≤ letters) {cand : Int} {rest : List Int} : ∀ (suf : List Int), (∀ c ∈ suf, ¬ c = 32) → fk P a letters (suf ++ 32 :: rest) cand (-1) = fk P a letters rest (cand + 1) 0 := by
  intro suf; induction suf with
  | nil =>
    intro _
    show (if (32 : Int) = 32 then (if (-1 : Int) = letters then cand else fk P a letters rest (cand + 1) 0) else _) = _
    rw [if_pos rfl, if_neg (by omega)]
  | cons c suf ih =>
    intro h
    have hc := h c List.mem_cons_self
    show (if c = 32 then _ else if (¬ (-1 : Int) = -1 ∧ (-1 : Int) < letters) ∧ P (a + -1) = c then _ else fk P a letters (suf ++ 32 :: rest) cand (-1)) = _
    rw [if_neg hc, if_neg (fun q => q.1.1 rfl)]
    exact ih (fun x m => h x (List.mem_cons_of_mem _ m))
theorem fk_word {P : Int → Int} {a letters : Int} (hl : 0 ≤ letters) {cand : Int} {rest : List Int} : ∀ (suf : List Int) (j : Nat) (m : Nat), letters = j + m → (∀ c ∈ suf, ¬ c = 32) → fk P a letters (suf ++ 32 :: rest) cand j = if suf = fs P (a + j) m then cand else fk P a letters rest (cand + 1) 0 := by
  intro suf; induction suf with
  | nil =>
    intro j m hj _
    show (if (32 : Int) = 32 then (if (j : Int) = letters then cand else fk P a letters rest (cand + 1) 0) else _) = _
    rw [if_pos rfl]
    cases m with
    | zero => rw [if_pos (by omega), if_pos (show ([] : List Int) = fs P (a + (j : Int)) 0 from rfl)]
    | succ m => rw [if_neg (by omega), if_neg (fun q => by cases q)]
  | cons c suf ih =>
    intro j m hj h
    have hc := h c List.mem_cons_self
    have hs := fun x (mm : x ∈ suf) => h x (List.mem_cons_of_mem _ mm)
    show (if c = 32 then _ else if (¬ (j : Int) = -1 ∧ (j : Int) < letters) ∧ P (a + j) = c then fk P a letters (suf ++ 32 :: rest) cand ((j : Int) + 1) else fk P a letters (suf ++ 32 :: rest) cand (-1)) = _
    rw [if_neg hc, fk_dead hl suf hs]
    cases m with
    | zero => rw [if_neg (fun q => by omega), if_neg (fun q => by cases q)]
    | succ m =>
      rw [show fs P (a + (j : Int)) (m + 1) = P (a + j) :: fs P (a + j + 1) m from rfl]
      by_cases e : P (a + j) = c
      · rw [if_pos ⟨by omega, e⟩, show ((j : Int) + 1) = ((j + 1 : Nat) : Int) by omega, ih (j + 1) m (by omega) hs, show a + ((j + 1 : Nat) : Int) = a + j + 1 by omega]
        by_cases e2 : suf = fs P (a + j + 1) m
        · rw [if_pos e2, if_pos (show c :: suf = P (a + j) :: fs P (a + j + 1) m by rw [e, ← e2])]
        · rw [if_neg e2, if_neg (fun q => e2 (List.cons.inj q).2)]
      · rw [if_neg (fun q => e q.2), if_neg (fun q => e (List.cons.inj q).1.symm)]
def cat32 : List (List Int) → List Int
  | [] => []
  | w :: ws => w ++ 32 :: cat32 ws
theorem fk_all {P : Int → Int} {a letters : Int} (hl : 0 ≤ letters) : ∀ (ws : List (List Int)) (cand : Int), (∀ w ∈ ws, ∀ c ∈ w, ¬ c = 32) → fk P a letters (cat32 ws) cand 0 = kx ws (fs P a letters.toNat) cand := by
  intro ws; induction ws with
  | nil => intro cand _; rfl
  | cons w ws ih =>
    intro cand h
    show fk P a letters (w ++ 32 :: cat32 ws) cand ((0 : Nat) : Int) = if w = fs P a letters.toNat then cand else kx ws (fs P a letters.toNat) (cand + 1)
    rw [fk_word hl w 0 letters.toNat (by omega) (h w List.mem_cons_self), show a + ((0 : Nat) : Int) = a by omega, ih (cand + 1) (fun x m => h x (List.mem_cons_of_mem _ m))]
theorem st0_w : st0 = cat32 CKW ∧ (∀ w ∈ CKW, ∀ c ∈ w, ¬ c = 32) := by decide +kernel
theorem st1_w : st1 = 32 :: cat32 RKW ∧ (∀ w ∈ RKW, ∀ c ∈ w, ¬ c = 32) := by decide +kernel
theorem st_b : ∀ c ∈ st0, 0 ≤ c ∧ c ≤ 127 := by decide +kernel
theorem lst0 : strL 900001 = 123 := by decide +kernel
theorem lst1 : strL 900002 = 124 := by decide +kernel
theorem x_len0 {X : Int → Int} {XL : Int} {d : Nat} {h : Mem} {Q : RetP} (hd : 5 ≤ d) (hq : Q (some (vI 123)) h) : WP X XL d 1005 [vR 900001] h Q := by
  obtain ⟨e, rfl⟩ : ∃ e, d = e + 1 := ⟨d - 1, by omega⟩
  rw [← lst0] at hq
  exact ⟨by omega, Or.inl rfl, hq⟩
theorem x_len1 {X : Int → Int} {XL : Int} {d : Nat} {h : Mem} {Q : RetP} (hd : 5 ≤ d) (hq : Q (some (vI 124)) h) : WP X XL d 1005 [vR 900002] h Q := by
  obtain ⟨e, rfl⟩ : ∃ e, d = e + 1 := ⟨d - 1, by omega⟩
  rw [← lst1] at hq
  exact ⟨by omega, Or.inr rfl, hq⟩
theorem x_char0 {X : Int → Int} {XL : Int} {d : Nat} {h : Mem} {Q : RetP} {i c : Int} (hd : 5 ≤ d) (h0 : 0 ≤ i) (h1 : i < 123) (hc : strC 900001 i = c) (hq : Q (some (vI c)) h) : WP X XL d 1006 [vR 900001, vI i] h Q := by
  obtain ⟨e, rfl⟩ : ∃ e, d = e + 1 := ⟨d - 1, by omega⟩
  rw [← hc] at hq
  exact ⟨by omega, ⟨Or.inl rfl, h0, by rw [lst0]; exact h1⟩, hq⟩
theorem x_char1 {X : Int → Int} {XL : Int} {d : Nat} {h : Mem} {Q : RetP} {i c : Int} (hd : 5 ≤ d) (h0 : 0 ≤ i) (h1 : i < 124) (hc : strC 900002 i = c) (hq : Q (some (vI c)) h) : WP X XL d 1006 [vR 900002, vI i] h Q := by
  obtain ⟨e, rfl⟩ : ∃ e, d = e + 1 := ⟨d - 1, by omega⟩
  rw [← hc] at hq
  exact ⟨by omega, ⟨Or.inr rfl, h0, by rw [lst1]; exact h1⟩, hq⟩
set_option maxHeartbeats 4000000 in
theorem w_findKeyword {X : Int → Int} {XL : Int} {d : Nat} {h : Mem} {Q : RetP} {P : Int → Int} {n a lts : Int} (hd : 6 ≤ d) (hM : TxM h P n) (ha : 0 ≤ a) (hl : 0 ≤ lts) (hal : a + lts ≤ n) (hq : Q (some (vI (kx CKW (fs P a lts.toNat) 0))) h) : WP X XL d 64 [vR 10, vI a, vI lts] h Q := by
  obtain ⟨⟨k10, r5, k11, l11⟩, ⟨r8, k12, l12⟩, ⟨r9, k13, l13⟩, ⟨r10, k14, l14⟩, e6, hn, hP⟩ := id hM
  have loop : ∀ (cs : List Int) (cand al i : Int) (w6 : Option MV), 0 ≤ i → cs = st0.drop i.toNat → i + cs.length = 123 → -1 ≤ al ∧ al ≤ lts → 0 ≤ cand ∧ cand ≤ i → fk P a lts cs cand al = kx CKW (fs P a lts.toNat) 0 → Ex (WP X XL (d - 1)) KX5_findKeyword h.1 Q 8 [some (vR 10), some (vI a), some (vI lts), some (vI cand), some (vI al), some (vI i), w6] [] h := by
    intro cs; induction cs with
    | nil =>
      intro cand al i w6 h0 hc hi hal2 hcd he
      rw [← he, show fk P a lts [] cand al = -1 from rfl] at hq
      have hi2 : i = 123 := by have : i + ((0 : Nat) : Int) = 123 := hi; omega
      (repeat' (first | (exact hq) | (refine x_len0 (by omega) ?_) | (refine Ex_step ?_; conv => whnf) | (refine ⟨?_, trivial⟩) | (refine (show den _ _ _ _ _ _ _ _ from ?_); conv => whnf) | (refine ⟨fun c => False.elim (by omega), fun c => ?_⟩) | (refine ⟨fun c => ?_, fun c => False.elim (by omega)⟩) | (refine ⟨by (first | assumption | rfl | (exact Nat.le_of_ble_eq_true rfl) | (exact ⟨fun h01 => absurd h01 (by decide), by first | rfl | assumption⟩) | (exact ⟨fun _ => by decide, by first | rfl | assumption⟩) | (exact ⟨by assumption, by omega, by omega⟩) | (unfold inI; omega) | omega), ?_⟩; conv => whnf) | (refine ⟨fun c => ?_, fun c => ?_⟩) | (intro c) | fail))
    | cons c cs ih =>
      intro cand al i w6 h0 hc hi hal2 hcd he
      have hi2 : i + ((cs.length + 1 : Nat) : Int) = 123 := hi
      have hdr : cs = st0.drop (i + 1).toNat := by
        rw [show (i + 1).toNat = i.toNat + 1 by omega, ← List.drop_drop, ← hc]
        rfl
      have hch : strC 900001 i = c := by
        show st0.getD i.toNat 0 = c
        rw [List.getD_eq_getElem?_getD, ← List.head?_drop, ← hc]
        rfl
      have ih2 := fun cand al w6 a1 a2 a3 => ih cand al (i + 1) w6 (by omega) hdr (by omega) a1 a2 a3
      rw [show fk P a lts (c :: cs) cand al = (if c = 32 then (if al = lts then cand else fk P a lts cs (cand + 1) 0) else if (¬ al = -1 ∧ al < lts) ∧ P (a + al) = c then fk P a lts cs cand (al + 1) else fk P a lts cs cand (-1)) from rfl] at he
      by_cases c32 : c = 32
      · rw [if_pos c32] at he
        by_cases eal : al = lts
        · rw [if_pos eal] at he
          rw [← he] at hq
          (repeat' (first | (exact hq) | (refine x_len0 (by omega) ?_) | (refine x_char0 (by omega) (by omega) (by omega) hch ?_) | (refine Ex_step ?_; conv => whnf) | (refine ⟨?_, trivial⟩) | (refine (show den _ _ _ _ _ _ _ _ from ?_); conv => whnf) | (refine ⟨fun c => False.elim (by omega), fun c => ?_⟩) | (refine ⟨fun c => ?_, fun c => False.elim (by omega)⟩) | (refine ⟨by (first | assumption | rfl | (exact Nat.le_of_ble_eq_true rfl) | (exact ⟨fun h01 => absurd h01 (by decide), by first | rfl | assumption⟩) | (exact ⟨fun _ => by decide, by first | rfl | assumption⟩) | (exact ⟨by assumption, by omega, by omega⟩) | (unfold inI; omega) | omega), ?_⟩; conv => whnf) | (refine ⟨fun c => ?_, fun c => ?_⟩) | (intro c) | fail))
        · rw [if_neg eal] at he
          have n := fun w6 => ih2 (cand + 1) 0 w6 (by omega) (by omega) he
          refine Ex_step ?_; conv => whnf
          (repeat' (first | (exact n _) | (refine x_len0 (by omega) ?_) | (refine x_char0 (by omega) (by omega) (by omega) hch ?_) | (refine Ex_step ?_; conv => whnf) | (refine ⟨?_, trivial⟩) | (refine (show den _ _ _ _ _ _ _ _ from ?_); conv => whnf) | (refine ⟨fun c => False.elim (by omega), fun c => ?_⟩) | (refine ⟨fun c => ?_, fun c => False.elim (by omega)⟩) | (refine ⟨by (first | assumption | rfl | (exact Nat.le_of_ble_eq_true rfl) | (exact ⟨fun h01 => absurd h01 (by decide), by first | rfl | assumption⟩) | (exact ⟨fun _ => by decide, by first | rfl | assumption⟩) | (exact ⟨by assumption, by omega, by omega⟩) | (unfold inI; omega) | omega), ?_⟩; conv => whnf) | (refine ⟨fun c => ?_, fun c => ?_⟩) | (intro c) | fail))
      · rw [if_neg c32] at he
        by_cases hm : (¬ al = -1 ∧ al < lts) ∧ P (a + al) = c
        · rw [if_pos hm] at he
          have hp := hP (a + al) (by omega) (by omega)
          have hm2 := hm.2
          have hpc : gG h 11 (a + al) = c := hp.1.trans hm2
          have n := fun w6 => ih2 cand (al + 1) w6 (by omega) (by omega) he
          refine Ex_step ?_; conv => whnf
          (repeat' (first | (exact n _) | (refine x_len0 (by omega) ?_) | (refine x_char0 (by omega) (by omega) (by omega) hch ?_) | (rw [r5]) | (rw [hpc]) | (refine ⟨⟨k11, by omega, Int.lt_of_lt_of_le (by omega : _ < (900 : Int)) (Int.le_of_eq l11.symm)⟩, ?_⟩; conv => whnf) | (refine Ex_step ?_; conv => whnf) | (refine ⟨?_, trivial⟩) | (refine (show den _ _ _ _ _ _ _ _ from ?_); conv => whnf) | (refine ⟨fun c => False.elim (by omega), fun c => ?_⟩) | (refine ⟨fun c => ?_, fun c => False.elim (by omega)⟩) | (refine ⟨by (first | assumption | rfl | (exact Nat.le_of_ble_eq_true rfl) | (exact ⟨fun h01 => absurd h01 (by decide), by first | rfl | assumption⟩) | (exact ⟨fun _ => by decide, by first | rfl | assumption⟩) | (exact ⟨by assumption, by omega, by omega⟩) | (unfold inI; omega) | omega), ?_⟩; conv => whnf) | (refine ⟨fun c => ?_, fun c => ?_⟩) | (intro c) | fail))
        · rw [if_neg hm] at he
          have n := fun w6 => ih2 cand (-1) w6 (by omega) (by omega) he
          by_cases hx : ¬ al = -1 ∧ al < lts
          · have hp := hP (a + al) (by omega) (by omega)
            have hp1 := hp.1
            have hm2 : ¬ P (a + al) = c := fun q => hm ⟨hx, q⟩
            refine Ex_step ?_; conv => whnf
            (repeat' (first | (exact n _) | (refine x_len0 (by omega) ?_) | (refine x_char0 (by omega) (by omega) (by omega) hch ?_) | (rw [r5]) | (rw [hp1]) | (refine ⟨⟨k11, by omega, Int.lt_of_lt_of_le (by omega : _ < (900 : Int)) (Int.le_of_eq l11.symm)⟩, ?_⟩; conv => whnf) | (refine Ex_step ?_; conv => whnf) | (refine ⟨?_, trivial⟩) | (refine (show den _ _ _ _ _ _ _ _ from ?_); conv => whnf) | (refine ⟨fun c => False.elim (by omega), fun c => ?_⟩) | (refine ⟨fun c => ?_, fun c => False.elim (by omega)⟩) | (refine ⟨by (first | assumption | rfl | (exact Nat.le_of_ble_eq_true rfl) | (exact ⟨fun h01 => absurd h01 (by decide), by first | rfl | assumption⟩) | (exact ⟨fun _ => by decide, by first | rfl | assumption⟩) | (exact ⟨by assumption, by omega, by omega⟩) | (unfold inI; omega) | omega), ?_⟩; conv => whnf) | (refine ⟨fun c => ?_, fun c => ?_⟩) | (intro c) | fail))
          · refine Ex_step ?_; conv => whnf
            (repeat' (first | (exact n _) | (refine x_len0 (by omega) ?_) | (refine x_char0 (by omega) (by omega) (by omega) hch ?_) | (refine Ex_step ?_; conv => whnf) | (refine ⟨?_, trivial⟩) | (refine (show den _ _ _ _ _ _ _ _ from ?_); conv => whnf) | (refine ⟨fun c => False.elim (by omega), fun c => ?_⟩) | (refine ⟨fun c => ?_, fun c => False.elim (by omega)⟩) | (refine ⟨by (first | assumption | rfl | (exact Nat.le_of_ble_eq_true rfl) | (exact ⟨fun h01 => absurd h01 (by decide), by first | rfl | assumption⟩) | (exact ⟨fun _ => by decide, by first | rfl | assumption⟩) | (exact ⟨by assumption, by omega, by omega⟩) | (unfold inI; omega) | omega), ?_⟩; conv => whnf) | (refine ⟨fun c => ?_, fun c => ?_⟩) | (intro c) | fail))
  have l0 := loop st0 0 0 0 none (by omega) rfl (by decide +kernel) (by omega) (by omega) (by rw [st0_w.1]; exact fk_all hl CKW 0 st0_w.2)
  refine eX5_findKeyword (by omega) ?_
  (repeat' (first | (exact l0) | (refine Ex_step ?_; conv => whnf) | (refine ⟨?_, trivial⟩) | (refine (show den _ _ _ _ _ _ _ _ from ?_); conv => whnf) | (refine ⟨fun c => False.elim (by omega), fun c => ?_⟩) | (refine ⟨fun c => ?_, fun c => False.elim (by omega)⟩) | (refine ⟨by (first | assumption | rfl | (exact Nat.le_of_ble_eq_true rfl) | (exact ⟨fun h01 => absurd h01 (by decide), by first | rfl | assumption⟩) | (exact ⟨fun _ => by decide, by first | rfl | assumption⟩) | (exact ⟨by assumption, by omega, by omega⟩) | (unfold inI; omega) | omega), ?_⟩; conv => whnf) | (refine ⟨fun c => ?_, fun c => ?_⟩) | (intro c) | fail))
