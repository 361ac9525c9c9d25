/-! LEVEL 2: which doubt it was -/
def okTw (A : Int → Int) (T : Int → Int → Int) (t : Int) (i : Int) : Bool := decide ((0 ≤ T t (2 * i) ∧ T t (2 * i) ≤ 5) ∧ 0 ≤ T t (2 * i + 1) ∧ T t (2 * i + 1) ≤ A 0)
def wsZ (A M : Int → Int) (T : Int → Int → Int) (p t n : Int) : Int := if ¬ ((0 ≤ p ∧ p < A 1) ∧ (0 ≤ t ∧ t < 4) ∧ 0 ≤ n ∧ n ≤ 20) then 1 else if M t = -1 then 2 else if M t < 2 * n then 3 else if n ≤ stN n (okTw A T t) 0 then 0 else 5
theorem ws_1 {A M : Int → Int} {T : Int → Int → Int} {p t n : Int} (h : ¬ ((0 ≤ p ∧ p < A 1) ∧ (0 ≤ t ∧ t < 4) ∧ 0 ≤ n ∧ n ≤ 20)) : wsZ A M T p t n = 1 := if_pos h
theorem ws_2 {A M : Int → Int} {T : Int → Int → Int} {p t n : Int} (h : (0 ≤ p ∧ p < A 1) ∧ (0 ≤ t ∧ t < 4) ∧ 0 ≤ n ∧ n ≤ 20) (h2 : M t = -1) : wsZ A M T p t n = 2 := by unfold wsZ; rw [if_neg (fun q => q h), if_pos h2]
theorem ws_3 {A M : Int → Int} {T : Int → Int → Int} {p t n : Int} (h : (0 ≤ p ∧ p < A 1) ∧ (0 ≤ t ∧ t < 4) ∧ 0 ≤ n ∧ n ≤ 20) (h2 : ¬ M t = -1) (h3 : M t < 2 * n) : wsZ A M T p t n = 3 := by unfold wsZ; rw [if_neg (fun q => q h), if_neg h2, if_pos h3]
theorem ws_5 {A M : Int → Int} {T : Int → Int → Int} {p t n : Int} (h : (0 ≤ p ∧ p < A 1) ∧ (0 ≤ t ∧ t < 4) ∧ 0 ≤ n ∧ n ≤ 20) (h2 : ¬ M t = -1) (h3 : ¬ M t < 2 * n) (h4 : ¬ n ≤ stN n (okTw A T t) 0) : wsZ A M T p t n = 5 := by unfold wsZ; rw [if_neg (fun q => q h), if_neg h2, if_neg h3, if_neg h4]
theorem ws_0 {A M : Int → Int} {T : Int → Int → Int} {p t n : Int} (h : (0 ≤ p ∧ p < A 1) ∧ (0 ≤ t ∧ t < 4) ∧ 0 ≤ n ∧ n ≤ 20) (h2 : ¬ M t = -1) (h3 : ¬ M t < 2 * n) (h4 : n ≤ stN n (okTw A T t) 0) : wsZ A M T p t n = 0 := by unfold wsZ; rw [if_neg (fun q => q h), if_neg h2, if_neg h3, if_pos h4]
theorem ws_b {A M : Int → Int} {T : Int → Int → Int} {p t n : Int} : (wsZ A M T p t n = 0 → ((0 ≤ p ∧ p < A 1) ∧ (0 ≤ t ∧ t < 4) ∧ 0 ≤ n ∧ n ≤ 20) ∧ ¬ M t = -1 ∧ 2 * n ≤ M t ∧ n ≤ stN n (okTw A T t) 0) ∧ 0 ≤ wsZ A M T p t n := by
  unfold wsZ
  split
  · omega
  · rename_i c
    split
    · omega
    · split
      · omega
      · split
        · refine ⟨fun _ => ⟨Decidable.of_not_not c, by omega, by omega, by assumption⟩, by omega⟩
        · omega
set_option maxHeartbeats 4000000 in
theorem w_twosStatus {X : Int → Int} {XL : Int} {d : Nat} {h : Mem} {Q : RetP} {S M : Int → Int} {T : Int → Int → Int} {K : Int} {A : Int → Int} {v : Nat} {p t n : Int} (hd : 2 ≤ d) (hC : Cls K v h A) (hT2 : TC h S M T) (hB : TB S M) (hq : Q (some (vI (wsZ A M T p t n))) h) : WP X XL d 186 [vR 0, vI p, vI t, vI n] h Q := by
  obtain ⟨⟨k00, r7, hT⟩, hV⟩ := id hC; have kn := hV.1.1; have hA := hV.2.2
  obtain ⟨⟨-, r3, kk1, l1⟩, hh⟩ := id hT2
  have g0 := hV.2.1.1.1
  refine eX9_twosStatus (by omega) ?_
  by_cases ok : (0 ≤ p ∧ p < A 1) ∧ (0 ≤ t ∧ t < 4) ∧ 0 ≤ n ∧ n ≤ 20
  · have ht := ok.2.1
    have hBt := hB t ht.1 ht.2
    obtain ⟨e1, e2, e3, e4, e5, e6, e7, e8⟩ := hh t ht.1 ht.2
    by_cases h2 : M t = -1
    · rw [ws_2 ok h2] at hq
      (repeat' (first | (rw [r7]) | (rw [r3]) | (rw [e1]) | (refine w_hasPerson (by omega) hV (fun c => ?_) (fun c => False.elim (by omega))) | (refine w_hasPerson (by omega) hV (fun c => False.elim (by omega)) (fun c => ?_)) | (refine w_hasPerson (by omega) hV (fun c => ?_) (fun c => ?_)) | (refine w_within (by omega) (fun c => ?_) (fun c => False.elim (by omega))) | (refine w_within (by omega) (fun c => False.elim (by omega)) (fun c => ?_)) | (refine w_within (by omega) (fun c => ?_) (fun c => ?_)) | (refine w_isTray (by omega) (fun c => ?_) (fun c => absurd ht c)) | (refine w_tMissing (by omega) e2 (fun c => ?_) (fun c => absurd (by omega) c)) | (refine Ex_step ?_; conv => whnf) | (refine ⟨?_, trivial⟩) | (refine (show den _ _ _ _ _ _ _ _ from ?_); conv => whnf) | (refine ⟨by (first | assumption | rfl | (exact Nat.le_of_ble_eq_true rfl) | (exact ⟨fun h01 => absurd h01 (by decide), by first | rfl | assumption⟩) | (exact ⟨fun _ => by decide, by first | rfl | assumption⟩) | (exact ⟨by assumption, by omega, by omega⟩) | (unfold inI; omega) | omega), ?_⟩; conv => whnf) | (refine ⟨fun c => False.elim (by omega), fun c => ?_⟩) | (refine ⟨fun c => ?_, fun c => False.elim (by omega)⟩) | (refine ⟨fun c => ?_, fun c => ?_⟩) | (intro c) | fail))
      exact hq
    · by_cases h3 : M t < 2 * n
      · rw [ws_3 ok h2 h3] at hq
        (repeat' (first | (rw [r7]) | (rw [r3]) | (rw [e1]) | (refine w_hasPerson (by omega) hV (fun c => ?_) (fun c => False.elim (by omega))) | (refine w_hasPerson (by omega) hV (fun c => False.elim (by omega)) (fun c => ?_)) | (refine w_hasPerson (by omega) hV (fun c => ?_) (fun c => ?_)) | (refine w_within (by omega) (fun c => ?_) (fun c => False.elim (by omega))) | (refine w_within (by omega) (fun c => False.elim (by omega)) (fun c => ?_)) | (refine w_within (by omega) (fun c => ?_) (fun c => ?_)) | (refine w_isTray (by omega) (fun c => ?_) (fun c => absurd ht c)) | (refine w_tMissing (by omega) e2 (fun c => absurd (by omega) h2) (fun c => ?_)) | (refine w_tRow (by omega) e2 ⟨by omega, by omega⟩ ⟨by omega, by omega⟩ (fun c => absurd h3 (by omega)) (fun c => ?_)) | (refine Ex_step ?_; conv => whnf) | (refine ⟨?_, trivial⟩) | (refine (show den _ _ _ _ _ _ _ _ from ?_); conv => whnf) | (refine ⟨by (first | assumption | rfl | (exact Nat.le_of_ble_eq_true rfl) | (exact ⟨fun h01 => absurd h01 (by decide), by first | rfl | assumption⟩) | (exact ⟨fun _ => by decide, by first | rfl | assumption⟩) | (exact ⟨by assumption, by omega, by omega⟩) | (unfold inI; omega) | omega), ?_⟩; conv => whnf) | (refine ⟨fun c => False.elim (by omega), fun c => ?_⟩) | (refine ⟨fun c => ?_, fun c => False.elim (by omega)⟩) | (refine ⟨fun c => ?_, fun c => ?_⟩) | (intro c) | fail))
        exact hq
      · have loop : ∀ (k : Nat) (i : Int), (n - i).toNat = k → 0 ≤ i → i ≤ n → stN n (okTw A T t) 0 = stN n (okTw A T t) i → Ex (WP X XL (d - 1)) KX9_twosStatus h.1 Q 67 [some (vR 0), some (vI p), some (vI t), some (vI n), some (vR (tO t)), some (vI i)] [] h := by
          intro k; induction k with
          | zero =>
            intro i hk h0 h1 he
            rw [stN_end (a := i) (Or.inl (by omega))] at he
            rw [ws_0 ok h2 h3 (by omega)] at hq
            (repeat' (first | (refine Ex_step ?_; conv => whnf) | (refine ⟨?_, trivial⟩) | (refine (show den _ _ _ _ _ _ _ _ from ?_); conv => whnf) | (refine ⟨by (first | assumption | rfl | (exact Nat.le_of_ble_eq_true rfl) | (exact ⟨fun h01 => absurd h01 (by decide), by first | rfl | assumption⟩) | (exact ⟨fun _ => by decide, by first | rfl | assumption⟩) | (exact ⟨by assumption, by omega, by omega⟩) | (unfold inI; omega) | omega), ?_⟩; conv => whnf) | (refine ⟨fun c => False.elim (by omega), fun c => ?_⟩) | (refine ⟨fun c => ?_, fun c => False.elim (by omega)⟩) | (refine ⟨fun c => ?_, fun c => ?_⟩) | (intro c) | fail))
            exact hq
          | succ k ih =>
            intro i hk h0 h1 he
            have x1 := e8 (2 * i) (by omega) (by omega)
            have x2 := e8 (2 * i + 1) (by omega) (by omega)
            by_cases hok : okTw A T t i = true
            · have ih2 := ih (i + 1) (by omega) (by omega) (by omega) (he.trans (stN_go (by omega) hok))
              have hok := of_decide_eq_true hok
              refine Ex_step ?_; conv => whnf
              (repeat' (first | (exact ih2) | (rw [r7]) | (rw [e3]) | (rw [x1]) | (rw [x2]) | (rw [g0]) | (refine w_within (by omega) (fun c => ?_) (fun c => absurd (by omega) c)) | (refine Ex_step ?_; conv => whnf) | (refine ⟨?_, trivial⟩) | (refine (show den _ _ _ _ _ _ _ _ from ?_); conv => whnf) | (refine ⟨by (first | assumption | rfl | (exact Nat.le_of_ble_eq_true rfl) | (exact ⟨fun h01 => absurd h01 (by decide), by first | rfl | assumption⟩) | (exact ⟨fun _ => by decide, by first | rfl | assumption⟩) | (exact ⟨by assumption, by omega, by omega⟩) | (unfold inI; omega) | omega), ?_⟩; conv => whnf) | (refine ⟨fun c => False.elim (by omega), fun c => ?_⟩) | (refine ⟨fun c => ?_, fun c => False.elim (by omega)⟩) | (refine ⟨fun c => ?_, fun c => ?_⟩) | (intro c) | fail))
            · rw [stN_end (a := i) (Or.inr (by simpa using hok))] at he
              have hok : ¬ _ := fun q => hok (decide_eq_true q)
              rw [ws_5 ok h2 h3 (by omega)] at hq
              refine Ex_step ?_; conv => whnf
              (repeat' (first | (rw [r7]) | (rw [e3]) | (rw [x1]) | (rw [x2]) | (rw [g0]) | (refine w_within (by omega) (fun c => ?_) (fun c => False.elim (by omega))) | (refine w_within (by omega) (fun c => False.elim (by omega)) (fun c => ?_)) | (refine w_within (by omega) (fun c => ?_) (fun c => ?_)) | (refine Ex_step ?_; conv => whnf) | (refine ⟨?_, trivial⟩) | (refine (show den _ _ _ _ _ _ _ _ from ?_); conv => whnf) | (refine ⟨by (first | assumption | rfl | (exact Nat.le_of_ble_eq_true rfl) | (exact ⟨fun h01 => absurd h01 (by decide), by first | rfl | assumption⟩) | (exact ⟨fun _ => by decide, by first | rfl | assumption⟩) | (exact ⟨by assumption, by omega, by omega⟩) | (unfold inI; omega) | omega), ?_⟩; conv => whnf) | (refine ⟨fun c => False.elim (by omega), fun c => ?_⟩) | (refine ⟨fun c => ?_, fun c => False.elim (by omega)⟩) | (refine ⟨fun c => ?_, fun c => ?_⟩) | (intro c) | fail))
              all_goals first | (exact hq) | (exfalso; omega)
        have l0 := loop _ 0 rfl (by omega) (by omega) rfl
        (repeat' (first | (exact l0) | (rw [r7]) | (rw [r3]) | (rw [e1]) | (refine w_hasPerson (by omega) hV (fun c => ?_) (fun c => False.elim (by omega))) | (refine w_hasPerson (by omega) hV (fun c => False.elim (by omega)) (fun c => ?_)) | (refine w_hasPerson (by omega) hV (fun c => ?_) (fun c => ?_)) | (refine w_within (by omega) (fun c => ?_) (fun c => False.elim (by omega))) | (refine w_within (by omega) (fun c => False.elim (by omega)) (fun c => ?_)) | (refine w_within (by omega) (fun c => ?_) (fun c => ?_)) | (refine w_isTray (by omega) (fun c => ?_) (fun c => absurd ht c)) | (refine w_tMissing (by omega) e2 (fun c => absurd (by omega) h2) (fun c => ?_)) | (refine w_tRow (by omega) e2 ⟨by omega, by omega⟩ ⟨by omega, by omega⟩ (fun c => ?_) (fun c => absurd (by omega) c)) | (refine Ex_step ?_; conv => whnf) | (refine ⟨?_, trivial⟩) | (refine (show den _ _ _ _ _ _ _ _ from ?_); conv => whnf) | (refine ⟨by (first | assumption | rfl | (exact Nat.le_of_ble_eq_true rfl) | (exact ⟨fun h01 => absurd h01 (by decide), by first | rfl | assumption⟩) | (exact ⟨fun _ => by decide, by first | rfl | assumption⟩) | (exact ⟨by assumption, by omega, by omega⟩) | (unfold inI; omega) | omega), ?_⟩; conv => whnf) | (refine ⟨fun c => False.elim (by omega), fun c => ?_⟩) | (refine ⟨fun c => ?_, fun c => False.elim (by omega)⟩) | (refine ⟨fun c => ?_, fun c => ?_⟩) | (intro c) | fail))
  · rw [ws_1 ok] at hq
    (repeat' (first | (rw [r7]) | (refine w_hasPerson (by omega) hV (fun c => ?_) (fun c => False.elim (by omega))) | (refine w_hasPerson (by omega) hV (fun c => False.elim (by omega)) (fun c => ?_)) | (refine w_hasPerson (by omega) hV (fun c => ?_) (fun c => ?_)) | (refine w_within (by omega) (fun c => ?_) (fun c => False.elim (by omega))) | (refine w_within (by omega) (fun c => False.elim (by omega)) (fun c => ?_)) | (refine w_within (by omega) (fun c => ?_) (fun c => ?_)) | (refine w_isTray (by omega) (fun c => ?_) (fun c => False.elim (by omega))) | (refine w_isTray (by omega) (fun c => False.elim (by omega)) (fun c => ?_)) | (refine w_isTray (by omega) (fun c => ?_) (fun c => ?_)) | (refine Ex_step ?_; conv => whnf) | (refine ⟨?_, trivial⟩) | (refine (show den _ _ _ _ _ _ _ _ from ?_); conv => whnf) | (refine ⟨by (first | assumption | rfl | (exact Nat.le_of_ble_eq_true rfl) | (exact ⟨fun h01 => absurd h01 (by decide), by first | rfl | assumption⟩) | (exact ⟨fun _ => by decide, by first | rfl | assumption⟩) | (exact ⟨by assumption, by omega, by omega⟩) | (unfold inI; omega) | omega), ?_⟩; conv => whnf) | (refine ⟨fun c => False.elim (by omega), fun c => ?_⟩) | (refine ⟨fun c => ?_, fun c => False.elim (by omega)⟩) | (refine ⟨fun c => ?_, fun c => ?_⟩) | (intro c) | fail))
    all_goals first | (exact hq) | (exfalso; omega)
set_option maxHeartbeats 4000000 in
theorem r_wrongSeen {X : Int → Int} {XL : Int} {d : Nat} {h : Mem} {Q : RetP} {S M : Int → Int} {T : Int → Int → Int} {K : Int} {A : Int → Int} {p t n : Int} (hd : 2 ≤ d) (hR : Rr K h A) (hT : TR h S M T) (hB : TB S M) (hq : Q (some (vI (wsZ A M T p t n))) h) : WP X XL d 313 [vR 127, vI p, vI t, vI n] h Q := by
  obtain ⟨⟨kq, r5, r6, r7, k130, l130, k131, l131, k132, l132⟩, hh⟩ := id hT
  obtain ⟨⟨-, r0, kt, lt⟩, eA, -⟩ := id hR
  refine eX10_wrongSeen (by omega) ?_
  by_cases ok : (0 ≤ p ∧ p < A 1) ∧ (0 ≤ t ∧ t < 4) ∧ 0 ≤ n ∧ n ≤ 20
  · have ht := ok.2.1
    have hBt := hB t ht.1 ht.2
    obtain ⟨e1, e2, e3⟩ := hh t ht.1 ht.2
    by_cases h2 : M t = -1
    · rw [ws_2 ok h2] at hq
      (repeat' (first | (rw [r6]) | (rw [e2]) | (refine ⟨⟨k131, by omega, Int.lt_of_lt_of_le (by omega : _ < (4 : Int)) (Int.le_of_eq l131.symm)⟩, ?_⟩; conv => whnf) | (refine r_isPerson (by omega) hR (fun c => ?_) (fun c => False.elim (by omega))) | (refine r_isPerson (by omega) hR (fun c => False.elim (by omega)) (fun c => ?_)) | (refine r_isPerson (by omega) hR (fun c => ?_) (fun c => ?_)) | (refine r_isFrom (by omega) (fun c => ?_) (fun c => False.elim (by omega))) | (refine r_isFrom (by omega) (fun c => False.elim (by omega)) (fun c => ?_)) | (refine r_isFrom (by omega) (fun c => ?_) (fun c => ?_)) | (refine r_isTray (by omega) (fun c => ?_) (fun c => absurd ht c)) | (refine Ex_step ?_; conv => whnf) | (refine ⟨?_, trivial⟩) | (refine (show den _ _ _ _ _ _ _ _ from ?_); conv => whnf) | (refine ⟨by (first | assumption | rfl | (exact Nat.le_of_ble_eq_true rfl) | (exact ⟨fun h01 => absurd h01 (by decide), by first | rfl | assumption | trivial⟩) | (exact ⟨fun _ => by decide, by first | rfl | assumption | trivial⟩) | (exact ⟨kt, by omega, Int.lt_of_lt_of_le (by omega : _ < (3198 : Int)) (Int.le_of_eq lt.symm)⟩) | (unfold inI; omega) | omega), ?_⟩; conv => whnf; try simp (disch := omega) only [r0, gR_sG, g_same, g_ne, eA]) | (refine ⟨fun c => False.elim (by omega), fun c => ?_⟩) | (refine ⟨fun c => ?_, fun c => False.elim (by omega)⟩) | (refine ⟨fun c => ?_, fun c => ?_⟩) | (intro c) | fail))
      exact hq
    · by_cases h3 : M t < 2 * n
      · rw [ws_3 ok h2 h3] at hq
        (repeat' (first | (rw [r6]) | (rw [e2]) | (refine ⟨⟨k131, by omega, Int.lt_of_lt_of_le (by omega : _ < (4 : Int)) (Int.le_of_eq l131.symm)⟩, ?_⟩; conv => whnf) | (refine r_isPerson (by omega) hR (fun c => ?_) (fun c => False.elim (by omega))) | (refine r_isPerson (by omega) hR (fun c => False.elim (by omega)) (fun c => ?_)) | (refine r_isPerson (by omega) hR (fun c => ?_) (fun c => ?_)) | (refine r_isFrom (by omega) (fun c => ?_) (fun c => False.elim (by omega))) | (refine r_isFrom (by omega) (fun c => False.elim (by omega)) (fun c => ?_)) | (refine r_isFrom (by omega) (fun c => ?_) (fun c => ?_)) | (refine r_isTray (by omega) (fun c => ?_) (fun c => absurd ht c)) | (refine Ex_step ?_; conv => whnf) | (refine ⟨?_, trivial⟩) | (refine (show den _ _ _ _ _ _ _ _ from ?_); conv => whnf) | (refine ⟨by (first | assumption | rfl | (exact Nat.le_of_ble_eq_true rfl) | (exact ⟨fun h01 => absurd h01 (by decide), by first | rfl | assumption | trivial⟩) | (exact ⟨fun _ => by decide, by first | rfl | assumption | trivial⟩) | (exact ⟨kt, by omega, Int.lt_of_lt_of_le (by omega : _ < (3198 : Int)) (Int.le_of_eq lt.symm)⟩) | (unfold inI; omega) | omega), ?_⟩; conv => whnf; try simp (disch := omega) only [r0, gR_sG, g_same, g_ne, eA]) | (refine ⟨fun c => False.elim (by omega), fun c => ?_⟩) | (refine ⟨fun c => ?_, fun c => False.elim (by omega)⟩) | (refine ⟨fun c => ?_, fun c => ?_⟩) | (intro c) | fail))
        exact hq
      · have loop : ∀ (k : Nat) (i : Int) (w : Option MV), (n - i).toNat = k → 0 ≤ i → i ≤ n → stN n (okTw A T t) 0 = stN n (okTw A T t) i → Ex (WP X XL (d - 1)) KX10_wrongSeen h.1 Q 58 [some (vR 127), some (vI p), some (vI t), some (vI n), some (vI i), w] [] h := by
          intro k; induction k with
          | zero =>
            intro i w hk h0 h1 he
            rw [stN_end (a := i) (Or.inl (by omega))] at he
            rw [ws_0 ok h2 h3 (by omega)] at hq
            (repeat' (first | (refine Ex_step ?_; conv => whnf) | (refine ⟨?_, trivial⟩) | (refine (show den _ _ _ _ _ _ _ _ from ?_); conv => whnf) | (refine ⟨by (first | assumption | rfl | (exact Nat.le_of_ble_eq_true rfl) | (exact ⟨fun h01 => absurd h01 (by decide), by first | rfl | assumption⟩) | (exact ⟨fun _ => by decide, by first | rfl | assumption⟩) | (exact ⟨by assumption, by omega, by omega⟩) | (unfold inI; omega) | omega), ?_⟩; conv => whnf) | (refine ⟨fun c => False.elim (by omega), fun c => ?_⟩) | (refine ⟨fun c => ?_, fun c => False.elim (by omega)⟩) | (refine ⟨fun c => ?_, fun c => ?_⟩) | (intro c) | fail))
            exact hq
          | succ k ih =>
            intro i w hk h0 h1 he
            have x1 := e3 (2 * i) (by omega) (by omega)
            have x2 := e3 (2 * i + 1) (by omega) (by omega)
            rw [← Int.add_assoc] at x2
            by_cases hok : okTw A T t i = true
            · have ih2 := fun w => ih (i + 1) w (by omega) (by omega) (by omega) (he.trans (stN_go (by omega) hok))
              have hok := of_decide_eq_true hok
              refine Ex_step ?_; conv => whnf
              (repeat' (first | (refine ih2 _) | (rw [r7]) | (rw [x1]) | (rw [x2]) | (refine r_isFrom (by omega) (fun c => ?_) (fun c => absurd (by omega) c)) | (refine ⟨⟨k132, by omega, Int.lt_of_lt_of_le (by omega : _ < (240 : Int)) (Int.le_of_eq l132.symm)⟩, ?_⟩; conv => whnf) | (refine Ex_step ?_; conv => whnf) | (refine ⟨?_, trivial⟩) | (refine (show den _ _ _ _ _ _ _ _ from ?_); conv => whnf) | (refine ⟨by (first | assumption | rfl | (exact Nat.le_of_ble_eq_true rfl) | (exact ⟨fun h01 => absurd h01 (by decide), by first | rfl | assumption | trivial⟩) | (exact ⟨fun _ => by decide, by first | rfl | assumption | trivial⟩) | (exact ⟨kt, by omega, Int.lt_of_lt_of_le (by omega : _ < (3198 : Int)) (Int.le_of_eq lt.symm)⟩) | (unfold inI; omega) | omega), ?_⟩; conv => whnf; try simp (disch := omega) only [r0, gR_sG, g_same, g_ne, eA]) | (refine ⟨fun c => False.elim (by omega), fun c => ?_⟩) | (refine ⟨fun c => ?_, fun c => False.elim (by omega)⟩) | (refine ⟨fun c => ?_, fun c => ?_⟩) | (intro c) | fail))
            · rw [stN_end (a := i) (Or.inr (by simpa using hok))] at he
              have hok : ¬ _ := fun q => hok (decide_eq_true q)
              rw [ws_5 ok h2 h3 (by omega)] at hq
              refine Ex_step ?_; conv => whnf
              (repeat' (first | (rw [r7]) | (rw [x1]) | (rw [x2]) | (refine r_isFrom (by omega) (fun c => ?_) (fun c => False.elim (by omega))) | (refine r_isFrom (by omega) (fun c => False.elim (by omega)) (fun c => ?_)) | (refine r_isFrom (by omega) (fun c => ?_) (fun c => ?_)) | (refine ⟨⟨k132, by omega, Int.lt_of_lt_of_le (by omega : _ < (240 : Int)) (Int.le_of_eq l132.symm)⟩, ?_⟩; conv => whnf) | (refine Ex_step ?_; conv => whnf) | (refine ⟨?_, trivial⟩) | (refine (show den _ _ _ _ _ _ _ _ from ?_); conv => whnf) | (refine ⟨by (first | assumption | rfl | (exact Nat.le_of_ble_eq_true rfl) | (exact ⟨fun h01 => absurd h01 (by decide), by first | rfl | assumption | trivial⟩) | (exact ⟨fun _ => by decide, by first | rfl | assumption | trivial⟩) | (exact ⟨kt, by omega, Int.lt_of_lt_of_le (by omega : _ < (3198 : Int)) (Int.le_of_eq lt.symm)⟩) | (unfold inI; omega) | omega), ?_⟩; conv => whnf; try simp (disch := omega) only [r0, gR_sG, g_same, g_ne, eA]) | (refine ⟨fun c => False.elim (by omega), fun c => ?_⟩) | (refine ⟨fun c => ?_, fun c => False.elim (by omega)⟩) | (refine ⟨fun c => ?_, fun c => ?_⟩) | (intro c) | fail))
              all_goals first | (exact hq) | (exfalso; omega)
        have l0 := loop _ 0 none rfl (by omega) (by omega) rfl
        (repeat' (first | (exact l0) | (rw [r6]) | (rw [e2]) | (refine ⟨⟨k131, by omega, Int.lt_of_lt_of_le (by omega : _ < (4 : Int)) (Int.le_of_eq l131.symm)⟩, ?_⟩; conv => whnf) | (refine r_isPerson (by omega) hR (fun c => ?_) (fun c => False.elim (by omega))) | (refine r_isPerson (by omega) hR (fun c => False.elim (by omega)) (fun c => ?_)) | (refine r_isPerson (by omega) hR (fun c => ?_) (fun c => ?_)) | (refine r_isFrom (by omega) (fun c => ?_) (fun c => False.elim (by omega))) | (refine r_isFrom (by omega) (fun c => False.elim (by omega)) (fun c => ?_)) | (refine r_isFrom (by omega) (fun c => ?_) (fun c => ?_)) | (refine r_isTray (by omega) (fun c => ?_) (fun c => absurd ht c)) | (refine Ex_step ?_; conv => whnf) | (refine ⟨?_, trivial⟩) | (refine (show den _ _ _ _ _ _ _ _ from ?_); conv => whnf) | (refine ⟨by (first | assumption | rfl | (exact Nat.le_of_ble_eq_true rfl) | (exact ⟨fun h01 => absurd h01 (by decide), by first | rfl | assumption | trivial⟩) | (exact ⟨fun _ => by decide, by first | rfl | assumption | trivial⟩) | (exact ⟨kt, by omega, Int.lt_of_lt_of_le (by omega : _ < (3198 : Int)) (Int.le_of_eq lt.symm)⟩) | (unfold inI; omega) | omega), ?_⟩; conv => whnf; try simp (disch := omega) only [r0, gR_sG, g_same, g_ne, eA]) | (refine ⟨fun c => False.elim (by omega), fun c => ?_⟩) | (refine ⟨fun c => ?_, fun c => False.elim (by omega)⟩) | (refine ⟨fun c => ?_, fun c => ?_⟩) | (intro c) | fail))
  · rw [ws_1 ok] at hq
    (repeat' (first | (refine r_isPerson (by omega) hR (fun c => ?_) (fun c => False.elim (by omega))) | (refine r_isPerson (by omega) hR (fun c => False.elim (by omega)) (fun c => ?_)) | (refine r_isPerson (by omega) hR (fun c => ?_) (fun c => ?_)) | (refine r_isFrom (by omega) (fun c => ?_) (fun c => False.elim (by omega))) | (refine r_isFrom (by omega) (fun c => False.elim (by omega)) (fun c => ?_)) | (refine r_isFrom (by omega) (fun c => ?_) (fun c => ?_)) | (refine r_isTray (by omega) (fun c => ?_) (fun c => False.elim (by omega))) | (refine r_isTray (by omega) (fun c => False.elim (by omega)) (fun c => ?_)) | (refine r_isTray (by omega) (fun c => ?_) (fun c => ?_)) | (refine Ex_step ?_; conv => whnf) | (refine ⟨?_, trivial⟩) | (refine (show den _ _ _ _ _ _ _ _ from ?_); conv => whnf) | (refine ⟨by (first | assumption | rfl | (exact Nat.le_of_ble_eq_true rfl) | (exact ⟨fun h01 => absurd h01 (by decide), by first | rfl | assumption | trivial⟩) | (exact ⟨fun _ => by decide, by first | rfl | assumption | trivial⟩) | (exact ⟨kt, by omega, Int.lt_of_lt_of_le (by omega : _ < (3198 : Int)) (Int.le_of_eq lt.symm)⟩) | (unfold inI; omega) | omega), ?_⟩; conv => whnf; try simp (disch := omega) only [r0, gR_sG, g_same, g_ne, eA]) | (refine ⟨fun c => False.elim (by omega), fun c => ?_⟩) | (refine ⟨fun c => ?_, fun c => False.elim (by omega)⟩) | (refine ⟨fun c => ?_, fun c => ?_⟩) | (intro c) | fail))
    all_goals first | (exact hq) | (exfalso; omega)
-- the doubts that fit
def okF (A : Int → Int) (T : Int → Int → Int) (p t db : Int) (i : Int) : Bool := decide (rch A p db (T t (2 * i)) = T t (2 * i + 1))
def fitB (A : Int → Int) (T : Int → Int → Int) (p t n : Int) (db : Int) : Bool := decide (n ≤ stN n (okF A T p t db) 0)
def dsS (A : Int → Int) (T : Int → Int → Int) (p t n : Int) : Int := foN 10 (stF (fitB A T p t n)) 0 0
theorem l2i_tab : ∀ n, n ≤ 5 → l2iZ (n : Nat) = (n : Nat) := by decide +kernel
theorem l2i_5 {z : Int} (h0 : 0 ≤ z) (h1 : z ≤ 5) : l2iZ z = z := by
  obtain ⟨n, rfl⟩ := Int.eq_ofNat_of_zero_le h0
  exact l2i_tab n (by omega)
theorem tw_at {A : Int → Int} {T : Int → Int → Int} {t n i : Int} (h : n ≤ stN n (okTw A T t) 0) (h0 : 0 ≤ i) (h1 : i < n) : (0 ≤ T t (2 * i) ∧ T t (2 * i) ≤ 5) ∧ 0 ≤ T t (2 * i + 1) ∧ T t (2 * i + 1) ≤ A 0 := of_decide_eq_true ((stN_all _ 0 rfl).mp h i h0 h1)
set_option maxHeartbeats 4000000 in
theorem w_doubtsThatFit {X : Int → Int} {XL : Int} {d : Nat} {h : Mem} {Q : RetP} {S M : Int → Int} {T : Int → Int → Int} {K : Int} {A : Int → Int} {v : Nat} {p t n : Int} (hd : 4 ≤ d) (hC : Cls K v h A) (hT2 : TC h S M T) (hB : TB S M) (hp0 : 0 ≤ p) (hp1 : p < A 1) (ht : 0 ≤ t ∧ t < 4) (hn : 0 ≤ n ∧ n ≤ 20) (hm : 2 * n ≤ M t) (hw : n ≤ stN n (okTw A T t) 0) (hq : Q (some (vI (dsS A T p t n))) h) : WP X XL d 187 [vR 0, vI p, vI t, vI n] h Q := by
  obtain ⟨⟨k00, r7, hT⟩, hV⟩ := id hC; have kn := hV.1.1; have hA := hV.2.2
  have hBt := hB t ht.1 ht.2
  obtain ⟨⟨-, r3, kk1, l1⟩, hh⟩ := id hT2
  obtain ⟨e1, e2, e3, e4, e5, e6, e7, e8⟩ := hh t ht.1 ht.2
  have inner : ∀ (set db : Int), 0 ≤ db → db ≤ 9 → (∀ b w, (b = 1 ∧ fitB A T p t n db = true) ∨ (b = 0 ∧ fitB A T p t n db = false) → Ex (WP X XL (d - 1)) KX9_doubtsThatFit h.1 Q 86 [some (vR 0), some (vI p), some (vI t), some (vI n), some (vR (tN t)), some (vI set), some (vI db), some (vI b), w] [] h) → ∀ (k : Nat) (i : Int), (n - i).toNat = k → 0 ≤ i → i ≤ n → stN n (okF A T p t db) 0 = stN n (okF A T p t db) i → Ex (WP X XL (d - 1)) KX9_doubtsThatFit h.1 Q 30 [some (vR 0), some (vI p), some (vI t), some (vI n), some (vR (tN t)), some (vI set), some (vI db), some (vI 1), some (vI i)] [] h := by
    intro set db d0 d9 fin
    intro k; induction k with
    | zero =>
      intro i hk h0 h1 he
      rw [stN_end (a := i) (Or.inl (by omega))] at he
      have hf := fun w => fin 1 w (Or.inl ⟨rfl, decide_eq_true (by omega)⟩)
      (repeat' (first | (refine hf _) | (refine Ex_step ?_; conv => whnf) | (refine ⟨?_, trivial⟩) | (refine (show den _ _ _ _ _ _ _ _ from ?_); conv => whnf) | (refine ⟨by (first | assumption | rfl | (exact Nat.le_of_ble_eq_true rfl) | (exact ⟨fun h01 => absurd h01 (by decide), by first | rfl | assumption⟩) | (exact ⟨fun _ => by decide, by first | rfl | assumption⟩) | (exact ⟨by assumption, by omega, by omega⟩) | (unfold inI; omega) | omega), ?_⟩; conv => whnf) | (refine ⟨fun c => False.elim (by omega), fun c => ?_⟩) | (refine ⟨fun c => ?_, fun c => False.elim (by omega)⟩) | (refine ⟨fun c => ?_, fun c => ?_⟩) | (intro c) | fail))
    | succ k ih =>
      intro i hk h0 h1 he
      have x1 := e8 (2 * i) (by omega) (by omega)
      have x2 := e8 (2 * i + 1) (by omega) (by omega)
      have xb := tw_at hw h0 (by omega)
      have xl := l2i_5 xb.1.1 xb.1.2
      by_cases hok : okF A T p t db i = true
      · have ih2 := ih (i + 1) (by omega) (by omega) (by omega) (he.trans (stN_go (by omega) hok))
        have hok := of_decide_eq_true hok
        unfold rch at hok
        refine Ex_step ?_; conv => whnf
        (repeat' (first | (exact ih2) | (rw [r7]) | (rw [x1]) | (rw [x2]) | (rw [xl]) | (refine w_reachInFog (by omega) hV hp0 hp1 (by omega) (by omega) ?_) | (refine ⟨fun c => absurd (cmpZ_e hok) c, fun c => ?_⟩) | (refine Ex_step ?_; conv => whnf) | (refine ⟨?_, trivial⟩) | (refine (show den _ _ _ _ _ _ _ _ from ?_); conv => whnf) | (refine ⟨by (first | assumption | rfl | (exact Nat.le_of_ble_eq_true rfl) | (exact ⟨fun h01 => absurd h01 (by decide), by first | rfl | assumption⟩) | (exact ⟨fun _ => by decide, by first | rfl | assumption⟩) | (exact ⟨by assumption, by omega, by omega⟩) | (unfold inI; omega) | omega), ?_⟩; conv => whnf) | (refine ⟨fun c => False.elim (by omega), fun c => ?_⟩) | (refine ⟨fun c => ?_, fun c => False.elim (by omega)⟩) | (refine ⟨fun c => ?_, fun c => ?_⟩) | (intro c) | fail))
      · rw [stN_end (a := i) (Or.inr (by simpa using hok))] at he
        have hok : ¬ _ := fun q => hok (decide_eq_true q)
        have hf := fun w => fin 0 w (Or.inr ⟨rfl, decide_eq_false (by omega)⟩)
        unfold rch at hok
        refine Ex_step ?_; conv => whnf
        (repeat' (first | (refine hf _) | (rw [r7]) | (rw [x1]) | (rw [x2]) | (rw [xl]) | (refine w_reachInFog (by omega) hV hp0 hp1 (by omega) (by omega) ?_) | (refine ⟨fun c => ?_, fun c => absurd c (cmpZ_n hok)⟩) | (refine Ex_step ?_; conv => whnf) | (refine ⟨?_, trivial⟩) | (refine (show den _ _ _ _ _ _ _ _ from ?_); conv => whnf) | (refine ⟨by (first | assumption | rfl | (exact Nat.le_of_ble_eq_true rfl) | (exact ⟨fun h01 => absurd h01 (by decide), by first | rfl | assumption⟩) | (exact ⟨fun _ => by decide, by first | rfl | assumption⟩) | (exact ⟨by assumption, by omega, by omega⟩) | (unfold inI; omega) | omega), ?_⟩; conv => whnf) | (refine ⟨fun c => False.elim (by omega), fun c => ?_⟩) | (refine ⟨fun c => ?_, fun c => False.elim (by omega)⟩) | (refine ⟨fun c => ?_, fun c => ?_⟩) | (intro c) | fail))
  have loop : ∀ (k : Nat) (db set : Int) (w1 w2 : Option MV), (10 - db).toNat = k → 0 ≤ db → db ≤ 10 → dsS A T p t n = foN 10 (stF (fitB A T p t n)) db set → Ex (WP X XL (d - 1)) KX9_doubtsThatFit h.1 Q 17 [some (vR 0), some (vI p), some (vI t), some (vI n), some (vR (tN t)), some (vI set), some (vI db), w1, w2] [] h := by
    intro k; induction k with
    | zero =>
      intro db set w1 w2 hk h0 h1 he
      rw [foN_end (by omega)] at he
      rw [he] at hq
      (repeat' (first | (refine Ex_step ?_; conv => whnf) | (refine ⟨?_, trivial⟩) | (refine (show den _ _ _ _ _ _ _ _ from ?_); conv => whnf) | (refine ⟨by (first | assumption | rfl | (exact Nat.le_of_ble_eq_true rfl) | (exact ⟨fun h01 => absurd h01 (by decide), by first | rfl | assumption⟩) | (exact ⟨fun _ => by decide, by first | rfl | assumption⟩) | (exact ⟨by assumption, by omega, by omega⟩) | (unfold inI; omega) | omega), ?_⟩; conv => whnf) | (refine ⟨fun c => False.elim (by omega), fun c => ?_⟩) | (refine ⟨fun c => ?_, fun c => False.elim (by omega)⟩) | (refine ⟨fun c => ?_, fun c => ?_⟩) | (intro c) | fail))
      exact hq
    | succ k ih =>
      intro db set w1 w2 hk h0 h1 he
      rw [foN_go (by omega)] at he
      have hsh := shl1 h0 (show db ≤ 20 by omega)
      have i0 := inner set db h0 (by omega) (fun b w hb => by
        rcases hb with ⟨rfl, hb⟩ | ⟨rfl, hb⟩
        · rw [show stF (fitB A T p t n) db set = zor set (shlZ 1 db) from if_pos hb] at he
          have ih2 := ih (db + 1) _ (some (vI 1)) w (by omega) (by omega) (by omega) he
          (repeat' (first | (exact ih2) | (refine ⟨⟨by omega, by omega, hsh⟩, ?_⟩; conv => whnf) | (refine Ex_step ?_; conv => whnf) | (refine ⟨?_, trivial⟩) | (refine (show den _ _ _ _ _ _ _ _ from ?_); conv => whnf) | (refine ⟨by (first | assumption | rfl | (exact Nat.le_of_ble_eq_true rfl) | (exact ⟨fun h01 => absurd h01 (by decide), by first | rfl | assumption⟩) | (exact ⟨fun _ => by decide, by first | rfl | assumption⟩) | (exact ⟨by assumption, by omega, by omega⟩) | (unfold inI; omega) | omega), ?_⟩; conv => whnf) | (refine ⟨fun c => False.elim (by omega), fun c => ?_⟩) | (refine ⟨fun c => ?_, fun c => False.elim (by omega)⟩) | (refine ⟨fun c => ?_, fun c => ?_⟩) | (intro c) | fail))
        · rw [show stF (fitB A T p t n) db set = set from if_neg (by rw [hb]; decide)] at he
          have ih2 := ih (db + 1) _ (some (vI 0)) w (by omega) (by omega) (by omega) he
          (repeat' (first | (exact ih2) | (refine Ex_step ?_; conv => whnf) | (refine ⟨?_, trivial⟩) | (refine (show den _ _ _ _ _ _ _ _ from ?_); conv => whnf) | (refine ⟨by (first | assumption | rfl | (exact Nat.le_of_ble_eq_true rfl) | (exact ⟨fun h01 => absurd h01 (by decide), by first | rfl | assumption⟩) | (exact ⟨fun _ => by decide, by first | rfl | assumption⟩) | (exact ⟨by assumption, by omega, by omega⟩) | (unfold inI; omega) | omega), ?_⟩; conv => whnf) | (refine ⟨fun c => False.elim (by omega), fun c => ?_⟩) | (refine ⟨fun c => ?_, fun c => False.elim (by omega)⟩) | (refine ⟨fun c => ?_, fun c => ?_⟩) | (intro c) | fail))) _ 0 rfl (by omega) (by omega) rfl
      refine Ex_step ?_; conv => whnf
      (repeat' (first | (exact i0) | (refine Ex_step ?_; conv => whnf) | (refine ⟨?_, trivial⟩) | (refine (show den _ _ _ _ _ _ _ _ from ?_); conv => whnf) | (refine ⟨by (first | assumption | rfl | (exact Nat.le_of_ble_eq_true rfl) | (exact ⟨fun h01 => absurd h01 (by decide), by first | rfl | assumption⟩) | (exact ⟨fun _ => by decide, by first | rfl | assumption⟩) | (exact ⟨by assumption, by omega, by omega⟩) | (unfold inI; omega) | omega), ?_⟩; conv => whnf) | (refine ⟨fun c => False.elim (by omega), fun c => ?_⟩) | (refine ⟨fun c => ?_, fun c => False.elim (by omega)⟩) | (refine ⟨fun c => ?_, fun c => ?_⟩) | (intro c) | fail))
  have l0 := loop _ 0 0 none none rfl (by omega) (by omega) rfl
  refine eX9_doubtsThatFit (by omega) ?_
  (repeat' (first | (exact l0) | (rw [r7]) | (rw [r3]) | (rw [e1]) | (rw [e3]) | (refine Ex_step ?_; conv => whnf) | (refine ⟨?_, trivial⟩) | (refine (show den _ _ _ _ _ _ _ _ from ?_); conv => whnf) | (refine ⟨by (first | assumption | rfl | (exact Nat.le_of_ble_eq_true rfl) | (exact ⟨fun h01 => absurd h01 (by decide), by first | rfl | assumption⟩) | (exact ⟨fun _ => by decide, by first | rfl | assumption⟩) | (exact ⟨by assumption, by omega, by omega⟩) | (unfold inI; omega) | omega), ?_⟩; conv => whnf) | (refine ⟨fun c => False.elim (by omega), fun c => ?_⟩) | (refine ⟨fun c => ?_, fun c => False.elim (by omega)⟩) | (refine ⟨fun c => ?_, fun c => ?_⟩) | (intro c) | fail))
