/-! LEVEL 2: texts: decades, pure -/
def pName (P : Int → Int) (n e m : Int) (N : Int → Int) : (Int × Int) ⊕ (Int × Int) := if ¬ tC P n e = 25 then .inl (fltK P n e 2, tF P n e) else if nmI m N (c32 (tW P n e)) = -1 then .inl (fltK P n e 3, tF P n e) else .inr (nmI m N (c32 (tW P n e)), tE P n e)
/-- a row, as the reference has it -/
def rwQ (w f s g : Int) : Int → Int := fun j => if j = 0 then w else if j = 1 then f else if j = 2 then s else if j = 5 then g else 0
def dTest (P : Int → Int) (n e : Int) (A N : Int → Int) : (Int × Int) ⊕ ((Int → Int) × Int) := if ¬ (tC P n e = 21 ∨ tC P n e = 11 ∨ tC P n e = 5) then .inl (fltK P n e 2, tF P n e) else bd (if tC P n e = 5 then pNum P n (tE P n e) 0 (A 0 - 1) else pName P n (tE P n e) (A 1) N) (fun q => if tC P n e = 21 then .inr (rwQ 2024 q.1 0 0, q.2) else if ¬ (29 ≤ tC P n q.2 ∧ tC P n q.2 ≤ 31) then .inl (fltK P n q.2 2, tF P n q.2) else bd (pNum P n (tE P n q.2) 0 9) (fun u => .inr (rwQ (2000 + wR (tC P n e)) q.1 u.1 (sgV (tC P n q.2)), u.2)))
def dRest (P : Int → Int) (n e : Int) (A N : Int → Int) (t : Int) : (Int × Int) ⊕ ((Int → Int) × Int) := if t = 14 ∨ t = 17 then bd (pName P n e (A 1) N) (fun q => .inr (rwQ (wR t) q.1 0 0, q.2)) else if t = 15 then bd (pName P n e (A 1) N) (fun q => bd (pName P n q.2 (A 1) N) (fun u => .inr (rwQ 15 q.1 u.1 0, u.2))) else if t = 16 then bd (pNum P n e 0 (A 0 - 1)) (fun q => .inr (rwQ 16 q.1 0 0, q.2)) else if t = 18 then bd (pNum P n e 1 40) (fun q => .inr (rwQ 18 q.1 0 0, q.2)) else if t = 1 then bd (pNum P n e 0 5) (fun q => .inr (rwQ 1 q.1 0 0, q.2)) else if t = 22 then bd (pNum P n e 1 99) (fun q => .inr (rwQ 21 q.1 0 0, q.2)) else if t = 20 then dTest P n e A N else .inr (rwQ (wR t) 0 0 0, e)
/-- rows, how many, how many steps, how deep, what is open -/
abbrev DS := (Int → Int → Int) × Int × Int × Int × (Int → Int)
def clR (R : Int → Int → Int) (N o : Int) : Int → Int → Int := fun k j => if k = N then (if j = 0 then 22 else if j = 4 then o else 0) else if k = o ∧ j = 4 then N else R k j
def opR (R : Int → Int → Int) (N : Int) (rw : Int → Int) : Int → Int → Int := fun k j => if k = N then rw j else R k j
def dEnd (R : Int → Int → Int) (N c D : Int) (O : Int → Int) : DS := (clR R N (O (D - 1)), N + 1, c, D - 1, O)
def dPush (R : Int → Int → Int) (N c D : Int) (O : Int → Int) (t : Int) (rw : Int → Int) : DS := (opR R N rw, N + 1, c + 1, if t = 20 ∨ t = 22 then D + 1 else D, if t = 20 ∨ t = 22 then pu O D N else O)
def dStep (P : Int → Int) (n e : Int) (A Nm : Int → Int) (R : Int → Int → Int) (N c D : Int) (O : Int → Int) : (Int × Int) ⊕ (DS × Int) := if tC P n e = 23 then (if D ≤ 0 then .inl (fltK P n e 2, tF P n e) else bd (pTok P n (tE P n e) 28) (fun e2 => .inr (dEnd R N c D O, e2))) else if ¬ (tC P n e = 1 ∨ (14 ≤ tC P n e ∧ tC P n e ≤ 20) ∨ tC P n e = 22 ∨ tC P n e = 24) then .inl (fltK P n e 2, tF P n e) else if 30 ≤ c then .inl (fltK P n e 6, tF P n e) else if (tC P n e = 20 ∨ tC P n e = 22) ∧ 3 ≤ D then .inl (fltK P n e 7, tF P n e) else bd (dRest P n (tE P n e) A Nm (tC P n e)) (fun q => bd (pTok P n q.2 28) (fun e5 => .inr (dPush R N c D O (tC P n e) q.1, e5)))
noncomputable def dRd (P : Int → Int) (n : Int) (A Nm : Int → Int) : Nat → Int → DS → (Int × Int) ⊕ DS
  | 0, _, _ => .inl (0, 0)
  | f + 1, e, S => if tC P n e = 32 then (if S.2.2.2.1 = 0 then .inr S else .inl (fltK P n e 2, tF P n e)) else bd (dStep P n e A Nm S.1 S.2.1 S.2.2.1 S.2.2.2.1 S.2.2.2.2) (fun q => dRd P n A Nm f q.2 q.1)
theorem dRd_s {P : Int → Int} {n : Int} {A Nm : Int → Int} {f : Nat} {e : Int} {S : DS} : dRd P n A Nm (f + 1) e S = (if tC P n e = 32 then (if S.2.2.2.1 = 0 then .inr S else .inl (fltK P n e 2, tF P n e)) else bd (dStep P n e A Nm S.1 S.2.1 S.2.2.1 S.2.2.2.1 S.2.2.2.2) (fun q => dRd P n A Nm f q.2 q.1)) := rfl
-- a text moves on
theorem pName_lt {P : Int → Int} {n e m : Int} {N : Int → Int} {q : Int × Int} (he : e ≤ n) (h : pName P n e m N = .inr q) : e < q.2 ∧ q.2 ≤ n := by
  unfold pName at h
  by_cases c : tC P n e = 25
  · rw [if_neg (fun x => x c)] at h
    split at h
    · cases h
    · rw [← Sum.inr.inj h]
      exact tE_lt he (by omega)
  · rw [if_pos c] at h; cases h
theorem nmI_b {n : Int} {N : Int → Int} {x : Int} (hn : 0 ≤ n) (h : ¬ nmI n N x = -1) : 0 ≤ nmI n N x ∧ nmI n N x < n := by
  have r := stN_rng (ok := nmB N x) (n := n) _ 0 rfl hn
  unfold nmI at h ⊢
  by_cases c : stN n (nmB N x) 0 < n
  · rw [if_pos c] at h ⊢; omega
  · rw [if_neg c] at h; omega
theorem pName_b {P : Int → Int} {n e m : Int} {N : Int → Int} {q : Int × Int} (hm : 0 ≤ m) (h : pName P n e m N = .inr q) : 0 ≤ q.1 ∧ q.1 < m := by
  unfold pName at h
  split at h
  · cases h
  · split at h
    · cases h
    · rename_i c
      rw [← Sum.inr.inj h]
      exact nmI_b hm c
theorem pNum_b {P : Int → Int} {n e lo hi : Int} {q : Int × Int} (h : pNum P n e lo hi = .inr q) : lo ≤ q.1 ∧ q.1 ≤ hi := by
  unfold pNum at h
  split at h
  · cases h
  · split at h
    · cases h
    · rw [← Sum.inr.inj h]; show lo ≤ tNb P n e ∧ tNb P n e ≤ hi; omega
theorem dTest_lt {P : Int → Int} {n e : Int} {A N : Int → Int} {q : (Int → Int) × Int} (he : e ≤ n) (h : dTest P n e A N = .inr q) : e < q.2 ∧ q.2 ≤ n := by
  unfold dTest at h
  split at h
  · cases h
  · rename_i c
    have t0 := tE_lt (P := P) he (by omega : ¬ tC P n e = 32)
    obtain ⟨a1, x1, h⟩ := bd_i h
    have t1 : tE P n e < a1.2 ∧ a1.2 ≤ n := by
      split at x1
      · exact pNum_lt t0.2 x1
      · exact pName_lt t0.2 x1
    split at h
    · rw [← Sum.inr.inj h]; show e < a1.2 ∧ a1.2 ≤ n; omega
    · split at h
      · cases h
      · have t2 := tE_lt (P := P) t1.2 (by omega : ¬ tC P n a1.2 = 32)
        obtain ⟨a2, x2, h⟩ := bd_i h
        have t3 := pNum_lt t2.2 x2
        rw [← Sum.inr.inj h]; show e < a2.2 ∧ a2.2 ≤ n; omega
theorem dRest_lt {P : Int → Int} {n e t : Int} {A N : Int → Int} {q : (Int → Int) × Int} (he : e ≤ n) (h : dRest P n e A N t = .inr q) : e ≤ q.2 ∧ q.2 ≤ n := by
  unfold dRest at h
  split at h
  · obtain ⟨a1, x1, h⟩ := bd_i h
    have t1 := pName_lt he x1
    rw [← Sum.inr.inj h]; show e ≤ a1.2 ∧ a1.2 ≤ n; omega
  · split at h
    · obtain ⟨a1, x1, h⟩ := bd_i h
      have t1 := pName_lt he x1
      obtain ⟨a2, x2, h⟩ := bd_i h
      have t2 := pName_lt t1.2 x2
      rw [← Sum.inr.inj h]; show e ≤ a2.2 ∧ a2.2 ≤ n; omega
    · split at h
      · obtain ⟨a1, x1, h⟩ := bd_i h
        have t1 := pNum_lt he x1
        rw [← Sum.inr.inj h]; show e ≤ a1.2 ∧ a1.2 ≤ n; omega
      · split at h
        · obtain ⟨a1, x1, h⟩ := bd_i h
          have t1 := pNum_lt he x1
          rw [← Sum.inr.inj h]; show e ≤ a1.2 ∧ a1.2 ≤ n; omega
        · split at h
          · obtain ⟨a1, x1, h⟩ := bd_i h
            have t1 := pNum_lt he x1
            rw [← Sum.inr.inj h]; show e ≤ a1.2 ∧ a1.2 ≤ n; omega
          · split at h
            · obtain ⟨a1, x1, h⟩ := bd_i h
              have t1 := pNum_lt he x1
              rw [← Sum.inr.inj h]; show e ≤ a1.2 ∧ a1.2 ≤ n; omega
            · split at h
              · have := dTest_lt he h; omega
              · rw [← Sum.inr.inj h]; exact ⟨Int.le_refl _, he⟩
theorem dStep_lt {P : Int → Int} {n e : Int} {A Nm : Int → Int} {R : Int → Int → Int} {N c D : Int} {O : Int → Int} {q : DS × Int} (he : e ≤ n) (hc : ¬ tC P n e = 32) (h : dStep P n e A Nm R N c D O = .inr q) : e < q.2 ∧ q.2 ≤ n := by
  have t0 := tE_lt (P := P) he hc
  unfold dStep at h
  split at h
  · split at h
    · cases h
    · obtain ⟨a1, x1, h⟩ := bd_i h
      have t1 := pTok_lt t0.2 (by omega) x1
      rw [← Sum.inr.inj h]; show e < a1 ∧ a1 ≤ n; omega
  · split at h
    · cases h
    · split at h
      · cases h
      · split at h
        · cases h
        · obtain ⟨a1, x1, h⟩ := bd_i h
          have t1 := dRest_lt t0.2 x1
          obtain ⟨a2, x2, h⟩ := bd_i h
          have t2 := pTok_lt t1.2 (by omega) x2
          rw [← Sum.inr.inj h]; show e < a2 ∧ a2 ≤ n; omega
-- what a row that was read holds
/-- a row's words and numbers are good ones -/
def RwV (A : Int → Int) (rw : Int → Int) : Prop := (rw 0 = 1 ∨ (14 ≤ rw 0 ∧ rw 0 ≤ 19) ∨ (21 ≤ rw 0 ∧ rw 0 ≤ 23) ∨ rw 0 = 2007 ∨ rw 0 = 2012 ∨ rw 0 = 2024) ∧ okW A (rw 0) (rw 1) (rw 2) ∧ (2000 ≤ rw 0 → okH A (rw 0) (rw 1) (rw 5)) ∧ (rw 0 = 21 → 1 ≤ rw 1 ∧ rw 1 ≤ 99)
theorem rwQ_v {w f s g : Int} : rwQ w f s g 0 = w ∧ rwQ w f s g 1 = f ∧ rwQ w f s g 2 = s ∧ rwQ w f s g 3 = 0 ∧ rwQ w f s g 4 = 0 ∧ rwQ w f s g 5 = g := ⟨rfl, rfl, rfl, rfl, rfl, rfl⟩
theorem RwV_q {A : Int → Int} {w f s g : Int} (h1 : w = 1 ∨ (14 ≤ w ∧ w ≤ 19) ∨ (21 ≤ w ∧ w ≤ 23) ∨ w = 2007 ∨ w = 2012 ∨ w = 2024) (h2 : okW A w f s) (h3 : 2000 ≤ w → okH A w f g) (h4 : w = 21 → 1 ≤ f ∧ f ≤ 99) : RwV A (rwQ w f s g) := ⟨h1, h2, h3, h4⟩
theorem wR_v : wR 14 = 14 ∧ wR 17 = 17 ∧ wR 19 = 19 ∧ wR 24 = 23 ∧ wR 11 = 12 ∧ wR 5 = 7 ∧ wR 20 = 20 ∧ wR 22 = 21 ∧ wR 23 = 22 ∧ wR 1 = 1 ∧ wR 15 = 15 ∧ wR 16 = 16 ∧ wR 18 = 18 ∧ wR 21 = 24 := by decide
theorem dTest_v {P : Int → Int} {n e : Int} {A N : Int → Int} {q : (Int → Int) × Int} (h1 : 0 ≤ A 1) (h : dTest P n e A N = .inr q) : RwV A q.1 ∧ 2000 ≤ q.1 0 := by
  obtain ⟨-, -, -, -, w11, w5, -⟩ := wR_v
  unfold dTest at h
  split at h
  · cases h
  · rename_i c
    obtain ⟨a1, x1, h⟩ := bd_i h
    split at h
    · rename_i c21
      rw [if_neg (by omega)] at x1
      have b := pName_b h1 x1
      rw [← Sum.inr.inj h]
      refine ⟨RwV_q (by omega) ⟨fun x => by omega, fun x => by omega, fun x => by omega, fun x => by omega, fun x => by omega, fun x => by omega⟩ (fun _ => Or.inl ⟨rfl, b⟩) (fun x => by omega), ?_⟩
      show (2000 : Int) ≤ 2024
      omega
    · rename_i c21
      split at h
      · cases h
      · rename_i c29
        obtain ⟨a2, x2, h⟩ := bd_i h
        have sv := sgV_c (tC P n a1.2)
        rw [← Sum.inr.inj h]
        by_cases c5 : tC P n e = 5
        · rw [if_pos c5] at x1
          have b := pNum_b x1
          have ew : wR (tC P n e) = 7 := by rw [c5]; exact w5
          refine ⟨RwV_q (by omega) ⟨fun x => by omega, fun x => by omega, fun x => by omega, fun x => by omega, fun x => by omega, fun x => by omega⟩ (fun _ => Or.inr (Or.inr ⟨by omega, by omega, by omega, by omega⟩)) (fun x => by omega), ?_⟩
          show (2000 : Int) ≤ 2000 + wR (tC P n e)
          omega
        · rw [if_neg c5] at x1
          have b := pName_b h1 x1
          have ew : wR (tC P n e) = 12 := by rw [show tC P n e = 11 by omega]; exact w11
          refine ⟨RwV_q (by omega) ⟨fun x => by omega, fun x => by omega, fun x => by omega, fun x => by omega, fun x => by omega, fun x => by omega⟩ (fun _ => Or.inr (Or.inl ⟨by omega, b, by omega, by omega⟩)) (fun x => by omega), ?_⟩
          show (2000 : Int) ≤ 2000 + wR (tC P n e)
          omega
theorem dRest_v {P : Int → Int} {n e t : Int} {A N : Int → Int} {q : (Int → Int) × Int} (h1 : 0 ≤ A 1) (ht : t = 1 ∨ (14 ≤ t ∧ t ≤ 20) ∨ t = 22 ∨ t = 24) (h : dRest P n e A N t = .inr q) : RwV A q.1 ∧ ¬ q.1 0 = 22 ∧ ((t = 20 ∨ t = 22) ↔ (q.1 0 = 21 ∨ 2000 ≤ q.1 0)) := by
  obtain ⟨w14, w17, w19, w24, -⟩ := wR_v
  have nn : ∀ {x : Int}, x ≤ 23 → 2000 ≤ x → False := fun a b => by omega
  unfold dRest at h
  split at h
  · rename_i c
    obtain ⟨a1, x1, h⟩ := bd_i h
    have b := pName_b h1 x1
    have ew : wR t = t := by rcases c with e | e <;> rw [e] <;> assumption
    rw [← Sum.inr.inj h, ew]
    refine ⟨RwV_q (by omega) ⟨fun _ => b, fun _ => b, fun x => by omega, fun x => by omega, fun x => by omega, fun x => by omega⟩ (fun x => by omega) (fun x => by omega), ?_, ?_⟩
    · show ¬ t = 22; omega
    · show _ ↔ (t = 21 ∨ 2000 ≤ t); omega
  · split at h
    · rename_i c c1
      obtain ⟨a1, x1, h⟩ := bd_i h
      have b := pName_b h1 x1
      obtain ⟨a2, x2, h⟩ := bd_i h
      have b2 := pName_b h1 x2
      rw [← Sum.inr.inj h]
      refine ⟨RwV_q (by omega) ⟨fun x => by omega, fun x => by omega, fun _ => ⟨b, b2⟩, fun x => by omega, fun x => by omega, fun x => by omega⟩ (fun x => by omega) (fun x => by omega), ?_, ?_⟩
      · show ¬ (15 : Int) = 22; omega
      · show _ ↔ ((15 : Int) = 21 ∨ (2000 : Int) ≤ 15); omega
    · split at h
      · obtain ⟨a1, x1, h⟩ := bd_i h
        have b := pNum_b x1
        rw [← Sum.inr.inj h]
        refine ⟨RwV_q (by omega) ⟨fun x => by omega, fun x => by omega, fun x => by omega, fun _ => ⟨by omega, by omega⟩, fun x => by omega, fun x => by omega⟩ (fun x => by omega) (fun x => by omega), ?_, ?_⟩
        · show ¬ (16 : Int) = 22; omega
        · show _ ↔ ((16 : Int) = 21 ∨ (2000 : Int) ≤ 16); omega
      · split at h
        · obtain ⟨a1, x1, h⟩ := bd_i h
          have b := pNum_b x1
          rw [← Sum.inr.inj h]
          refine ⟨RwV_q (by omega) ⟨fun x => by omega, fun x => by omega, fun x => by omega, fun x => by omega, fun _ => b, fun x => by omega⟩ (fun x => by omega) (fun x => by omega), ?_, ?_⟩
          · show ¬ (18 : Int) = 22; omega
          · show _ ↔ ((18 : Int) = 21 ∨ (2000 : Int) ≤ 18); omega
        · split at h
          · obtain ⟨a1, x1, h⟩ := bd_i h
            have b := pNum_b x1
            rw [← Sum.inr.inj h]
            refine ⟨RwV_q (by omega) ⟨fun x => by omega, fun x => by omega, fun x => by omega, fun x => by omega, fun x => by omega, fun _ => b⟩ (fun x => by omega) (fun x => by omega), ?_, ?_⟩
            · show ¬ (1 : Int) = 22; omega
            · show _ ↔ ((1 : Int) = 21 ∨ (2000 : Int) ≤ 1); omega
          · split at h
            · obtain ⟨a1, x1, h⟩ := bd_i h
              have b := pNum_b x1
              rw [← Sum.inr.inj h]
              refine ⟨RwV_q (by omega) ⟨fun x => by omega, fun x => by omega, fun x => by omega, fun x => by omega, fun x => by omega, fun x => by omega⟩ (fun x => by omega) (fun _ => b), ?_, ?_⟩
              · show ¬ (21 : Int) = 22; omega
              · show _ ↔ ((21 : Int) = 21 ∨ (2000 : Int) ≤ 21); omega
            · split at h
              · have b := dTest_v h1 h
                exact ⟨b.1, by omega, by omega⟩
              · have ew : (t = 19 ∧ wR t = 19) ∨ (t = 24 ∧ wR t = 23) := by
                  rcases (show t = 19 ∨ t = 24 by omega) with e | e
                  · exact Or.inl ⟨e, by rw [e]; exact w19⟩
                  · exact Or.inr ⟨e, by rw [e]; exact w24⟩
                rw [← Sum.inr.inj h]
                refine ⟨RwV_q (by omega) ⟨fun x => by omega, fun x => by omega, fun x => by omega, fun x => by omega, fun x => by omega, fun x => by omega⟩ (fun x => by omega) (fun x => by omega), ?_, ?_⟩
                · show ¬ wR t = 22; omega
                · show _ ↔ (wR t = 21 ∨ 2000 ≤ wR t); omega
