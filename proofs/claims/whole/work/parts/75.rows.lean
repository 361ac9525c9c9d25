/-! LEVEL 2: decades as they are lived: all rows, one function for both -/
noncomputable def hlI (A : Int → Int) (w f s cp : Int) : Int := @ite Int (hlP A w f s cp) (Classical.propDecidable _) 1 0
theorem hlI_t {A : Int → Int} {w f s cp : Int} (h : hlP A w f s cp) : hlI A w f s cp = 1 := @if_pos _ (Classical.propDecidable _) h _ _ _
theorem hlI_f {A : Int → Int} {w f s cp : Int} (h : ¬ hlP A w f s cp) : hlI A w f s cp = 0 := @if_neg _ (Classical.propDecidable _) h _ _ _
def eK (R : Int → Int → Int) (L : Int → Int) (k : Int) : Int := if R (R k 4) 0 = 21 ∧ 0 < L (R k 4) then R k 4 + 1 else k + 1
def eL (R : Int → Int → Int) (L : Int → Int) (k : Int) : Int → Int := if R (R k 4) 0 = 21 ∧ 0 < L (R k 4) then pu L (R k 4) (L (R k 4) - 1) else L
def lL (R : Int → Int → Int) (L : Int → Int) (k : Int) : Int → Int := if R k 0 = 21 then pu L k (if R k 4 = k + 1 then 0 else R k 1 - 1) else L
noncomputable def nK (R : Int → Int → Int) (N : Int) (A : Int → Int) (k : Int) : Int := if R k 0 = 23 then N else if 2000 ≤ R k 0 then (if hlI A (R k 0) (R k 1) (R k 2) (R k 5) = 1 then k + 1 else R k 4 + 1) else k + 1
/-- rows gone through, at most f of them: state, what is drawn, rounds left, done, missed, left -/
noncomputable def rwN (R : Int → Int → Int) (N : Int) : Nat → (Int → Int) → Int → (Int → Int) → Int → Int → Int → ((Int → Int) × Int × (Int → Int) × Int × Int × Int)
  | 0, A, x, L, _, dn, mi => (A, x, L, dn, mi, 0)
  | f + 1, A, x, L, k, dn, mi => if ¬ k < N then (A, x, L, dn, mi, 0) else if R k 0 = 22 then rwN R N f A x (eL R L k) (eK R L k) dn mi else if 300 ≤ dn then (A, x, L, dn, mi, 1) else rwN R N f (dsR A x (R k 0) (R k 1) (R k 2)).1 (dsR A x (R k 0) (R k 1) (R k 2)).2.1 (lL R L k) (nK R N (dsR A x (R k 0) (R k 1) (R k 2)).1 k) (dn + 1) (mi + (1 - b01 (dsR A x (R k 0) (R k 1) (R k 2)).2.2))
def cwd (w : Int) : Int := if 2000 ≤ w then 20 else if 21 ≤ w then w + 1 else w
/-- a row of the class and one of the reference -/
def CRow (h : Mem) (st : Nat) (R : Int → Int → Int) (k : Int) : Prop := gG h (st + 1) k = cwd (R k 0) ∧ (R k 0 = 1 ∨ (14 ≤ R k 0 ∧ R k 0 ≤ 18) ∨ R k 0 = 21 ∨ 2000 ≤ R k 0 → gG h (st + 2) k = R k 1) ∧ (R k 0 = 15 ∨ R k 0 = 2007 ∨ R k 0 = 2012 → gG h (st + 3) k = R k 2) ∧ (2000 ≤ R k 0 → (R k 0 = 2024 ∧ gG h (st + 4) k = 21) ∨ (R k 0 = 2012 ∧ gG h (st + 4) k = 11) ∨ (R k 0 = 2007 ∧ gG h (st + 4) k = 5)) ∧ (R k 0 = 2007 ∨ R k 0 = 2012 → (R k 5 = 60 ∧ gG h (st + 5) k = 29) ∨ (R k 5 = 62 ∧ gG h (st + 5) k = 30) ∨ (R k 5 = 61 ∧ gG h (st + 5) k = 31)) ∧ (R k 0 = 21 ∨ R k 0 = 22 ∨ 2000 ≤ R k 0 → gG h (st + 6) k = R k 4)
/-- rows are well formed, their numbers good ones -/
def VRow (A : Int → Int) (R : Int → Int → Int) (N k : Int) : Prop := (R k 0 = 1 ∨ (14 ≤ R k 0 ∧ R k 0 ≤ 19) ∨ (21 ≤ R k 0 ∧ R k 0 ≤ 23) ∨ R k 0 = 2007 ∨ R k 0 = 2012 ∨ R k 0 = 2024) ∧ okW A (R k 0) (R k 1) (R k 2) ∧ (2000 ≤ R k 0 → okH A (R k 0) (R k 1) (R k 5)) ∧ (R k 0 = 21 → 1 ≤ R k 1 ∧ R k 1 ≤ 99) ∧ (R k 0 = 21 ∨ 2000 ≤ R k 0 → k < R k 4 ∧ R k 4 < N) ∧ (R k 0 = 22 → 0 ≤ R k 4 ∧ R k 4 < k ∧ (R (R k 4) 0 = 21 ∨ 2000 ≤ R (R k 4) 0))
theorem rw_s {R : Int → Int → Int} {N : Int} {f : Nat} {A L : Int → Int} {x k dn mi : Int} : rwN R N (f + 1) A x L k dn mi = (if ¬ k < N then (A, x, L, dn, mi, 0) else if R k 0 = 22 then rwN R N f A x (eL R L k) (eK R L k) dn mi else if 300 ≤ dn then (A, x, L, dn, mi, 1) else rwN R N f (dsR A x (R k 0) (R k 1) (R k 2)).1 (dsR A x (R k 0) (R k 1) (R k 2)).2.1 (lL R L k) (nK R N (dsR A x (R k 0) (R k 1) (R k 2)).1 k) (dn + 1) (mi + (1 - b01 (dsR A x (R k 0) (R k 1) (R k 2)).2.2))) := rfl
-- numbers of people and arches stay
theorem rr_lo {A : Int → Int} {p o j : Int} (hp0 : 0 ≤ p) (ho0 : 0 ≤ o) (hj : j < 37) (h8 : ¬ j = 8) : rrA A p o j = A j := by
  unfold rrA
  split
  · unfold runA; rw [lan_0 hp0 hj]; exact (foF_0 hp0 _ _ _ rfl).1 j hj h8
  · unfold ropA; rw [lan_0 ho0 hj, lan_0 hp0 hj]; exact (foF_0 hp0 _ _ _ rfl).1 j hj h8
theorem ds_lo {K : Int} {A : Int → Int} {x w f s j : Int} (hA : AOk K A) (hv : okW A w f s) (hj : j = 0 ∨ j = 1 ∨ j = 7) : (dsR A x w f s).1 j = A j := by
  obtain ⟨v14, v17, v15, v16, v18, v1⟩ := hv
  have b1 := hA.2.1
  have rn : ∀ p, 0 ≤ p → (rnR A p).1 j = A j := fun p hp => by unfold rnR; split; exact rr_lo hp hp (by omega) (by omega); rfl
  have hm : ∀ p, 0 ≤ p → (hmR A p).1 j = A j := fun p hp => by unfold hmR; split; rfl; exact pu_n (by omega)
  unfold dsR
  split
  · rename_i e; exact rn f (v14 e).1
  · split
    · rename_i e
      have := v15 e
      show (rpR A f s).1 j = A j
      unfold rpR; split
      · exact rr_lo this.1.1 this.2.1 (by omega) (by omega)
      · rfl
    · split
      · rename_i e
        have := v16 e
        show (jmR A f).1 j = A j
        unfold jmR; split
        · show jmpA A f j = A j
          unfold jmpA; rw [pu_n (by omega), pu_n (by omega), pu_n (by omega)]
        · rfl
      · split
        · rename_i e; exact hm f (v17 e).1
        · split
          · show (dyR A f).1 j = A j
            unfold dyR; split
            · show dayA A f j = A j
              unfold dayA; rw [if_neg (by omega), if_neg (by omega), if_neg (by omega)]
            · rfl
          · split
            · show (fgR A f).1 j = A j
              unfold fgR; split
              · rfl
              · show fogA A f j = A j
                exact pu_n (by omega)
            · split
              · unfold anR
                split
                · rfl
                · have hp := pkD_b (x := drw x) (n := A 1) (by omega)
                  split
                  · exact rn _ hp.1
                  · exact hm _ hp.1
              · rfl
