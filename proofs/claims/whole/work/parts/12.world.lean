/-! the model's memory as a world of the kit's -/
def trV (A : Nat → Option Nat) (v : MV) : Value := match v with
  | .inl z => .int (Int32.ofInt z)
  | .inr (.inl z) => .long (Int64.ofInt z)
  | .inr (.inr r) => va_rf (A r)
def vok (v : MV) : Prop := match v with
  | .inl z => inI z
  | .inr (.inl z) => inL z
  | .inr (.inr _) => True
def isLg (v : MV) : Prop := match v with
  | .inr (.inl _) => True
  | _ => False
def fvV (A : Nat → Option Nat) (h : Mem) (r : Nat) (j t : Nat) : Value := match t with
  | 1 => .long (Int64.ofInt (gG h r j))
  | 2 => va_rf (A (gR h r j))
  | _ => .int (Int32.ofInt (gG h r j))
def fvs (A : Nat → Option Nat) (h : Mem) (r k : Nat) : List Value := (ftys.getD k []).mapIdx (fun j t => fvV A h r j t)
def cel (A : Nat → Option Nat) (kA : Nat → ClassId) (h : Mem) (r : Nat) (q : Nat × Nat) : va_E :=
  if q.1 < 100 then .inr (q.1, fvs A h r q.1)
  else if q.1 = 101 then .inl (kA q.1, q.2, .inr (.inl fun j => Int64.ofInt (gG h r j)))
  else if q.1 < 104 then .inl (kA q.1, q.2, .inl fun j => Int32.ofInt (gG h r j))
  else .inl (kA q.1, q.2, .inr (.inr (.inr (.inr fun j => A (gR h r j)))))
def wsO (B : Nat) (A : Nat → Option Nat) (kA : Nat → ClassId) (h : Mem) : va_W := h.1.mapIdx (fun r q => (B + r, cel A kA h r q))
def isL (k j : Nat) : Bool := k == 101 || (decide (k < 100) && ((ftys.getD k []).getD j 0 == 1))
def rngK (k j : Nat) (z : Int) : Prop := if isL k j = true then inL z else inI z
def MOk (h : Mem) : Prop := ∀ (r : Nat) (q : Nat × Nat), h.1[r]? = some q → ∀ j : Nat, rngK q.1 j (gG h r j)
def ShOk (h : Mem) : Prop := ∀ (r : Nat) (q : Nat × Nat), h.1[r]? = some q → (q.1 < 11 ∧ q.2 = (ftys.getD q.1 []).length) ∨ (100 ≤ q.1 ∧ q.1 ≤ 106 ∧ q.2 < 100000)
def Wd (B : Nat) (A : Nat → Option Nat) (kA : Nat → ClassId) (D : va_G) (AA : Nat → Prop) (h : Mem) (H : Heap) : Prop :=
  va_P D vwCl (wsO B A kA h) H ∧ va_D AA (wsO B A kA h) ∧ h.1.length < 900000 ∧ ShOk h ∧ MOk h
def tys7 (kA : Nat → ClassId) : List (ClassId × FieldType) := [(kA 100, .int), (kA 101, .long), (kA 102, .byte), (kA 103, .boolean), (kA 104, .object RX6), (kA 105, .object RX7), (kA 106, .object RX3)]
theorem trV_cat (A : Nat → Option Nat) (v : MV) : (trV A v).category = 2 ↔ isLg v := by
  rcases v with z | z | r
  · simp [trV, isLg, Value.category]
  · simp [trV, isLg, Value.category]
  · cases hA : A r <;> simp [trV, isLg, Value.category, va_rf, hA]
theorem trV_cat1 {A : Nat → Option Nat} {v : MV} (h : cat1 v = true) : (trV A v).category = 1 := by
  rcases v with z | z | r
  · rfl
  · cases h
  · cases hA : A r <;> simp [trV, Value.category, va_rf, hA]
theorem wsO_at {B : Nat} {A : Nat → Option Nat} {kA : Nat → ClassId} {h : Mem} {r : Nat} {q : Nat × Nat} (hr : h.1[r]? = some q) : (wsO B A kA h)[r]? = some (B + r, cel A kA h r q) := by
  simp [wsO, List.getElem?_mapIdx, hr]
theorem wsO_set {B : Nat} {A : Nat → Option Nat} {kA : Nat → ClassId} {h h' : Mem} {r : Nat} {q : Nat × Nat} (hs : h'.1 = h.1) (hr : h.1[r]? = some q) (hne : ∀ r' q', r' ≠ r → cel A kA h' r' q' = cel A kA h r' q') {x : Nat × va_E} (hx : x = (B + r, cel A kA h' r q)) : (wsO B A kA h).set r x = wsO B A kA h' := by
  subst hx
  apply List.ext_getElem?
  intro i
  rw [List.getElem?_set]
  have hlt : r < h.1.length := (List.getElem?_eq_some_iff.mp hr).1
  by_cases hi : r = i
  · subst hi
    rw [if_pos rfl, if_pos (by simp [wsO]; exact hlt), wsO_at (h := h') (by rw [hs]; exact hr)]
  · rw [if_neg hi]
    simp only [wsO, List.getElem?_mapIdx, hs]
    cases h.1[i]? with
    | none => rfl
    | some q' => simp only [Option.map_some]; rw [hne i q' (fun e => hi e.symm)]
theorem kd_some {h : Mem} {r k : Nat} (hk : kd h r = k) (h9 : k < 900) : ∃ n : Nat, h.1[r]? = some (k, n) ∧ ln h r = (n : Int) := by
  unfold kd at hk
  unfold ln
  rw [List.getD_eq_getElem?_getD] at *
  cases hq : h.1[r]? with
  | none => rw [hq] at hk; simp at hk; omega
  | some q =>
    rw [hq] at hk
    simp only [Option.getD_some] at *
    exact ⟨q.2, by rw [← hk], rfl⟩
theorem cel_sG {A : Nat → Option Nat} {kA : Nat → ClassId} {h : Mem} {r : Nat} {i z : Int} : ∀ r' q', r' ≠ r → cel A kA (sG h r i z) r' q' = cel A kA h r' q' := by
  intro r' q' hne
  simp [cel, fvs, fvV, gG, gR, sG, hne]
theorem cel_sR {A : Nat → Option Nat} {kA : Nat → ClassId} {h : Mem} {r z : Nat} {i : Int} : ∀ r' q', r' ≠ r → cel A kA (sR h r i z) r' q' = cel A kA h r' q' := by
  intro r' q' hne
  simp [cel, fvs, fvV, gG, gR, sR, hne]
theorem cel_cp {A : Nat → Option Nat} {kA : Nat → ClassId} {h : Mem} {r src : Nat} {sp dp n : Int} : ∀ r' q', r' ≠ r → cel A kA (cpG h src sp r dp n) r' q' = cel A kA h r' q' := by
  intro r' q' hne
  simp [cel, fvs, fvV, gG, gR, cpG, hne]
theorem MOk_sG {h : Mem} {r : Nat} {i z : Int} {q : Nat × Nat} (hM : MOk h) (hr : h.1[r]? = some q) (hz : ∀ j : Nat, (j : Int) = i → rngK q.1 j z) : MOk (sG h r i z) := by
  intro r' q' hq' j
  show rngK q'.1 j (if r' = r ∧ (j : Int) = i then z else h.2.1 r' j)
  by_cases hc : r' = r ∧ (j : Int) = i
  · rw [if_pos hc]
    obtain ⟨rfl, e⟩ := hc
    have : some q' = some q := hq'.symm.trans hr
    cases this
    exact hz j e
  · rw [if_neg hc]
    exact hM r' q' hq' j
-- locals
def prsF (A : Nat → Option Nat) : Nat → Lo → List (Nat × Value)
  | _, [] => []
  | i, none :: l => prsF A (i + 1) l
  | i, some v :: l => (i, trV A v) :: prsF A (i + 1) l
theorem mem_prs {A : Nat → Option Nat} : ∀ (lo : Lo) (i : Nat) (q : Nat × Value), q ∈ prsF A i lo ↔ ∃ (j : Nat) (v : MV), lo[j]? = some (some v) ∧ q = (i + j, trV A v)
  | [], i, q => by simp [prsF]
  | none :: l, i, q => by
    rw [prsF, mem_prs l (i + 1) q]
    constructor
    · rintro ⟨j, v, h, rfl⟩
      exact ⟨j + 1, v, by simpa using h, by rw [show i + 1 + j = i + (j + 1) by omega]⟩
    · rintro ⟨j, v, h, rfl⟩
      cases j with
      | zero => simp at h
      | succ j => exact ⟨j, v, by simpa using h, by rw [show i + 1 + j = i + (j + 1) by omega]⟩
  | some w :: l, i, q => by
    rw [prsF, List.mem_cons, mem_prs l (i + 1) q]
    constructor
    · rintro (rfl | ⟨j, v, h, rfl⟩)
      · exact ⟨0, w, by simp, by simp⟩
      · exact ⟨j + 1, v, by simpa using h, by rw [show i + 1 + j = i + (j + 1) by omega]⟩
    · rintro ⟨j, v, h, rfl⟩
      cases j with
      | zero => left; simp at h; subst h; simp
      | succ j => right; exact ⟨j, v, by simpa using h, by rw [show i + 1 + j = i + (j + 1) by omega]⟩
theorem nth_some {lo : Lo} {i : Nat} {v : MV} : nthL lo i = some v ↔ lo[i]? = some (some v) := by
  unfold nthL
  cases h : lo[i]? with
  | none => simp
  | some x => cases x <;> simp
theorem prs_at {A : Nat → Option Nat} {lo : Lo} {ls : Array Slot} {nL i : Nat} {v : MV} (hl : lv_has ls nL (prsF A 0 lo)) (hn : nthL lo i = some v) : ls[i]? = some (.val (trV A v)) :=
  hl.2.2 (i, trV A v) ((mem_prs lo 0 _).mpr ⟨i, v, nth_some.mp hn, by simp⟩)
theorem nth_clr {lo : Lo} {i j : Nat} {w : MV} (h : nthL (clr lo i) j = some w) : nthL lo j = some w ∧ ¬ (j + 1 = i ∧ isLg w) := by
  unfold clr at h
  cases i with
  | zero => exact ⟨h, fun q => by omega⟩
  | succ i =>
    dsimp only at h
    split at h
    · rename_i z hz
      rw [nth_some, List.getElem?_set] at h
      by_cases e : i = j
      · rw [if_pos e] at h
        split at h <;> simp at h
      · rw [if_neg e] at h
        exact ⟨nth_some.mpr h, fun q => e (by omega)⟩
    · rename_i hz
      refine ⟨h, fun q => ?_⟩
      obtain ⟨q1, q2⟩ := q
      have : j = i := by omega
      subst this
      rcases w with z | z | r
      · exact q2
      · exact hz z h
      · exact q2
theorem clr_len (lo : Lo) (i : Nat) : (clr lo i).length = lo.length := by
  unfold clr
  cases i with
  | zero => rfl
  | succ i => dsimp only; split <;> simp
theorem nth_sto1 {lo : Lo} {i j : Nat} {v w : MV} (h : nthL (sto1 lo i v) j = some w) : (j = i ∧ w = v) ∨ (¬ j = i ∧ nthL lo j = some w ∧ ¬ (j + 1 = i ∧ isLg w)) := by
  unfold sto1 at h
  rw [nth_some, List.getElem?_set] at h
  by_cases e : i = j
  · rw [if_pos e] at h
    split at h
    · left; simp at h; exact ⟨e.symm, h.symm⟩
    · simp at h
  · rw [if_neg e] at h
    right
    exact ⟨fun q => e q.symm, nth_clr (nth_some.mpr h)⟩
theorem nth_sto2 {lo : Lo} {i j : Nat} {v w : MV} (h : nthL (sto2 lo i v) j = some w) : (j = i ∧ w = v) ∨ (¬ j = i ∧ ¬ j = i + 1 ∧ nthL lo j = some w ∧ ¬ (j + 1 = i ∧ isLg w)) := by
  unfold sto2 at h
  rw [nth_some, List.getElem?_set] at h
  by_cases e1 : i + 1 = j
  · rw [if_pos e1] at h
    split at h <;> simp at h
  · rw [if_neg e1] at h
    rcases nth_sto1 (lo := lo) (i := i) (j := j) (v := v) (nth_some.mpr h) with q | ⟨q1, q2, q3⟩
    · exact Or.inl q
    · exact Or.inr ⟨q1, fun q => e1 q.symm, q2, q3⟩
theorem sto1_len (lo : Lo) (i : Nat) (v : MV) : (sto1 lo i v).length = lo.length := by simp [sto1, clr_len]
theorem sto2_len (lo : Lo) (i : Nat) (v : MV) : (sto2 lo i v).length = lo.length := by simp [sto2, clr_len]
theorem has_sto1 {A : Nat → Option Nat} {lo : Lo} {ls : Array Slot} {nL i : Nat} {v : MV} (h : lv_has ls nL ((i, trV A v) :: (prsF A 0 lo).filter (fun q => !(q.1 == i) && !(q.1 + 1 == i && q.2.category == 2)))) : lv_has ls nL (prsF A 0 (sto1 lo i v)) := by
  refine ⟨h.1, h.2.1, fun q hq => h.2.2 q ?_⟩
  obtain ⟨j, w, hj, rfl⟩ := (mem_prs _ _ _).mp hq
  rcases nth_sto1 (nth_some.mpr hj) with ⟨rfl, rfl⟩ | ⟨q1, q2, q3⟩
  · simp
  · refine List.mem_cons_of_mem _ (List.mem_filter.mpr ⟨(mem_prs _ _ _).mpr ⟨j, w, nth_some.mp q2, rfl⟩, ?_⟩)
    have e1 : (0 + j == i) = false := by simp; exact q1
    have e2 : (0 + j + 1 == i && (trV A w).category == 2) = false := by
      rw [Bool.and_eq_false_iff]
      by_cases e : j + 1 = i
      · right
        have : ¬ (trV A w).category = 2 := fun q => q3 ⟨e, (trV_cat A w).mp q⟩
        simpa using this
      · left; simpa using e
    show (!(0 + j == i) && !(0 + j + 1 == i && (trV A w).category == 2)) = true
    rw [e1, e2]; rfl
theorem has_sto2 {A : Nat → Option Nat} {lo : Lo} {ls : Array Slot} {nL i : Nat} {v : MV} (h : lv_has ls nL ((i, trV A v) :: (prsF A 0 lo).filter (fun q => !(q.1 == i) && (!(q.1 == i + 1) && !(q.1 + 1 == i && q.2.category == 2))))) : lv_has ls nL (prsF A 0 (sto2 lo i v)) := by
  refine ⟨h.1, h.2.1, fun q hq => h.2.2 q ?_⟩
  obtain ⟨j, w, hj, rfl⟩ := (mem_prs _ _ _).mp hq
  rcases nth_sto2 (nth_some.mpr hj) with ⟨rfl, rfl⟩ | ⟨q1, q1', q2, q3⟩
  · simp
  · refine List.mem_cons_of_mem _ (List.mem_filter.mpr ⟨(mem_prs _ _ _).mpr ⟨j, w, nth_some.mp q2, rfl⟩, ?_⟩)
    have e1 : (0 + j == i) = false := by simp; exact q1
    have e3 : (0 + j == i + 1) = false := by simp; exact q1'
    have e2 : (0 + j + 1 == i && (trV A w).category == 2) = false := by
      rw [Bool.and_eq_false_iff]
      by_cases e : j + 1 = i
      · right
        have : ¬ (trV A w).category = 2 := fun q => q3 ⟨e, (trV_cat A w).mp q⟩
        simpa using this
      · left; simpa using e
    show (!(0 + j == i) && (!(0 + j == i + 1) && !(0 + j + 1 == i && (trV A w).category == 2))) = true
    rw [e1, e2, e3]; rfl
