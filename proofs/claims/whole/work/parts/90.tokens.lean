/-! LEVEL 2: texts: tokens, pure -/
def scN (p : Int → Bool) (n : Int) : Nat → Int → Int
  | 0, k => k
  | f + 1, k => if k < n ∧ p k = true then scN p n f (k + 1) else k
def sc (p : Int → Bool) (n k : Int) : Int := scN p n (n - k).toNat k
theorem sc_go {p : Int → Bool} {n k : Int} (h : k < n) (hp : p k = true) : sc p n k = sc p n (k + 1) := by
  unfold sc
  rw [show (n - k).toNat = (n - (k + 1)).toNat + 1 by omega]
  exact if_pos ⟨h, hp⟩
theorem sc_end {p : Int → Bool} {n k : Int} (h : ¬ (k < n ∧ p k = true)) : sc p n k = k := by
  unfold sc
  cases (n - k).toNat with
  | zero => rfl
  | succ m => exact if_neg h
theorem sc_b {p : Int → Bool} {n : Int} : ∀ (f : Nat) (k : Int), (n - k).toNat = f → k ≤ n → k ≤ sc p n k ∧ sc p n k ≤ n ∧ (∀ j, k ≤ j → j < sc p n k → p j = true) ∧ (sc p n k < n → p (sc p n k) = false) := by
  intro f; induction f with
  | zero =>
    intro k hf hk
    rw [sc_end (by omega)]
    exact ⟨by omega, hk, fun j a b => by omega, fun q => by omega⟩
  | succ f ih =>
    intro k hf hk
    by_cases c : p k = true
    · rw [sc_go (by omega) c]
      obtain ⟨i1, i2, i3, i4⟩ := ih (k + 1) (by omega) (by omega)
      refine ⟨by omega, i2, fun j a b => ?_, i4⟩
      by_cases e : j = k
      · rw [e]; exact c
      · exact i3 j (by omega) b
    · rw [sc_end (fun q => c q.2)]
      exact ⟨by omega, hk, fun j a b => by omega, fun _ => by cases h : p k with
        | true => exact absurd h c
        | false => rfl⟩
def bk (P : Int → Int) : Int → Bool := fun k => decide (P k = 10 ∨ P k = 32)
def lt (P : Int → Int) : Int → Bool := fun k => decide (97 ≤ P k ∧ P k ≤ 122)
def dg (P : Int → Int) : Int → Bool := fun k => decide (48 ≤ P k ∧ P k ≤ 57)
theorem lt_t {P : Int → Int} {k : Int} : lt P k = true ↔ 97 ≤ P k ∧ P k ≤ 122 := by unfold lt; exact decide_eq_true_iff
theorem dg_t {P : Int → Int} {k : Int} : dg P k = true ↔ 48 ≤ P k ∧ P k ≤ 57 := by unfold dg; exact decide_eq_true_iff
theorem bk_t {P : Int → Int} {k : Int} : bk P k = true ↔ P k = 10 ∨ P k = 32 := by unfold bk; exact decide_eq_true_iff
/-- bytes from a place on -/
def fs (P : Int → Int) : Int → Nat → List Int
  | _, 0 => []
  | a, m + 1 => P a :: fs P (a + 1) m
theorem fs_snoc {P : Int → Int} : ∀ (m : Nat) (a : Int), fs P a (m + 1) = fs P a m ++ [P (a + m)] := by
  intro m; induction m with
  | zero => intro a; show [P a] = [P (a + (0 : Nat))]; rw [show a + ((0 : Nat) : Int) = a by omega]
  | succ m ih =>
    intro a
    show P a :: fs P (a + 1) (m + 1) = P a :: (fs P (a + 1) m ++ [P (a + ((m + 1 : Nat) : Int))])
    rw [ih (a + 1), show a + 1 + (m : Int) = a + ((m + 1 : Nat) : Int) by omega]
theorem fs_len {P : Int → Int} : ∀ (m : Nat) (a : Int), (fs P a m).length = m := by
  intro m; induction m with
  | zero => intro a; rfl
  | succ m ih => intro a; show (fs P (a + 1) m).length + 1 = m + 1; rw [ih]
def kx : List (List Int) → List Int → Int → Int
  | [], _, _ => -1
  | w :: ws, s, n => if w = s then n else kx ws s (n + 1)
def CKW : List (List Int) := [[110, 101, 116], [102, 111, 103], [111, 100, 100, 115], [97, 114, 99, 104], [104, 111, 108, 100, 115], [109, 111, 115, 115], [116, 111, 108, 108], [112, 101, 114, 115, 111, 110], [119, 101, 105, 103, 104, 116], [100, 111, 117, 98, 116], [108, 111, 118, 101], [97, 116], [112, 108, 97, 110, 116], [106, 111, 121], [114, 117, 110], [114, 111, 112, 101], [106, 117, 109, 112], [104, 111, 109, 101], [100, 97, 121], [97, 110, 121], [119, 104, 101, 110], [111, 118, 101, 114], [108, 111, 111, 112], [101, 110, 100], [115, 116, 111, 112]]
def RKW : List (List Int) := [[110, 101, 116], [102, 111, 103], [111, 100, 100, 115], [97, 114, 99, 104], [112, 101, 114, 115, 111, 110], [112, 108, 97, 110, 116], [104, 111, 108, 100, 115], [109, 111, 115, 115], [116, 111, 108, 108], [119, 101, 105, 103, 104, 116], [100, 111, 117, 98, 116], [108, 111, 118, 101], [97, 116], [106, 111, 121], [114, 117, 110], [114, 111, 112, 101], [106, 117, 109, 112], [104, 111, 109, 101], [100, 97, 121], [97, 110, 121], [119, 104, 101, 110], [108, 111, 111, 112], [101, 110, 100], [115, 116, 111, 112], [111, 118, 101, 114]]
/-- the class's word and the reference's -/
def wR (c : Int) : Int := ([0, 1, 2, 3, 6, 7, 8, 4, 9, 10, 11, 12, 5, 13, 14, 15, 16, 17, 18, 19, 20, 24, 21, 22, 23] : List Int).getD c.toNat (-1)
theorem kx_b : ∀ (ws : List (List Int)) (s : List Int) (n : Int), kx ws s n = -1 ∨ (n ≤ kx ws s n ∧ kx ws s n < n + ws.length) := by
  intro ws; induction ws with
  | nil => intro s n; exact Or.inl rfl
  | cons w ws ih =>
    intro s n
    unfold kx
    by_cases e : w = s
    · rw [if_pos e]; refine Or.inr ⟨by omega, ?_⟩; show n < n + ((ws.length + 1 : Nat) : Int); omega
    · rw [if_neg e]
      rcases ih s (n + 1) with h | h
      · exact Or.inl h
      · refine Or.inr ⟨by omega, ?_⟩; show _ < n + ((ws.length + 1 : Nat) : Int); omega
theorem kx_in : ∀ (ws : List (List Int)) (s : List Int) (n : Int), 0 ≤ n → (kx ws s n = -1 ↔ ¬ s ∈ ws) := by
  intro ws; induction ws with
  | nil => intro s n hn; exact ⟨fun _ q => (List.not_mem_nil q), fun _ => rfl⟩
  | cons w ws ih =>
    intro s n hn
    unfold kx
    by_cases e : w = s
    · rw [if_pos e, e]
      exact ⟨fun q => by omega, fun q => absurd (List.mem_cons_self) q⟩
    · rw [if_neg e, ih s (n + 1) (by omega)]
      exact ⟨fun q m => by rcases List.mem_cons.mp m with x | x; exact e x.symm; exact q x, fun q m => q (List.mem_cons_of_mem _ m)⟩
theorem kw_all : ∀ s ∈ CKW, kx RKW s 0 = wR (kx CKW s 0) ∧ s.length ≤ 8 := by decide +kernel
theorem kw_mem : (∀ s ∈ RKW, s ∈ CKW) ∧ (∀ s ∈ CKW, s ∈ RKW) := by decide +kernel
/-- which word it is, in the one and in the other -/
theorem kw_R {s : List Int} : kx RKW s 0 = if kx CKW s 0 = -1 then -1 else wR (kx CKW s 0) := by
  by_cases m : s ∈ CKW
  · rw [if_neg (fun q => (kx_in CKW s 0 (by omega)).mp q m)]
    exact (kw_all s m).1
  · rw [if_pos ((kx_in CKW s 0 (by omega)).mpr m)]
    exact (kx_in RKW s 0 (by omega)).mpr (fun q => m (kw_mem.1 s q))
theorem wR_n {c : Int} (h0 : 0 ≤ c) (h1 : c < 25) : 0 ≤ wR c ∧ wR c ≤ 24 := by
  have : ∀ k : Nat, k < 25 → 0 ≤ wR (k : Int) ∧ wR (k : Int) ≤ 24 := by decide +kernel
  have := this c.toNat (by omega)
  rw [show ((c.toNat : Nat) : Int) = c by omega] at this
  exact this
-- a token that begins behind a place e: its place, its end, its code
def tF (P : Int → Int) (n e : Int) : Int := sc (bk P) n e
def tE (P : Int → Int) (n e : Int) : Int := if ¬ tF P n e < n then tF P n e else if lt P (tF P n e) = true then sc (lt P) n (tF P n e) else if dg P (tF P n e) = true then sc (dg P) n (tF P n e) else tF P n e + 1
def tW (P : Int → Int) (n e : Int) : List Int := fs P (tF P n e) (tE P n e - tF P n e).toNat
def sgC (c : Int) : Int := if c = 59 then 28 else if c = 60 then 29 else if c = 62 then 30 else if c = 61 then 31 else 33
def tC (P : Int → Int) (n e : Int) : Int := if ¬ tF P n e < n then 32 else if lt P (tF P n e) = true then (if 8 < tE P n e - tF P n e then 26 else if kx CKW (tW P n e) 0 = -1 then 25 else kx CKW (tW P n e) 0) else if dg P (tF P n e) = true then (if 4 < tE P n e - tF P n e then 33 else 27) else sgC (P (tF P n e))
/-- a number's value -/
def nv (P : Int → Int) (a : Int) : Nat → Int
  | 0 => 0
  | k + 1 => nv P a k * 10 + (P (a + k) - 48)
def c32 (w : List Int) : Int := w.foldl (fun v b => v * 32 + (b - 96)) 0
def c256 (w : List Int) : Int := w.foldl (fun v b => v * 256 + b) 0
theorem c32_s {P : Int → Int} {a : Int} {m : Nat} : c32 (fs P a (m + 1)) = c32 (fs P a m) * 32 + (P (a + m) - 96) := by
  unfold c32
  rw [fs_snoc, List.foldl_append]
  rfl
theorem c256_s {P : Int → Int} {a : Int} {m : Nat} : c256 (fs P a (m + 1)) = c256 (fs P a m) * 256 + P (a + m) := by
  unfold c256
  rw [fs_snoc, List.foldl_append]
  rfl
/-- what the class keeps beside a token's code -/
def TokV (P : Int → Int) (n e z : Int) : Prop := (tC P n e ≤ 25 → z = c32 (tW P n e)) ∧ (tC P n e = 27 → z = nv P (tF P n e) (tE P n e - tF P n e).toNat)
theorem tF_b {P : Int → Int} {n e : Int} (he : e ≤ n) : e ≤ tF P n e ∧ tF P n e ≤ n := by
  have := sc_b (p := bk P) _ e rfl he
  exact ⟨this.1, this.2.1⟩
theorem tE_b {P : Int → Int} {n e : Int} (he : e ≤ n) : tF P n e ≤ tE P n e ∧ tE P n e ≤ n ∧ (tF P n e < n → tF P n e < tE P n e) := by
  have hb := tF_b (P := P) he
  unfold tE
  by_cases c : tF P n e < n
  · rw [if_neg (fun q => q c)]
    by_cases l : lt P (tF P n e) = true
    · rw [if_pos l]
      have := sc_b (n := n) (p := lt P) _ (tF P n e + 1) rfl (by omega)
      rw [sc_go c l]
      omega
    · rw [if_neg l]
      by_cases g : dg P (tF P n e) = true
      · rw [if_pos g]
        have := sc_b (n := n) (p := dg P) _ (tF P n e + 1) rfl (by omega)
        rw [sc_go c g]
        omega
      · rw [if_neg g]; omega
  · rw [if_pos c]; omega
