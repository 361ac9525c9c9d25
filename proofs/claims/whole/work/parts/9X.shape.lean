/-! LEVEL 3: what holds between two calls -/
/-- the references that never change -/
def rfL : List (Nat × Int × Nat) := [(0, 3, 1), (0, 4, 10), (0, 5, 55), (0, 6, 56), (0, 11, 58), (0, 12, 59), (0, 14, 120), (0, 15, 123), (0, 16, 124), (0, 17, 126), (1, 0, 2), (1, 1, 4), (1, 2, 6), (1, 3, 8), (2, 0, 3), (4, 0, 5), (6, 0, 7), (8, 0, 9), (10, 5, 11), (10, 8, 12), (10, 9, 13), (10, 10, 14), (15, 1, 16), (15, 2, 17), (15, 3, 18), (15, 6, 19), (15, 7, 20), (15, 8, 21), (15, 9, 22), (15, 10, 23), (15, 11, 24), (15, 12, 25), (15, 14, 26), (15, 15, 27), (28, 1, 29), (28, 2, 30), (28, 3, 31), (28, 6, 32), (28, 7, 33), (28, 8, 34), (28, 9, 35), (28, 10, 36), (28, 11, 37), (28, 12, 38), (28, 14, 39), (28, 15, 40), (60, 1, 61), (60, 2, 62), (60, 3, 63), (60, 6, 64), (60, 7, 65), (60, 8, 66), (60, 9, 67), (60, 10, 68), (60, 11, 69), (60, 12, 70), (60, 14, 71), (60, 15, 72), (80, 1, 81), (80, 2, 82), (80, 3, 83), (80, 6, 84), (80, 7, 85), (80, 8, 86), (80, 9, 87), (80, 10, 88), (80, 11, 89), (80, 12, 90), (80, 14, 91), (80, 15, 92), (100, 1, 101), (100, 2, 102), (100, 3, 103), (100, 6, 104), (100, 7, 105), (100, 8, 106), (100, 9, 107), (100, 10, 108), (100, 11, 109), (100, 12, 110), (100, 14, 111), (100, 15, 112), (41, 3, 42), (41, 4, 43), (41, 5, 44), (41, 6, 45), (41, 7, 46), (41, 8, 47), (48, 3, 49), (48, 4, 50), (48, 5, 51), (48, 6, 52), (48, 7, 53), (48, 8, 54), (73, 3, 74), (73, 4, 75), (73, 5, 76), (73, 6, 77), (73, 7, 78), (73, 8, 79), (93, 3, 94), (93, 4, 95), (93, 5, 96), (93, 6, 97), (93, 7, 98), (93, 8, 99), (113, 3, 114), (113, 4, 115), (113, 5, 116), (113, 6, 117), (113, 7, 118), (113, 8, 119), (55, 0, 10), (56, 0, 10), (56, 1, 57), (58, 0, 60), (58, 1, 80), (58, 2, 100), (59, 0, 73), (59, 1, 93), (59, 2, 113), (120, 0, 121), (120, 1, 122), (124, 3, 125), (127, 0, 128), (127, 1, 129), (127, 5, 130), (127, 6, 131), (127, 7, 132), (127, 8, 133), (127, 9, 134), (127, 21, 135), (127, 25, 136), (127, 26, 137), (127, 27, 138), (127, 28, 139), (127, 29, 140), (127, 30, 141), (127, 31, 142), (127, 34, 143), (127, 35, 144), (127, 36, 145)]
def inrf (r : Nat) (i : Int) (t : Nat) : Bool := rfL.any (fun q => q.1 == r && (q.2.1 == i && q.2.2 == t))
/-- shapes of all cells, references of most -/
def Shp (h : Mem) : Prop := h.1 = growM 353 ∧ ∀ q ∈ rfL, gR h q.1 q.2.1 = q.2.2
theorem Shp.r {h : Mem} (q : Shp h) (r : Nat) (i : Int) (t : Nat) (e : inrf r i t = true) : gR h r i = t := by
  unfold inrf at e
  obtain ⟨x, x1, x2⟩ := List.any_eq_true.mp e
  simp only [Bool.and_eq_true, beq_iff_eq] at x2
  have := q.2 x x1
  rw [x2.1, x2.2.1, x2.2.2] at this
  exact this
def shK (r c : Nat) : Bool := ((growM 353).getD r (999, 0)).1 == c
def shL (r n : Nat) : Bool := ((growM 353).getD r (999, 0)).2 == n
theorem Shp.k {h : Mem} (q : Shp h) (r c : Nat) (e : shK r c = true) : kd h r = c := by
  unfold shK at e
  unfold kd
  rw [q.1]
  exact beq_iff_eq.mp e
theorem Shp.l {h : Mem} (q : Shp h) (r n : Nat) (e : shL r n = true) : ln h r = (n : Int) := by
  unfold shL at e
  unfold ln
  rw [q.1, beq_iff_eq.mp e]
/-- the references that may change -/
def vol (r : Nat) (i : Int) : Prop := (r = 0 ∧ 7 ≤ i ∧ i ≤ 10) ∨ (r = 56 ∧ (i = 3 ∨ i = 4)) ∨ r = 123 ∨ (r = 124 ∧ (i = 5 ∨ i = 6))
theorem rfL_v : ∀ q ∈ rfL, ¬ ((q.1 = 0 ∧ 7 ≤ q.2.1 ∧ q.2.1 ≤ 10) ∨ (q.1 = 56 ∧ (q.2.1 = 3 ∨ q.2.1 = 4)) ∨ q.1 = 123 ∨ (q.1 = 124 ∧ (q.2.1 = 5 ∨ q.2.1 = 6))) := by decide +kernel
theorem Shp.f {h h' : Mem} (q : Shp h) (e1 : h'.1 = h.1) (e2 : ∀ r i, ¬ vol r i → gR h' r i = gR h r i) : Shp h' := ⟨e1.trans q.1, fun x hx => (e2 _ _ (rfL_v x hx)).trans (q.2 x hx)⟩
theorem Shp.at15 {h : Mem} (q : Shp h) : VAt h 15 := ⟨(q.r 15 1 16 (by decide +kernel)), (q.r 15 2 17 (by decide +kernel)), (q.r 15 3 18 (by decide +kernel)), (q.r 15 6 19 (by decide +kernel)), (q.r 15 7 20 (by decide +kernel)), (q.r 15 8 21 (by decide +kernel)), (q.r 15 9 22 (by decide +kernel)), (q.r 15 10 23 (by decide +kernel)), (q.r 15 11 24 (by decide +kernel)), (q.r 15 12 25 (by decide +kernel)), (q.r 15 14 26 (by decide +kernel)), (q.r 15 15 27 (by decide +kernel))⟩
theorem Shp.ok15 {h : Mem} (q : Shp h) : VOk h 15 := by
  obtain ⟨t1, t2, t3, t4, t5, t6, t7, t8, t9, t10, t11, t12⟩ := q.at15
  refine ⟨(q.k 15 7 (by decide +kernel)), ?_, ?_, ?_, ?_, ?_, ?_, ?_, ?_, ?_, ?_, ?_, ?_⟩
  · rw [t1]; exact ⟨(q.k 16 100 (by decide +kernel)), (q.l 16 9 (by decide +kernel))⟩
  · rw [t2]; exact ⟨(q.k 17 100 (by decide +kernel)), (q.l 17 9 (by decide +kernel))⟩
  · rw [t3]; exact ⟨(q.k 18 100 (by decide +kernel)), (q.l 18 9 (by decide +kernel))⟩
  · rw [t4]; exact ⟨(q.k 19 101 (by decide +kernel)), (q.l 19 6 (by decide +kernel))⟩
  · rw [t5]; exact ⟨(q.k 20 100 (by decide +kernel)), (q.l 20 6 (by decide +kernel))⟩
  · rw [t6]; exact ⟨(q.k 21 100 (by decide +kernel)), (q.l 21 6 (by decide +kernel))⟩
  · rw [t7]; exact ⟨(q.k 22 100 (by decide +kernel)), (q.l 22 6 (by decide +kernel))⟩
  · rw [t8]; exact ⟨(q.k 23 100 (by decide +kernel)), (q.l 23 6 (by decide +kernel))⟩
  · rw [t9]; exact ⟨(q.k 24 100 (by decide +kernel)), (q.l 24 6 (by decide +kernel))⟩
  · rw [t10]; exact ⟨(q.k 25 100 (by decide +kernel)), (q.l 25 6 (by decide +kernel))⟩
  · rw [t11]; exact ⟨(q.k 26 100 (by decide +kernel)), (q.l 26 8 (by decide +kernel))⟩
  · rw [t12]; exact ⟨(q.k 27 100 (by decide +kernel)), (q.l 27 8 (by decide +kernel))⟩
theorem Shp.at28 {h : Mem} (q : Shp h) : VAt h 28 := ⟨(q.r 28 1 29 (by decide +kernel)), (q.r 28 2 30 (by decide +kernel)), (q.r 28 3 31 (by decide +kernel)), (q.r 28 6 32 (by decide +kernel)), (q.r 28 7 33 (by decide +kernel)), (q.r 28 8 34 (by decide +kernel)), (q.r 28 9 35 (by decide +kernel)), (q.r 28 10 36 (by decide +kernel)), (q.r 28 11 37 (by decide +kernel)), (q.r 28 12 38 (by decide +kernel)), (q.r 28 14 39 (by decide +kernel)), (q.r 28 15 40 (by decide +kernel))⟩
theorem Shp.ok28 {h : Mem} (q : Shp h) : VOk h 28 := by
  obtain ⟨t1, t2, t3, t4, t5, t6, t7, t8, t9, t10, t11, t12⟩ := q.at28
  refine ⟨(q.k 28 7 (by decide +kernel)), ?_, ?_, ?_, ?_, ?_, ?_, ?_, ?_, ?_, ?_, ?_, ?_⟩
  · rw [t1]; exact ⟨(q.k 29 100 (by decide +kernel)), (q.l 29 9 (by decide +kernel))⟩
  · rw [t2]; exact ⟨(q.k 30 100 (by decide +kernel)), (q.l 30 9 (by decide +kernel))⟩
  · rw [t3]; exact ⟨(q.k 31 100 (by decide +kernel)), (q.l 31 9 (by decide +kernel))⟩
  · rw [t4]; exact ⟨(q.k 32 101 (by decide +kernel)), (q.l 32 6 (by decide +kernel))⟩
  · rw [t5]; exact ⟨(q.k 33 100 (by decide +kernel)), (q.l 33 6 (by decide +kernel))⟩
  · rw [t6]; exact ⟨(q.k 34 100 (by decide +kernel)), (q.l 34 6 (by decide +kernel))⟩
  · rw [t7]; exact ⟨(q.k 35 100 (by decide +kernel)), (q.l 35 6 (by decide +kernel))⟩
  · rw [t8]; exact ⟨(q.k 36 100 (by decide +kernel)), (q.l 36 6 (by decide +kernel))⟩
  · rw [t9]; exact ⟨(q.k 37 100 (by decide +kernel)), (q.l 37 6 (by decide +kernel))⟩
  · rw [t10]; exact ⟨(q.k 38 100 (by decide +kernel)), (q.l 38 6 (by decide +kernel))⟩
  · rw [t11]; exact ⟨(q.k 39 100 (by decide +kernel)), (q.l 39 8 (by decide +kernel))⟩
  · rw [t12]; exact ⟨(q.k 40 100 (by decide +kernel)), (q.l 40 8 (by decide +kernel))⟩
theorem Shp.at60 {h : Mem} (q : Shp h) : VAt h 60 := ⟨(q.r 60 1 61 (by decide +kernel)), (q.r 60 2 62 (by decide +kernel)), (q.r 60 3 63 (by decide +kernel)), (q.r 60 6 64 (by decide +kernel)), (q.r 60 7 65 (by decide +kernel)), (q.r 60 8 66 (by decide +kernel)), (q.r 60 9 67 (by decide +kernel)), (q.r 60 10 68 (by decide +kernel)), (q.r 60 11 69 (by decide +kernel)), (q.r 60 12 70 (by decide +kernel)), (q.r 60 14 71 (by decide +kernel)), (q.r 60 15 72 (by decide +kernel))⟩
theorem Shp.ok60 {h : Mem} (q : Shp h) : VOk h 60 := by
  obtain ⟨t1, t2, t3, t4, t5, t6, t7, t8, t9, t10, t11, t12⟩ := q.at60
  refine ⟨(q.k 60 7 (by decide +kernel)), ?_, ?_, ?_, ?_, ?_, ?_, ?_, ?_, ?_, ?_, ?_, ?_⟩
  · rw [t1]; exact ⟨(q.k 61 100 (by decide +kernel)), (q.l 61 9 (by decide +kernel))⟩
  · rw [t2]; exact ⟨(q.k 62 100 (by decide +kernel)), (q.l 62 9 (by decide +kernel))⟩
  · rw [t3]; exact ⟨(q.k 63 100 (by decide +kernel)), (q.l 63 9 (by decide +kernel))⟩
  · rw [t4]; exact ⟨(q.k 64 101 (by decide +kernel)), (q.l 64 6 (by decide +kernel))⟩
  · rw [t5]; exact ⟨(q.k 65 100 (by decide +kernel)), (q.l 65 6 (by decide +kernel))⟩
  · rw [t6]; exact ⟨(q.k 66 100 (by decide +kernel)), (q.l 66 6 (by decide +kernel))⟩
  · rw [t7]; exact ⟨(q.k 67 100 (by decide +kernel)), (q.l 67 6 (by decide +kernel))⟩
  · rw [t8]; exact ⟨(q.k 68 100 (by decide +kernel)), (q.l 68 6 (by decide +kernel))⟩
  · rw [t9]; exact ⟨(q.k 69 100 (by decide +kernel)), (q.l 69 6 (by decide +kernel))⟩
  · rw [t10]; exact ⟨(q.k 70 100 (by decide +kernel)), (q.l 70 6 (by decide +kernel))⟩
  · rw [t11]; exact ⟨(q.k 71 100 (by decide +kernel)), (q.l 71 8 (by decide +kernel))⟩
  · rw [t12]; exact ⟨(q.k 72 100 (by decide +kernel)), (q.l 72 8 (by decide +kernel))⟩
theorem Shp.at80 {h : Mem} (q : Shp h) : VAt h 80 := ⟨(q.r 80 1 81 (by decide +kernel)), (q.r 80 2 82 (by decide +kernel)), (q.r 80 3 83 (by decide +kernel)), (q.r 80 6 84 (by decide +kernel)), (q.r 80 7 85 (by decide +kernel)), (q.r 80 8 86 (by decide +kernel)), (q.r 80 9 87 (by decide +kernel)), (q.r 80 10 88 (by decide +kernel)), (q.r 80 11 89 (by decide +kernel)), (q.r 80 12 90 (by decide +kernel)), (q.r 80 14 91 (by decide +kernel)), (q.r 80 15 92 (by decide +kernel))⟩
theorem Shp.ok80 {h : Mem} (q : Shp h) : VOk h 80 := by
  obtain ⟨t1, t2, t3, t4, t5, t6, t7, t8, t9, t10, t11, t12⟩ := q.at80
  refine ⟨(q.k 80 7 (by decide +kernel)), ?_, ?_, ?_, ?_, ?_, ?_, ?_, ?_, ?_, ?_, ?_, ?_⟩
  · rw [t1]; exact ⟨(q.k 81 100 (by decide +kernel)), (q.l 81 9 (by decide +kernel))⟩
  · rw [t2]; exact ⟨(q.k 82 100 (by decide +kernel)), (q.l 82 9 (by decide +kernel))⟩
  · rw [t3]; exact ⟨(q.k 83 100 (by decide +kernel)), (q.l 83 9 (by decide +kernel))⟩
  · rw [t4]; exact ⟨(q.k 84 101 (by decide +kernel)), (q.l 84 6 (by decide +kernel))⟩
  · rw [t5]; exact ⟨(q.k 85 100 (by decide +kernel)), (q.l 85 6 (by decide +kernel))⟩
  · rw [t6]; exact ⟨(q.k 86 100 (by decide +kernel)), (q.l 86 6 (by decide +kernel))⟩
  · rw [t7]; exact ⟨(q.k 87 100 (by decide +kernel)), (q.l 87 6 (by decide +kernel))⟩
  · rw [t8]; exact ⟨(q.k 88 100 (by decide +kernel)), (q.l 88 6 (by decide +kernel))⟩
  · rw [t9]; exact ⟨(q.k 89 100 (by decide +kernel)), (q.l 89 6 (by decide +kernel))⟩
  · rw [t10]; exact ⟨(q.k 90 100 (by decide +kernel)), (q.l 90 6 (by decide +kernel))⟩
  · rw [t11]; exact ⟨(q.k 91 100 (by decide +kernel)), (q.l 91 8 (by decide +kernel))⟩
  · rw [t12]; exact ⟨(q.k 92 100 (by decide +kernel)), (q.l 92 8 (by decide +kernel))⟩
theorem Shp.at100 {h : Mem} (q : Shp h) : VAt h 100 := ⟨(q.r 100 1 101 (by decide +kernel)), (q.r 100 2 102 (by decide +kernel)), (q.r 100 3 103 (by decide +kernel)), (q.r 100 6 104 (by decide +kernel)), (q.r 100 7 105 (by decide +kernel)), (q.r 100 8 106 (by decide +kernel)), (q.r 100 9 107 (by decide +kernel)), (q.r 100 10 108 (by decide +kernel)), (q.r 100 11 109 (by decide +kernel)), (q.r 100 12 110 (by decide +kernel)), (q.r 100 14 111 (by decide +kernel)), (q.r 100 15 112 (by decide +kernel))⟩
theorem Shp.ok100 {h : Mem} (q : Shp h) : VOk h 100 := by
  obtain ⟨t1, t2, t3, t4, t5, t6, t7, t8, t9, t10, t11, t12⟩ := q.at100
  refine ⟨(q.k 100 7 (by decide +kernel)), ?_, ?_, ?_, ?_, ?_, ?_, ?_, ?_, ?_, ?_, ?_, ?_⟩
  · rw [t1]; exact ⟨(q.k 101 100 (by decide +kernel)), (q.l 101 9 (by decide +kernel))⟩
  · rw [t2]; exact ⟨(q.k 102 100 (by decide +kernel)), (q.l 102 9 (by decide +kernel))⟩
  · rw [t3]; exact ⟨(q.k 103 100 (by decide +kernel)), (q.l 103 9 (by decide +kernel))⟩
  · rw [t4]; exact ⟨(q.k 104 101 (by decide +kernel)), (q.l 104 6 (by decide +kernel))⟩
  · rw [t5]; exact ⟨(q.k 105 100 (by decide +kernel)), (q.l 105 6 (by decide +kernel))⟩
  · rw [t6]; exact ⟨(q.k 106 100 (by decide +kernel)), (q.l 106 6 (by decide +kernel))⟩
  · rw [t7]; exact ⟨(q.k 107 100 (by decide +kernel)), (q.l 107 6 (by decide +kernel))⟩
  · rw [t8]; exact ⟨(q.k 108 100 (by decide +kernel)), (q.l 108 6 (by decide +kernel))⟩
  · rw [t9]; exact ⟨(q.k 109 100 (by decide +kernel)), (q.l 109 6 (by decide +kernel))⟩
  · rw [t10]; exact ⟨(q.k 110 100 (by decide +kernel)), (q.l 110 6 (by decide +kernel))⟩
  · rw [t11]; exact ⟨(q.k 111 100 (by decide +kernel)), (q.l 111 8 (by decide +kernel))⟩
  · rw [t12]; exact ⟨(q.k 112 100 (by decide +kernel)), (q.l 112 8 (by decide +kernel))⟩
theorem Shp.so41 {h : Mem} (q : Shp h) : SOk h 41 := ⟨(q.k 41 3 (by decide +kernel)), ⟨(q.r 41 3 42 (by decide +kernel)), (q.k 42 100 (by decide +kernel)), (q.l 42 60 (by decide +kernel))⟩, ⟨(q.r 41 4 43 (by decide +kernel)), (q.k 43 100 (by decide +kernel)), (q.l 43 60 (by decide +kernel))⟩, ⟨(q.r 41 5 44 (by decide +kernel)), (q.k 44 100 (by decide +kernel)), (q.l 44 60 (by decide +kernel))⟩, ⟨(q.r 41 6 45 (by decide +kernel)), (q.k 45 100 (by decide +kernel)), (q.l 45 60 (by decide +kernel))⟩, ⟨(q.r 41 7 46 (by decide +kernel)), (q.k 46 100 (by decide +kernel)), (q.l 46 60 (by decide +kernel))⟩, ⟨(q.r 41 8 47 (by decide +kernel)), (q.k 47 100 (by decide +kernel)), (q.l 47 60 (by decide +kernel))⟩⟩
theorem Shp.so48 {h : Mem} (q : Shp h) : SOk h 48 := ⟨(q.k 48 3 (by decide +kernel)), ⟨(q.r 48 3 49 (by decide +kernel)), (q.k 49 100 (by decide +kernel)), (q.l 49 60 (by decide +kernel))⟩, ⟨(q.r 48 4 50 (by decide +kernel)), (q.k 50 100 (by decide +kernel)), (q.l 50 60 (by decide +kernel))⟩, ⟨(q.r 48 5 51 (by decide +kernel)), (q.k 51 100 (by decide +kernel)), (q.l 51 60 (by decide +kernel))⟩, ⟨(q.r 48 6 52 (by decide +kernel)), (q.k 52 100 (by decide +kernel)), (q.l 52 60 (by decide +kernel))⟩, ⟨(q.r 48 7 53 (by decide +kernel)), (q.k 53 100 (by decide +kernel)), (q.l 53 60 (by decide +kernel))⟩, ⟨(q.r 48 8 54 (by decide +kernel)), (q.k 54 100 (by decide +kernel)), (q.l 54 60 (by decide +kernel))⟩⟩
theorem Shp.so73 {h : Mem} (q : Shp h) : SOk h 73 := ⟨(q.k 73 3 (by decide +kernel)), ⟨(q.r 73 3 74 (by decide +kernel)), (q.k 74 100 (by decide +kernel)), (q.l 74 60 (by decide +kernel))⟩, ⟨(q.r 73 4 75 (by decide +kernel)), (q.k 75 100 (by decide +kernel)), (q.l 75 60 (by decide +kernel))⟩, ⟨(q.r 73 5 76 (by decide +kernel)), (q.k 76 100 (by decide +kernel)), (q.l 76 60 (by decide +kernel))⟩, ⟨(q.r 73 6 77 (by decide +kernel)), (q.k 77 100 (by decide +kernel)), (q.l 77 60 (by decide +kernel))⟩, ⟨(q.r 73 7 78 (by decide +kernel)), (q.k 78 100 (by decide +kernel)), (q.l 78 60 (by decide +kernel))⟩, ⟨(q.r 73 8 79 (by decide +kernel)), (q.k 79 100 (by decide +kernel)), (q.l 79 60 (by decide +kernel))⟩⟩
theorem Shp.so93 {h : Mem} (q : Shp h) : SOk h 93 := ⟨(q.k 93 3 (by decide +kernel)), ⟨(q.r 93 3 94 (by decide +kernel)), (q.k 94 100 (by decide +kernel)), (q.l 94 60 (by decide +kernel))⟩, ⟨(q.r 93 4 95 (by decide +kernel)), (q.k 95 100 (by decide +kernel)), (q.l 95 60 (by decide +kernel))⟩, ⟨(q.r 93 5 96 (by decide +kernel)), (q.k 96 100 (by decide +kernel)), (q.l 96 60 (by decide +kernel))⟩, ⟨(q.r 93 6 97 (by decide +kernel)), (q.k 97 100 (by decide +kernel)), (q.l 97 60 (by decide +kernel))⟩, ⟨(q.r 93 7 98 (by decide +kernel)), (q.k 98 100 (by decide +kernel)), (q.l 98 60 (by decide +kernel))⟩, ⟨(q.r 93 8 99 (by decide +kernel)), (q.k 99 100 (by decide +kernel)), (q.l 99 60 (by decide +kernel))⟩⟩
theorem Shp.so113 {h : Mem} (q : Shp h) : SOk h 113 := ⟨(q.k 113 3 (by decide +kernel)), ⟨(q.r 113 3 114 (by decide +kernel)), (q.k 114 100 (by decide +kernel)), (q.l 114 60 (by decide +kernel))⟩, ⟨(q.r 113 4 115 (by decide +kernel)), (q.k 115 100 (by decide +kernel)), (q.l 115 60 (by decide +kernel))⟩, ⟨(q.r 113 5 116 (by decide +kernel)), (q.k 116 100 (by decide +kernel)), (q.l 116 60 (by decide +kernel))⟩, ⟨(q.r 113 6 117 (by decide +kernel)), (q.k 117 100 (by decide +kernel)), (q.l 117 60 (by decide +kernel))⟩, ⟨(q.r 113 7 118 (by decide +kernel)), (q.k 118 100 (by decide +kernel)), (q.l 118 60 (by decide +kernel))⟩, ⟨(q.r 113 8 119 (by decide +kernel)), (q.k 119 100 (by decide +kernel)), (q.l 119 60 (by decide +kernel))⟩⟩
theorem Shp.mk {h : Mem} (q : Shp h) : MKC h := by
  refine ⟨⟨(q.k 0 9 (by decide +kernel)), (q.r 0 11 58 (by decide +kernel)), (q.k 58 105 (by decide +kernel)), (q.l 58 3 (by decide +kernel)), (q.r 0 12 59 (by decide +kernel)), (q.k 59 106 (by decide +kernel)), (q.l 59 3 (by decide +kernel))⟩, fun i h0 h1 => ?_⟩
  rcases (show i = 0 ∨ i = 1 ∨ i = 2 by omega) with e | e | e
  · subst e; exact ⟨(q.r 58 0 60 (by decide +kernel)), (q.r 59 0 73 (by decide +kernel)), q.ok60, q.at60, q.so73⟩
  · subst e; exact ⟨(q.r 58 1 80 (by decide +kernel)), (q.r 59 1 93 (by decide +kernel)), q.ok80, q.at80, q.so93⟩
  · subst e; exact ⟨(q.r 58 2 100 (by decide +kernel)), (q.r 59 2 113 (by decide +kernel)), q.ok100, q.at100, q.so113⟩
theorem Shp.gk {h : Mem} (q : Shp h) : GK h := ⟨(q.k 120 1 (by decide +kernel)), (q.r 120 0 121 (by decide +kernel)), (q.r 120 1 122 (by decide +kernel)), (q.k 121 100 (by decide +kernel)), (q.l 121 6 (by decide +kernel)), (q.k 122 100 (by decide +kernel)), (q.l 122 64 (by decide +kernel)), (q.r 0 14 120 (by decide +kernel))⟩
theorem Shp.rk {h : Mem} (q : Shp h) : RK h := ⟨⟨(q.r 127 1 129 (by decide +kernel)), (q.k 129 101 (by decide +kernel)), (q.l 129 36 (by decide +kernel))⟩, ⟨(q.r 127 8 133 (by decide +kernel)), (q.k 133 102 (by decide +kernel)), (q.l 133 900 (by decide +kernel))⟩, ⟨(q.r 127 9 134 (by decide +kernel)), (q.k 134 102 (by decide +kernel)), (q.l 134 900 (by decide +kernel))⟩, ⟨(q.r 127 21 135 (by decide +kernel)), (q.k 135 100 (by decide +kernel)), (q.l 135 3 (by decide +kernel))⟩, ⟨(q.r 127 25 136 (by decide +kernel)), (q.k 136 100 (by decide +kernel)), (q.l 136 64 (by decide +kernel))⟩, ⟨(q.r 127 26 137 (by decide +kernel)), (q.k 137 100 (by decide +kernel)), (q.l 137 64 (by decide +kernel))⟩, ⟨(q.r 127 27 138 (by decide +kernel)), (q.k 138 100 (by decide +kernel)), (q.l 138 60 (by decide +kernel))⟩, ⟨(q.r 127 28 139 (by decide +kernel)), (q.k 139 103 (by decide +kernel)), (q.l 139 10 (by decide +kernel))⟩, ⟨(q.r 127 29 140 (by decide +kernel)), (q.k 140 100 (by decide +kernel)), (q.l 140 5 (by decide +kernel))⟩, ⟨(q.r 127 30 141 (by decide +kernel)), (q.k 141 100 (by decide +kernel)), (q.l 141 5 (by decide +kernel))⟩, ⟨(q.r 127 31 142 (by decide +kernel)), (q.k 142 100 (by decide +kernel)), (q.l 142 5 (by decide +kernel))⟩, ⟨(q.r 127 34 143 (by decide +kernel)), (q.k 143 100 (by decide +kernel)), (q.l 143 80 (by decide +kernel))⟩, ⟨(q.r 127 35 144 (by decide +kernel)), (q.k 144 100 (by decide +kernel)), (q.l 144 5 (by decide +kernel))⟩, ⟨(q.r 127 36 145 (by decide +kernel)), (q.k 145 100 (by decide +kernel)), (q.l 145 5 (by decide +kernel))⟩⟩
theorem Shp.ra {h : Mem} (q : Shp h) : RA h := ⟨(q.r 127 0 128 (by decide +kernel)), (q.k 128 100 (by decide +kernel)), (q.l 128 3198 (by decide +kernel))⟩
theorem Shp.r1 {h : Mem} (q : Shp h) : SR1 h := ⟨(q.k 56 4 (by decide +kernel)), (q.r 56 0 10 (by decide +kernel)), ⟨(q.r 56 1 57 (by decide +kernel)), (q.k 57 100 (by decide +kernel)), (q.l 57 3 (by decide +kernel))⟩⟩
theorem Shp.rd {h : Mem} (q : Shp h) : Rd h := ⟨(q.k 55 8 (by decide +kernel)), (q.r 55 0 10 (by decide +kernel))⟩
theorem Shp.tc {h : Mem} (q : Shp h) : (kd h 0 = 9 ∧ gR h 0 3 = 1 ∧ kd h 1 = 104 ∧ ln h 1 = 4) ∧ ∀ t, 0 ≤ t → t < 4 → gR h 1 t = tO t ∧ kd h (tO t) = 6 ∧ gR h (tO t) 0 = tN t ∧ kd h (tN t) = 101 ∧ ln h (tN t) = 60 := by
  refine ⟨⟨(q.k 0 9 (by decide +kernel)), (q.r 0 3 1 (by decide +kernel)), (q.k 1 104 (by decide +kernel)), (q.l 1 4 (by decide +kernel))⟩, fun t h0 h1 => ?_⟩
  rcases (show t = 0 ∨ t = 1 ∨ t = 2 ∨ t = 3 by omega) with e | e | e | e
  · subst e; exact ⟨(q.r 1 0 2 (by decide +kernel)), (q.k 2 6 (by decide +kernel)), (q.r 2 0 3 (by decide +kernel)), (q.k 3 101 (by decide +kernel)), (q.l 3 60 (by decide +kernel))⟩
  · subst e; exact ⟨(q.r 1 1 4 (by decide +kernel)), (q.k 4 6 (by decide +kernel)), (q.r 4 0 5 (by decide +kernel)), (q.k 5 101 (by decide +kernel)), (q.l 5 60 (by decide +kernel))⟩
  · subst e; exact ⟨(q.r 1 2 6 (by decide +kernel)), (q.k 6 6 (by decide +kernel)), (q.r 6 0 7 (by decide +kernel)), (q.k 7 101 (by decide +kernel)), (q.l 7 60 (by decide +kernel))⟩
  · subst e; exact ⟨(q.r 1 3 8 (by decide +kernel)), (q.k 8 6 (by decide +kernel)), (q.r 8 0 9 (by decide +kernel)), (q.k 9 101 (by decide +kernel)), (q.l 9 60 (by decide +kernel))⟩
theorem Shp.tr {h : Mem} (q : Shp h) : kd h 127 = 10 ∧ gR h 127 5 = 130 ∧ gR h 127 6 = 131 ∧ gR h 127 7 = 132 ∧ kd h 130 = 100 ∧ ln h 130 = 4 ∧ kd h 131 = 100 ∧ ln h 131 = 4 ∧ kd h 132 = 101 ∧ ln h 132 = 240 := ⟨(q.k 127 10 (by decide +kernel)), (q.r 127 5 130 (by decide +kernel)), (q.r 127 6 131 (by decide +kernel)), (q.r 127 7 132 (by decide +kernel)), (q.k 130 100 (by decide +kernel)), (q.l 130 4 (by decide +kernel)), (q.k 131 100 (by decide +kernel)), (q.l 131 4 (by decide +kernel)), (q.k 132 101 (by decide +kernel)), (q.l 132 240 (by decide +kernel))⟩
theorem Shp.tt {h : Mem} (q : Shp h) : (kd h 10 = 5 ∧ gR h 10 5 = 11 ∧ kd h 11 = 102 ∧ ln h 11 = 900) ∧ (gR h 10 8 = 12 ∧ kd h 12 = 100 ∧ ln h 12 = 12) ∧ (gR h 10 9 = 13 ∧ kd h 13 = 100 ∧ ln h 13 = 12) ∧ (gR h 10 10 = 14 ∧ kd h 14 = 101 ∧ ln h 14 = 12) := ⟨⟨(q.k 10 5 (by decide +kernel)), (q.r 10 5 11 (by decide +kernel)), (q.k 11 102 (by decide +kernel)), (q.l 11 900 (by decide +kernel))⟩, ⟨(q.r 10 8 12 (by decide +kernel)), (q.k 12 100 (by decide +kernel)), (q.l 12 12 (by decide +kernel))⟩, ⟨(q.r 10 9 13 (by decide +kernel)), (q.k 13 100 (by decide +kernel)), (q.l 13 12 (by decide +kernel))⟩, ⟨(q.r 10 10 14 (by decide +kernel)), (q.k 14 101 (by decide +kernel)), (q.l 14 12 (by decide +kernel))⟩⟩
theorem Shp.tu {h : Mem} (q : Shp h) : (kd h 127 = 10 ∧ gR h 127 8 = 133 ∧ kd h 133 = 102 ∧ ln h 133 = 900) ∧ (gR h 127 9 = 134 ∧ kd h 134 = 102 ∧ ln h 134 = 900) := ⟨⟨(q.k 127 10 (by decide +kernel)), (q.r 127 8 133 (by decide +kernel)), (q.k 133 102 (by decide +kernel)), (q.l 133 900 (by decide +kernel))⟩, ⟨(q.r 127 9 134 (by decide +kernel)), (q.k 134 102 (by decide +kernel)), (q.l 134 900 (by decide +kernel))⟩⟩
theorem Shp.lf {h : Mem} (q : Shp h) : gR h 0 16 = 124 ∧ kd h 124 = 2 ∧ gR h 124 3 = 125 ∧ kd h 125 = 100 ∧ ln h 125 = 60 := ⟨(q.r 0 16 124 (by decide +kernel)), (q.k 124 2 (by decide +kernel)), (q.r 124 3 125 (by decide +kernel)), (q.k 125 100 (by decide +kernel)), (q.l 125 60 (by decide +kernel))⟩
theorem Shp.ty {h : Mem} (q : Shp h) : gR h 0 17 = 126 ∧ kd h 126 = 100 ∧ ln h 126 = 5 := ⟨(q.r 0 17 126 (by decide +kernel)), (q.k 126 100 (by decide +kernel)), (q.l 126 5 (by decide +kernel))⟩
theorem Shp.ro {h : Mem} (q : Shp h) : RO h := ⟨(q.r 127 21 135 (by decide +kernel)), (q.k 135 100 (by decide +kernel)), (q.l 135 3 (by decide +kernel))⟩
theorem Shp.rm {h : Mem} (q : Shp h) : RM h := ⟨(q.r 127 1 129 (by decide +kernel)), (q.k 129 101 (by decide +kernel)), (q.l 129 36 (by decide +kernel))⟩
theorem Shp.x {h : Mem} (q : Shp h) : kd h 0 = 9 ∧ kd h 127 = 10 ∧ gR h 0 4 = 10 ∧ gR h 0 5 = 55 ∧ gR h 0 6 = 56 ∧ gR h 0 15 = 123 ∧ kd h 123 = 0 := ⟨(q.k 0 9 (by decide +kernel)), (q.k 127 10 (by decide +kernel)), (q.r 0 4 10 (by decide +kernel)), (q.r 0 5 55 (by decide +kernel)), (q.r 0 6 56 (by decide +kernel)), (q.r 0 15 123 (by decide +kernel)), (q.k 123 0 (by decide +kernel))⟩
