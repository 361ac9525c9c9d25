/-! every method checked, twenty at a time -/
set_option maxRecDepth 100000 in
theorem yk_0 : ∀ j, j < 20 → YOk (0 + j) := by unfold YOk; decide +kernel
set_option maxRecDepth 100000 in
theorem ck_0 : ∀ j, j < 20 → chkY (0 + j) := by unfold chkY; decide +kernel
theorem nk_0 : ∀ j, j < 20 → ¬ cln (0 + j) = 11 := by decide +kernel
set_option maxRecDepth 100000 in
theorem yk_1 : ∀ j, j < 20 → YOk (20 + j) := by unfold YOk; decide +kernel
set_option maxRecDepth 100000 in
theorem ck_1 : ∀ j, j < 20 → chkY (20 + j) := by unfold chkY; decide +kernel
theorem nk_1 : ∀ j, j < 20 → ¬ cln (20 + j) = 11 := by decide +kernel
set_option maxRecDepth 100000 in
theorem yk_2 : ∀ j, j < 20 → YOk (40 + j) := by unfold YOk; decide +kernel
set_option maxRecDepth 100000 in
theorem ck_2 : ∀ j, j < 20 → chkY (40 + j) := by unfold chkY; decide +kernel
theorem nk_2 : ∀ j, j < 20 → ¬ cln (40 + j) = 11 := by decide +kernel
set_option maxRecDepth 100000 in
theorem yk_3 : ∀ j, j < 20 → YOk (60 + j) := by unfold YOk; decide +kernel
set_option maxRecDepth 100000 in
theorem ck_3 : ∀ j, j < 20 → chkY (60 + j) := by unfold chkY; decide +kernel
theorem nk_3 : ∀ j, j < 20 → ¬ cln (60 + j) = 11 := by decide +kernel
set_option maxRecDepth 100000 in
theorem yk_4 : ∀ j, j < 20 → YOk (80 + j) := by unfold YOk; decide +kernel
set_option maxRecDepth 100000 in
theorem ck_4 : ∀ j, j < 20 → chkY (80 + j) := by unfold chkY; decide +kernel
theorem nk_4 : ∀ j, j < 20 → ¬ cln (80 + j) = 11 := by decide +kernel
set_option maxRecDepth 100000 in
theorem yk_5 : ∀ j, j < 20 → YOk (100 + j) := by unfold YOk; decide +kernel
set_option maxRecDepth 100000 in
theorem ck_5 : ∀ j, j < 20 → chkY (100 + j) := by unfold chkY; decide +kernel
theorem nk_5 : ∀ j, j < 20 → ¬ cln (100 + j) = 11 := by decide +kernel
set_option maxRecDepth 100000 in
theorem yk_6 : ∀ j, j < 20 → YOk (120 + j) := by unfold YOk; decide +kernel
set_option maxRecDepth 100000 in
theorem ck_6 : ∀ j, j < 20 → chkY (120 + j) := by unfold chkY; decide +kernel
theorem nk_6 : ∀ j, j < 20 → ¬ cln (120 + j) = 11 := by decide +kernel
set_option maxRecDepth 100000 in
theorem yk_7 : ∀ j, j < 20 → YOk (140 + j) := by unfold YOk; decide +kernel
set_option maxRecDepth 100000 in
theorem ck_7 : ∀ j, j < 20 → chkY (140 + j) := by unfold chkY; decide +kernel
theorem nk_7 : ∀ j, j < 20 → ¬ cln (140 + j) = 11 := by decide +kernel
set_option maxRecDepth 100000 in
theorem yk_8 : ∀ j, j < 20 → YOk (160 + j) := by unfold YOk; decide +kernel
set_option maxRecDepth 100000 in
theorem ck_8 : ∀ j, j < 20 → chkY (160 + j) := by unfold chkY; decide +kernel
theorem nk_8 : ∀ j, j < 20 → ¬ cln (160 + j) = 11 := by decide +kernel
set_option maxRecDepth 100000 in
theorem yk_9 : ∀ j, j < 20 → YOk (180 + j) := by unfold YOk; decide +kernel
set_option maxRecDepth 100000 in
theorem ck_9 : ∀ j, j < 20 → chkY (180 + j) := by unfold chkY; decide +kernel
theorem nk_9 : ∀ j, j < 20 → ¬ cln (180 + j) = 11 := by decide +kernel
set_option maxRecDepth 100000 in
theorem yk_10 : ∀ j, j < 20 → YOk (200 + j) := by unfold YOk; decide +kernel
set_option maxRecDepth 100000 in
theorem ck_10 : ∀ j, j < 20 → chkY (200 + j) := by unfold chkY; decide +kernel
theorem nk_10 : ∀ j, j < 20 → ¬ cln (200 + j) = 11 := by decide +kernel
set_option maxRecDepth 100000 in
theorem yk_11 : ∀ j, j < 20 → YOk (220 + j) := by unfold YOk; decide +kernel
set_option maxRecDepth 100000 in
theorem ck_11 : ∀ j, j < 20 → chkY (220 + j) := by unfold chkY; decide +kernel
theorem nk_11 : ∀ j, j < 20 → ¬ cln (220 + j) = 11 := by decide +kernel
set_option maxRecDepth 100000 in
theorem yk_12 : ∀ j, j < 20 → YOk (240 + j) := by unfold YOk; decide +kernel
set_option maxRecDepth 100000 in
theorem ck_12 : ∀ j, j < 20 → chkY (240 + j) := by unfold chkY; decide +kernel
theorem nk_12 : ∀ j, j < 20 → ¬ cln (240 + j) = 11 := by decide +kernel
set_option maxRecDepth 100000 in
theorem yk_13 : ∀ j, j < 20 → YOk (260 + j) := by unfold YOk; decide +kernel
set_option maxRecDepth 100000 in
theorem ck_13 : ∀ j, j < 20 → chkY (260 + j) := by unfold chkY; decide +kernel
theorem nk_13 : ∀ j, j < 20 → ¬ cln (260 + j) = 11 := by decide +kernel
set_option maxRecDepth 100000 in
theorem yk_14 : ∀ j, j < 20 → YOk (280 + j) := by unfold YOk; decide +kernel
set_option maxRecDepth 100000 in
theorem ck_14 : ∀ j, j < 20 → chkY (280 + j) := by unfold chkY; decide +kernel
theorem nk_14 : ∀ j, j < 20 → ¬ cln (280 + j) = 11 := by decide +kernel
set_option maxRecDepth 100000 in
theorem yk_15 : ∀ j, j < 20 → YOk (300 + j) := by unfold YOk; decide +kernel
set_option maxRecDepth 100000 in
theorem ck_15 : ∀ j, j < 20 → chkY (300 + j) := by unfold chkY; decide +kernel
theorem nk_15 : ∀ j, j < 20 → ¬ cln (300 + j) = 11 := by decide +kernel
set_option maxRecDepth 100000 in
theorem yk_16 : ∀ j, j < 20 → YOk (320 + j) := by unfold YOk; decide +kernel
set_option maxRecDepth 100000 in
theorem ck_16 : ∀ j, j < 20 → chkY (320 + j) := by unfold chkY; decide +kernel
theorem nk_16 : ∀ j, j < 20 → ¬ cln (320 + j) = 11 := by decide +kernel
set_option maxRecDepth 100000 in
theorem yk_17 : ∀ j, j < 13 → YOk (340 + j) := by unfold YOk; decide +kernel
set_option maxRecDepth 100000 in
theorem ck_17 : ∀ j, j < 13 → chkY (340 + j) := by unfold chkY; decide +kernel
theorem nk_17 : ∀ j, j < 13 → ¬ cln (340 + j) = 11 := by decide +kernel
theorem of20 {P : Nat → Prop} {a m y : Nat} (h : ∀ j, j < m → P (a + j)) (h1 : a ≤ y) (h2 : y < a + m) : P y := by
  have := h (y - a) (by omega)
  rwa [show a + (y - a) = y by omega] at this
theorem yk_all : ∀ y, y < NMc → YOk y := by
  intro y hy
  have hy : y < 353 := hy
  by_cases h0 : y < 20
  · exact of20 (P := YOk) yk_0 (by omega) (by omega)
  by_cases h1 : y < 40
  · exact of20 (P := YOk) yk_1 (by omega) (by omega)
  by_cases h2 : y < 60
  · exact of20 (P := YOk) yk_2 (by omega) (by omega)
  by_cases h3 : y < 80
  · exact of20 (P := YOk) yk_3 (by omega) (by omega)
  by_cases h4 : y < 100
  · exact of20 (P := YOk) yk_4 (by omega) (by omega)
  by_cases h5 : y < 120
  · exact of20 (P := YOk) yk_5 (by omega) (by omega)
  by_cases h6 : y < 140
  · exact of20 (P := YOk) yk_6 (by omega) (by omega)
  by_cases h7 : y < 160
  · exact of20 (P := YOk) yk_7 (by omega) (by omega)
  by_cases h8 : y < 180
  · exact of20 (P := YOk) yk_8 (by omega) (by omega)
  by_cases h9 : y < 200
  · exact of20 (P := YOk) yk_9 (by omega) (by omega)
  by_cases h10 : y < 220
  · exact of20 (P := YOk) yk_10 (by omega) (by omega)
  by_cases h11 : y < 240
  · exact of20 (P := YOk) yk_11 (by omega) (by omega)
  by_cases h12 : y < 260
  · exact of20 (P := YOk) yk_12 (by omega) (by omega)
  by_cases h13 : y < 280
  · exact of20 (P := YOk) yk_13 (by omega) (by omega)
  by_cases h14 : y < 300
  · exact of20 (P := YOk) yk_14 (by omega) (by omega)
  by_cases h15 : y < 320
  · exact of20 (P := YOk) yk_15 (by omega) (by omega)
  by_cases h16 : y < 340
  · exact of20 (P := YOk) yk_16 (by omega) (by omega)
  by_cases h17 : y < 353
  · exact of20 (P := YOk) yk_17 (by omega) (by omega)
  omega
theorem ck_all : ∀ y, y < NMc → chkY y := by
  intro y hy
  have hy : y < 353 := hy
  by_cases h0 : y < 20
  · exact of20 (P := chkY) ck_0 (by omega) (by omega)
  by_cases h1 : y < 40
  · exact of20 (P := chkY) ck_1 (by omega) (by omega)
  by_cases h2 : y < 60
  · exact of20 (P := chkY) ck_2 (by omega) (by omega)
  by_cases h3 : y < 80
  · exact of20 (P := chkY) ck_3 (by omega) (by omega)
  by_cases h4 : y < 100
  · exact of20 (P := chkY) ck_4 (by omega) (by omega)
  by_cases h5 : y < 120
  · exact of20 (P := chkY) ck_5 (by omega) (by omega)
  by_cases h6 : y < 140
  · exact of20 (P := chkY) ck_6 (by omega) (by omega)
  by_cases h7 : y < 160
  · exact of20 (P := chkY) ck_7 (by omega) (by omega)
  by_cases h8 : y < 180
  · exact of20 (P := chkY) ck_8 (by omega) (by omega)
  by_cases h9 : y < 200
  · exact of20 (P := chkY) ck_9 (by omega) (by omega)
  by_cases h10 : y < 220
  · exact of20 (P := chkY) ck_10 (by omega) (by omega)
  by_cases h11 : y < 240
  · exact of20 (P := chkY) ck_11 (by omega) (by omega)
  by_cases h12 : y < 260
  · exact of20 (P := chkY) ck_12 (by omega) (by omega)
  by_cases h13 : y < 280
  · exact of20 (P := chkY) ck_13 (by omega) (by omega)
  by_cases h14 : y < 300
  · exact of20 (P := chkY) ck_14 (by omega) (by omega)
  by_cases h15 : y < 320
  · exact of20 (P := chkY) ck_15 (by omega) (by omega)
  by_cases h16 : y < 340
  · exact of20 (P := chkY) ck_16 (by omega) (by omega)
  by_cases h17 : y < 353
  · exact of20 (P := chkY) ck_17 (by omega) (by omega)
  omega
theorem nk_all : ∀ y, y < NMc → ¬ cln y = 11 := by
  intro y hy
  have hy : y < 353 := hy
  by_cases h0 : y < 20
  · exact of20 (P := (fun y => ¬ cln y = 11)) nk_0 (by omega) (by omega)
  by_cases h1 : y < 40
  · exact of20 (P := (fun y => ¬ cln y = 11)) nk_1 (by omega) (by omega)
  by_cases h2 : y < 60
  · exact of20 (P := (fun y => ¬ cln y = 11)) nk_2 (by omega) (by omega)
  by_cases h3 : y < 80
  · exact of20 (P := (fun y => ¬ cln y = 11)) nk_3 (by omega) (by omega)
  by_cases h4 : y < 100
  · exact of20 (P := (fun y => ¬ cln y = 11)) nk_4 (by omega) (by omega)
  by_cases h5 : y < 120
  · exact of20 (P := (fun y => ¬ cln y = 11)) nk_5 (by omega) (by omega)
  by_cases h6 : y < 140
  · exact of20 (P := (fun y => ¬ cln y = 11)) nk_6 (by omega) (by omega)
  by_cases h7 : y < 160
  · exact of20 (P := (fun y => ¬ cln y = 11)) nk_7 (by omega) (by omega)
  by_cases h8 : y < 180
  · exact of20 (P := (fun y => ¬ cln y = 11)) nk_8 (by omega) (by omega)
  by_cases h9 : y < 200
  · exact of20 (P := (fun y => ¬ cln y = 11)) nk_9 (by omega) (by omega)
  by_cases h10 : y < 220
  · exact of20 (P := (fun y => ¬ cln y = 11)) nk_10 (by omega) (by omega)
  by_cases h11 : y < 240
  · exact of20 (P := (fun y => ¬ cln y = 11)) nk_11 (by omega) (by omega)
  by_cases h12 : y < 260
  · exact of20 (P := (fun y => ¬ cln y = 11)) nk_12 (by omega) (by omega)
  by_cases h13 : y < 280
  · exact of20 (P := (fun y => ¬ cln y = 11)) nk_13 (by omega) (by omega)
  by_cases h14 : y < 300
  · exact of20 (P := (fun y => ¬ cln y = 11)) nk_14 (by omega) (by omega)
  by_cases h15 : y < 320
  · exact of20 (P := (fun y => ¬ cln y = 11)) nk_15 (by omega) (by omega)
  by_cases h16 : y < 340
  · exact of20 (P := (fun y => ¬ cln y = 11)) nk_16 (by omega) (by omega)
  by_cases h17 : y < 353
  · exact of20 (P := (fun y => ¬ cln y = 11)) nk_17 (by omega) (by omega)
  omega
