/-! THE CLASS: reading its cells -/
theorem X_n {h : am_H} {x n e c : Nat} {s : sg} {α : Nat → Nat} (hX : RX h x n s α e c) : 1 ≤ n ∧ n ≤ 16 := hX.1.1.1
theorem X_T {h : am_H} {x n e c : Nat} {s : sg} {α : Nat → Nat} (hX : RX h x n s α e c) : am_T h x = 10 := hX.1.1.2.1
theorem X_R0 {h : am_H} {x n e c : Nat} {s : sg} {α : Nat → Nat} (hX : RX h x n s α e c) : am_R h 0 x = x + 1 := hX.1.1.2.2.1.1
theorem X_T0 {h : am_H} {x n e c : Nat} {s : sg} {α : Nat → Nat} (hX : RX h x n s α e c) : am_T h (x + 1) = 100 := hX.1.1.2.2.1.2.1
theorem X_N0 {h : am_H} {x n e c : Nat} {s : sg} {α : Nat → Nat} (hX : RX h x n s α e c) : am_N h (x + 1) = n := hX.1.1.2.2.1.2.2.1
theorem X_a0 {h : am_H} {x n e c : Nat} {s : sg} {α : Nat → Nat} (hX : RX h x n s α e c) {i : Nat} (hi : i < n) : am_aR h (x + 1) i = px x i := hX.1.1.2.2.1.2.2.2 i hi
theorem XP_T {h : am_H} {x n e c : Nat} {s : sg} {α : Nat → Nat} (hX : RX h x n s α e c) {i : Nat} (hi : i < n) : am_T h (px x i) = 11 := (hX.1.1.2.2.2.1 i hi).1
theorem XP_32 {h : am_H} {x n e c : Nat} {s : sg} {α : Nat → Nat} (hX : RX h x n s α e c) {i : Nat} (hi : i < n) : am_I h 32 (px x i) = nI (i + 1) := (hX.1.1.2.2.2.1 i hi).2.1
theorem XP_33 {h : am_H} {x n e c : Nat} {s : sg} {α : Nat → Nat} (hX : RX h x n s α e c) {i : Nat} (hi : i < n) : am_R h 33 (px x i) = px x i + 1 := (hX.1.1.2.2.2.1 i hi).2.2.1
theorem XP_T1 {h : am_H} {x n e c : Nat} {s : sg} {α : Nat → Nat} (hX : RX h x n s α e c) {i : Nat} (hi : i < n) : am_T h (px x i + 1) = 101 := (hX.1.1.2.2.2.1 i hi).2.2.2.1
theorem XP_N1 {h : am_H} {x n e c : Nat} {s : sg} {α : Nat → Nat} (hX : RX h x n s α e c) {i : Nat} (hi : i < n) : am_N h (px x i + 1) = 8 := (hX.1.1.2.2.2.1 i hi).2.2.2.2.1
theorem XP_a {h : am_H} {x n e c : Nat} {s : sg} {α : Nat → Nat} (hX : RX h x n s α e c) {i : Nat} (hi : i < n) {r : Nat} (hr : r < 8) : am_aR h (px x i + 1) r = kx x i r := (hX.1.1.2.2.2.1 i hi).2.2.2.2.2 r hr
theorem XK_T {h : am_H} {x n e c : Nat} {s : sg} {α : Nat → Nat} (hX : RX h x n s α e c) {i r : Nat} (hi : i < n) (hr : r < 8) : am_T h (kx x i r) = 12 := (hX.1.1.2.2.2.2.1 i r hi hr).1
theorem XK_64 {h : am_H} {x n e c : Nat} {s : sg} {α : Nat → Nat} (hX : RX h x n s α e c) {i r : Nat} (hi : i < n) (hr : r < 8) : am_R h 64 (kx x i r) = kx x i r + 1 := (hX.1.1.2.2.2.2.1 i r hi hr).2.1
theorem XK_65 {h : am_H} {x n e c : Nat} {s : sg} {α : Nat → Nat} (hX : RX h x n s α e c) {i r : Nat} (hi : i < n) (hr : r < 8) : am_R h 65 (kx x i r) = kx x i r + 2 := (hX.1.1.2.2.2.2.1 i r hi hr).2.2.1
theorem XK_68 {h : am_H} {x n e c : Nat} {s : sg} {α : Nat → Nat} (hX : RX h x n s α e c) {i r : Nat} (hi : i < n) (hr : r < 8) : am_R h 68 (kx x i r) = kx x i r + 3 := (hX.1.1.2.2.2.2.1 i r hi hr).2.2.2.1
theorem XK_69 {h : am_H} {x n e c : Nat} {s : sg} {α : Nat → Nat} (hX : RX h x n s α e c) {i r : Nat} (hi : i < n) (hr : r < 8) : am_R h 69 (kx x i r) = kx x i r + 4 := (hX.1.1.2.2.2.2.1 i r hi hr).2.2.2.2.1
theorem XK_T1 {h : am_H} {x n e c : Nat} {s : sg} {α : Nat → Nat} (hX : RX h x n s α e c) {i r : Nat} (hi : i < n) (hr : r < 8) : am_T h (kx x i r + 1) = 1 := (hX.1.1.2.2.2.2.1 i r hi hr).2.2.2.2.2.1
theorem XK_T2 {h : am_H} {x n e c : Nat} {s : sg} {α : Nat → Nat} (hX : RX h x n s α e c) {i r : Nat} (hi : i < n) (hr : r < 8) : am_T h (kx x i r + 2) = 1 := (hX.1.1.2.2.2.2.1 i r hi hr).2.2.2.2.2.2.1
theorem XK_T3 {h : am_H} {x n e c : Nat} {s : sg} {α : Nat → Nat} (hX : RX h x n s α e c) {i r : Nat} (hi : i < n) (hr : r < 8) : am_T h (kx x i r + 3) = 2 := (hX.1.1.2.2.2.2.1 i r hi hr).2.2.2.2.2.2.2.1
theorem XK_T4 {h : am_H} {x n e c : Nat} {s : sg} {α : Nat → Nat} (hX : RX h x n s α e c) {i r : Nat} (hi : i < n) (hr : r < 8) : am_T h (kx x i r + 4) = 2 := (hX.1.1.2.2.2.2.1 i r hi hr).2.2.2.2.2.2.2.2.1
theorem XK_N1 {h : am_H} {x n e c : Nat} {s : sg} {α : Nat → Nat} (hX : RX h x n s α e c) {i r : Nat} (hi : i < n) (hr : r < 8) : am_N h (kx x i r + 1) = 16 := (hX.1.1.2.2.2.2.1 i r hi hr).2.2.2.2.2.2.2.2.2.1
theorem XK_N2 {h : am_H} {x n e c : Nat} {s : sg} {α : Nat → Nat} (hX : RX h x n s α e c) {i r : Nat} (hi : i < n) (hr : r < 8) : am_N h (kx x i r + 2) = 16 := (hX.1.1.2.2.2.2.1 i r hi hr).2.2.2.2.2.2.2.2.2.2.1
theorem XK_N3 {h : am_H} {x n e c : Nat} {s : sg} {α : Nat → Nat} (hX : RX h x n s α e c) {i r : Nat} (hi : i < n) (hr : r < 8) : am_N h (kx x i r + 3) = 8 := (hX.1.1.2.2.2.2.1 i r hi hr).2.2.2.2.2.2.2.2.2.2.2.1
theorem XK_N4 {h : am_H} {x n e c : Nat} {s : sg} {α : Nat → Nat} (hX : RX h x n s α e c) {i r : Nat} (hi : i < n) (hr : r < 8) : am_N h (kx x i r + 4) = 8 := (hX.1.1.2.2.2.2.1 i r hi hr).2.2.2.2.2.2.2.2.2.2.2.2
theorem X_R1 {h : am_H} {x n e c : Nat} {s : sg} {α : Nat → Nat} (hX : RX h x n s α e c) : am_R h 1 x = ax x n := hX.1.1.2.2.2.2.2.1.1
theorem X_T_1 {h : am_H} {x n e c : Nat} {s : sg} {α : Nat → Nat} (hX : RX h x n s α e c) : am_T h (ax x n) = 102 := hX.1.1.2.2.2.2.2.1.2.1
theorem X_N1 {h : am_H} {x n e c : Nat} {s : sg} {α : Nat → Nat} (hX : RX h x n s α e c) : am_N h (ax x n) = 1001 := hX.1.1.2.2.2.2.2.1.2.2
theorem X_R2 {h : am_H} {x n e c : Nat} {s : sg} {α : Nat → Nat} (hX : RX h x n s α e c) : am_R h 2 x = ax x n + 1 := hX.1.1.2.2.2.2.2.2.1.1
theorem X_T2 {h : am_H} {x n e c : Nat} {s : sg} {α : Nat → Nat} (hX : RX h x n s α e c) : am_T h (ax x n + 1) = 16 := hX.1.1.2.2.2.2.2.2.1.2
theorem X_R3 {h : am_H} {x n e c : Nat} {s : sg} {α : Nat → Nat} (hX : RX h x n s α e c) : am_R h 3 x = ax x n + 2 := hX.1.1.2.2.2.2.2.2.2.1.1
theorem X_T3 {h : am_H} {x n e c : Nat} {s : sg} {α : Nat → Nat} (hX : RX h x n s α e c) : am_T h (ax x n + 2) = 1 := hX.1.1.2.2.2.2.2.2.2.1.2.1
theorem X_N3 {h : am_H} {x n e c : Nat} {s : sg} {α : Nat → Nat} (hX : RX h x n s α e c) : am_N h (ax x n + 2) = 4 := hX.1.1.2.2.2.2.2.2.2.1.2.2
theorem X_R4 {h : am_H} {x n e c : Nat} {s : sg} {α : Nat → Nat} (hX : RX h x n s α e c) : am_R h 4 x = ax x n + 3 := hX.1.1.2.2.2.2.2.2.2.2.1.1
theorem X_T4 {h : am_H} {x n e c : Nat} {s : sg} {α : Nat → Nat} (hX : RX h x n s α e c) : am_T h (ax x n + 3) = 1 := hX.1.1.2.2.2.2.2.2.2.2.1.2.1
theorem X_N4 {h : am_H} {x n e c : Nat} {s : sg} {α : Nat → Nat} (hX : RX h x n s α e c) : am_N h (ax x n + 3) = 101 := hX.1.1.2.2.2.2.2.2.2.2.1.2.2
theorem X_R5 {h : am_H} {x n e c : Nat} {s : sg} {α : Nat → Nat} (hX : RX h x n s α e c) : am_R h 5 x = ax x n + 4 := hX.1.1.2.2.2.2.2.2.2.2.2.1
theorem X_T5 {h : am_H} {x n e c : Nat} {s : sg} {α : Nat → Nat} (hX : RX h x n s α e c) : am_T h (ax x n + 4) = 2 := hX.1.1.2.2.2.2.2.2.2.2.2.2.1
theorem X_N5 {h : am_H} {x n e c : Nat} {s : sg} {α : Nat → Nat} (hX : RX h x n s α e c) : am_N h (ax x n + 4) = 101 := hX.1.1.2.2.2.2.2.2.2.2.2.2.2
theorem SI_02 {x n : Nat} : SI x n 0 2 9 x := Or.inl ⟨rfl, rfl, rfl, rfl⟩
theorem SI_03 {x n : Nat} : SI x n 0 3 10 x := Or.inr (Or.inl ⟨rfl, rfl, rfl, rfl⟩)
theorem SI_31 {x n : Nat} {i : Nat} (hi : i < n) : SI x n 31 (i + 1) 36 (px x i) := Or.inr (Or.inr (Or.inl ⟨i, hi, rfl, rfl, Or.inl ⟨rfl, rfl⟩⟩))
theorem SI_3 {x n : Nat} {i : Nat} (hi : i < n) : SI x n 3 (i + 1) 37 (px x i) := Or.inr (Or.inr (Or.inl ⟨i, hi, rfl, rfl, Or.inr (Or.inl ⟨rfl, rfl⟩)⟩))
theorem SI_4 {x n : Nat} {i : Nat} (hi : i < n) : SI x n 4 (i + 1) 38 (px x i) := Or.inr (Or.inr (Or.inl ⟨i, hi, rfl, rfl, Or.inr (Or.inr (⟨rfl, rfl⟩))⟩))
theorem SI_32 {x n : Nat} {i r : Nat} (hi : i < n) (hr : r < 8) : SI x n 32 (8 * (i + 1) + r) 66 (kx x i r) := Or.inr (Or.inr (Or.inr ⟨i, r, hi, hr, rfl, rfl, Or.inl ⟨rfl, rfl⟩⟩))
theorem SI_7 {x n : Nat} {i r : Nat} (hi : i < n) (hr : r < 8) : SI x n 7 (8 * (i + 1) + r) 67 (kx x i r) := Or.inr (Or.inr (Or.inr ⟨i, r, hi, hr, rfl, rfl, Or.inr (Or.inl ⟨rfl, rfl⟩)⟩))
theorem SI_9 {x n : Nat} {i r : Nat} (hi : i < n) (hr : r < 8) : SI x n 9 (8 * (i + 1) + r) 70 (kx x i r) := Or.inr (Or.inr (Or.inr ⟨i, r, hi, hr, rfl, rfl, Or.inr (Or.inr (⟨rfl, rfl⟩))⟩))
theorem SJ_00 {x n : Nat} : SJ x n 0 0 6 x := Or.inl ⟨rfl, Or.inl ⟨rfl, rfl, rfl⟩⟩
theorem SJ_01 {x n : Nat} : SJ x n 0 1 7 x := Or.inl ⟨rfl, Or.inr (Or.inl ⟨rfl, rfl, rfl⟩)⟩
theorem SJ_30 {x n : Nat} : SJ x n 30 0 8 x := Or.inl ⟨rfl, Or.inr (Or.inr ⟨rfl, rfl, rfl⟩)⟩
theorem SJ_1 {x n : Nat} {i : Nat} (hi : i < n) : SJ x n 1 (i + 1) 34 (px x i) := Or.inr (Or.inl ⟨i, hi, rfl, rfl, Or.inl ⟨rfl, rfl⟩⟩)
theorem SJ_2 {x n : Nat} {i : Nat} (hi : i < n) : SJ x n 2 (i + 1) 35 (px x i) := Or.inr (Or.inl ⟨i, hi, rfl, rfl, Or.inr (Or.inl ⟨rfl, rfl⟩)⟩)
theorem SJ_5 {x n : Nat} {i : Nat} (hi : i < n) : SJ x n 5 (i + 1) 39 (px x i) := Or.inr (Or.inl ⟨i, hi, rfl, rfl, Or.inr (Or.inr (Or.inl ⟨rfl, rfl⟩))⟩)
theorem SJ_6 {x n : Nat} {i : Nat} (hi : i < n) : SJ x n 6 (i + 1) 40 (px x i) := Or.inr (Or.inl ⟨i, hi, rfl, rfl, Or.inr (Or.inr (Or.inr (⟨rfl, rfl⟩)))⟩)
theorem SJ_12 {x n : Nat} {i r : Nat} (hi : i < n) (hr : r < 8) : SJ x n 12 (8 * (i + 1) + r) 71 (kx x i r) := Or.inr (Or.inr ⟨i, r, hi, hr, rfl, rfl, Or.inl ⟨rfl, rfl⟩⟩)
theorem SJ_13 {x n : Nat} {i r : Nat} (hi : i < n) (hr : r < 8) : SJ x n 13 (8 * (i + 1) + r) 72 (kx x i r) := Or.inr (Or.inr ⟨i, r, hi, hr, rfl, rfl, Or.inr (Or.inl ⟨rfl, rfl⟩)⟩)
theorem SJ_14 {x n : Nat} {i r : Nat} (hi : i < n) (hr : r < 8) : SJ x n 14 (8 * (i + 1) + r) 73 (kx x i r) := Or.inr (Or.inr ⟨i, r, hi, hr, rfl, rfl, Or.inr (Or.inr (⟨rfl, rfl⟩))⟩)
theorem TI_24 {x n : Nat} {j : Nat} (hj : j < 4) : TI x n 24 j (ax x n + 2) j := Or.inl ⟨rfl, rfl, rfl, hj⟩
theorem TI_21 {x n : Nat} {j : Nat} (hj : j < 101) : TI x n 21 j (ax x n + 3) j := Or.inr (Or.inl ⟨rfl, rfl, rfl, hj⟩)
theorem TJ_22 {x n : Nat} {j : Nat} (hj : j < 101) : TJ x n 22 j (ax x n + 4) j := Or.inl ⟨rfl, rfl, rfl, hj⟩
theorem TI_33 {x n : Nat} {i r : Nat} (hi : i < n) (hr : r < 8) {t : Nat} (ht : t < 16) : TI x n 33 (16 * (8 * (i + 1) + r) + t) (kx x i r + 1) t := Or.inr (Or.inr ⟨i, r, hi, hr, ht, rfl, Or.inl ⟨rfl, rfl⟩⟩)
theorem TI_34 {x n : Nat} {i r : Nat} (hi : i < n) (hr : r < 8) {t : Nat} (ht : t < 16) : TI x n 34 (16 * (8 * (i + 1) + r) + t) (kx x i r + 2) t := Or.inr (Or.inr ⟨i, r, hi, hr, ht, rfl, Or.inr ⟨rfl, rfl⟩⟩)
theorem TJ_10 {x n : Nat} {i r : Nat} (hi : i < n) (hr : r < 8) {t : Nat} (ht : t < 8) : TJ x n 10 (8 * (8 * (i + 1) + r) + t) (kx x i r + 3) t := Or.inr ⟨i, r, hi, hr, ht, rfl, Or.inl ⟨rfl, rfl⟩⟩
theorem TJ_11 {x n : Nat} {i r : Nat} (hi : i < n) (hr : r < 8) {t : Nat} (ht : t < 8) : TJ x n 11 (8 * (8 * (i + 1) + r) + t) (kx x i r + 4) t := Or.inr ⟨i, r, hi, hr, ht, rfl, Or.inr ⟨rfl, rfl⟩⟩
theorem X_9 {h : am_H} {x n e c : Nat} {s : sg} {α : Nat → Nat} (hX : RX h x n s α e c) : am_I h 9 x = iI (s 0 2) := hX.1.2.1 _ _ _ _ SI_02
theorem X_10 {h : am_H} {x n e c : Nat} {s : sg} {α : Nat → Nat} (hX : RX h x n s α e c) : am_I h 10 x = iI (s 0 3) := hX.1.2.1 _ _ _ _ SI_03
theorem X_6 {h : am_H} {x n e c : Nat} {s : sg} {α : Nat → Nat} (hX : RX h x n s α e c) : am_J h 6 x = jJ (s 0 0) := hX.1.2.2.1 _ _ _ _ SJ_00
theorem X_7 {h : am_H} {x n e c : Nat} {s : sg} {α : Nat → Nat} (hX : RX h x n s α e c) : am_J h 7 x = jJ (s 0 1) := hX.1.2.2.1 _ _ _ _ SJ_01
theorem X_8 {h : am_H} {x n e c : Nat} {s : sg} {α : Nat → Nat} (hX : RX h x n s α e c) : am_J h 8 x = jJ (s 30 0) := hX.1.2.2.1 _ _ _ _ SJ_30
theorem XP_36 {h : am_H} {x n e c : Nat} {s : sg} {α : Nat → Nat} (hX : RX h x n s α e c) {i : Nat} (hi : i < n) : am_I h 36 (px x i) = iI (s 31 (i + 1)) := hX.1.2.1 _ _ _ _ (SI_31 hi)
theorem XP_37 {h : am_H} {x n e c : Nat} {s : sg} {α : Nat → Nat} (hX : RX h x n s α e c) {i : Nat} (hi : i < n) : am_I h 37 (px x i) = iI (s 3 (i + 1)) := hX.1.2.1 _ _ _ _ (SI_3 hi)
theorem XP_38 {h : am_H} {x n e c : Nat} {s : sg} {α : Nat → Nat} (hX : RX h x n s α e c) {i : Nat} (hi : i < n) : am_I h 38 (px x i) = iI (s 4 (i + 1)) := hX.1.2.1 _ _ _ _ (SI_4 hi)
theorem XP_34 {h : am_H} {x n e c : Nat} {s : sg} {α : Nat → Nat} (hX : RX h x n s α e c) {i : Nat} (hi : i < n) : am_J h 34 (px x i) = jJ (s 1 (i + 1)) := hX.1.2.2.1 _ _ _ _ (SJ_1 hi)
theorem XP_35 {h : am_H} {x n e c : Nat} {s : sg} {α : Nat → Nat} (hX : RX h x n s α e c) {i : Nat} (hi : i < n) : am_J h 35 (px x i) = jJ (s 2 (i + 1)) := hX.1.2.2.1 _ _ _ _ (SJ_2 hi)
theorem XP_39 {h : am_H} {x n e c : Nat} {s : sg} {α : Nat → Nat} (hX : RX h x n s α e c) {i : Nat} (hi : i < n) : am_J h 39 (px x i) = jJ (s 5 (i + 1)) := hX.1.2.2.1 _ _ _ _ (SJ_5 hi)
theorem XP_40 {h : am_H} {x n e c : Nat} {s : sg} {α : Nat → Nat} (hX : RX h x n s α e c) {i : Nat} (hi : i < n) : am_J h 40 (px x i) = jJ (s 6 (i + 1)) := hX.1.2.2.1 _ _ _ _ (SJ_6 hi)
theorem XK_66 {h : am_H} {x n e c : Nat} {s : sg} {α : Nat → Nat} (hX : RX h x n s α e c) {i r : Nat} (hi : i < n) (hr : r < 8) : am_I h 66 (kx x i r) = iI (s 32 (8 * (i + 1) + r)) := hX.1.2.1 _ _ _ _ (SI_32 hi hr)
theorem XK_67 {h : am_H} {x n e c : Nat} {s : sg} {α : Nat → Nat} (hX : RX h x n s α e c) {i r : Nat} (hi : i < n) (hr : r < 8) : am_I h 67 (kx x i r) = iI (s 7 (8 * (i + 1) + r)) := hX.1.2.1 _ _ _ _ (SI_7 hi hr)
theorem XK_70 {h : am_H} {x n e c : Nat} {s : sg} {α : Nat → Nat} (hX : RX h x n s α e c) {i r : Nat} (hi : i < n) (hr : r < 8) : am_I h 70 (kx x i r) = iI (s 9 (8 * (i + 1) + r)) := hX.1.2.1 _ _ _ _ (SI_9 hi hr)
theorem XK_71 {h : am_H} {x n e c : Nat} {s : sg} {α : Nat → Nat} (hX : RX h x n s α e c) {i r : Nat} (hi : i < n) (hr : r < 8) : am_J h 71 (kx x i r) = jJ (s 12 (8 * (i + 1) + r)) := hX.1.2.2.1 _ _ _ _ (SJ_12 hi hr)
theorem XK_72 {h : am_H} {x n e c : Nat} {s : sg} {α : Nat → Nat} (hX : RX h x n s α e c) {i r : Nat} (hi : i < n) (hr : r < 8) : am_J h 72 (kx x i r) = jJ (s 13 (8 * (i + 1) + r)) := hX.1.2.2.1 _ _ _ _ (SJ_13 hi hr)
theorem XK_73 {h : am_H} {x n e c : Nat} {s : sg} {α : Nat → Nat} (hX : RX h x n s α e c) {i r : Nat} (hi : i < n) (hr : r < 8) : am_J h 73 (kx x i r) = jJ (s 14 (8 * (i + 1) + r)) := hX.1.2.2.1 _ _ _ _ (SJ_14 hi hr)
theorem X_a24 {h : am_H} {x n e c : Nat} {s : sg} {α : Nat → Nat} (hX : RX h x n s α e c) {j : Nat} (hj : j < 4) : am_aI h (ax x n + 2) j = iI (s 24 j) := hX.1.2.2.2.1 _ _ _ _ (TI_24 hj)
theorem X_a21 {h : am_H} {x n e c : Nat} {s : sg} {α : Nat → Nat} (hX : RX h x n s α e c) {j : Nat} (hj : j < 101) : am_aI h (ax x n + 3) j = iI (s 21 j) := hX.1.2.2.2.1 _ _ _ _ (TI_21 hj)
theorem X_a22 {h : am_H} {x n e c : Nat} {s : sg} {α : Nat → Nat} (hX : RX h x n s α e c) {j : Nat} (hj : j < 101) : am_aJ h (ax x n + 4) j = jJ (s 22 j) := hX.1.2.2.2.2 _ _ _ _ (TJ_22 hj)
theorem XK_a33 {h : am_H} {x n e c : Nat} {s : sg} {α : Nat → Nat} (hX : RX h x n s α e c) {i r : Nat} (hi : i < n) (hr : r < 8) {t : Nat} (ht : t < 16) : am_aI h (kx x i r + 1) t = iI (s 33 (16 * (8 * (i + 1) + r) + t)) := hX.1.2.2.2.1 _ _ _ _ (TI_33 hi hr ht)
theorem XK_a34 {h : am_H} {x n e c : Nat} {s : sg} {α : Nat → Nat} (hX : RX h x n s α e c) {i r : Nat} (hi : i < n) (hr : r < 8) {t : Nat} (ht : t < 16) : am_aI h (kx x i r + 2) t = iI (s 34 (16 * (8 * (i + 1) + r) + t)) := hX.1.2.2.2.1 _ _ _ _ (TI_34 hi hr ht)
theorem XK_a10 {h : am_H} {x n e c : Nat} {s : sg} {α : Nat → Nat} (hX : RX h x n s α e c) {i r : Nat} (hi : i < n) (hr : r < 8) {t : Nat} (ht : t < 8) : am_aJ h (kx x i r + 3) t = jJ (s 10 (8 * (8 * (i + 1) + r) + t)) := hX.1.2.2.2.2 _ _ _ _ (TJ_10 hi hr ht)
theorem XK_a11 {h : am_H} {x n e c : Nat} {s : sg} {α : Nat → Nat} (hX : RX h x n s α e c) {i r : Nat} (hi : i < n) (hr : r < 8) {t : Nat} (ht : t < 8) : am_aJ h (kx x i r + 4) t = jJ (s 11 (8 * (8 * (i + 1) + r) + t)) := hX.1.2.2.2.2 _ _ _ _ (TJ_11 hi hr ht)
/-- what a call of the class leaves: the new state, all cells that are not its own as they were -/
def gX (x n : Nat) (h : am_H) (s : sg) (α : Nat → Nat) (e c : Nat) (h' : am_H) : Prop := RX h' x n s α e c ∧ eqon (OX x n) h h'
theorem gX_rf {x n e c : Nat} {h : am_H} {s : sg} {α : Nat → Nat} (hX : RX h x n s α e c) : gX x n h s α e c h := ⟨hX, eqon_rf _ _⟩
theorem gX_tr {x n e c e' c' : Nat} {h h1 h2 : am_H} {s s' : sg} {α α' : Nat → Nat} (a : gX x n h s α e c h1) (b : gX x n h1 s' α' e' c' h2) : gX x n h s' α' e' c' h2 := ⟨b.1, eqon_tr a.2 b.2⟩
theorem gX_sI {x n k j f a e c : Nat} {h : am_H} {s : sg} {α : Nat → Nat} {v : Int} (hX : RX h x n s α e c) (hs : SI x n k j f a) : gX x n h (am_u2 s k j v) α e c (am_sI h f a (iI v)) := ⟨RX_sI hX hs, eqon_sI (SI_in hs).1⟩
theorem gX_sJ {x n k j f a e c : Nat} {h : am_H} {s : sg} {α : Nat → Nat} {v : Int} (hX : RX h x n s α e c) (hs : SJ x n k j f a) : gX x n h (am_u2 s k j v) α e c (am_sJ h f a (jJ v)) := ⟨RX_sJ hX hs, eqon_sJ (SJ_in hs).1⟩
theorem gX_xI {x n k j a t e c : Nat} {h : am_H} {s : sg} {α : Nat → Nat} {v : Int} (hX : RX h x n s α e c) (hs : TI x n k j a t) : gX x n h (am_u2 s k j v) α e c (am_xI h a t (iI v)) := ⟨RX_xI hX hs, eqon_xI (TI_in hs).1⟩
theorem gX_xJ {x n k j a t e c : Nat} {h : am_H} {s : sg} {α : Nat → Nat} {v : Int} (hX : RX h x n s α e c) (hs : TJ x n k j a t) : gX x n h (am_u2 s k j v) α e c (am_xJ h a t (jJ v)) := ⟨RX_xJ hX hs, eqon_xJ (TJ_in hs).1⟩
theorem px_ne {x i : Nat} : ¬ px x i = 0 := by unfold px; omega
/-! small calls, in whole numbers -/
theorem sp_findPort {d x n e c : Nat} {p : Int} {h : am_H} {s : sg} {α : Nat → Nat} {Q : Option am_V → am_H → Prop} (hX : RX h x n s α e c) (hp : rI p) (hbad : (p < 1 ∨ (n : Int) < p) → Q (some (.inr (.inr 0))) h) (hok : ∀ i : Nat, i < n → p = ((i + 1 : Nat) : Int) → Q (some (.inr (.inr (px x i)))) h) : am_PC (d + 1) mi_X_findPort [.inr (.inr x), .inl (iI p)] h Q := by
  have hn := X_n hX
  by_cases c : p < 1 ∨ (n : Int) < p
  · refine sp_findPort_f hX.1.1 ?_ (hbad c)
    rw [iI_p1 hp, iI_pn hp hn.2]
    omega
  · obtain ⟨k, hk⟩ : ∃ k : Nat, p = ((k + 1 : Nat) : Int) := ⟨p.toNat - 1, by omega⟩
    refine sp_findPort_t hX.1.1 (i := k) (by omega) (by rw [hk, iI_nat]) ?_ ?_ (hok k (by omega) hk)
    · rw [iI_p1 hp]; omega
    · rw [iI_pn hp hn.2]; omega
theorem sp_isRank {d : Nat} {r : Int} {h : am_H} {Q : Option am_V → am_H → Prop} (hr : rI r) (hbad : (r < 0 ∨ 7 < r) → Q (some (.inl 0)) h) (hok : ¬ (r < 0 ∨ 7 < r) → Q (some (.inl 1)) h) : am_PC (d + 1) mi_X_isRank [.inl (iI r)] h Q :=
  bk_X_isRank (ek_if (iI_lt (b := 0) hr (by unfold rI; omega)) (fun q => ⟨Or.inl rfl, hbad (Or.inl q)⟩) (fun q => ek_if (iI_le (a := 8) (by unfold rI; omega) hr) (fun q2 => ⟨Or.inl rfl, hbad (by omega)⟩) (fun q2 => ⟨Or.inr rfl, hok (by omega)⟩)))
theorem sp_isAddress {d : Nat} {r : Int} {h : am_H} {Q : Option am_V → am_H → Prop} (hr : rI r) (hbad : (r < 1 ∨ 1000 < r) → Q (some (.inl 0)) h) (hok : ¬ (r < 1 ∨ 1000 < r) → Q (some (.inl 1)) h) : am_PC (d + 1) mi_X_isAddress [.inl (iI r)] h Q :=
  bk_X_isAddress (ek_if (iI_lt (b := 1) hr (by unfold rI; omega)) (fun q => ⟨Or.inl rfl, hbad (Or.inl q)⟩) (fun q => ek_if (iI_lt (a := 1000) (by unfold rI; omega) hr) (fun q2 => ⟨Or.inl rfl, hbad (by omega)⟩) (fun q2 => ⟨Or.inr rfl, hok (by omega)⟩)))
theorem sp_isService {d : Nat} {r : Int} {h : am_H} {Q : Option am_V → am_H → Prop} (hr : rI r) (hbad : (r < 1 ∨ 100 < r) → Q (some (.inl 0)) h) (hok : ¬ (r < 1 ∨ 100 < r) → Q (some (.inl 1)) h) : am_PC (d + 1) mi_X_isService [.inl (iI r)] h Q :=
  bk_X_isService (ek_if (iI_lt (b := 1) hr (by unfold rI; omega)) (fun q => ⟨Or.inl rfl, hbad (Or.inl q)⟩) (fun q => ek_if (iI_lt (a := 100) (by unfold rI; omega) hr) (fun q2 => ⟨Or.inl rfl, hbad (by omega)⟩) (fun q2 => ⟨Or.inr rfl, hok (by omega)⟩)))
theorem sp_isSending {d x n e c i : Nat} {h : am_H} {s : sg} {α : Nat → Nat} {Q : Option am_V → am_H → Prop} (hX : RX h x n s α e c) (hi : i < n) (h3 : rI (s 3 (i + 1))) (h0 : s 3 (i + 1) = 0 → Q (some (.inl 0)) h) (h1 : ¬ s 3 (i + 1) = 0 → Q (some (.inl 1)) h) : am_PC (d + 1) mi_P_isSending [.inr (.inr (px x i))] h Q := by
  refine bk_P_isSending ?_
  rw [XP_37 hX hi]
  exact ⟨XP_T hX hi, ek_if (iI_eq (b := 0) h3 (by unfold rI; omega)) (fun q => ⟨Or.inl rfl, h0 q⟩) (fun q => ⟨Or.inr rfl, h1 q⟩)⟩
theorem sp_isShaped {d x n e c i r : Nat} {h : am_H} {s : sg} {α : Nat → Nat} {Q : Option am_V → am_H → Prop} (hX : RX h x n s α e c) (hi : i < n) (hr : r < 8) (h3 : rJ (s 12 (8 * (i + 1) + r))) (h0 : ¬ 0 < s 12 (8 * (i + 1) + r) → Q (some (.inl 0)) h) (h1 : 0 < s 12 (8 * (i + 1) + r) → Q (some (.inl 1)) h) : am_PC (d + 1) mi_K_isShaped [.inr (.inr (kx x i r))] h Q := by
  refine bk_K_isShaped ?_
  rw [XK_71 hX hi hr]
  exact ⟨XK_T hX hi hr, ek_if (cmp_le (b := 0) h3 (by unfold rJ; omega)) (fun q => ⟨Or.inl rfl, h0 (by omega)⟩) (fun q => ⟨Or.inr rfl, h1 (by omega)⟩)⟩
/-! dropped, clock, service, credit -/
theorem sp_X_dropped {d x n e c : Nat} {w : Int} {h : am_H} {s : sg} {α : Nat → Nat} {Q : Option am_V → am_H → Prop} (hX : RX h x n s α e c) (hw : rI w) (hQ : ∀ h', gX x n h s α e c h' → Q (some (.inl (iI (f_dropped s w)))) h') : am_PC (d + 1) mi_X_dropped [.inr (.inr x), .inl (iI w)] h Q := by
  have hq : ∀ (r : Int) (v : Int32), iI r = v → f_dropped s w = r → Q (some (.inl v)) h := fun r v e1 e => by subst e1; subst e; exact hQ _ (gX_rf hX)
  refine bk_X_dropped ?_
  rw [X_R3 hX, X_T3 hX, X_N3 hX, show Int32.ofNat 4 = iI 4 from rfl]
  refine ek_if (iI_lt (b := 0) hw (by unfold rI; omega)) (fun q => hq (-2) _ im2 (by unfold f_dropped; rw [if_pos (Or.inl q)])) (fun q => ⟨X_T hX, Or.inl rfl, ek_if (iI_lt (b := 4) hw (by unfold rI; omega)) (fun q2 => ⟨X_T hX, Or.inl rfl, iI_in (by omega) (by omega) (by omega), ?_⟩) (fun q2 => hq (-2) _ im2 (by unfold f_dropped; rw [if_pos (by omega)]))⟩)
  rw [iI_clamp (by omega) hw, X_a24 hX (by omega)]
  exact hq _ _ rfl (by unfold f_dropped; rw [if_neg (by omega)])
theorem sp_X_clock {d x n e c : Nat} {p v : Int} {h : am_H} {s : sg} {α : Nat → Nat} {Q : Option am_V → am_H → Prop} (hX : RX h x n s α e c) (hp : rI p) (hv : rJ v) (h2 : ∀ j, j < 17 → 0 ≤ s 2 j ∧ s 2 j ≤ 1000000)
    (hQ : ∀ h', gX x n h (f_clock n s p v).2 α e c h' → Q (some (.inl (iI (f_clock n s p v).1))) h') : am_PC (d + 2) mi_X_clock [.inr (.inr x), .inl (iI p), .inr (.inl (jJ v))] h Q := by
  have hn := X_n hX
  have hq : ∀ (y : Int × sg) (w : Int32) h', iI y.1 = w → f_clock n s p v = y → gX x n h y.2 α e c h' → Q (some (.inl w)) h' := fun y w h' e1 e g => by subst e1; subst e; exact hQ h' g
  refine bk_X_clock ⟨X_T hX, sp_findPort hX hp (fun cb => ⟨0, rfl, fun _ => hq (-1, s) _ _ im1 (by unfold f_clock; rw [if_pos cb]) (gX_rf hX), fun z => absurd rfl z⟩) (fun i hi ep => ⟨px x i, rfl, fun z => absurd z px_ne, fun _ => ?_⟩)⟩
  have cb : ¬ (p < 1 ∨ (n : Int) < p) := by omega
  have bad : (v < 0 ∨ 1000000 < v) → Q (some (.inl (-2))) h := fun c2 => hq (-2, s) _ _ im2 (by unfold f_clock; rw [if_neg cb, if_pos c2]) (gX_rf hX)
  refine ek_if (cmp_lt (b := 0) hv (by unfold rJ; omega)) (fun q => bad (by omega)) (fun q => ek_if (cmp_le (b := 1000000) hv (by unfold rJ; omega)) (fun q2 => ⟨XP_T hX hi, rfl, XP_T hX hi, XP_T hX hi, fun h4 e4 => ?_⟩) (fun q2 => bad (by omega)))
  have b2 := h2 (i + 1) (by omega)
  have e5 : h4 = am_sJ h 35 (px x i) (jJ (clk (s 2 (i + 1)) v)) := by
    rw [e4, XP_35 hX hi, jJ_sub, show (100 : Int64) = jJ 100 from rfl, jJ_neg]
    congr 1
    unfold clk
    by_cases c1 : v - s 2 (i + 1) < 100
    · rw [if_pos ((jJ_lt (by unfold rJ; omega) (by unfold rJ; omega)).mpr c1)]
      by_cases c2 : v - s 2 (i + 1) < -100
      · rw [if_pos ((jJ_lt (by unfold rJ; omega) (by unfold rJ; omega)).mpr c2), jJ_add, if_neg (by omega), if_pos (by omega)]
        rfl
      · rw [if_neg (fun z => c2 ((jJ_lt (by unfold rJ; omega) (by unfold rJ; omega)).mp z)), jJ_add]
        congr 1
        split <;> split <;> omega
    · rw [if_neg (fun z => c1 ((jJ_lt (by unfold rJ; omega) (by unfold rJ; omega)).mp z)), if_neg (fun z => absurd ((jJ_lt (by unfold rJ; omega) (by unfold rJ; omega)).mp z) (by omega)), jJ_add]
      congr 1
      split <;> split <;> omega
  have g4 : gX x n h (am_u2 s 2 (i + 1) (clk (s 2 (i + 1)) v)) α e c h4 := by subst e5; exact gX_sJ hX (SJ_2 hi)
  rw [XP_35 g4.1 hi, u2_eq]
  have ept : p.toNat = i + 1 := by omega
  have cl : 0 ≤ clk (s 2 (i + 1)) v ∧ clk (s 2 (i + 1)) v ≤ 1000000 := by unfold clk; split <;> split <;> omega
  rw [jJ_i (by unfold rI; omega)]
  exact ⟨XP_T g4.1 hi, hq (clk (s 2 (i + 1)) v, am_u2 s 2 (i + 1) (clk (s 2 (i + 1)) v)) _ _ rfl (by unfold f_clock; rw [if_neg cb, if_neg (by omega), ept]) g4⟩
theorem sp_X_service {d x n e c : Nat} {o f : Int} {h : am_H} {s : sg} {α : Nat → Nat} {Q : Option am_V → am_H → Prop} (hX : RX h x n s α e c) (ho : rI o) (hf : rI f) (ht : 0 ≤ s 0 0 ∧ s 0 0 ≤ 2000000) (h21 : ∀ j, j ≤ 100 → 0 ≤ s 21 j ∧ s 21 j ≤ 16) (h22 : ∀ j, j ≤ 100 → 0 ≤ s 22 j ∧ s 22 j ≤ 3000000)
    (hQ : ∀ h', gX x n h (f_service n s o f).2 α e c h' → Q (some (.inl (iI (f_service n s o f).1))) h') : am_PC (d + 3) mi_X_service [.inr (.inr x), .inl (iI o), .inl (iI f)] h Q := by
  have hn := X_n hX
  have hq : ∀ (y : Int × sg) (w : Int32) h', iI y.1 = w → f_service n s o f = y → gX x n h y.2 α e c h' → Q (some (.inl w)) h' := fun y w h' e1 e g => by subst e1; subst e; exact hQ h' g
  refine bk_X_service (ek_if (iI_eq (b := 0) ho (by unfold rI; omega)) (fun q => ⟨X_T hX, ?_⟩) (fun q => ⟨X_T hX, ?_⟩))
  · refine bk_X_offererOf (sp_isService hf (fun cb => ⟨0, rfl, fun _ => ⟨_, rfl, hq (-2, s) _ _ im2 (by unfold f_service; rw [if_neg (by omega), if_pos (by omega)]) (gX_rf hX)⟩, fun z => absurd rfl z⟩) (fun cb => ⟨1, rfl, fun z => absurd z (by decide), fun _ => ?_⟩))
    have b21 := h21 f.toNat (by omega)
    have b22 := h22 f.toNat (by omega)
    have hin : vp_in (iI f) 101 := iI_in (by omega) (by omega) (by omega)
    rw [X_R5 hX, X_T5 hX, X_N5 hX, X_6 hX, iI_clamp (by omega) hf, X_a22 hX (by omega), X_R4 hX, X_T4 hX, X_N4 hX, X_a21 hX (by omega)]
    refine ⟨X_T hX, X_T hX, rfl, hin, ek_if (cmp_ge (by unfold rJ; omega) (by unfold rJ; omega)) (fun c2 => ⟨_, rfl, hq (0, s) _ _ rfl ?_ (gX_rf hX)⟩) (fun c2 => ⟨X_T hX, Or.inl rfl, hin, _, rfl, ?_⟩)⟩
    · unfold f_service; rw [if_neg (by omega), if_neg (by omega), if_neg (by omega), if_neg (by omega)]
    · by_cases c3 : 0 < s 21 f.toNat
      · exact hq (s 21 f.toNat, s) _ _ rfl (by unfold f_service; rw [if_neg (by omega), if_neg (by omega), if_neg (by omega), if_pos (by omega)]) (gX_rf hX)
      · have e0 : s 21 f.toNat = 0 := by omega
        rw [e0]
        exact hq (0, s) _ _ rfl (by unfold f_service; rw [if_neg (by omega), if_neg (by omega), if_neg (by omega), if_neg (by omega)]) (gX_rf hX)
  · refine sp_findPort hX hf (fun cb => ⟨0, rfl, fun _ => hq (-1, s) _ _ im1 (by unfold f_service; rw [if_pos ⟨q, cb⟩]) (gX_rf hX), fun z => absurd rfl z⟩) (fun i hi ep => ⟨px x i, rfl, fun z => absurd z px_ne, fun _ => ?_⟩)
    refine sp_isService ho (fun cb => ⟨0, rfl, fun _ => hq (-2, s) _ _ im2 (by unfold f_service; rw [if_neg (by omega), if_pos (by omega)]) (gX_rf hX), fun z => absurd rfl z⟩) (fun cb => ⟨1, rfl, fun z => absurd z (by decide), fun _ => ?_⟩)
    have hin : vp_in (iI o) 101 := iI_in (by omega) (by omega) (by omega)
    rw [X_R4 hX, X_T4 hX, X_N4 hX, iI_clamp (by omega) ho]
    refine ⟨X_T hX, rfl, hin, fun h1 e1 => ?_⟩
    have g1 : gX x n h (am_u2 s 21 o.toNat f) α e c h1 := by subst e1; exact gX_xI hX (TI_21 (by omega))
    have hX1 := g1.1
    rw [X_R5 hX1, X_T5 hX1, X_N5 hX1, X_6 hX1, u2_ne (by decide), show (1000 : Int64) = jJ 1000 from rfl, jJ_add]
    refine ⟨X_T hX1, X_T hX1, rfl, hin, fun h2 e2 => ?_⟩
    have g2 : gX x n h1 (am_u2 (am_u2 s 21 o.toNat f) 22 o.toNat (s 0 0 + 1000)) α e c h2 := by subst e2; exact gX_xJ hX1 (TJ_22 (by omega))
    exact hq (f, am_u2 (am_u2 s 21 o.toNat f) 22 o.toNat (s 0 0 + 1000)) _ _ rfl (by unfold f_service; rw [if_neg (by omega), if_neg (by omega), if_pos (by omega)]) (gX_tr g1 g2)
theorem sp_X_credit {d x n e c : Nat} {p r a b : Int} {h : am_H} {s : sg} {α : Nat → Nat} {Q : Option am_V → am_H → Prop} (hX : RX h x n s α e c) (hp : rI p) (hr : rI r) (ha : rJ a) (hb : rJ b)
    (hQ : ∀ h', gX x n h (f_credit n s p r a b).2 α e c h' → Q (some (.inl (iI (f_credit n s p r a b).1))) h') : am_PC (d + 2) mi_X_credit [.inr (.inr x), .inl (iI p), .inl (iI r), .inr (.inl (jJ a)), .inr (.inl (jJ b))] h Q := by
  have hn := X_n hX
  have hq : ∀ (y : Int × sg) (w : Int32) h', iI y.1 = w → f_credit n s p r a b = y → gX x n h y.2 α e c h' → Q (some (.inl w)) h' := fun y w h' e1 e g => by subst e1; subst e; exact hQ h' g
  refine bk_X_credit ⟨X_T hX, sp_findPort hX hp (fun cb => ⟨0, rfl, fun _ => hq (-1, s) _ _ im1 (by unfold f_credit; rw [if_pos (by omega)]) (gX_rf hX), fun z => absurd rfl z⟩) (fun i hi ep => ⟨px x i, rfl, fun z => absurd z px_ne, fun _ => ?_⟩)⟩
  refine sp_isRank hr (fun cb => ⟨0, rfl, fun _ => hq (-1, s) _ _ im1 (by unfold f_credit; rw [if_pos (by omega)]) (gX_rf hX), fun z => absurd rfl z⟩) (fun cb => ⟨1, rfl, fun z => absurd z (by decide), fun _ => ?_⟩)
  have bad : (b < 1 ∨ 1000 < b ∨ a < 0 ∨ 10000 * b < a) → Q (some (.inl (-2))) h := fun c2 => hq (-2, s) _ _ im2 (by unfold f_credit; rw [if_neg (by omega), if_pos c2]) (gX_rf hX)
  refine ek_if (cmp_lt (b := 1) hb (by unfold rJ; omega)) (fun q => bad (by omega)) (fun q => ek_if (cmp_gt (b := 1000) hb (by unfold rJ; omega)) (fun q2 => bad (by omega)) (fun q2 => ek_if (cmp_lt (b := 0) ha (by unfold rJ; omega)) (fun q3 => bad (by omega)) (fun q3 => ?_)))
  obtain ⟨kr, rfl⟩ := Int.eq_ofNat_of_zero_le (show 0 ≤ r by omega)
  have hkr : kr < 8 := by omega
  rw [show (10000 : Int64) = jJ 10000 from rfl, jJ_mul, XP_33 hX hi, XP_T1 hX hi, XP_N1 hX hi, iI_nat kr, nI_clamp (by omega), XP_a hX hi hkr]
  refine ek_if (cmp_le ha (by unfold rJ; omega)) (fun q4 => ⟨XP_T hX hi, by decide, vp_in_nI hkr (by omega), XK_T hX hi hkr, bk_K_shape ⟨XK_T hX hi hkr, fun h1 e1 => ?_⟩⟩) (fun q4 => bad (by omega))
  have eq : (8 * p + (kr : Int)).toNat = 8 * (i + 1) + kr := by omega
  have g1 : gX x n h (am_u2 s 12 (8 * (i + 1) + kr) a) α e c h1 := by subst e1; exact gX_sJ hX (SJ_12 hi hkr)
  refine ⟨XK_T g1.1 hi hkr, fun h2 e2 => ?_⟩
  have g2 : gX x n h1 (am_u2 (am_u2 s 12 (8 * (i + 1) + kr) a) 13 (8 * (i + 1) + kr) b) α e c h2 := by subst e2; exact gX_sJ g1.1 (SJ_13 hi hkr)
  refine ⟨XK_T g2.1 hi hkr, fun h3 e3 => ⟨rfl, ?_⟩⟩
  have g3 : gX x n h2 (am_u2 (am_u2 (am_u2 s 12 (8 * (i + 1) + kr) a) 13 (8 * (i + 1) + kr) b) 14 (8 * (i + 1) + kr) 0) α e c h3 := by subst e3; exact gX_sJ (v := 0) g2.1 (SJ_14 hi hkr)
  exact hq (1, am_u2 (am_u2 (am_u2 s 12 (8 * (i + 1) + kr) a) 13 (8 * (i + 1) + kr) b) 14 (8 * (i + 1) + kr) 0) _ _ rfl (by unfold f_credit; rw [if_neg (by omega), if_neg (by omega), eq]) (gX_tr (gX_tr g1 g2) g3)
