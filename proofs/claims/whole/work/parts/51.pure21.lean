/-! THE CLASS: a port begins -/
theorem opw_mono {s : sg} {q k : Nat} {t c : Int} (h : opw s q t c k = true) : ∀ j, opw s q t c (k + j) = true := by
  intro j
  induction j with
  | zero => exact h
  | succ j ih => rw [show k + (j + 1) = (k + j) + 1 from rfl, opw, ih, Bool.true_or]
theorem lp_K_open {d x n e c0 i r : Nat} {t c : Int} {h : am_H} {s : sg} {α : Nat → Nat} {Q : Option am_V → am_H → Prop} (hX : RX h x n s α e c0) (hi : i < n) (hr : r < 8) (h9 : 0 ≤ s 9 (8 * (i + 1) + r) ∧ s 9 (8 * (i + 1) + r) ≤ 8) (h10 : ∀ j, j < 1088 → 0 ≤ s 10 j ∧ s 10 j ≤ 1000000) (h11 : ∀ j, j < 1088 → 0 ≤ s 11 j ∧ s 11 j ≤ 1000000) (ht : 0 ≤ t ∧ t ≤ 1000000) (hc : 0 ≤ c ∧ c ≤ 20000)
    (hQ : Q (some (.inl (bI (f_open s (8 * (i + 1) + r) t c)))) h) : ∀ (j k : Nat) (y2 y4 : Option am_V), (k : Int) + j = s 9 (8 * (i + 1) + r) → opw s (8 * (i + 1) + r) t c k = false → am_P d mi_K_isOpenFor 3 [some (.inr (.inr (kx x i r))), some (.inr (.inl (jJ t))), y2, some (.inr (.inl (jJ c))), y4, some (.inl (nI k))] [] h Q := by
  have hn := X_n hX
  have hq : ∀ b : Bool, b = f_open s (8 * (i + 1) + r) t c → Q (some (.inl (bI b))) h := fun b hb => by rw [hb]; exact hQ
  intro j
  induction j with
  | zero =>
    intro k y2 y4 hk ho
    refine bk_K_isOpenFor_3 ?_
    rw [XK_70 hX hi hr]
    refine ⟨XK_T hX hi hr, fun _ => ⟨XK_T hX hi hr, ek_if (iI_eq (b := 0) (by unfold rI; omega) (by unfold rI; omega)) (fun c1 => ⟨Or.inr rfl, hq true ?_⟩) (fun c1 => ⟨Or.inl rfl, hq false ?_⟩)⟩, fun z => absurd ?_ z⟩
    · unfold f_open; rw [decide_eq_true c1]; rfl
    · unfold f_open; rw [decide_eq_false c1, show (s 9 (8 * (i + 1) + r)).toNat = k by omega, ho]; rfl
    · rw [← iI_nat k]
      exact (iI_le (by unfold rI; omega) (by unfold rI; omega)).mpr (by omega)
  | succ j ih =>
    intro k y2 y4 hk ho
    have hk8 : k < 8 := by omega
    have b10 := h10 (8 * (8 * (i + 1) + r) + k) (by omega)
    have b11 := h11 (8 * (8 * (i + 1) + r) + k) (by omega)
    have nx : ¬ (s 10 (8 * (8 * (i + 1) + r) + k) ≤ t ∧ t + c ≤ s 11 (8 * (8 * (i + 1) + r) + k) ∧ t < s 11 (8 * (8 * (i + 1) + r) + k)) → am_P d mi_K_isOpenFor 3 [some (.inr (.inr (kx x i r))), some (.inr (.inl (jJ t))), none, some (.inr (.inl (jJ c))), none, some (.inl (nI (k + 1)))] [] h Q := by
      intro hno
      refine ih (k + 1) _ _ (by omega) ?_
      rw [opw, ho, Bool.false_or]
      by_cases c1 : s 10 (8 * (8 * (i + 1) + r) + k) ≤ t
      · by_cases c2 : t + c ≤ s 11 (8 * (8 * (i + 1) + r) + k)
        · rw [decide_eq_false (p := t < s 11 (8 * (8 * (i + 1) + r) + k)) (fun z => hno ⟨c1, c2, z⟩), Bool.and_false]
        · rw [decide_eq_false c2, Bool.and_false, Bool.false_and]
      · rw [decide_eq_false c1, Bool.false_and, Bool.false_and]
    refine bk_K_isOpenFor_3 ?_
    rw [XK_70 hX hi hr, XK_68 hX hi hr, XK_T3 hX hi hr, XK_N3 hX hi hr, nI_clamp (by omega), XK_a10 hX hi hr hk8, XK_69 hX hi hr, XK_T4 hX hi hr, XK_N4 hX hi hr, XK_a11 hX hi hr hk8, nI_1 k, jJ_sub]
    have hin : vp_in (nI k) 8 := vp_in_nI hk8 (by omega)
    refine ⟨XK_T hX hi hr, fun z => ?_, fun _ => ⟨XK_T hX hi hr, rfl, hin, ek_if (cmp_gt (by unfold rJ; omega) (by unfold rJ; omega)) (fun c1 => nx (by omega)) (fun c1 => ⟨XK_T hX hi hr, rfl, hin, ek_if (cmp_ge (by unfold rJ; omega) (by unfold rJ; omega)) (fun c2 => nx (by omega)) (fun c2 => ⟨XK_T hX hi hr, rfl, hin, ek_if (cmp_gt (by unfold rJ; omega) (by unfold rJ; omega)) (fun c3 => nx (by omega)) (fun c3 => ⟨Or.inr rfl, hq true ?_⟩)⟩)⟩)⟩⟩
    · rw [← iI_nat k, iI_le (by unfold rI; omega) (by unfold rI; omega)] at z
      omega
    · have h1 : opw s (8 * (i + 1) + r) t c (k + 1) = true := by
        rw [opw, decide_eq_true (by omega), decide_eq_true (by omega), decide_eq_true (by omega)]
        simp
      have h2 := opw_mono h1 j
      unfold f_open
      rw [show (s 9 (8 * (i + 1) + r)).toNat = k + 1 + j by omega, h2, Bool.or_true]
theorem sp_letsBegin {d x n e c0 i r : Nat} {t c : Int} {h : am_H} {s : sg} {α : Nat → Nat} {Q : Option am_V → am_H → Prop} (hX : RX h x n s α e c0) (hi : i < n) (hr : r < 8) (hw : WS s) (ht : 0 ≤ t ∧ t ≤ 1000000) (hc : 0 ≤ c ∧ c ≤ 20000)
    (hQ : Q (some (.inl (bI ((decide (s 12 (8 * (i + 1) + r) = 0) || decide (0 ≤ s 14 (8 * (i + 1) + r))) && f_open s (8 * (i + 1) + r) t c)))) h) : am_PC (d + 2) mi_K_letsBegin [.inr (.inr (kx x i r)), .inr (.inl (jJ t)), .inr (.inl (jJ c))] h Q := by
  have hn := X_n hX
  obtain ⟨w0, w1, w2, w3, w4, a1, a2, a3, a4, a5, a6, a7, a8, a9, a10, a11, a12, a13, a14, a15, a16, a17, a18, a19, a20, a21, a22⟩ := WM_of hw
  have b12 := a12 (8 * (i + 1) + r) (by omega)
  have b14 := a14 (8 * (i + 1) + r) (by omega)
  have hq : ∀ b : Bool, b = ((decide (s 12 (8 * (i + 1) + r) = 0) || decide (0 ≤ s 14 (8 * (i + 1) + r))) && f_open s (8 * (i + 1) + r) t c) → Q (some (.inl (bI b))) h := fun b hb => by rw [hb]; exact hQ
  have rest : (decide (s 12 (8 * (i + 1) + r) = 0) || decide (0 ≤ s 14 (8 * (i + 1) + r))) = true → am_P (d + 1) mi_K_letsBegin 16 [some (.inr (.inr (kx x i r))), some (.inr (.inl (jJ t))), none, some (.inr (.inl (jJ c))), none] [] h Q := by
    intro hb
    refine bk_K_letsBegin_16 ⟨XK_T hX hi hr, bk_K_isOpenFor (lp_K_open hX hi hr (a9 _ (by omega)) a10 a11 ht hc ⟨_, rfl, fun z => ⟨Or.inl rfl, hq false ?_⟩, fun z => ⟨Or.inr rfl, hq true ?_⟩⟩ (s 9 (8 * (i + 1) + r)).toNat 0 none none (by have := a9 (8 * (i + 1) + r) (by omega); omega) rfl)⟩
    · rw [bI_f.mp z, Bool.and_false]
    · rw [bI_t.mp z, hb]; rfl
  refine bk_K_letsBegin ⟨XK_T hX hi hr, ?_⟩
  refine sp_isShaped hX hi hr (by unfold rJ; omega) (fun c1 => ⟨0, rfl, fun _ => rest (by rw [decide_eq_true (p := s 12 (8 * (i + 1) + r) = 0) (by omega)]; rfl), fun z => absurd rfl z⟩) (fun c1 => ⟨1, rfl, fun z => absurd z (by decide), fun _ => ?_⟩)
  rw [XK_73 hX hi hr]
  refine ⟨XK_T hX hi hr, ek_if (cmp_lt (b := 0) (by unfold rJ; omega) (by unfold rJ; omega)) (fun c2 => ⟨Or.inl rfl, hq false ?_⟩) (fun c2 => rest (by rw [decide_eq_true (p := 0 ≤ s 14 (8 * (i + 1) + r)) (by omega), Bool.or_true]))⟩
  rw [decide_eq_false (by omega), decide_eq_false (by omega)]
  rfl
theorem sp_removeFirst {d x n e c0 i r : Nat} {h : am_H} {s : sg} {α : Nat → Nat} {Q : Option am_V → am_H → Prop} (hX : RX h x n s α e c0) (hi : i < n) (hr : r < 8) (h32 : 0 ≤ s 32 (8 * (i + 1) + r) ∧ s 32 (8 * (i + 1) + r) ≤ 15)
    (hQ : ∀ h', gX x n h (am_u2 (am_u2 s 32 (8 * (i + 1) + r) ((s 32 (8 * (i + 1) + r) + 1) % 16)) 7 (8 * (i + 1) + r) (s 7 (8 * (i + 1) + r) - 1)) α e c0 h' → Q (some (.inl (iI (s 33 (16 * (8 * (i + 1) + r) + (s 32 (8 * (i + 1) + r)).toNat))))) h') : am_PC (d + 1) mi_K_removeFirst [.inr (.inr (kx x i r))] h Q := by
  refine bk_K_removeFirst ?_
  rw [XK_64 hX hi hr, XK_T1 hX hi hr, XK_N1 hX hi hr, XK_66 hX hi hr, iI_clamp h32.1 (by unfold rI; omega), XK_a33 hX hi hr (by omega), show (1 : Int32) = iI 1 from rfl, iI_add, show (16 : Int32) = iI 16 from rfl, iI_mod (by omega) (by omega) (by unfold rI; omega) (by unfold rI; omega)]
  refine ⟨XK_T hX hi hr, XK_T hX hi hr, Or.inl rfl, iI_in h32.1 (by omega) (by omega), XK_T hX hi hr, by decide, XK_T hX hi hr, fun h1 e1 => ?_⟩
  have g1 : gX x n h (am_u2 s 32 (8 * (i + 1) + r) ((s 32 (8 * (i + 1) + r) + 1) % 16)) α e c0 h1 := by subst e1; exact gX_sI hX (SI_32 hi hr)
  rw [XK_67 g1.1 hi hr, u2_ne (by decide), iI_sub]
  exact ⟨rfl, XK_T g1.1 hi hr, XK_T g1.1 hi hr, fun h2 e2 => hQ h2 (gX_tr g1 (by subst e2; exact gX_sI g1.1 (SI_7 hi hr)))⟩
theorem lp_P_begin {d x n e c0 i : Nat} {h : am_H} {s : sg} {α : Nat → Nat} {Q : Option am_V → am_H → Prop} (hX : RX h x n s α e c0) (hi : i < n) (hw : WS s) (hK : WK s) (h1 : 0 < s 1 (i + 1)) (h3 : s 3 (i + 1) = 0)
    (hQ : ∀ h', gX x n h (f_begp s (i + 1) 8) α e c0 h' → Q none h') : ∀ (j k : Nat) (y2 y3 y4 y6 y8 y9 y10 : Option am_V), k + j = 8 → (∀ j', j' < k → f_may s (i + 1) (7 - j') = false) → am_P (d + 2) mi_P_beginNext 44 [some (.inr (.inr (px x i))), some (.inr (.inl (jJ (s 0 0)))), y2, y3, y4, some (.inr (.inl (jJ ((s 0 0 + s 2 (i + 1)) % s 0 1)))), y6, some (.inl (iI (7 - (k : Int)))), y8, y9, y10] [] h Q := by
  have hn := X_n hX
  obtain ⟨w0, w1, w2, w3, w4, a1, a2, a3, a4, a5, a6, a7, a8, a9, a10, a11, a12, a13, a14, a15, a16, a17, a18, a19, a20, a21, a22⟩ := WM_of hw
  obtain ⟨k1, k2, k3⟩ := hK
  intro j
  induction j with
  | zero =>
    intro k y2 y3 y4 y6 y8 y9 y10 hk hs
    have hk : k = 8 := by omega
    subst hk
    refine bk_P_beginNext_44 ⟨fun _ => hQ h ?_, fun z => absurd (by decide) z⟩
    rw [f_begp_skip hs]
    exact gX_rf hX
  | succ j ih =>
    intro k y2 y3 y4 y6 y8 y9 y10 hk hs
    have hr : 7 - k < 8 := by omega
    have e7 : iI (7 - (k : Int)) = nI (7 - k) := by
      rw [← iI_nat (7 - k)]
      congr 1
      omega
    have em : iI (7 - (k : Int)) + (-1) = iI (7 - ((k + 1 : Nat) : Int)) := by
      rw [show (-1 : Int32) = iI (-1) from im1.symm, iI_add]
      congr 1
      omega
    have b1 := a1 (i + 1) (by omega)
    have b7 := a7 (8 * (i + 1) + (7 - k)) (by omega)
    have b32 := k1 (8 * (i + 1) + (7 - k)) (by omega)
    have nx : f_may s (i + 1) (7 - k) = false → ∀ y8 y9, am_P (d + 2) mi_P_beginNext 44 [some (.inr (.inr (px x i))), some (.inr (.inl (jJ (s 0 0)))), none, none, none, some (.inr (.inl (jJ ((s 0 0 + s 2 (i + 1)) % s 0 1)))), none, some (.inl (iI (7 - ((k + 1 : Nat) : Int)))), y8, y9, none] [] h Q := by
      intro hf y8 y9
      refine ih (k + 1) _ _ _ _ _ _ _ (by omega) (fun j' hj' => ?_)
      by_cases hc : j' = k
      · subst hc; exact hf
      · exact hs j' (by omega)
    refine bk_P_beginNext_44 ?_
    rw [em, e7, XP_33 hX hi, XP_T1 hX hi, XP_N1 hX hi, nI_clamp (by omega), XP_a hX hi hr, XK_67 hX hi hr]
    refine ⟨fun z => absurd z (nI_pos (by omega)), fun _ => ⟨XP_T hX hi, by decide, vp_in_nI hr (by omega), XK_T hX hi hr, ek_if (iI_eq (b := 0) (by unfold rI; omega) (by unfold rI; omega)) (fun c1 => nx ?_ _ _) (fun c1 => ⟨XK_T hX hi hr, bk_K_firstBits ?_⟩)⟩⟩
    · unfold f_may
      rw [decide_eq_false (p := ¬ s 7 (8 * (i + 1) + (7 - k)) = 0) (fun z => z c1)]
      rfl
    have b8 := a8 (8 * (i + 1) + (7 - k)) 0 (by omega) (by omega)
    obtain ⟨kf, kl⟩ := k2 (8 * (i + 1) + (7 - k)) 0 (by omega) (by omega)
    simp only [Nat.add_zero] at b8 kf kl
    rw [show ((s 32 (8 * (i + 1) + (7 - k)) + ((0 : Nat) : Int)) % 16).toNat = (s 32 (8 * (i + 1) + (7 - k))).toNat by omega] at kf kl
    have b15 := a15 (s 8 (16 * (8 * (i + 1) + (7 - k)))).toNat (by omega) (by omega)
    have ft := f_time_le (σ := s) (p := i + 1) (f := (s 8 (16 * (8 * (i + 1) + (7 - k)))).toNat) ⟨h1, b1.2⟩ b15
    rw [XK_65 hX hi hr, XK_T2 hX hi hr, XK_N2 hX hi hr, XK_66 hX hi hr, iI_clamp b32.1 (by unfold rI; omega), XK_a34 hX hi hr (by omega), kl, show (20 : Int32) = iI 20 from rfl, iI_add, show (8 : Int32) = iI 8 from rfl, iI_mul]
    refine ⟨XK_T hX hi hr, XK_T hX hi hr, Or.inl rfl, iI_in b32.1 (by omega) (by omega), _, rfl, XP_T hX hi, XP_T hX hi, ?_⟩
    have hne : ¬ jJ (s 1 (i + 1)) = 0 := fun z => by
      have := (jJ_eq (b := 0) (a := s 1 (i + 1)) (by unfold rJ; omega) (by unfold rJ; omega)).mp z
      omega
    have eT : (8 * (s 15 (s 8 (16 * (8 * (i + 1) + (7 - k)))).toNat + 20) + s 1 (i + 1) - 1) / s 1 (i + 1) = f_time s (i + 1) (s 8 (16 * (8 * (i + 1) + (7 - k)))).toNat := by
      unfold f_time
      rw [show 8 * (s 15 (s 8 (16 * (8 * (i + 1) + (7 - k)))).toNat + 20) = 8 * s 15 (s 8 (16 * (8 * (i + 1) + (7 - k)))).toNat + 160 by omega, ceil_eq (by omega) h1]
    have m1 : 0 ≤ (s 0 0 + s 2 (i + 1)) % s 0 1 := Int.emod_nonneg _ (by omega)
    have m2 : (s 0 0 + s 2 (i + 1)) % s 0 1 < s 0 1 := Int.emod_lt_of_pos _ (by omega)
    rw [XP_34 hX hi, iI_l (by unfold rI; omega), jJ_add, show (1 : Int64) = jJ 1 from rfl, jJ_sub, jJ_div (by omega) h1 (by unfold rJ; omega) (by unfold rJ; omega), eT, jJ_add]
    refine ⟨hne, XK_T hX hi hr, sp_letsBegin hX hi hr hw ⟨m1, by omega⟩ (by omega) ⟨_, rfl, fun z => nx ?_ _ _, fun z => ⟨XK_T hX hi hr, ?_⟩⟩⟩
    · have := bI_f.mp z
      unfold f_may
      rw [Bool.and_assoc, this, Bool.and_false]
    have hmay : f_may s (i + 1) (7 - k) = true := by
      have := bI_t.mp z
      unfold f_may
      rw [Bool.and_assoc, this, decide_eq_true c1]
      rfl
    refine sp_removeFirst hX hi hr b32 (fun h2 g2 => ⟨_, rfl, ?_⟩)
    rw [kf]
    refine ⟨XP_T g2.1 hi, fun h4 e4 => ?_⟩
    have g4 := (by subst e4; exact gX_sI g2.1 (SI_3 hi) : gX x n h2 (am_u2 (am_u2 (am_u2 s 32 (8 * (i + 1) + (7 - k)) ((s 32 (8 * (i + 1) + (7 - k)) + 1) % 16)) 7 (8 * (i + 1) + (7 - k)) (s 7 (8 * (i + 1) + (7 - k)) - 1)) 3 (i + 1) (s 8 (16 * (8 * (i + 1) + (7 - k))))) α e c0 h4)
    refine ⟨XP_T g4.1 hi, fun h5 e5 => ?_⟩
    have g5 := (by subst e5; rw [← iI_nat]; exact gX_sI g4.1 (SI_4 hi) : gX x n h4 (am_u2 (am_u2 (am_u2 (am_u2 s 32 (8 * (i + 1) + (7 - k)) ((s 32 (8 * (i + 1) + (7 - k)) + 1) % 16)) 7 (8 * (i + 1) + (7 - k)) (s 7 (8 * (i + 1) + (7 - k)) - 1)) 3 (i + 1) (s 8 (16 * (8 * (i + 1) + (7 - k))))) 4 (i + 1) ((7 - k : Nat) : Int)) α e c0 h5)
    refine ⟨XP_T g5.1 hi, fun h6 e6 => ?_⟩
    have g6 := (by subst e6; exact gX_sJ g5.1 (SJ_5 hi) : gX x n h5 (am_u2 (am_u2 (am_u2 (am_u2 (am_u2 s 32 (8 * (i + 1) + (7 - k)) ((s 32 (8 * (i + 1) + (7 - k)) + 1) % 16)) 7 (8 * (i + 1) + (7 - k)) (s 7 (8 * (i + 1) + (7 - k)) - 1)) 3 (i + 1) (s 8 (16 * (8 * (i + 1) + (7 - k))))) 4 (i + 1) ((7 - k : Nat) : Int)) 5 (i + 1) (s 0 0)) α e c0 h6)
    refine ⟨XP_T g6.1 hi, fun h7 e7 => ?_⟩
    have g7 := (by subst e7; exact gX_sJ g6.1 (SJ_6 hi) : gX x n h6 (am_u2 (am_u2 (am_u2 (am_u2 (am_u2 (am_u2 s 32 (8 * (i + 1) + (7 - k)) ((s 32 (8 * (i + 1) + (7 - k)) + 1) % 16)) 7 (8 * (i + 1) + (7 - k)) (s 7 (8 * (i + 1) + (7 - k)) - 1)) 3 (i + 1) (s 8 (16 * (8 * (i + 1) + (7 - k))))) 4 (i + 1) ((7 - k : Nat) : Int)) 5 (i + 1) (s 0 0)) 6 (i + 1) (s 0 0 + f_time s (i + 1) (s 8 (16 * (8 * (i + 1) + (7 - k)))).toNat)) α e c0 h7)
    rw [XP_36 g7.1 hi, u2_ne (by decide), u2_ne (by decide), u2_ne (by decide), u2_ne (by decide), u2_ne (by decide), u2_ne (by decide), show (1 : Int32) = iI 1 from rfl, iI_sub]
    refine ⟨rfl, XP_T g7.1 hi, XP_T g7.1 hi, fun h8 e8 => hQ h8 ?_⟩
    have g8 : gX x n h7 (KB s (i + 1) (7 - k) (s 8 (16 * (8 * (i + 1) + (7 - k)))) (f_time s (i + 1) (s 8 (16 * (8 * (i + 1) + (7 - k)))).toNat)) α e c0 h8 := by subst e8; exact gX_sI (k := 31) g7.1 (SI_31 hi)
    have e1 : f_begp s (i + 1) (k + 1) = f_begin s (i + 1) (7 - k) := by rw [f_begp, f_begp_skip hs, f_beg1, if_pos ⟨h1, h3, hmay⟩]
    have e2 : f_begp s (i + 1) 8 = f_begin s (i + 1) (7 - k) := by
      rw [show 8 = (k + 1) + j by omega, f_begp_done, e1]
      rw [e1, f_begin_K (by decide)]
      unfold KB
      rw [u2_ne (by decide), u2_ne (by decide), u2_ne (by decide), u2_ne (by decide), u2_eq]
      omega
    rw [e2]
    have gg := gX_tr (gX_tr (gX_tr (gX_tr (gX_tr g2 g4) g5) g6) g7) g8
    exact ⟨RX_s gg.1 (fun k' j' n8 _ _ _ _ => f_begin_K n8), gg.2⟩
theorem sp_beginNext {d x n e c0 i : Nat} {h : am_H} {s : sg} {α : Nat → Nat} {Q : Option am_V → am_H → Prop} (hX : RX h x n s α e c0) (hi : i < n) (hw : WS s) (hK : WK s) (hQ : ∀ h', gX x n h (f_begp s (i + 1) 8) α e c0 h' → Q none h') : am_PC (d + 3) mi_P_beginNext [.inr (.inr (px x i)), .inr (.inl (jJ (s 0 0))), .inr (.inl (jJ (s 0 1)))] h Q := by
  have hn := X_n hX
  obtain ⟨w0, w1, w2, w3, w4, a1, a2, a3, a4, a5, a6, a7, a8, a9, a10, a11, a12, a13, a14, a15, a16, a17, a18, a19, a20, a21, a22⟩ := WM_of hw
  have b1 := a1 (i + 1) (by omega)
  have b2 := a2 (i + 1) (by omega)
  have b3 := a3 (i + 1) (by omega)
  have ls := lsum_nn (s := s) (p := i + 1) (k := 8) (fun j hj => (a7 _ (by omega)).1)
  have b31 := hK.2.2 (i + 1) (by omega) (by omega)
  have no : (¬ (0 < s 1 (i + 1) ∧ s 3 (i + 1) = 0) ∨ ∀ r, r < 8 → f_may s (i + 1) r = false) → Q none h := fun hno => hQ h (by rw [f_begp_no hno]; exact gX_rf hX)
  have l8 : lsum s (i + 1) 8 ≤ 128 := by
    simp only [lsum]
    have c0 := a7 (8 * (i + 1) + 0) (by omega)
    have c1 := a7 (8 * (i + 1) + 1) (by omega)
    have c2 := a7 (8 * (i + 1) + 2) (by omega)
    have c3 := a7 (8 * (i + 1) + 3) (by omega)
    have c4 := a7 (8 * (i + 1) + 4) (by omega)
    have c5 := a7 (8 * (i + 1) + 5) (by omega)
    have c6 := a7 (8 * (i + 1) + 6) (by omega)
    have c7 := a7 (8 * (i + 1) + 7) (by omega)
    omega
  refine bk_P_beginNext ?_
  rw [XP_34 hX hi, XP_36 hX hi]
  refine ⟨XP_T hX hi, ek_if (cmp_le (b := 0) (by unfold rJ; omega) (by unfold rJ; omega)) (fun c1 => no (Or.inl (by omega))) (fun c1 => ek_if (cmp_le (b := 0) (by unfold rJ; omega) (by unfold rJ; omega)) (fun c2 => by omega) (fun c2 => ⟨XP_T hX hi, ek_if (iI_eq (b := 0) (by unfold rI; omega) (by unfold rI; omega)) (fun c3 => no (Or.inr (fun r hr => ?_))) (fun c3 => ⟨XP_T hX hi, ?_⟩)⟩))⟩
  · have h7 := ls.2 r hr
    have h8 := a7 (8 * (i + 1) + r) (by omega)
    unfold f_may
    rw [decide_eq_false (p := ¬ s 7 (8 * (i + 1) + r) = 0) (fun z => z (by omega))]
    rfl
  · refine sp_isSending hX hi (by unfold rI; omega) (fun c4 => ⟨0, rfl, fun _ => ⟨XP_T hX hi, ?_⟩, fun z => absurd rfl z⟩) (fun c4 => ⟨1, rfl, fun z => absurd z (by decide), fun _ => no (Or.inl (fun z => c4 z.2))⟩)
    rw [XP_35 hX hi, jJ_add, jJ_mod (by omega) (by omega) (by unfold rJ; omega) (by unfold rJ; omega)]
    refine ⟨fun z => ?_, lp_P_begin hX hi hw hK (by omega) c4 hQ 8 0 none _ none none none none none rfl (fun j' hj' => absurd hj' (by omega))⟩
    have := (jJ_eq (b := 0) (a := s 0 1) (by unfold rJ; omega) (by unfold rJ; omega)).mp z
    omega
