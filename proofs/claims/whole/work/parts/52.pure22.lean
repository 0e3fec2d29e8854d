/-! what rings and counts keep to -/
theorem WK_ext {s s' : sg} (h : WK s) (he : ∀ k j, (k = 7 ∨ k = 8 ∨ k = 15 ∨ k = 31 ∨ k = 32 ∨ k = 33 ∨ k = 34) → s' k j = s k j) : WK s' := by
  obtain ⟨k1, k2, k3⟩ := h
  refine ⟨fun q hq => by rw [he 32 q (by omega)]; exact k1 q hq, fun q t hq ht => ?_, fun p h1 h2 => ?_⟩
  · rw [he 7 _ (by omega)] at ht
    rw [he 32 _ (by omega), he 33 _ (by omega), he 34 _ (by omega), he 8 _ (by omega), he 15 _ (by omega)]
    exact k2 q t hq ht
  · rw [he 31 _ (by omega), lsum_eq (fun j => he 7 j (by omega))]
    exact k3 p h1 h2
theorem lsum_ch {s s' : sg} {p r : Nat} {v : Int} (h : ∀ j, s' 7 j = if j = 8 * p + r then s 7 j + v else s 7 j) (k : Nat) : lsum s' p k = lsum s p k + (if r < k then v else 0) := by
  induction k with
  | zero => rw [if_neg (by omega)]; rfl
  | succ k ih =>
    rw [lsum, lsum, ih, h]
    by_cases hc : r = k
    · subst hc
      rw [if_neg (Nat.lt_irrefl r), if_pos rfl, if_pos (Nat.lt_succ_self r)]; omega
    · rw [if_neg (show ¬ 8 * p + k = 8 * p + r by omega)]
      by_cases hk : r < k
      · rw [if_pos hk, if_pos (by omega)]; omega
      · rw [if_neg hk, if_neg (by omega)]; omega
theorem lsum_ch' {s s' : sg} {p p' r : Nat} {v : Int} (h : ∀ j, s' 7 j = if j = 8 * p + r then s 7 j + v else s 7 j) (hr : r < 8) (hp : ¬ p' = p) (k : Nat) (hk : k ≤ 8) : lsum s' p' k = lsum s p' k := by
  induction k with
  | zero => rfl
  | succ k ih => rw [lsum, lsum, ih (by omega), h, if_neg (by omega)]
theorem f_begin_WK {s : sg} {p r : Nat} (h : WK s) (hw : WS s) (hp : 1 ≤ p ∧ p ≤ 16) (hr : r < 8) (h7 : 0 < s 7 (8 * p + r)) : WK (f_begin s p r) := by
  obtain ⟨k1, k2, k3⟩ := h
  have a7 : ∀ j, j < 136 → 0 ≤ s 7 j ∧ s 7 j ≤ 16 := (WM_of hw).2.2.2.2.2.2.2.2.2.2.2.1
  have e7 : ∀ j, f_begin s p r 7 j = if j = 8 * p + r then s 7 j + -1 else s 7 j := fun j => by
    rw [f_begin_K (by decide)]
    unfold KB
    rw [u2_ne (by decide), u2_ne (by decide), u2_ne (by decide), u2_ne (by decide), u2_ne (by decide), am_u2]
    by_cases hc : j = 8 * p + r
    · rw [if_pos ⟨rfl, hc⟩, if_pos hc, hc]; omega
    · rw [if_neg (fun z => hc z.2), if_neg hc, u2_ne (by decide)]
  have e32 : ∀ j, f_begin s p r 32 j = if j = 8 * p + r then (s 32 j + 1) % 16 else s 32 j := fun j => by
    rw [f_begin_K (by decide)]
    unfold KB
    rw [u2_ne (by decide), u2_ne (by decide), u2_ne (by decide), u2_ne (by decide), u2_ne (by decide), u2_ne (by decide), am_u2]
    by_cases hc : j = 8 * p + r
    · rw [if_pos ⟨rfl, hc⟩, if_pos hc, hc]
    · rw [if_neg (fun z => hc z.2), if_neg hc]
  have e31 : ∀ j, f_begin s p r 31 j = if j = p then s 31 p - 1 else s 31 j := fun j => by
    rw [f_begin_K (by decide)]
    unfold KB
    rw [am_u2]
    by_cases hc : j = p
    · rw [if_pos ⟨rfl, hc⟩, if_pos hc]
    · rw [if_neg (fun z => hc z.2), if_neg hc, u2_ne (by decide), u2_ne (by decide), u2_ne (by decide), u2_ne (by decide), u2_ne (by decide), u2_ne (by decide)]
  have e33 : ∀ j, f_begin s p r 33 j = s 33 j := fun j => f_begin_ne (by decide)
  have e34 : ∀ j, f_begin s p r 34 j = s 34 j := fun j => f_begin_ne (by decide)
  have e15 : ∀ j, f_begin s p r 15 j = s 15 j := fun j => f_begin_ne (by decide)
  have b8 : ∀ j, f_begin s p r 8 j = bshift (f_beg0 s p r) (8 * p + r) (s 7 (8 * p + r) - 1).toNat 8 j := fun j => by
    unfold f_begin
    rw [u2_ne (by decide), u2_ne (by decide)]
  have c8 : ∀ j, f_beg0 s p r 8 j = s 8 j := fun j => by
    unfold f_beg0
    rw [u2_ne (by decide), u2_ne (by decide), u2_ne (by decide), u2_ne (by decide), u2_ne (by decide)]
  have a7p := a7 (8 * p + r) (by omega)
  refine ⟨fun q hq => ?_, fun q t hq ht => ?_, fun p' h1 h2 => ?_⟩
  · have := k1 q hq
    rw [e32]
    split <;> omega
  · rw [e7] at ht
    rw [e32, e33, e34, e15, b8]
    by_cases hc : q = 8 * p + r
    · subst hc
      rw [if_pos rfl] at ht
      have k1q := k1 (8 * p + r) hq
      rw [if_pos rfl, bshift_lt (by omega), c8, show ((s 32 (8 * p + r) + 1) % 16 + (t : Int)) % 16 = (s 32 (8 * p + r) + ((t + 1 : Nat) : Int)) % 16 by omega]
      exact k2 (8 * p + r) (t + 1) hq (by omega)
    · rw [if_neg hc] at ht
      have a7q := a7 q hq
      rw [if_neg hc, bshift_ge (by omega), c8]
      exact k2 q t hq ht
  · by_cases hc : p' = p
    · subst hc
      rw [e31, if_pos rfl, lsum_ch e7 8, if_pos hr, k3 p' h1 h2]; omega
    · rw [e31, if_neg hc, lsum_ch' e7 hr hc 8 (Nat.le_refl _), k3 p' h1 h2]
theorem f_begp_WK {s : sg} {p : Nat} (h : WK s) (hw : WS s) (hp : 1 ≤ p ∧ p ≤ 16) (k : Nat) : WK (f_begp s p k) := by
  induction k with
  | zero => exact h
  | succ k ih =>
    rw [f_begp, f_beg1]
    split
    · rename_i c
      have c7 := f_may_7 c.2.2
      have b7 := (WM_of (f_begp_WS hw hp k)).2.2.2.2.2.2.2.2.2.2.2.1 (8 * p + (7 - k)) (by omega)
      exact f_begin_WK ih (f_begp_WS hw hp k) hp (by omega) (by omega)
    · exact ih
theorem f_begs_WK {s : sg} (h : WK s) (hw : WS s) {k : Nat} (hk : k ≤ 16) : WK (f_begs s k) := by
  induction k with
  | zero => exact h
  | succ k ih => exact f_begp_WK (ih (by omega)) (f_begs_WS hw (by omega)) (by omega) 8
theorem f_ends_WK {s : sg} (h : WK s) (k : Nat) : WK (f_ends s k) := WK_ext h (fun k' j hk => f_ends_ne (by omega))
theorem lp_X_begs {d x n e c : Nat} {h0 : am_H} {s : sg} {α : Nat → Nat} {Q : Option am_V → am_H → Prop} (hw : WS s) (hK : WK s) (hn : 1 ≤ n ∧ n ≤ 16) (hQ : ∀ h', gX x n h0 (f_begs s n) α e c h' → Q none h') : ∀ (j k : Nat) (h : am_H), k + j = n → gX x n h0 (f_begs s k) α e c h → am_P (d + 3) mi_X_beginSendings 2 [some (.inr (.inr x)), some (.inl (nI k))] [] h Q := by
  intro j
  induction j with
  | zero =>
    intro k h hk g
    have hk : k = n := by omega
    subst hk
    have hX := g.1
    refine bk_X_beginSendings_2 ?_
    rw [X_R0 hX, X_T0 hX, X_N0 hX]
    exact ⟨X_T hX, by decide, fun _ => hQ h g, fun z => absurd (Int32.le_refl _) z⟩
  | succ j ih =>
    intro k h hk g
    have hX := g.1
    have hi : k < n := by omega
    refine bk_X_beginSendings_2 ?_
    rw [X_R0 hX, X_T0 hX, X_N0 hX, nI_clamp (by omega), X_a0 hX hi, nI_1 k, X_6 hX, X_7 hX]
    exact ⟨X_T hX, by decide, fun z => absurd z (nI_ge hi (by omega)), fun _ => ⟨X_T hX, by decide, vp_in_nI hi (by omega), X_T hX, X_T hX, XP_T hX hi, sp_beginNext hX hi (f_begs_WS hw (by omega)) (f_begs_WK hK hw (by omega)) (fun h2 g2 => ⟨rfl, ih (k + 1) h2 (by omega) (gX_tr g g2)⟩)⟩⟩
theorem sp_X_begs {d x n e c : Nat} {h : am_H} {s : sg} {α : Nat → Nat} {Q : Option am_V → am_H → Prop} (hX : RX h x n s α e c) (hw : WS s) (hK : WK s) (hQ : ∀ h', gX x n h (f_begs s n) α e c h' → Q none h') : am_PC (d + 4) mi_X_beginSendings [.inr (.inr x)] h Q :=
  bk_X_beginSendings (lp_X_begs (h0 := h) hw hK (X_n hX) hQ n 0 h (by omega) (gX_rf hX))
/-! how long nothing changes -/
def g_tp (s : sg) (p : Nat) : Int := if s 3 p = 0 then (if s 31 p ≤ 0 then 2000 else 1) else s 6 p - s 0 0
def g_tu (s : sg) : Nat → Int
  | 0 => 2000
  | k + 1 => if g_tp s (k + 1) < g_tu s k then g_tp s (k + 1) else g_tu s k
theorem g_tu_le {s : sg} {n : Nat} : g_tu s n ≤ 2000 ∧ ∀ p, 1 ≤ p → p ≤ n → g_tu s n ≤ g_tp s p := by
  induction n with
  | zero => exact ⟨Int.le_refl _, fun p h1 h2 => by omega⟩
  | succ n ih =>
    rw [g_tu]
    refine ⟨by split <;> omega, fun p h1 h2 => ?_⟩
    by_cases hc : p = n + 1
    · subst hc; split <;> omega
    · have := ih.2 p h1 (by omega)
      split <;> omega
theorem lp_X_tu {d x n e c : Nat} {h : am_H} {s : sg} {α : Nat → Nat} {Q : Option am_V → am_H → Prop} (hX : RX h x n s α e c) (hw : WS s) (hK : WK s) (hQ : Q (some (.inr (.inl (jJ (if g_tu s n < 1 then 1 else g_tu s n))))) h) : ∀ (j k : Nat) (y2 : Option am_V), k + j = n → -2000000 ≤ g_tu s k → am_P (d + 2) mi_X_ticksUntilChange 6 [some (.inr (.inr x)), some (.inr (.inl (jJ (g_tu s k)))), y2, some (.inl (nI k))] [] h Q := by
  have hn := X_n hX
  obtain ⟨w0, w1, w2, w3, w4, a1, a2, a3, a4, a5, a6, a7, a8, a9, a10, a11, a12, a13, a14, a15, a16, a17, a18, a19, a20, a21, a22⟩ := WM_of hw
  intro j
  induction j with
  | zero =>
    intro k y2 hk hb
    have hk : k = n := by omega
    subst hk
    have hl := (g_tu_le (s := s) (n := k)).1
    refine bk_X_ticksUntilChange_6 ?_
    rw [X_R0 hX, X_T0 hX, X_N0 hX]
    refine ⟨X_T hX, by decide, fun _ => ?_, fun z => absurd (Int32.le_refl _) z⟩
    by_cases c1 : g_tu s k < 1
    · rw [if_pos c1] at hQ
      rw [show (1 : Int64) = jJ 1 from rfl, if_pos ((jJ_lt (by unfold rJ; omega) (by unfold rJ; omega)).mpr c1)]
      exact hQ
    · rw [if_neg c1] at hQ
      rw [show (1 : Int64) = jJ 1 from rfl, if_neg (fun z => c1 ((jJ_lt (by unfold rJ; omega) (by unfold rJ; omega)).mp z))]
      exact hQ
  | succ j ih =>
    intro k y2 hk hb
    have hi : k < n := by omega
    have hl := (g_tu_le (s := s) (n := k)).1
    have b3 := a3 (k + 1) (by omega)
    have b6 := a6 (k + 1) (by omega)
    have ls := lsum_nn (s := s) (p := k + 1) (k := 8) (fun j hj => (a7 _ (by omega)).1)
    have b31 := hK.2.2 (k + 1) (by omega) (by omega)
    have l8 : lsum s (k + 1) 8 ≤ 128 := by
      simp only [lsum]
      have c0 := a7 (8 * (k + 1) + 0) (by omega)
      have c1 := a7 (8 * (k + 1) + 1) (by omega)
      have c2 := a7 (8 * (k + 1) + 2) (by omega)
      have c3 := a7 (8 * (k + 1) + 3) (by omega)
      have c4 := a7 (8 * (k + 1) + 4) (by omega)
      have c5 := a7 (8 * (k + 1) + 5) (by omega)
      have c6 := a7 (8 * (k + 1) + 6) (by omega)
      have c7 := a7 (8 * (k + 1) + 7) (by omega)
      omega
    have fin : ∀ v : Int, v = g_tp s (k + 1) → (-2000000 ≤ v ∧ v ≤ 3000000) → am_P (d + 2) mi_X_ticksUntilChange 6 [some (.inr (.inr x)), some (.inr (.inl (if jJ v < jJ (g_tu s k) then jJ v else jJ (g_tu s k)))), none, some (.inl (nI (k + 1)))] [] h Q := by
      intro v hv hr
      have e1 : (if jJ v < jJ (g_tu s k) then jJ v else jJ (g_tu s k)) = jJ (g_tu s (k + 1)) := by
        rw [g_tu, ← hv]
        by_cases c1 : v < g_tu s k
        · rw [if_pos ((jJ_lt (by unfold rJ; omega) (by unfold rJ; omega)).mpr c1), if_pos c1]
        · rw [if_neg (fun z => c1 ((jJ_lt (by unfold rJ; omega) (by unfold rJ; omega)).mp z)), if_neg c1]
      rw [e1]
      refine ih (k + 1) _ (by omega) ?_
      rw [g_tu, ← hv]
      split <;> omega
    refine bk_X_ticksUntilChange_6 ?_
    rw [X_R0 hX, X_T0 hX, X_N0 hX, nI_clamp (by omega), X_a0 hX hi, nI_1 k, X_6 hX]
    refine ⟨X_T hX, by decide, fun z => absurd z (nI_ge hi (by omega)), fun _ => ⟨X_T hX, by decide, vp_in_nI hi (by omega), X_T hX, XP_T hX hi, bk_P_ticksUntilChange ⟨XP_T hX hi, ?_⟩⟩⟩
    refine sp_isSending hX hi (by unfold rI; omega) (fun c1 => ⟨0, rfl, fun _ => ?_, fun z => absurd rfl z⟩) (fun c1 => ⟨1, rfl, fun z => absurd z (by decide), fun _ => ?_⟩)
    · rw [XP_36 hX hi]
      refine ⟨XP_T hX hi, ek_if (iI_le (b := 0) (by unfold rI; omega) (by unfold rI; omega)) (fun c2 => ⟨_, rfl, fin 2000 ?_ (by omega)⟩) (fun c2 => ⟨_, rfl, fin 1 ?_ (by omega)⟩)⟩
      · unfold g_tp; rw [if_pos c1, if_pos c2]
      · unfold g_tp; rw [if_pos c1, if_neg c2]
    · rw [XP_40 hX hi, jJ_sub]
      exact ⟨XP_T hX hi, _, rfl, fin _ (by unfold g_tp; rw [if_neg c1]) (by omega)⟩
theorem sp_X_tu {d x n e c : Nat} {h : am_H} {s : sg} {α : Nat → Nat} {Q : Option am_V → am_H → Prop} (hX : RX h x n s α e c) (hw : WS s) (hK : WK s) (hQ : Q (some (.inr (.inl (jJ (if g_tu s n < 1 then 1 else g_tu s n))))) h) : am_PC (d + 3) mi_X_ticksUntilChange [.inr (.inr x)] h Q :=
  bk_X_ticksUntilChange (lp_X_tu hX hw hK hQ n 0 none (by omega) (by show (-2000000 : Int) ≤ 2000; omega))
/-! credits move -/
def mvv (s : sg) (t : Int) (q : Nat) (c : Int) : Int := if 0 < s 12 q then (if ¬ s 3 (q / 8) = 0 ∧ s 4 (q / 8) = ((q % 8 : Nat) : Int) then c - t * (s 1 (q / 8) * s 13 q - s 12 q) else if 0 < s 7 q then c + t * s 12 q else if c < 0 then (if c + t * s 12 q < 0 then c + t * s 12 q else 0) else 0) else c
def g_mv1 (s : sg) (t : Int) (q : Nat) : sg := if 0 < s 12 q then am_u2 s 14 q (mvv s t q (s 14 q)) else s
def g_mvs (s : sg) (t : Int) : Nat → sg
  | 0 => s
  | k + 1 => g_mv1 (g_mvs s t k) t (8 + k)
theorem mvv_eq {s s' : sg} {t : Int} {q : Nat} {c : Int} (h : ∀ k j, ¬ k = 14 → ¬ k = 0 → s' k j = s k j) : mvv s' t q c = mvv s t q c := by
  unfold mvv
  rw [h 12 _ (by decide) (by decide), h 3 _ (by decide) (by decide), h 4 _ (by decide) (by decide), h 1 _ (by decide) (by decide), h 13 _ (by decide) (by decide), h 7 _ (by decide) (by decide)]
theorem g_mv1_ne {s : sg} {t : Int} {q k j : Nat} (h : ¬ (k = 14 ∧ j = q)) : g_mv1 s t q k j = s k j := by
  unfold g_mv1
  split
  · rw [am_u2, if_neg h]
  · rfl
theorem g_mvs_ne {s : sg} {t : Int} {i k j : Nat} (h : ¬ (k = 14 ∧ 8 ≤ j ∧ j < 8 + i)) : g_mvs s t i k j = s k j := by
  induction i with
  | zero => rfl
  | succ i ih => rw [g_mvs, g_mv1_ne (by omega), ih (by omega)]
theorem g_mvs_nk {s : sg} {t : Int} {i k j : Nat} (h : ¬ k = 14) : g_mvs s t i k j = s k j := g_mvs_ne (fun z => h z.1)
theorem g_mv1_14 {s : sg} {t : Int} {q : Nat} : g_mv1 s t q 14 q = mvv s t q (s 14 q) := by
  unfold g_mv1
  split
  · exact u2_eq
  · rename_i c
    unfold mvv
    rw [if_neg c]
theorem g_mvs_14 {s : sg} {t : Int} {i q : Nat} (h : 8 ≤ q ∧ q < 8 + i) : g_mvs s t i 14 q = mvv s t q (s 14 q) := by
  induction i with
  | zero => omega
  | succ i ih =>
    rw [g_mvs]
    by_cases hc : q = 8 + i
    · subst hc
      rw [g_mv1_14, mvv_eq (s := s) (fun k j h1 _ => g_mvs_nk h1), g_mvs_ne (by omega)]
    · rw [g_mv1_ne (by omega)]
      exact ih (by omega)
theorem mul_b2 {t u : Int} (ht : 0 ≤ t ∧ t ≤ 2000) (hu : 0 ≤ u ∧ u ≤ 10000000) : 0 ≤ t * u ∧ t * u ≤ 20000000000 := by
  refine ⟨Int.mul_nonneg ht.1 hu.1, ?_⟩
  have := Int.mul_le_mul ht.2 hu.2 hu.1 (by omega : (0 : Int) ≤ 2000)
  omega
theorem sp_moveCredit {d x n e c i r : Nat} {t v : Int} {h : am_H} {s : sg} {α : Nat → Nat} {Q : Option am_V → am_H → Prop} (hX : RX h x n s α e c) (hi : i < n) (hr : r < 8) (ht : 0 ≤ t ∧ t ≤ 2000) (h12 : 0 < s 12 (8 * (i + 1) + r) ∧ s 12 (8 * (i + 1) + r) ≤ 10000000) (h14 : -20000000000000 ≤ s 14 (8 * (i + 1) + r) ∧ s 14 (8 * (i + 1) + r) ≤ 20000000000000) (h7 : 0 ≤ s 7 (8 * (i + 1) + r) ∧ s 7 (8 * (i + 1) + r) ≤ 16)
    (hv : v = if ¬ s 3 (i + 1) = 0 ∧ s 4 (i + 1) = (r : Int) then s 1 (i + 1) else 0) (hv1 : ¬ s 3 (i + 1) = 0 → 0 < s 1 (i + 1) ∧ s 1 (i + 1) ≤ 10000)
    (hQ : ∀ h', gX x n h (g_mv1 s t (8 * (i + 1) + r)) α e c h' → Q none h') : am_PC (d + 1) mi_K_moveCredit [.inr (.inr (kx x i r)), .inr (.inl (jJ t)), .inr (.inl (jJ v))] h Q := by
  have bm := mul_b2 (u := s 12 (8 * (i + 1) + r)) ht (by omega)
  have ed : (8 * (i + 1) + r) / 8 = i + 1 := by omega
  have er : (8 * (i + 1) + r) % 8 = r := by omega
  have hq : ∀ w : Int, w = mvv s t (8 * (i + 1) + r) (s 14 (8 * (i + 1) + r)) → ∀ h', h' = am_sJ h 73 (kx x i r) (jJ w) → Q none h' := by
    intro w hw h' e'
    refine hQ h' ?_
    unfold g_mv1
    rw [if_pos h12.1, ← hw]
    subst e'
    exact gX_sJ hX (SJ_14 hi hr)
  unfold mvv at hq
  rw [if_pos h12.1, ed, er] at hq
  have hvr : rJ v := by
    rw [hv]
    split
    · rename_i c1
      have := hv1 c1.1
      unfold rJ; omega
    · unfold rJ; omega
  refine bk_K_moveCredit ?_
  rw [XK_67 hX hi hr, XK_73 hX hi hr, XK_71 hX hi hr, XK_72 hX hi hr, jJ_mul, jJ_mul, jJ_sub, jJ_add, jJ_mul, jJ_sub]
  refine ek_if (cmp_le (b := 0) hvr (by unfold rJ; omega)) (fun c1 => ⟨XK_T hX hi hr, ?_⟩) (fun c1 => ⟨rfl, XK_T hX hi hr, XK_T hX hi hr, XK_T hX hi hr, XK_T hX hi hr, fun h4 e4 => hq _ ?_ h4 e4⟩)
  · have hns : ¬ (¬ s 3 (i + 1) = 0 ∧ s 4 (i + 1) = (r : Int)) := fun z => by
      have := hv1 z.1
      rw [if_pos z] at hv
      omega
    rw [if_neg hns] at hq
    refine ek_if (iI_le (b := 0) (by unfold rI; omega) (by unfold rI; omega)) (fun c2 => ⟨XK_T hX hi hr, ?_⟩) (fun c2 => ⟨rfl, XK_T hX hi hr, XK_T hX hi hr, XK_T hX hi hr, fun h4 e4 => hq _ (by rw [if_pos (by omega)]) h4 e4⟩)
    rw [if_neg (by omega)] at hq
    refine ek_if (cmp_ge (b := 0) (by unfold rJ; omega) (by unfold rJ; omega)) (fun c3 => ⟨XK_T hX hi hr, fun h4 e4 => hq 0 (by rw [if_neg (by omega)]) h4 e4⟩) (fun c3 => ⟨XK_T hX hi hr, XK_T hX hi hr, XK_T hX hi hr, fun h4 e4 => hq _ (by rw [if_pos (by omega)]) h4 ?_⟩)
    rw [e4, show (0 : Int64) = jJ 0 from rfl]
    congr 1
    by_cases c4 : s 14 (8 * (i + 1) + r) + t * s 12 (8 * (i + 1) + r) < 0
    · rw [if_pos ((jJ_lt (b := 0) (by unfold rJ; omega) (by unfold rJ; omega)).mpr c4), if_pos c4]
    · rw [if_neg (fun z => c4 ((jJ_lt (b := 0) (by unfold rJ; omega) (by unfold rJ; omega)).mp z)), if_neg c4]
  · have hns : ¬ s 3 (i + 1) = 0 ∧ s 4 (i + 1) = (r : Int) := by
      by_cases z : ¬ s 3 (i + 1) = 0 ∧ s 4 (i + 1) = (r : Int)
      · exact z
      · rw [if_neg z] at hv; omega
    rw [if_pos hns] at hv ⊢
    rw [hv]
