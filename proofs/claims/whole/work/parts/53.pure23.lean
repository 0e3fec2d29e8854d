/-! THE CLASS: credits move, run -/
/-- who sends has a line; his sending ends later than now -/
def WE (n : Nat) (s : sg) : Prop := ∀ p, ¬ s 3 p = 0 → (1 ≤ p ∧ p ≤ n) ∧ s 0 0 ≤ s 6 p ∧ 0 < s 1 p
theorem lp_P_move {d x n e c i : Nat} {t : Int} {h0 : am_H} {s : sg} {α : Nat → Nat} {Q : Option am_V → am_H → Prop} (hn : 1 ≤ n ∧ n ≤ 16) (hi : i < n) (hw : WS s) (hE : WE n s) (ht : 0 ≤ t ∧ t ≤ 2000) (hQ : ∀ h', gX x n h0 (g_mvs s t (8 * (i + 1))) α e c h' → Q none h') : ∀ (j r : Nat) (h : am_H) (y2 y4 : Option am_V), r + j = 8 → gX x n h0 (g_mvs s t (8 * i + r)) α e c h → am_P (d + 1) mi_P_moveCredits 2 [some (.inr (.inr (px x i))), some (.inr (.inl (jJ t))), y2, some (.inl (nI r)), y4] [] h Q := by
  obtain ⟨w0, w1, w2, w3, w4, a1, a2, a3, a4, a5, a6, a7, a8, a9, a10, a11, a12, a13, a14, a15, a16, a17, a18, a19, a20, a21, a22⟩ := WM_of hw
  intro j
  induction j with
  | zero =>
    intro r h y2 y4 hr g
    have hr : r = 8 := by omega
    subst hr
    exact bk_P_moveCredits_2 ⟨fun _ => hQ h g, fun z => absurd (Int32.le_refl 8) z⟩
  | succ j ih =>
    intro r h y2 y4 hr g
    have hX := g.1
    have hr8 : r < 8 := by omega
    have b1 := a1 (i + 1) (by omega)
    have b3 := a3 (i + 1) (by omega)
    have b4 := a4 (i + 1) (by omega)
    have b7 := a7 (8 * (i + 1) + r) (by omega)
    have b12 := a12 (8 * (i + 1) + r) (by omega)
    have b14 := a14 (8 * (i + 1) + r) (by omega)
    have e14 : g_mvs s t (8 * i + r) 14 (8 * (i + 1) + r) = s 14 (8 * (i + 1) + r) := g_mvs_ne (by omega)
    have ek : g_mvs s t (8 * i + (r + 1)) = g_mv1 (g_mvs s t (8 * i + r)) t (8 * (i + 1) + r) := by
      rw [show 8 * i + (r + 1) = (8 * i + r) + 1 from rfl, g_mvs, show 8 + (8 * i + r) = 8 * (i + 1) + r by omega]
    have same : ¬ 0 < s 12 (8 * (i + 1) + r) → ∀ y, am_P (d + 1) mi_P_moveCredits 2 [some (.inr (.inr (px x i))), some (.inr (.inl (jJ t))), none, some (.inl (nI (r + 1))), y] [] h Q := fun c1 y => ih (r + 1) h _ _ (by omega) (by rw [ek, g_mv1, g_mvs_nk (by decide), if_neg c1]; exact g)
    have go : 0 < s 12 (8 * (i + 1) + r) → ∀ (y : Option am_V) (v : Int), v = (if ¬ s 3 (i + 1) = 0 ∧ s 4 (i + 1) = (r : Int) then s 1 (i + 1) else 0) → am_PC (d + 1) mi_K_moveCredit [.inr (.inr (kx x i r)), .inr (.inl (jJ t)), .inr (.inl (jJ v))] h (fun r7 h8 => r7 = none ∧ am_P (d + 1) mi_P_moveCredits 2 [some (.inr (.inr (px x i))), some (.inr (.inl (jJ t))), none, some (.inl (nI (r + 1))), y] [] h8 Q) := by
      intro c1 y v hv
      refine sp_moveCredit hX hi hr8 ht (by rw [g_mvs_nk (by decide)]; omega) (by rw [e14]; omega) (by rw [g_mvs_nk (by decide)]; exact b7) (by rw [g_mvs_nk (by decide), g_mvs_nk (by decide), g_mvs_nk (by decide)]; exact hv) (fun z => ?_) (fun h8 g8 => ⟨rfl, ih (r + 1) h8 _ _ (by omega) (by rw [ek]; exact gX_tr g g8)⟩)
      rw [g_mvs_nk (by decide)] at z ⊢
      have := hE (i + 1) z
      omega
    refine bk_P_moveCredits_2 ?_
    rw [XP_33 hX hi, XP_T1 hX hi, XP_N1 hX hi, nI_clamp (by omega), XP_a hX hi hr8, nI_1]
    refine ⟨fun z => absurd z (nI_ge (a := r) (b := 8) (by omega) (by omega)), fun _ => ⟨XP_T hX hi, by decide, vp_in_nI hr8 (by omega), XK_T hX hi hr8, ?_⟩⟩
    refine sp_isShaped hX hi hr8 (by rw [g_mvs_nk (by decide)]; unfold rJ; omega) (fun c1 => ⟨0, rfl, fun _ => same (by rw [g_mvs_nk (by decide)] at c1; exact c1) _, fun z => absurd rfl z⟩) (fun c1 => ⟨1, rfl, fun z => absurd z (by decide), fun _ => ⟨XP_T hX hi, ?_⟩⟩)
    rw [g_mvs_nk (by decide)] at c1
    refine sp_isSending hX hi (by rw [g_mvs_nk (by decide)]; unfold rI; omega) (fun c2 => ⟨0, rfl, fun _ => ⟨XK_T hX hi hr8, go c1 _ 0 ?_⟩, fun z => absurd rfl z⟩) (fun c2 => ⟨1, rfl, fun z => absurd z (by decide), fun _ => ⟨XP_T hX hi, ?_⟩⟩)
    · rw [g_mvs_nk (by decide)] at c2
      rw [if_neg (fun z => z.1 c2)]
    · rw [g_mvs_nk (by decide)] at c2
      rw [XP_38 hX hi, g_mvs_nk (by decide), XP_34 hX hi, g_mvs_nk (by decide), ← iI_nat r]
      refine ek_if (iI_eq (by unfold rI; omega) (by unfold rI; omega)) (fun c3 => ⟨XP_T hX hi, XK_T hX hi hr8, ?_⟩) (fun c3 => ⟨XK_T hX hi hr8, ?_⟩)
      · have := go c1 (some (.inr (.inr (kx x i r)))) (s 1 (i + 1)) (by rw [if_pos ⟨c2, c3⟩])
        exact this
      · exact go c1 (some (.inr (.inr (kx x i r)))) 0 (by rw [if_neg (fun z => c3 z.2)])
theorem lp_X_move {d x n e c : Nat} {t : Int} {h0 : am_H} {s : sg} {α : Nat → Nat} {Q : Option am_V → am_H → Prop} (hn : 1 ≤ n ∧ n ≤ 16) (hw : WS s) (hE : WE n s) (ht : 0 ≤ t ∧ t ≤ 2000) (hQ : ∀ h', gX x n h0 (g_mvs s t (8 * n)) α e c h' → Q none h') : ∀ (j k : Nat) (h : am_H) (y2 : Option am_V), k + j = n → gX x n h0 (g_mvs s t (8 * k)) α e c h → am_P (d + 2) mi_X_moveCredits 2 [some (.inr (.inr x)), some (.inr (.inl (jJ t))), y2, some (.inl (nI k))] [] h Q := by
  intro j
  induction j with
  | zero =>
    intro k h y2 hk g
    have hk : k = n := by omega
    subst hk
    have hX := g.1
    refine bk_X_moveCredits_2 ?_
    rw [X_R0 hX, X_T0 hX, X_N0 hX]
    exact ⟨X_T hX, by decide, fun _ => hQ h g, fun z => absurd (Int32.le_refl _) z⟩
  | succ j ih =>
    intro k h y2 hk g
    have hX := g.1
    have hi : k < n := by omega
    refine bk_X_moveCredits_2 ?_
    rw [X_R0 hX, X_T0 hX, X_N0 hX, nI_clamp (by omega), X_a0 hX hi, nI_1 k]
    refine ⟨X_T hX, by decide, fun z => absurd z (nI_ge hi (by omega)), fun _ => ⟨X_T hX, by decide, vp_in_nI hi (by omega), XP_T hX hi, bk_P_moveCredits ?_⟩⟩
    exact lp_P_move (h0 := h0) hn hi hw hE ht (fun h2 g2 => ⟨rfl, ih (k + 1) h2 _ (by omega) g2⟩) 8 0 h none none rfl g
theorem sp_X_move {d x n e c : Nat} {t : Int} {h : am_H} {s : sg} {α : Nat → Nat} {Q : Option am_V → am_H → Prop} (hX : RX h x n s α e c) (hw : WS s) (hE : WE n s) (ht : 0 ≤ t ∧ t ≤ 2000) (hQ : ∀ h', gX x n h (g_mvs s t (8 * n)) α e c h' → Q none h') : am_PC (d + 3) mi_X_moveCredits [.inr (.inr x), .inr (.inl (jJ t))] h Q :=
  bk_X_moveCredits (lp_X_move (h0 := h) (X_n hX) hw hE ht hQ n 0 h none (by omega) (gX_rf hX))
/-! many ticks at once are the ticks one by one -/
theorem f_cr1_mv {s : sg} {q : Nat} (h3 : 0 ≤ s 3 (q / 8)) : f_cr1 s q = g_mv1 s 1 q := by
  unfold f_cr1 g_mv1
  split
  · rename_i c1
    unfold mvv
    rw [if_pos c1]
    by_cases c2 : 0 < s 3 (q / 8) ∧ s 4 (q / 8) = ((q % 8 : Nat) : Int)
    · rw [if_pos c2, if_pos ⟨by omega, c2.2⟩, Int.one_mul]
      congr 1
      omega
    · have c2' : ¬ (¬ s 3 (q / 8) = 0 ∧ s 4 (q / 8) = ((q % 8 : Nat) : Int)) := by omega
      rw [if_neg c2, if_neg c2']
      by_cases c3 : 0 < s 7 q
      · rw [if_pos c3, if_pos c3, Int.one_mul]
      · rw [if_neg c3, if_neg c3, Int.one_mul]
        congr 1
        split <;> split <;> omega
  · rfl
theorem f_crs_mv {s : sg} (h3 : ∀ j, j < 17 → 0 ≤ s 3 j) {k : Nat} (hk : k ≤ 128) : f_crs s k = g_mvs s 1 k := by
  induction k with
  | zero => rfl
  | succ k ih => rw [f_crs, g_mvs, ih (by omega), f_cr1_mv (by rw [g_mvs_nk (by decide)]; exact h3 _ (by omega))]
theorem mvv_add {s : sg} {t : Int} {q : Nat} {c : Int} : mvv s 1 q (mvv s t q c) = mvv s (t + 1) q c := by
  unfold mvv
  by_cases c1 : 0 < s 12 q
  · simp only [if_pos c1]
    by_cases c2 : ¬ s 3 (q / 8) = 0 ∧ s 4 (q / 8) = ((q % 8 : Nat) : Int)
    · simp only [if_pos c2]
      rw [Int.one_mul, Int.add_mul, Int.one_mul]
      omega
    · simp only [if_neg c2]
      by_cases c3 : 0 < s 7 q
      · simp only [if_pos c3]
        rw [Int.one_mul, Int.add_mul, Int.one_mul]
        omega
      · simp only [if_neg c3]
        rw [Int.one_mul, Int.add_mul, Int.one_mul]
        split <;> (try split) <;> (try split) <;> (try split) <;> omega
  · simp only [if_neg c1]
/-- the state when t ticks have been moved over -/
def g_jmp (n : Nat) (u : sg) (t : Int) : sg := am_u2 (g_mvs u t (8 * n)) 0 0 (u 0 0 + t)
theorem g_jmp_nk {n : Nat} {u : sg} {t : Int} {k j : Nat} (h : ¬ k = 14 ∧ ¬ (k = 0 ∧ j = 0)) : g_jmp n u t k j = u k j := by
  unfold g_jmp
  rw [am_u2, if_neg h.2, g_mvs_nk h.1]
theorem g_jmp_00 {n : Nat} {u : sg} {t : Int} : g_jmp n u t 0 0 = u 0 0 + t := u2_eq
theorem f_ends_id {s : sg} {n : Nat} (h : ∀ p, 1 ≤ p → p ≤ n → ¬ (0 < s 3 p ∧ s 6 p = s 0 0)) : f_ends s n = s := by
  induction n with
  | zero => rfl
  | succ n ih => rw [f_ends, ih (fun p h1 h2 => h p h1 (by omega)), f_end1, if_neg (h (n + 1) (by omega) (by omega))]
theorem f_begs_id {s : sg} {n : Nat} (h : ∀ p, 1 ≤ p → p ≤ n → ¬ (0 < s 1 p ∧ s 3 p = 0) ∨ ∀ r, r < 8 → f_may s p r = false) : f_begs s n = s := by
  induction n with
  | zero => rfl
  | succ n ih => rw [f_begs, ih (fun p h1 h2 => h p h1 (by omega)), f_begp_no (h (n + 1) (by omega) (by omega))]
theorem jmp {n : Nat} {s u : sg} (hn : n ≤ 16) (hu : u = f_begs (f_ends s n) n) (h3 : ∀ j, j < 17 → 0 ≤ u 3 j) (h7 : ∀ j, j < 136 → 0 ≤ u 7 j) (h31 : ∀ p, 1 ≤ p → p ≤ 16 → u 31 p = lsum u p 8) (t : Nat) (h0 : u 0 0 = s 0 0) : (∀ p, 1 ≤ p → p ≤ n → ¬ u 3 p = 0 → u 0 0 + ((t + 1 : Nat) : Int) ≤ u 6 p) → (t = 0 ∨ ∀ p, 1 ≤ p → p ≤ n → u 3 p = 0 → u 31 p ≤ 0) → ticks n s (t + 1) = g_jmp n u ((t + 1 : Nat) : Int) := by
  induction t with
  | zero =>
    intro _ _
    show f_tick n s = _
    unfold f_tick g_jmp
    rw [← hu, f_crs_mv h3 (by omega), h0]
    rfl
  | succ t ih =>
    intro hE hI
    have hI' : ∀ p, 1 ≤ p → p ≤ n → u 3 p = 0 → u 31 p ≤ 0 := by
      rcases hI with z | z
      · omega
      · exact z
    have ih' := ih (fun p h1 h2 hh => by have := hE p h1 h2 hh; omega) (Or.inr hI')
    rw [ticks, ih']
    have e1 : f_ends (g_jmp n u ((t + 1 : Nat) : Int)) n = g_jmp n u ((t + 1 : Nat) : Int) := f_ends_id (fun p h1 h2 z => by
      rw [g_jmp_nk (by omega), g_jmp_nk (by omega), g_jmp_00] at z
      have := hE p h1 h2 (by omega)
      omega)
    have e2 : f_begs (g_jmp n u ((t + 1 : Nat) : Int)) n = g_jmp n u ((t + 1 : Nat) : Int) := f_begs_id (fun p h1 h2 => by
      by_cases hc : u 3 p = 0
      · refine Or.inr (fun r hr => ?_)
        have q1 := hI' p h1 h2 hc
        have q2 := h31 p h1 (by omega)
        have q3 := (lsum_nn (s := u) (p := p) (k := 8) (fun j hj => h7 _ (by omega))).2 r hr
        have q4 := h7 (8 * p + r) (by omega)
        unfold f_may
        rw [g_jmp_nk (k := 7) (by omega), decide_eq_false (p := ¬ u 7 (8 * p + r) = 0) (fun z => z (by omega))]
        rfl
      · refine Or.inl (fun z => hc ?_)
        rw [g_jmp_nk (k := 3) (by omega)] at z
        exact z.2)
    unfold f_tick
    rw [e1, e2, f_crs_mv (fun j hj => by rw [g_jmp_nk (by omega)]; exact h3 j hj) (by omega), g_jmp_00]
    funext k j
    unfold g_jmp
    by_cases hc : k = 0 ∧ j = 0
    · obtain ⟨rfl, rfl⟩ := hc
      rw [u2_eq, u2_eq]
      omega
    · rw [am_u2, if_neg hc, am_u2, if_neg hc]
      by_cases hd : k = 14 ∧ 8 ≤ j ∧ j < 8 + 8 * n
      · obtain ⟨rfl, hj⟩ := hd
        rw [g_mvs_14 hj, g_mvs_14 hj, u2_ne (by decide), g_mvs_14 hj, mvv_eq (s := u) (fun k' j' h1 h2 => by rw [u2_ne h2, g_mvs_nk h1]), mvv_add]
        congr 1
      · rw [g_mvs_ne hd, g_mvs_ne hd, am_u2, if_neg hc, g_mvs_ne hd]
