/-! THE CLASS: sendings end -/
theorem f_ends_3 {σ : sg} {k j : Nat} (h : k < j) : f_ends σ k 3 j = σ 3 j := by
  induction k with
  | zero => rfl
  | succ k ih =>
    rw [f_ends, f_end1]
    split
    · rw [u2_nj (by omega), u2_ne (by decide), f_end0_ne (by omega), ih (by omega)]
    · exact ih (by omega)
theorem sp_D_init {d v : Nat} {h : am_H} {a0 a1 : Int32} {a2 a3 : Int64} {Q : Option am_V → am_H → Prop} (hv : ¬ v = 0) (hT : am_T h v = 15) (hQ : Q none (am_sJ (am_sJ (am_sI (am_sI h 160 v a0) 161 v a1) 162 v a2) 163 v a3)) : am_PC (d + 1) mi_D_init [.inr (.inr v), .inl a0, .inl a1, .inr (.inl a2), .inr (.inl a3)] h Q := by
  refine bk_D_init ⟨hv, hT, fun h1 e1 => ?_⟩
  subst e1
  refine ⟨hT, fun h2 e2 => ?_⟩
  subst e2
  refine ⟨hT, fun h3 e3 => ?_⟩
  subst e3
  refine ⟨hT, fun h4 e4 => ?_⟩
  subst e4
  exact hQ
theorem lp_X_ends {d x n c : Nat} {h0 : am_H} {s : sg} {α : Nat → Nat} {Q : Option am_V → am_H → Prop} (hw : WS s) (hn : 1 ≤ n ∧ n ≤ 16) (hE : ∀ p, p < 17 → ¬ s 3 p = 0 → s 0 0 ≤ s 6 p)
    (hQ : ∀ h' e, gX x n h0 (f_ends s n) α e c h' → Q none h') : ∀ (j k e : Nat) (h : am_H) (y2 : Option am_V), k + j = n → gX x n h0 (f_ends s k) α e c h → am_P (d + 8) mi_X_endSendings 2 [some (.inr (.inr x)), some (.inl (nI k)), y2] [] h Q := by
  intro j
  induction j with
  | zero =>
    intro k e h y2 hk g
    have hk : k = n := by omega
    subst hk
    have hX := g.1
    refine bk_X_endSendings_2 ?_
    rw [X_R0 hX, X_T0 hX, X_N0 hX]
    exact ⟨X_T hX, by decide, fun _ => hQ h e g, fun z => absurd (Int32.le_refl _) z⟩
  | succ j ih =>
    intro k e h y2 hk g
    have hX := g.1
    have hi : k < n := by omega
    obtain ⟨w0, w1, w2, w3, w4, a1, a2, a3, a4, a5, a6, a7, a8, a9, a10, a11, a12, a13, a14, a15, a16, a17, a18, a19, a20, a21, a22⟩ := WM_of (f_ends_WS hw k)
    have b3 := a3 (k + 1) (by omega)
    have b6 := a6 (k + 1) (by omega)
    have e3 : f_ends s k 3 (k + 1) = s 3 (k + 1) := f_ends_3 (by omega)
    have e6 : f_ends s k 6 (k + 1) = s 6 (k + 1) := f_ends_ne (by omega)
    have e0 : f_ends s k 0 0 = s 0 0 := f_ends_ne (by omega)
    have hEk := hE (k + 1) (by omega)
    have same : ¬ (0 < (f_ends s k) 3 (k + 1) ∧ (f_ends s k) 6 (k + 1) = (f_ends s k) 0 0) → ∀ y, am_P (d + 8) mi_X_endSendings 2 [some (.inr (.inr x)), some (.inl (nI (k + 1))), y] [] h Q := fun cc y => ih (k + 1) e h y (by omega) (by rw [f_ends, f_end1, if_neg cc]; exact g)
    have fin : (0 < (f_ends s k) 3 (k + 1) ∧ (f_ends s k) 6 (k + 1) = (f_ends s k) 0 0) → ∀ h1 e', gX x n h0 (f_end0 (f_ends s k) (k + 1)) α e' c h1 → am_P (d + 8) mi_X_endSendings 81 [some (.inr (.inr x)), some (.inl (nI k)), some (.inr (.inr (px x k)))] [] h1 Q := by
      intro cc h1 e' g1
      have hX1 := g1.1
      refine bk_X_endSendings_81 ?_
      rw [X_10 hX1, f_end0_ne (by decide), nI_1 k, show (1 : Int32) = iI 1 from rfl, iI_add]
      refine ⟨rfl, X_T hX1, X_T hX1, fun h2 e2 => ?_⟩
      have g2 : gX x n h1 (am_u2 (f_end0 (f_ends s k) (k + 1)) 0 3 (f_ends s k 0 3 + 1)) α e' c h2 := by subst e2; exact gX_sI hX1 SI_03
      refine ⟨XP_T g2.1 hi, fun h3 e3 => ?_⟩
      have g3 : gX x n h2 (am_u2 (am_u2 (f_end0 (f_ends s k) (k + 1)) 0 3 (f_ends s k 0 3 + 1)) 3 (k + 1) 0) α e' c h3 := by subst e3; exact gX_sI (v := 0) g2.1 (SI_3 hi)
      exact ih (k + 1) e' h3 _ (by omega) (by rw [f_ends, f_end1, if_pos cc]; exact gX_tr (gX_tr g1 g2) g3)
    refine bk_X_endSendings_2 ?_
    rw [X_R0 hX, X_T0 hX, X_N0 hX, nI_clamp (by omega), X_a0 hX hi, nI_1 k]
    refine ⟨X_T hX, by decide, fun z => absurd z (nI_ge hi (by omega)), fun _ => ⟨X_T hX, by decide, vp_in_nI hi (by omega), XP_T hX hi, ?_⟩⟩
    refine sp_isSending hX hi (by unfold rI; omega) (fun c1 => ⟨0, rfl, fun _ => same (by omega) _, fun z => absurd rfl z⟩) (fun c1 => ⟨1, rfl, fun z => absurd z (by decide), fun _ => ?_⟩)
    rw [XP_40 hX hi, X_6 hX, X_R2 hX]
    refine ⟨XP_T hX hi, X_T hX, ek_if (cmp_gt (by unfold rJ; omega) (by unfold rJ; omega)) (fun c2 => same (by omega) _) (fun c2 => ⟨X_T hX, X_T2 hX, ?_⟩)⟩
    have cc : 0 < (f_ends s k) 3 (k + 1) ∧ (f_ends s k) 6 (k + 1) = (f_ends s k) 0 0 := by
      have := hEk (by omega)
      omega
    refine sp_L_size hX ⟨_, rfl, ek_if (iI_le (a := 5000) (by unfold rI; omega) (by unfold rI; omega)) (fun c3 => fin cc h e (by unfold f_end0; rw [if_pos c3]; exact g)) (fun c3 => ⟨X_T hX, fun h7 e7 => ?_⟩)⟩
    have hz := hX.2.2.2.2
    have hpx : px x k < ax x n := by unfold px ax; omega
    have eo : eqon (fun a => a ≤ am_Z h) h h7 := by subst e7; exact eqon_nO (by omega)
    obtain ⟨t1, t2, t3, t4, -⟩ := eo (px x k) (by show px x k ≤ am_Z h; omega)
    rw [t1, t3, t3, t4, t4, XP_T hX hi, XP_37 hX hi, XP_32 hX hi, XP_39 hX hi, XP_40 hX hi, X_R2 hX]
    have hT7 : am_T h7 (am_Z h + 1) = 15 := by subst e7; rw [hp_T_nO, if_pos rfl]
    refine ⟨rfl, rfl, rfl, rfl, rfl, by omega, sp_D_init (by omega) hT7 ⟨rfl, ?_⟩⟩
    have eq9 : eqon (fun a => a ≤ am_Z h) h7 (am_sJ (am_sJ (am_sI (am_sI h7 160 (am_Z h + 1) (iI (f_ends s k 3 (k + 1)))) 161 (am_Z h + 1) (nI (k + 1))) 162 (am_Z h + 1) (jJ (f_ends s k 5 (k + 1)))) 163 (am_Z h + 1) (jJ (f_ends s k 6 (k + 1)))) :=
      eqon_tr (eqon_tr (eqon_tr (h2 := am_sI h7 160 (am_Z h + 1) (iI (f_ends s k 3 (k + 1)))) (eqon_sI (by omega)) (eqon_sI (by omega))) (eqon_sJ (by omega))) (eqon_sJ (by omega))
    have hX9 : RX (am_sJ (am_sJ (am_sI (am_sI h7 160 (am_Z h + 1) (iI (f_ends s k 3 (k + 1)))) 161 (am_Z h + 1) (nI (k + 1))) 162 (am_Z h + 1) (jJ (f_ends s k 5 (k + 1)))) 163 (am_Z h + 1) (jJ (f_ends s k 6 (k + 1)))) x n (f_ends s k) α e (c + 1) := by
      refine RX_grow hX (eqon_tr eo eq9) ?_ ?_ ?_
      · subst e7; show am_Z h ≤ am_Z h + 1; omega
      · subst e7; show am_C h + 1 ≤ am_C h + 20 * 1; omega
      · subst e7; show am_S h + 4 ≤ am_S h + 100 * 1; omega
    refine ⟨X_T2 hX9, sp_L_add (d := d) (a0 := f_ends s k 3 (k + 1)) (a1 := ((k + 1 : Nat) : Int)) (a2 := f_ends s k 5 (k + 1)) (a3 := f_ends s k 0 0) hX9 (by omega) ⟨by omega, ?_, hT7, ?_, ?_, ?_, ?_⟩ (fun h11 e' hX11 ho => ⟨1, rfl, rfl, fin cc h11 e' ⟨?_, ?_⟩⟩)⟩
    · subst e7; show am_Z h + 1 ≤ am_Z h + 1; omega
    · rw [hp_I_sJ, hp_I_sJ, hp_I_sI, if_neg (fun z => absurd z.1 (by decide)), hp_I_sI, if_pos ⟨rfl, rfl⟩]
    · rw [hp_I_sJ, hp_I_sJ, hp_I_sI, if_pos ⟨rfl, rfl⟩, iI_nat]
    · rw [hp_J_sJ, if_neg (fun z => absurd z.1 (by decide)), hp_J_sJ, if_pos ⟨rfl, rfl⟩]
    · rw [hp_J_sJ, if_pos ⟨rfl, rfl⟩, cc.2]
    · unfold f_end0
      rw [if_neg c3]
      exact hX11
    · refine eqon_tr g.2 (eqon_tr (eqon_mono (fun a ha => ?_) (eqon_tr eo eq9)) ho)
      have := ax_x (x := x) (n := n)
      unfold OX at ha
      show a ≤ am_Z h
      omega
theorem sp_X_ends {d x n e c : Nat} {h : am_H} {s : sg} {α : Nat → Nat} {Q : Option am_V → am_H → Prop} (hX : RX h x n s α e c) (hw : WS s) (hE : ∀ p, p < 17 → ¬ s 3 p = 0 → s 0 0 ≤ s 6 p) (hQ : ∀ h' e', gX x n h (f_ends s n) α e' c h' → Q none h') : am_PC (d + 9) mi_X_endSendings [.inr (.inr x)] h Q :=
  bk_X_endSendings (lp_X_ends (h0 := h) hw (X_n hX) hE hQ n 0 e h none (by omega) (gX_rf hX))
/-! sendings begin -/
/-- the rings hold what the reference's queues hold; a port counts what waits -/
def WK (s : sg) : Prop := (∀ q, q < 136 → 0 ≤ s 32 q ∧ s 32 q ≤ 15) ∧ (∀ q t : Nat, q < 136 → (t : Int) < s 7 q → s 33 (16 * q + ((s 32 q + t) % 16).toNat) = s 8 (16 * q + t) ∧ s 34 (16 * q + ((s 32 q + t) % 16).toNat) = s 15 (s 8 (16 * q + t)).toNat) ∧ (∀ p, 1 ≤ p → p ≤ 16 → s 31 p = lsum s p 8)
theorem ceil_eq {b v : Int} (hb : 0 < b) (hv : 0 < v) : (b + v - 1) / v = if b % v = 0 then b / v else b / v + 1 := by
  have h1 := Int.mul_ediv_add_emod b v
  have h2 : 0 ≤ b % v := Int.emod_nonneg _ (by omega)
  have h3 : b % v < v := Int.emod_lt_of_pos _ hv
  split
  · rename_i c
    have : b + v - 1 = (v - 1) + v * (b / v) := by omega
    rw [this, Int.add_mul_ediv_left _ _ (by omega), Int.ediv_eq_zero_of_lt (by omega) (by omega)]
    omega
  · rename_i c
    have : b + v - 1 = (b % v - 1) + v * (b / v + 1) := by rw [Int.mul_add]; omega
    rw [this, Int.add_mul_ediv_left _ _ (by omega), Int.ediv_eq_zero_of_lt (by omega) (by omega)]
    omega
theorem lsum_nn {s : sg} {p k : Nat} (h : ∀ j, j < k → 0 ≤ s 7 (8 * p + j)) : 0 ≤ lsum s p k ∧ ∀ j, j < k → s 7 (8 * p + j) ≤ lsum s p k := by
  induction k with
  | zero => exact ⟨Int.le_refl _, fun j hj => absurd hj (by omega)⟩
  | succ k ih =>
    obtain ⟨i1, i2⟩ := ih (fun j hj => h j (by omega))
    have := h k (by omega)
    rw [lsum]
    refine ⟨by omega, fun j hj => ?_⟩
    by_cases hc : j = k
    · subst hc; omega
    · have := i2 j (by omega); omega
theorem f_begp_no {s : sg} {p : Nat} (h : ¬ (0 < s 1 p ∧ s 3 p = 0) ∨ ∀ r, r < 8 → f_may s p r = false) (k : Nat) : f_begp s p k = s := by
  induction k with
  | zero => rfl
  | succ k ih =>
    rw [f_begp, ih, f_beg1, if_neg]
    rintro ⟨c1, c2, c3⟩
    rcases h with h | h
    · exact h ⟨c1, c2⟩
    · rw [h (7 - k) (by omega)] at c3; cases c3
theorem f_begp_skip {s : sg} {p k : Nat} (h : ∀ j, j < k → f_may s p (7 - j) = false) : f_begp s p k = s := by
  induction k with
  | zero => rfl
  | succ k ih =>
    rw [f_begp, ih (fun j hj => h j (by omega)), f_beg1, if_neg]
    rintro ⟨c1, c2, c3⟩
    rw [h k (by omega)] at c3; cases c3
theorem f_begp_done {s : sg} {p k : Nat} (h : ¬ f_begp s p k 3 p = 0) (j : Nat) : f_begp s p (k + j) = f_begp s p k := by
  induction j with
  | zero => rfl
  | succ j ih =>
    rw [show k + (j + 1) = (k + j) + 1 from rfl, f_begp, ih, f_beg1, if_neg (fun z => h z.2.1)]
/-- as the class writes it -/
def KB (s : sg) (p r : Nat) (F T : Int) : sg := am_u2 (am_u2 (am_u2 (am_u2 (am_u2 (am_u2 (am_u2 s 32 (8 * p + r) ((s 32 (8 * p + r) + 1) % 16)) 7 (8 * p + r) (s 7 (8 * p + r) - 1)) 3 p F) 4 p r) 5 p (s 0 0)) 6 p (s 0 0 + T)) 31 p (s 31 p - 1)
theorem f_begin_K {s : sg} {p r : Nat} {k j : Nat} (hk : ¬ k = 8) : f_begin s p r k j = KB s p r (s 8 (16 * (8 * p + r))) (f_time s p (s 8 (16 * (8 * p + r))).toNat) k j := by
  unfold f_begin f_beg0 KB
  by_cases h31 : k = 31
  · subst h31
    by_cases hj : j = p
    · subst hj; rw [u2_eq, u2_eq]
    · rw [u2_nj hj, u2_nj hj, u2_ne (by decide), bshift_ne (by decide)]
      simp only [u2_ne (show ¬ 31 = 7 by decide), u2_ne (show ¬ 31 = 6 by decide), u2_ne (show ¬ 31 = 5 by decide), u2_ne (show ¬ 31 = 4 by decide), u2_ne (show ¬ 31 = 3 by decide), u2_ne (show ¬ 31 = 32 by decide)]
  · rw [u2_ne h31, u2_ne h31]
    by_cases h32 : k = 32
    · subst h32
      simp only [u2_ne (show ¬ 32 = 7 by decide), u2_ne (show ¬ 32 = 6 by decide), u2_ne (show ¬ 32 = 5 by decide), u2_ne (show ¬ 32 = 4 by decide), u2_ne (show ¬ 32 = 3 by decide)]
      by_cases hj : j = 8 * p + r
      · subst hj; rw [u2_eq, u2_eq]
      · rw [u2_nj hj, u2_nj hj, bshift_ne (by decide)]
        simp only [u2_ne (show ¬ 32 = 7 by decide), u2_ne (show ¬ 32 = 6 by decide), u2_ne (show ¬ 32 = 5 by decide), u2_ne (show ¬ 32 = 4 by decide), u2_ne (show ¬ 32 = 3 by decide)]
    · rw [u2_ne h32, bshift_ne hk]
      by_cases h7 : k = 7
      · subst h7
        simp only [u2_ne (show ¬ 7 = 6 by decide), u2_ne (show ¬ 7 = 5 by decide), u2_ne (show ¬ 7 = 4 by decide), u2_ne (show ¬ 7 = 3 by decide)]
        by_cases hj : j = 8 * p + r
        · subst hj; rw [u2_eq, u2_eq]
        · simp only [u2_nj hj, u2_ne (show ¬ 7 = 32 by decide), u2_ne (show ¬ 7 = 6 by decide), u2_ne (show ¬ 7 = 5 by decide), u2_ne (show ¬ 7 = 4 by decide), u2_ne (show ¬ 7 = 3 by decide)]
      · rw [u2_ne h7]
        by_cases h6 : k = 6
        · subst h6
          by_cases hj : j = p
          · subst hj; rw [u2_eq, u2_eq]
          · simp only [u2_nj hj, u2_ne (show ¬ 6 = 5 by decide), u2_ne (show ¬ 6 = 4 by decide), u2_ne (show ¬ 6 = 3 by decide), u2_ne (show ¬ 6 = 7 by decide), u2_ne (show ¬ 6 = 32 by decide)]
        · rw [u2_ne h6, u2_ne h6]
          by_cases h5 : k = 5
          · subst h5
            by_cases hj : j = p
            · subst hj; rw [u2_eq, u2_eq]
            · simp only [u2_nj hj, u2_ne (show ¬ 5 = 4 by decide), u2_ne (show ¬ 5 = 3 by decide), u2_ne (show ¬ 5 = 7 by decide), u2_ne (show ¬ 5 = 32 by decide)]
          · rw [u2_ne h5, u2_ne h5]
            by_cases h4 : k = 4
            · subst h4
              by_cases hj : j = p
              · subst hj; rw [u2_eq, u2_eq]
              · simp only [u2_nj hj, u2_ne (show ¬ 4 = 3 by decide), u2_ne (show ¬ 4 = 7 by decide), u2_ne (show ¬ 4 = 32 by decide)]
            · rw [u2_ne h4, u2_ne h4]
              by_cases h3 : k = 3
              · subst h3
                by_cases hj : j = p
                · subst hj; rw [u2_eq, u2_eq]
                · simp only [u2_nj hj, u2_ne (show ¬ 3 = 7 by decide), u2_ne (show ¬ 3 = 32 by decide)]
              · rw [u2_ne h3, u2_ne h3, u2_ne h7, u2_ne h32]
