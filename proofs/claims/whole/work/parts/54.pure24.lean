/-! run, of the class -/
def SE (n : Nat) (s : sg) : Prop := ∀ p, ¬ s 3 p = 0 → (1 ≤ p ∧ p ≤ n) ∧ s 0 0 < s 6 p ∧ 0 < s 1 p
theorem f_ends_S {s : sg} {k : Nat} : ∀ p, ¬ f_ends s k 3 p = 0 → ¬ s 3 p = 0 ∧ (1 ≤ p → p ≤ k → ¬ (0 < s 3 p ∧ s 6 p = s 0 0)) := by
  induction k with
  | zero => exact fun p hp => ⟨hp, fun h1 h2 => by omega⟩
  | succ k ih =>
    intro p hp
    have e3 : f_ends s k 3 (k + 1) = s 3 (k + 1) := f_ends_3 (by omega)
    have e6 : f_ends s k 6 (k + 1) = s 6 (k + 1) := f_ends_ne (by omega)
    have e0 : f_ends s k 0 0 = s 0 0 := f_ends_ne (by omega)
    rw [f_ends, f_end1, e3, e6, e0] at hp
    by_cases hc : 0 < s 3 (k + 1) ∧ s 6 (k + 1) = s 0 0
    · rw [if_pos hc] at hp
      by_cases hq : p = k + 1
      · subst hq
        rw [u2_eq] at hp
        exact absurd rfl hp
      · rw [u2_nj hq, u2_ne (by decide), f_end0_ne (by omega)] at hp
        have := ih p hp
        exact ⟨this.1, fun h1 h2 => this.2 h1 (by omega)⟩
    · rw [if_neg hc] at hp
      have := ih p hp
      refine ⟨this.1, fun h1 h2 => ?_⟩
      by_cases hq : p = k + 1
      · subst hq; exact hc
      · exact this.2 h1 (by omega)
theorem SE_ends {n : Nat} {s : sg} (h : WE n s) (h3 : ∀ p, p < 17 → 0 ≤ s 3 p) (hn : n ≤ 16) : SE n (f_ends s n) := by
  intro p hp
  have q := f_ends_S p hp
  have w := h p q.1
  have z := q.2 w.1.1 w.1.2
  have y := h3 p (by omega)
  have e6 : f_ends s n 6 p = s 6 p := f_ends_ne (by omega)
  have e0 : f_ends s n 0 0 = s 0 0 := f_ends_ne (by omega)
  have e1 : f_ends s n 1 p = s 1 p := f_ends_ne (by omega)
  rw [e6, e0, e1]
  have := q.1
  omega
theorem SE_begin {n : Nat} {s : sg} {p r : Nat} (h : SE n s) (hw : WS s) (hp : 1 ≤ p ∧ p ≤ n) (hn : n ≤ 16) (hr : r < 8) (h1 : 0 < s 1 p) (h7 : 0 < s 7 (8 * p + r)) : SE n (f_begin s p r) := by
  obtain ⟨w0, w1, w2, w3, w4, a1, a2, a3, a4, a5, a6, a7, a8, a9, a10, a11, a12, a13, a14, a15, a16, a17, a18, a19, a20, a21, a22⟩ := WM_of hw
  have b1 := a1 p (by omega)
  have b8 := a8 (8 * p + r) 0 (by omega) (by omega)
  rw [Nat.add_zero] at b8
  have b15 := a15 (s 8 (16 * (8 * p + r))).toNat (by omega) (by omega)
  have ft := f_time_le (σ := s) (p := p) (f := (s 8 (16 * (8 * p + r))).toNat) ⟨h1, b1.2⟩ b15
  intro j hj
  have e0 : f_begin s p r 0 0 = s 0 0 := f_begin_ne (by decide)
  have e1 : f_begin s p r 1 j = s 1 j := f_begin_ne (by omega)
  rw [e0, e1]
  rw [f_begin_K (by decide)] at hj
  rw [f_begin_K (by decide)]
  unfold KB at hj ⊢
  by_cases hc : j = p
  · subst hc
    rw [u2_ne (by decide), u2_eq]
    omega
  · rw [u2_ne (by decide), u2_ne (by decide), u2_ne (by decide), u2_ne (by decide), u2_nj hc, u2_ne (by decide), u2_ne (by decide)] at hj
    rw [u2_ne (by decide), u2_nj hc, u2_ne (by decide), u2_ne (by decide), u2_ne (by decide), u2_ne (by decide), u2_ne (by decide)]
    exact h j hj
theorem SE_begp {n : Nat} {s : sg} {p : Nat} (h : SE n s) (hw : WS s) (hp : 1 ≤ p ∧ p ≤ n) (hn : n ≤ 16) (k : Nat) : SE n (f_begp s p k) := by
  induction k with
  | zero => exact h
  | succ k ih =>
    rw [f_begp, f_beg1]
    split
    · rename_i c
      have hw' := f_begp_WS hw (by omega : 1 ≤ p ∧ p ≤ 16) k
      have c7 := f_may_7 c.2.2
      have b7 := (WM_of hw').2.2.2.2.2.2.2.2.2.2.2.1 (8 * p + (7 - k)) (by omega)
      exact SE_begin ih hw' hp hn (by omega) c.1 (by omega)
    · exact ih
theorem SE_begs {n : Nat} {s : sg} (h : SE n s) (hw : WS s) (hn : n ≤ 16) {k : Nat} (hk : k ≤ n) : SE n (f_begs s k) := by
  induction k with
  | zero => exact h
  | succ k ih => exact SE_begp (ih (by omega)) (f_begs_WS hw (by omega)) (by omega) hn 8
theorem WE_tick {n : Nat} {s : sg} (h : WE n s) (hw : WS s) (hn : n ≤ 16) : WE n (f_tick n s) := by
  have hS := SE_begs (SE_ends h (fun p hp => ((WM_of hw).2.2.2.2.2.2.2.1 p hp).1) hn) (f_ends_WS hw n) hn (Nat.le_refl n)
  have e0 : f_begs (f_ends s n) n 0 0 = s 0 0 := by rw [f_begs_ne (by decide), f_ends_ne (by decide)]
  intro p hp
  unfold f_tick at hp ⊢
  rw [u2_ne (by decide), f_crs_nk (by decide)] at hp
  rw [u2_eq, u2_ne (by decide), u2_ne (by decide), f_crs_nk (by decide), f_crs_nk (by decide)]
  have := hS p hp
  rw [e0] at this
  omega
theorem WK_tick {n : Nat} {s : sg} (h : WK s) (hw : WS s) (hn : n ≤ 16) : WK (f_tick n s) := by
  refine WK_ext (f_begs_WK (f_ends_WK h n) (f_ends_WS hw n) hn) (fun k j hk => ?_)
  unfold f_tick
  rw [u2_ne (by omega), f_crs_nk (by omega)]
theorem ticks_WE {n : Nat} {s : sg} (h : WE n s) (hK : WK s) (hw : WS s) (hn : n ≤ 16) (k : Nat) (ht : s 0 0 + k ≤ 2000000) : WE n (ticks n s k) ∧ WK (ticks n s k) := by
  induction k with
  | zero => exact ⟨h, hK⟩
  | succ k ih =>
    have := ih (by omega)
    exact ⟨WE_tick this.1 (ticks_WS hw hn k (by omega)) hn, WK_tick this.2 (ticks_WS hw hn k (by omega)) hn⟩
theorem ticks_add {n : Nat} {s : sg} (k t : Nat) : ticks n (ticks n s k) t = ticks n s (k + t) := by
  induction t with
  | zero => rfl
  | succ t ih => rw [ticks, ih]; rfl
theorem g_tu_ge {n : Nat} {u : sg} (h : SE n u) : ∀ k, k ≤ n → 1 ≤ g_tu u k := by
  intro k
  induction k with
  | zero => intro _; show (1 : Int) ≤ 2000; omega
  | succ k ih =>
    intro hk
    have := ih (by omega)
    have hg : 1 ≤ g_tp u (k + 1) := by
      unfold g_tp
      split
      · split <;> omega
      · rename_i c
        have := h (k + 1) c
        omega
    rw [g_tu]
    split <;> omega
theorem lp_X_run {d x n N c : Nat} {b : Int} {h0 : am_H} {s : sg} {α : Nat → Nat} {Q : Option am_V → am_H → Prop} (hn : 1 ≤ n ∧ n ≤ 16) (hw : WS s) (hK : WK s) (hE : WE n s) (ht : s 0 0 + N ≤ 2000000) (hN : N ≤ 2000) (hQ : ∀ h' e, gX x n h0 (ticks n s N) α e c h' → Q (some (.inl (iI (ticks n s N 0 3 - b)))) h') : ∀ (j k i e : Nat) (h : am_H) (y1 y2 y5 y7 y8 : Option am_V), N ≤ k + j → k ≤ N → i ≤ k → gX x n h0 (ticks n s k) α e c h → am_P (d + 9) mi_X_run 33 [some (.inr (.inr x)), y1, y2, some (.inl (iI b)), some (.inr (.inl (jJ (s 0 0 + N)))), y5, some (.inl (nI i)), y7, y8] [] h Q := by
  have hw0 := hw.1
  intro j
  induction j with
  | zero =>
    intro k i e h y1 y2 y5 y7 y8 hj hk hi g
    have hk : k = N := by omega
    subst hk
    have hX := g.1
    have fin : Q (some (.inl (iI (ticks n s k 0 3) - iI b))) h := by rw [iI_sub]; exact hQ h e g
    refine bk_X_run_33 ?_
    rw [← iI_nat i, iI_l (by unfold rI; omega), X_10 hX, X_6 hX, ticks_00]
    exact ek_if (cmp_ge (b := 2000) (by unfold rJ; omega) (by unfold rJ; omega)) (fun c1 => ⟨X_T hX, fin⟩) (fun c1 => ⟨X_T hX, ek_if (cmp_ge (by unfold rJ; omega) (by unfold rJ; omega)) (fun c2 => ⟨X_T hX, fin⟩) (fun c2 => by omega)⟩)
  | succ j ih =>
    intro k i e h y1 y2 y5 y7 y8 hj hk hi g
    have hX := g.1
    have fin : k = N → Q (some (.inl (iI (ticks n s k 0 3) - iI b))) h := fun hkN => by subst hkN; rw [iI_sub]; exact hQ h e g
    refine bk_X_run_33 ?_
    rw [← iI_nat i, iI_l (by unfold rI; omega), X_10 hX, X_6 hX, ticks_00]
    refine ek_if (cmp_ge (b := 2000) (by unfold rJ; omega) (by unfold rJ; omega)) (fun c1 => ⟨X_T hX, fin (by omega)⟩) (fun c1 => ⟨X_T hX, ek_if (cmp_ge (by unfold rJ; omega) (by unfold rJ; omega)) (fun c2 => ⟨X_T hX, fin (by omega)⟩) (fun c2 => ⟨X_T hX, ?_⟩)⟩)
    have hws := ticks_WS hw hn.2 k (by omega)
    obtain ⟨hwe, hwk⟩ := ticks_WE hE hK hw hn.2 k (by omega)
    have hSE : SE n (f_begs (f_ends (ticks n s k) n) n) := SE_begs (SE_ends hwe (fun p hp => ((WM_of hws).2.2.2.2.2.2.2.1 p hp).1) hn.2) (f_ends_WS hws n) hn.2 (Nat.le_refl n)
    have hwu : WS (f_begs (f_ends (ticks n s k) n) n) := f_begs_WS (f_ends_WS hws n) hn.2
    have hku : WK (f_begs (f_ends (ticks n s k) n) n) := f_begs_WK (f_ends_WK hwk n) (f_ends_WS hws n) hn.2
    have e0 : f_begs (f_ends (ticks n s k) n) n 0 0 = s 0 0 + k := by rw [f_begs_ne (by decide), f_ends_ne (by decide), ticks_00]
    refine sp_X_ends (d := d) hX hws (fun p hp hp3 => (hwe p hp3).2.1) (fun h2 e2 g2 => ⟨rfl, X_T g2.1, ?_⟩)
    refine sp_X_begs (d := d + 5) g2.1 (f_ends_WS hws n) (f_ends_WK hwk n) (fun h4 g4 => ⟨rfl, X_T g4.1, X_T g4.1, ?_⟩)
    have hX4 := g4.1
    refine sp_X_tu (d := d + 6) hX4 hwu hku ⟨_, rfl, X_T hX4, ?_⟩
    have g1 := g_tu_ge hSE n (Nat.le_refl n)
    have g9 := g_tu_le (s := f_begs (f_ends (ticks n s k) n) n) (n := n)
    rw [if_neg (show ¬ g_tu (f_begs (f_ends (ticks n s k) n) n) n < 1 by omega), X_6 hX4, e0, jJ_sub]
    obtain ⟨t, ht1, ht2⟩ : ∃ t : Nat, (if jJ (g_tu (f_begs (f_ends (ticks n s k) n) n) n) < jJ (s 0 0 + N - (s 0 0 + k)) then jJ (g_tu (f_begs (f_ends (ticks n s k) n) n) n) else jJ (s 0 0 + N - (s 0 0 + k))) = jJ ((t + 1 : Nat) : Int) ∧ (((t + 1 : Nat) : Int) ≤ g_tu (f_begs (f_ends (ticks n s k) n) n) n ∧ k + (t + 1) ≤ N) := by
      by_cases c3 : g_tu (f_begs (f_ends (ticks n s k) n) n) n < s 0 0 + N - (s 0 0 + k)
      · refine ⟨(g_tu (f_begs (f_ends (ticks n s k) n) n) n).toNat - 1, ?_, by omega, by omega⟩
        rw [if_pos ((jJ_lt (by unfold rJ; omega) (by unfold rJ; omega)).mpr c3)]
        congr 1
        omega
      · refine ⟨N - k - 1, ?_, by omega, by omega⟩
        rw [if_neg (fun z => c3 ((jJ_lt (by unfold rJ; omega) (by unfold rJ; omega)).mp z))]
        congr 1
        omega
    rw [ht1]
    have hWEu : WE n (f_begs (f_ends (ticks n s k) n) n) := fun p hp => by
      have := hSE p hp
      omega
    have hj : ticks n s (k + (t + 1)) = g_jmp n (f_begs (f_ends (ticks n s k) n) n) ((t + 1 : Nat) : Int) := by
      rw [← ticks_add]
      refine jmp hn.2 rfl (fun j hj => ((WM_of hwu).2.2.2.2.2.2.2.1 j hj).1) (fun j hj => ((WM_of hwu).2.2.2.2.2.2.2.2.2.2.2.1 j hj).1) hku.2.2 t (by rw [e0, ticks_00]) (fun p h1 h2 h3 => ?_) ?_
      · have q := g9.2 p h1 h2
        unfold g_tp at q
        rw [if_neg h3] at q
        omega
      · by_cases ct : t = 0
        · exact Or.inl ct
        · refine Or.inr (fun p h1 h2 h3 => ?_)
          have q := g9.2 p h1 h2
          unfold g_tp at q
          rw [if_pos h3] at q
          split at q
          · rename_i z; exact z
          · omega
    refine sp_X_move (d := d + 6) hX4 hwu hWEu (by omega) (fun h9 gm => ⟨rfl, rfl, X_T gm.1, X_T gm.1, fun h10 e10 => ?_⟩)
    rw [X_6 gm.1, g_mvs_nk (by decide), jJ_add] at e10
    have gj : gX x n h9 (g_jmp n (f_begs (f_ends (ticks n s k) n) n) ((t + 1 : Nat) : Int)) α e2 c h10 := by subst e10; exact gX_sJ gm.1 SJ_00
    rw [← hj] at gj
    rw [show (1 : Int32) = nI 1 from rfl, iI_nat i, nI_add]
    exact ih (k + (t + 1)) (i + 1) e2 h10 _ _ _ _ _ (by omega) (by omega) (by omega) (gX_tr (gX_tr (gX_tr (gX_tr g g2) g4) gm) gj)
theorem sp_X_run {d x n e c : Nat} {v : Int} {h : am_H} {s : sg} {α : Nat → Nat} {Q : Option am_V → am_H → Prop} (hX : RX h x n s α e c) (hw : WS s) (hK : WK s) (hE : WE n s) (hv : rJ v) (ht : s 0 0 + 2000 ≤ 2000000)
    (hQ : ∀ h' e', gX x n h (f_run n s v).2 α e' c h' → Q (some (.inl (iI (f_run n s v).1))) h') : am_PC (d + 10) mi_X_run [.inr (.inr x), .inr (.inl (jJ v))] h Q := by
  have hq : ∀ (y : Int × sg) (w : Int32) h' e', iI y.1 = w → f_run n s v = y → gX x n h y.2 α e' c h' → Q (some (.inl w)) h' := fun y w h' e' e1 e g => by subst e1; subst e; exact hQ h' e' g
  refine bk_X_run (ek_if (cmp_lt (b := 0) hv (by unfold rJ; omega)) (fun q => hq (-2, s) _ _ _ im2 (by unfold f_run; rw [if_pos (by omega)]) (gX_rf hX)) (fun q => ek_if (cmp_le (b := 2000) hv (by unfold rJ; omega)) (fun q2 => ⟨X_T hX, X_T hX, ?_⟩) (fun q2 => hq (-2, s) _ _ _ im2 (by unfold f_run; rw [if_pos (by omega)]) (gX_rf hX))))
  obtain ⟨k, rfl⟩ := Int.eq_ofNat_of_zero_le (show 0 ≤ v by omega)
  rw [X_10 hX, X_6 hX, jJ_add]
  refine lp_X_run (N := k) (h0 := h) (X_n hX) hw hK hE (by omega) (by omega) (fun h2 e2 g2 => ?_) k 0 0 e h _ _ _ _ _ (by omega) (by omega) (Nat.le_refl _) (gX_rf hX)
  exact hq _ _ _ _ rfl (by unfold f_run; rw [if_neg (by omega)]) g2
