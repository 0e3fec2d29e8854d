/-! THE REFERENCE: run -/
theorem mul_bd {a b : Int} (ha : 0 ≤ a ∧ a ≤ 10000) (hb : 0 ≤ b ∧ b ≤ 1000) : 0 ≤ a * b ∧ a * b ≤ 10000000 := by
  refine ⟨Int.mul_nonneg ha.1 hb.1, ?_⟩
  have := Int.mul_le_mul ha.2 hb.2 hb.1 (by omega : (0 : Int) ≤ 10000)
  omega
theorem f_crs_14 {σ : sg} (hw : WS σ) {i : Nat} (hi : i ≤ 128) : ∀ j, j < 136 → -(10000000 * (σ 0 0 + 1)) ≤ f_crs σ i 14 j ∧ f_crs σ i 14 j ≤ 10000000 * (σ 0 0 + 1) := by
  obtain ⟨w0, w1, w2, w3, w4, a1, a2, a3, a4, a5, a6, a7, a8, a9, a10, a11, a12, a13, a14, a15, a16, a17, a18, a19, a20, a21, a22⟩ := WM_of hw
  induction i with
  | zero =>
    intro j hj
    have := a14 j hj
    show _ ≤ σ 14 j ∧ σ 14 j ≤ _
    omega
  | succ i ih =>
    intro j hj
    rw [f_crs]
    by_cases hc : j = 8 + i
    · subst hc
      have b14 := a14 (8 + i) hj
      have b12 := a12 (8 + i) hj
      have b1 := a1 ((8 + i) / 8) (by omega)
      have b13 := a13 (8 + i) hj
      have bm := mul_bd b1 b13
      have s14 : f_crs σ i 14 (8 + i) = σ 14 (8 + i) := f_crs_ne (by omega)
      unfold f_cr1
      rw [f_crs_nk (k := 12) (by decide), f_crs_nk (k := 3) (by decide), f_crs_nk (k := 4) (by decide), f_crs_nk (k := 1) (by decide), f_crs_nk (k := 13) (by decide), f_crs_nk (k := 7) (by decide)]
      split
      · split
        · rw [u2_eq, s14]; omega
        · split
          · rw [u2_eq, s14]; omega
          · rw [u2_eq, s14]; split <;> omega
      · rw [s14]; omega
    · rw [f_cr1_ne (by omega)]
      exact ih (by omega) j hj
theorem f_tick_WS {n : Nat} {σ : sg} (hw : WS σ) (hn : n ≤ 16) (ht : σ 0 0 < 2000000) : WS (f_tick n σ) := by
  have h1 : WS (f_begs (f_ends σ n) n) := f_begs_WS (f_ends_WS hw n) hn
  have e0 : f_begs (f_ends σ n) n 0 0 = σ 0 0 := by rw [f_begs_ne (by decide), f_ends_ne (by decide)]
  have c := f_crs_14 h1 (i := 8 * n) (by omega)
  rw [e0] at c
  obtain ⟨w0, w1, w2, w3, w4, b, q, c0, l, t⟩ := h1
  rw [e0] at w0
  unfold f_tick WS
  simp only [u2_ne (show ¬ 7 = 0 by decide), u2_ne (show ¬ 8 = 0 by decide), u2_ne (show ¬ 14 = 0 by decide), u2_ne (show ¬ 15 = 0 by decide), u2_ne (show ¬ 20 = 0 by decide), u2_nj (show ¬ 1 = 0 by decide), u2_nj (show ¬ 2 = 0 by decide), u2_nj (show ¬ 3 = 0 by decide), u2_nj (show ¬ 4 = 0 by decide), u2_eq, f_crs_nk (show ¬ 0 = 14 by decide), f_crs_nk (show ¬ 7 = 14 by decide), f_crs_nk (show ¬ 8 = 14 by decide), f_crs_nk (show ¬ 15 = 14 by decide), f_crs_nk (show ¬ 20 = 14 by decide)]
  refine ⟨by omega, w1, w2, w3, w4, fun k j h1 h2 h3 h4 h5 h7 h6 => ?_, q, c, l, t⟩
  rw [u2_ne (by omega), f_crs_nk h4]
  exact b k j h1 h2 h3 h4 h5 h7 h6
theorem f_tick_00 {n : Nat} {σ : sg} : f_tick n σ 0 0 = σ 0 0 + 1 := u2_eq
def ticks (n : Nat) (σ : sg) : Nat → sg
  | 0 => σ
  | k + 1 => f_tick n (ticks n σ k)
theorem ticks_00 {n : Nat} {σ : sg} (k : Nat) : ticks n σ k 0 0 = σ 0 0 + k := by
  induction k with
  | zero => exact (Int.add_zero _).symm
  | succ k ih => rw [ticks, f_tick_00, ih]; omega
theorem ticks_WS {n : Nat} {σ : sg} (hw : WS σ) (hn : n ≤ 16) (k : Nat) (ht : σ 0 0 + k ≤ 2000000) : WS (ticks n σ k) := by
  induction k with
  | zero => exact hw
  | succ k ih => exact f_tick_WS (ih (by omega)) hn (by rw [ticks_00]; omega)
def f_run (n : Nat) (σ : sg) (v : Int) : Int × sg := if v < 0 ∨ 2000 < v then (-2, σ) else (ticks n σ v.toNat 0 3 - σ 0 3, ticks n σ v.toNat)
theorem lp_M_run {d m n N : Nat} {b : Int} {h0 : am_H} {σ : sg} {Q : Option am_V → am_H → Prop} (hw : WS σ) (ht : σ 0 0 + N ≤ 2000000) (hN : N ≤ 2000) (hQ : ∀ h', gM m n h0 (ticks n σ N) h' → Q (some (.inl (iI (ticks n σ N 0 3 - b)))) h') : ∀ (j k : Nat) (h : am_H) (y2 y5 : Option am_V), k + j = N → gM m n h0 (ticks n σ k) h → am_P (d + 3) mi_M_run 30 [some (.inr (.inr m)), some (.inr (.inl (jJ N))), y2, some (.inl (iI b)), some (.inr (.inl (jJ k))), y5] [] h Q := by
  intro j
  induction j with
  | zero =>
    intro k h y2 y5 hk g
    have hk : k = N := by omega
    subst hk
    have hM := g.1
    refine bk_M_run_30 ?_
    rw [RM_I251 hM, iI_sub]
    exact ⟨fun _ => ⟨RM_T hM, hQ h g⟩, fun z => absurd ((cmp_ge (a := (k : Int)) (b := k) (by unfold rJ; omega) (by unfold rJ; omega)).mpr (Int.le_refl _)) z⟩
  | succ j ih =>
    intro k h y2 y5 hk g
    have hM := g.1
    refine bk_M_run_30 ?_
    rw [show (1 : Int64) = jJ 1 from rfl, jJ_add]
    refine ek_if (cmp_ge (a := (k : Int)) (b := N) (by unfold rJ; omega) (by unfold rJ; omega)) (fun c => by omega) (fun c => ⟨RM_T hM, ?_⟩)
    exact sp_M_tick hM (ticks_WS hw hM.1.2 k (by omega)) (fun h2 g2 => ⟨rfl, ih (k + 1) h2 _ _ (by omega) (gM_tr g g2)⟩)
theorem sp_M_run {d m n : Nat} {v : Int} {h : am_H} {σ : sg} {Q : Option am_V → am_H → Prop} (hM : RM h m n σ) (hw : WS σ) (hv : rJ v) (ht : σ 0 0 + 2000 ≤ 2000000)
    (hQ : ∀ h', gM m n h (f_run n σ v).2 h' → Q (some (.inl (iI (f_run n σ v).1))) h') : am_PC (d + 4) mi_M_run [.inr (.inr m), .inr (.inl (jJ v))] h Q := by
  have hq : ∀ (x : Int × sg) (w : Int32) h', iI x.1 = w → f_run n σ v = x → gM m n h x.2 h' → Q (some (.inl w)) h' := fun x w h' e1 e g => by subst e1; subst e; exact hQ h' g
  refine bk_M_run ⟨RM_T hM, fun h1 e1 => ?_⟩
  have g1 : gM m n h σ h1 := by subst e1; exact gM_code hM
  refine ek_if (cmp_lt (b := 0) hv (by unfold rJ; omega)) (fun q => hq (-2, σ) _ _ im2 (by unfold f_run; rw [if_pos (by omega)]) g1) (fun q => ek_if (cmp_le (b := 2000) hv (by unfold rJ; omega)) (fun q2 => ⟨RM_T g1.1, ?_⟩) (fun q2 => hq (-2, σ) _ _ im2 (by unfold f_run; rw [if_pos (by omega)]) g1))
  obtain ⟨k, rfl⟩ := Int.eq_ofNat_of_zero_le (show 0 ≤ v by omega)
  rw [RM_I251 g1.1]
  refine lp_M_run (N := k) (h0 := h1) hw (by omega) (by omega) (fun h2 g2 => ?_) k 0 h1 _ _ (by omega) (gM_rf g1.1)
  exact hq _ _ _ rfl (by unfold f_run; rw [if_neg (by omega)]) (gM_tr g1 g2)
def f_clock (n : Nat) (σ : sg) (p v : Int) : Int × sg := if p < 1 ∨ (n : Int) < p then (-1, σ) else if v < 0 ∨ 1000000 < v then (-2, σ) else (clk (σ 2 p.toNat) v, am_u2 σ 2 p.toNat (clk (σ 2 p.toNat) v))
theorem sp_M_clock {d m n : Nat} {p v : Int} {h : am_H} {σ : sg} {Q : Option am_V → am_H → Prop} (hM : RM h m n σ) (hp : rI p) (hv : rJ v) (h2 : ∀ j, j < 17 → 0 ≤ σ 2 j ∧ σ 2 j ≤ 1000000)
    (hQ : ∀ h', gM m n h (f_clock n σ p v).2 h' → Q (some (.inl (iI (f_clock n σ p v).1))) h') : am_PC (d + 2) mi_M_clock [.inr (.inr m), .inl (iI p), .inr (.inl (jJ v))] h Q := by
  have hn := hM.1
  have hq : ∀ (x : Int × sg) (w : Int32) h', iI x.1 = w → f_clock n σ p v = x → gM m n h x.2 h' → Q (some (.inl w)) h' := fun x w h' e1 e g => by subst e1; subst e; exact hQ h' g
  by_cases c : p < 1 ∨ (n : Int) < p
  · refine sp_M_clock_1 hM ?_ (fun h' g => hq (-1, σ) _ _ im1 (by unfold f_clock; rw [if_pos c]) g)
    rw [iI_p1 hp, iI_pn hp hn.2]
    omega
  · by_cases c2 : v < 0 ∨ 1000000 < v
    · refine sp_M_clock_2 hM ?_ ?_ hv c2 (fun h' g => hq (-2, σ) _ _ im2 (by unfold f_clock; rw [if_neg c, if_pos c2]) g)
      · rw [iI_p1 hp]; omega
      · rw [iI_pn hp hn.2]; omega
    · obtain ⟨k, hk⟩ : ∃ k : Nat, p = ((k + 1 : Nat) : Int) := ⟨p.toNat - 1, by omega⟩
      subst hk
      have e1 : ¬ iI ((k + 1 : Nat) : Int) < 1 := by rw [iI_p1 hp]; omega
      have e2 : ¬ nI n < iI ((k + 1 : Nat) : Int) := by rw [iI_pn hp hn.2]; omega
      rw [iI_nat] at e1 e2 ⊢
      exact sp_M_clock_3 (i := k) hM (by omega) e1 e2 (by omega) (h2 (k + 1) (by omega)) (fun h' g => hq (clk (σ 2 (k + 1)) v, am_u2 σ 2 (k + 1) (clk (σ 2 (k + 1)) v)) _ _ rfl (by unfold f_clock; rw [if_neg c, if_neg c2]; rfl) g)
