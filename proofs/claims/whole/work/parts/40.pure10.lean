/-! THE REFERENCE: tick, run -/
def f_end0 (σ : sg) (p : Nat) : sg := if 5000 ≤ σ 0 4 then σ else am_u2 (am_u2 (am_u2 (am_u2 (am_u2 σ 23 (4 * (σ 0 4).toNat) (σ 3 p)) 23 (4 * (σ 0 4).toNat + 1) p) 23 (4 * (σ 0 4).toNat + 2) (σ 5 p)) 23 (4 * (σ 0 4).toNat + 3) (σ 0 0)) 0 4 (σ 0 4 + 1)
def f_end1 (σ : sg) (p : Nat) : sg := if 0 < σ 3 p ∧ σ 6 p = σ 0 0 then am_u2 (am_u2 (f_end0 σ p) 0 3 (σ 0 3 + 1)) 3 p 0 else σ
def f_ends (σ : sg) : Nat → sg
  | 0 => σ
  | k + 1 => f_end1 (f_ends σ k) (k + 1)
theorem f_end0_ne {σ : sg} {p k j : Nat} (h : ¬ (k = 0 ∧ j = 4) ∧ ¬ k = 23) : f_end0 σ p k j = σ k j := by
  unfold f_end0
  split
  · rfl
  · rw [am_u2, if_neg h.1, u2_ne h.2, u2_ne h.2, u2_ne h.2, u2_ne h.2]
theorem f_end1_ne {σ : sg} {p k j : Nat} (h : ¬ (k = 0 ∧ (j = 3 ∨ j = 4)) ∧ ¬ k = 3 ∧ ¬ k = 23) : f_end1 σ p k j = σ k j := by
  unfold f_end1
  split
  · rw [u2_ne h.2.1, am_u2, if_neg (fun z => h.1 ⟨z.1, Or.inl z.2⟩), f_end0_ne ⟨fun z => h.1 ⟨z.1, Or.inr z.2⟩, h.2.2⟩]
  · rfl
theorem f_ends_ne {σ : sg} {i k j : Nat} (h : ¬ (k = 0 ∧ (j = 3 ∨ j = 4)) ∧ ¬ k = 3 ∧ ¬ k = 23) : f_ends σ i k j = σ k j := by
  induction i with
  | zero => rfl
  | succ i ih => rw [f_ends, f_end1_ne h, ih]
theorem f_end0_WS {σ : sg} {p : Nat} (h : WS σ) : WS (f_end0 σ p) := by
  unfold f_end0
  split
  · exact h
  · have w4 := h.2.2.2.2.1
    exact WS_04 (WS_un (WS_un (WS_un (WS_un h (by decide)) (by decide)) (by decide)) (by decide)) (by omega)
theorem f_end1_WS {σ : sg} {p : Nat} (h : WS σ) : WS (f_end1 σ p) := by
  unfold f_end1
  split
  · have w3 := h.2.2.2.1
    exact WS_u2 (WS_03 (f_end0_WS h) (by omega)) (by decide) (show (0 : Int) ≤ 0 ∧ (0 : Int) ≤ 5000 by omega)
  · exact h
theorem f_ends_WS {σ : sg} (h : WS σ) (k : Nat) : WS (f_ends σ k) := by
  induction k with
  | zero => exact h
  | succ k ih => exact f_end1_WS ih
theorem lp_M_tick2 {d m n : Nat} {h0 : am_H} {σ : sg} {Q : Option am_V → am_H → Prop} (hw : WS σ) (hn : 1 ≤ n ∧ n ≤ 16) (hQ : ∀ h', gM m n h0 (f_ends σ n) h' → am_P d mi_M_tick 147 [some (.inr (.inr m)), some (.inl 1), none] [] h' Q) : ∀ (j k : Nat) (h : am_H) (y2 : Option am_V), k + j = n → gM m n h0 (f_ends σ k) h → am_P d mi_M_tick 2 [some (.inr (.inr m)), some (.inl (nI (k + 1))), y2] [] h Q := by
  intro j
  induction j with
  | zero =>
    intro k h y2 hk g
    have hk : k = n := by omega
    subst hk
    have hM := g.1
    refine bk_M_tick_2 ?_
    rw [RM_n hM]
    exact ⟨RM_T hM, fun _ => hQ h g, fun z => absurd (nI_lt (by omega) (by omega)) z⟩
  | succ j ih =>
    intro k h y2 hk g
    have hM := g.1
    obtain ⟨w0, w1, w2, w3, w4, a1, a2, a3, a4, a5, a6, a7, a8, a9, a10, a11, a12, a13, a14, a15, a16, a17, a18, a19, a20, a21, a22⟩ := WM_of (f_ends_WS hw k)
    have hin : vp_in (nI (k + 1)) 17 := vp_in_nI (by omega) (by omega)
    have b3 := a3 (k + 1) (by omega)
    have b5 := a5 (k + 1) (by omega)
    have b6 := a6 (k + 1) (by omega)
    have same : ¬ (0 < (f_ends σ k) 3 (k + 1) ∧ (f_ends σ k) 6 (k + 1) = (f_ends σ k) 0 0) → am_P d mi_M_tick 2 [some (.inr (.inr m)), some (.inl (nI (k + 1 + 1))), none] [] h Q := fun c => ih (k + 1) h none (by omega) (by rw [f_ends, f_end1, if_neg c]; exact g)
    have fin : (0 < (f_ends σ k) 3 (k + 1) ∧ (f_ends σ k) 6 (k + 1) = (f_ends σ k) 0 0) → ∀ h1, gM m n h (f_end0 (f_ends σ k) (k + 1)) h1 → am_P d mi_M_tick 122 [some (.inr (.inr m)), some (.inl (nI (k + 1))), none] [] h1 Q := by
      intro c h1 g1
      have hM1 := g1.1
      refine bk_M_tick_122 ?_
      rw [RM_I251 hM1, f_end0_ne (by decide), nI_clamp (by omega), nI_1 (k + 1), show (1 : Int32) = iI 1 from rfl, iI_add]
      refine ⟨rfl, RM_T hM1, RM_T hM1, fun h2 e2 => ?_⟩
      have g2 : gM m n h1 (am_u2 (f_end0 (f_ends σ k) (k + 1)) 0 3 (f_ends σ k 0 3 + 1)) h2 := by subst e2; exact ⟨RM_all hM1, kp_sI (NM_0 m)⟩
      have hM2 := g2.1
      rw [RM_R230 hM2, RM_T3 hM2, RM_N3 hM2]
      refine ⟨RM_T hM2, rfl, hin, fun h3 e3 => ?_⟩
      have g3 : gM m n h2 (am_u2 (am_u2 (f_end0 (f_ends σ k) (k + 1)) 0 3 (f_ends σ k 0 3 + 1)) 3 (k + 1) 0) h3 := by subst e3; exact gM_xI (v := 0) hM2 (by decide) rfl
      exact ih (k + 1) h3 none (by omega) (by rw [f_ends, f_end1, if_pos c]; exact gM_tr (gM_tr (gM_tr g g1) g2) g3)
    refine bk_M_tick_2 ?_
    rw [RM_n hM, RM_R230 hM, RM_T3 hM, RM_N3 hM, nI_clamp (by omega), RM_a3 hM, RM_R233 hM, RM_T6 hM, RM_N6 hM, RM_a6 hM, RM_J227 hM, RM_I252 hM, nI_1 (k + 1), RM_R253 hM, RM_T23 hM, RM_N23 hM, show (4 : Int32) = iI 4 from rfl, iI_mul, iI_clamp (by omega) (by unfold rI; omega)]
    refine ⟨RM_T hM, fun z => absurd z (nI_nlt (by omega) (by omega)), fun _ => ⟨RM_T hM, Or.inl rfl, hin, ek_if (iI_le (b := 0) (by unfold rI; omega) (by unfold rI; omega)) (fun c => same (by omega)) (fun c => ⟨RM_T hM, rfl, hin, RM_T hM, ek_if (cmp_eq (by unfold rJ; omega) (by unfold rJ; omega)) (fun c2 => ⟨RM_T hM, ek_if (iI_le (a := 5000) (by unfold rI; omega) (by unfold rI; omega)) (fun c3 => fin (by omega) h (by unfold f_end0; rw [if_pos c3]; exact gM_rf hM)) (fun c3 => ⟨RM_T hM, RM_T hM, RM_T hM, Or.inl rfl, hin, rfl, iI_in (by omega) (by omega) (by omega), fun h1 e1 => ?_⟩)⟩) (fun c2 => same (by omega))⟩)⟩⟩
    have ek : (4 * (f_ends σ k) 0 4).toNat = 4 * ((f_ends σ k) 0 4).toNat := by omega
    have ek1 : (4 * (f_ends σ k) 0 4 + 1).toNat = 4 * ((f_ends σ k) 0 4).toNat + 1 := by omega
    have ek2 : (4 * (f_ends σ k) 0 4 + 2).toNat = 4 * ((f_ends σ k) 0 4).toNat + 2 := by omega
    have ek3 : (4 * (f_ends σ k) 0 4 + 3).toNat = 4 * ((f_ends σ k) 0 4).toNat + 3 := by omega
    rw [ek] at e1
    have g1 : gM m n h (am_u2 (f_ends σ k) 23 (4 * (f_ends σ k 0 4).toNat) (f_ends σ k 3 (k + 1))) h1 := by subst e1; exact gM_xI hM (by decide) rfl
    have hM1 := g1.1
    rw [RM_I252 hM1, u2_ne (by decide), RM_R253 hM1, RM_T23 hM1, RM_N23 hM1, iI_mul, show (1 : Int32) = iI 1 from rfl, iI_add, iI_clamp (by omega) (by unfold rI; omega), ek1]
    refine ⟨RM_T hM1, RM_T hM1, rfl, iI_in (by omega) (by omega) (by omega), fun h2 e2 => ?_⟩
    have g2 : gM m n h1 (am_u2 (am_u2 (f_ends σ k) 23 (4 * (f_ends σ k 0 4).toNat) (f_ends σ k 3 (k + 1))) 23 (4 * (f_ends σ k 0 4).toNat + 1) ((k + 1 : Nat) : Int)) h2 := by subst e2; rw [← iI_nat]; exact gM_xI hM1 (by decide) rfl
    have hM2 := g2.1
    rw [RM_I252 hM2, u2_ne (by decide), u2_ne (by decide), RM_R253 hM2, RM_T23 hM2, RM_N23 hM2, iI_mul, show (2 : Int32) = iI 2 from rfl, iI_add, iI_clamp (by omega) (by unfold rI; omega), ek2, RM_R232 hM2, RM_T5 hM2, RM_N5 hM2, RM_a5 hM2, u2_ne (by decide), u2_ne (by decide), jJ_i (by unfold rI; omega)]
    refine ⟨RM_T hM2, RM_T hM2, RM_T hM2, rfl, hin, rfl, iI_in (by omega) (by omega) (by omega), fun h3 e3 => ?_⟩
    have g3 : gM m n h2 (am_u2 (am_u2 (am_u2 (f_ends σ k) 23 (4 * (f_ends σ k 0 4).toNat) (f_ends σ k 3 (k + 1))) 23 (4 * (f_ends σ k 0 4).toNat + 1) ((k + 1 : Nat) : Int)) 23 (4 * (f_ends σ k 0 4).toNat + 2) (f_ends σ k 5 (k + 1))) h3 := by subst e3; exact gM_xI hM2 (by decide) rfl
    have hM3 := g3.1
    rw [RM_I252 hM3, u2_ne (by decide), u2_ne (by decide), u2_ne (by decide), RM_R253 hM3, RM_T23 hM3, RM_N23 hM3, iI_mul, show (3 : Int32) = iI 3 from rfl, iI_add, iI_clamp (by omega) (by unfold rI; omega), ek3, RM_J227 hM3, u2_ne (by decide), u2_ne (by decide), u2_ne (by decide), jJ_i (by unfold rI; omega)]
    refine ⟨RM_T hM3, RM_T hM3, RM_T hM3, rfl, iI_in (by omega) (by omega) (by omega), fun h4 e4 => ?_⟩
    have g4 : gM m n h3 (am_u2 (am_u2 (am_u2 (am_u2 (f_ends σ k) 23 (4 * (f_ends σ k 0 4).toNat) (f_ends σ k 3 (k + 1))) 23 (4 * (f_ends σ k 0 4).toNat + 1) ((k + 1 : Nat) : Int)) 23 (4 * (f_ends σ k 0 4).toNat + 2) (f_ends σ k 5 (k + 1))) 23 (4 * (f_ends σ k 0 4).toNat + 3) (f_ends σ k 0 0)) h4 := by subst e4; exact gM_xI hM3 (by decide) rfl
    have hM4 := g4.1
    rw [RM_I252 hM4, u2_ne (by decide), u2_ne (by decide), u2_ne (by decide), u2_ne (by decide), iI_add]
    refine ⟨rfl, RM_T hM4, RM_T hM4, fun h5 e5 => fin (by omega) h5 (gM_tr (gM_tr (gM_tr (gM_tr g1 g2) g3) g4) ?_)⟩
    unfold f_end0
    rw [if_neg c3]
    subst e5
    exact ⟨RM_kept hM4, kp_sI (NM_0 m)⟩
/-- ports that may begin do so -/
def f_beg1 (σ : sg) (p r : Nat) : sg := if 0 < σ 1 p ∧ σ 3 p = 0 ∧ f_may σ p r = true then f_begin σ p r else σ
def f_begp (σ : sg) (p : Nat) : Nat → sg
  | 0 => σ
  | k + 1 => f_beg1 (f_begp σ p k) p (7 - k)
def f_begs (σ : sg) : Nat → sg
  | 0 => σ
  | k + 1 => f_begp (f_begs σ k) (k + 1) 8
theorem f_may_7 {σ : sg} {p r : Nat} (h : f_may σ p r = true) : ¬ σ 7 (8 * p + r) = 0 := by
  unfold f_may at h
  intro z
  rw [decide_eq_false (p := ¬ σ 7 (8 * p + r) = 0) (fun y => y z)] at h
  cases h
theorem f_begin_ne {σ : sg} {p r k j : Nat} (h : ¬ k = 3 ∧ ¬ k = 4 ∧ ¬ k = 5 ∧ ¬ k = 6 ∧ ¬ k = 7 ∧ ¬ k = 8 ∧ ¬ k = 31 ∧ ¬ k = 32) : f_begin σ p r k j = σ k j := by
  unfold f_begin f_beg0
  rw [u2_ne h.2.2.2.2.2.2.1, u2_ne h.2.2.2.2.2.2.2, bshift_ne h.2.2.2.2.2.1, u2_ne h.2.2.2.2.1, u2_ne h.2.2.2.1, u2_ne h.2.2.1, u2_ne h.2.1, u2_ne h.1]
theorem f_begin_WS {σ : sg} {p r : Nat} (h : WS σ) (hp : 1 ≤ p ∧ p ≤ 16) (hr : r < 8) (hs : 0 < σ 1 p) (h7 : 0 < σ 7 (8 * p + r)) : WS (f_begin σ p r) := by
  obtain ⟨w0, w1, w2, w3, w4, a1, a2, a3, a4, a5, a6, a7, a8, a9, a10, a11, a12, a13, a14, a15, a16, a17, a18, a19, a20, a21, a22⟩ := WM_of h
  have b1 := a1 p (by omega)
  have b8 := a8 (8 * p + r) 0 (by omega) (by omega)
  rw [Nat.add_zero] at b8
  have b15 := a15 (σ 8 (16 * (8 * p + r))).toNat (by omega) (by omega)
  have ft := f_time_le (σ := σ) (p := p) (f := (σ 8 (16 * (8 * p + r))).toNat) ⟨hs, b1.2⟩ b15
  have hb : WS (am_u2 (am_u2 (am_u2 (am_u2 σ 3 p (σ 8 (16 * (8 * p + r)))) 4 p r) 5 p (σ 0 0)) 6 p (σ 0 0 + f_time σ p (σ 8 (16 * (8 * p + r))).toNat)) :=
    WS_u2 (WS_u2 (WS_u2 (WS_u2 h (by decide) (show (0 : Int) ≤ _ ∧ _ ≤ (5000 : Int) by omega)) (by decide) (show (0 : Int) ≤ _ ∧ _ ≤ (7 : Int) by omega)) (by decide) (show (0 : Int) ≤ _ ∧ _ ≤ (2000000 : Int) by omega)) (by decide) (show (0 : Int) ≤ _ ∧ _ ≤ (3000000 : Int) by omega)
  have e7 : ∀ j, (am_u2 (am_u2 (am_u2 (am_u2 σ 3 p (σ 8 (16 * (8 * p + r)))) 4 p r) 5 p (σ 0 0)) 6 p (σ 0 0 + f_time σ p (σ 8 (16 * (8 * p + r))).toNat)) 7 j = σ 7 j := fun j => by rw [u2_ne (by decide), u2_ne (by decide), u2_ne (by decide), u2_ne (by decide)]
  have := WS_deq hb (a := 8 * p + r) (by omega) (by rw [e7]; exact h7)
  rw [e7] at this
  exact WS_un (WS_un this (by decide)) (by decide)
theorem f_beg1_ne {σ : sg} {p r k j : Nat} (h : ¬ k = 3 ∧ ¬ k = 4 ∧ ¬ k = 5 ∧ ¬ k = 6 ∧ ¬ k = 7 ∧ ¬ k = 8 ∧ ¬ k = 31 ∧ ¬ k = 32) : f_beg1 σ p r k j = σ k j := by
  unfold f_beg1
  split
  · exact f_begin_ne h
  · rfl
theorem f_begp_ne {σ : sg} {p i k j : Nat} (h : ¬ k = 3 ∧ ¬ k = 4 ∧ ¬ k = 5 ∧ ¬ k = 6 ∧ ¬ k = 7 ∧ ¬ k = 8 ∧ ¬ k = 31 ∧ ¬ k = 32) : f_begp σ p i k j = σ k j := by
  induction i with
  | zero => rfl
  | succ i ih => rw [f_begp, f_beg1_ne h, ih]
theorem f_begs_ne {σ : sg} {i k j : Nat} (h : ¬ k = 3 ∧ ¬ k = 4 ∧ ¬ k = 5 ∧ ¬ k = 6 ∧ ¬ k = 7 ∧ ¬ k = 8 ∧ ¬ k = 31 ∧ ¬ k = 32) : f_begs σ i k j = σ k j := by
  induction i with
  | zero => rfl
  | succ i ih => rw [f_begs, f_begp_ne h, ih]
theorem f_beg1_WS {σ : sg} {p r : Nat} (h : WS σ) (hp : 1 ≤ p ∧ p ≤ 16) (hr : r < 8) : WS (f_beg1 σ p r) := by
  unfold f_beg1
  split
  · rename_i c
    have c7 := f_may_7 c.2.2
    have b7 := (WM_of h).2.2.2.2.2.2.2.2.2.2.2.1 (8 * p + r) (by omega)
    exact f_begin_WS h hp hr c.1 (by omega)
  · exact h
theorem f_begp_WS {σ : sg} {p : Nat} (h : WS σ) (hp : 1 ≤ p ∧ p ≤ 16) (k : Nat) : WS (f_begp σ p k) := by
  induction k with
  | zero => exact h
  | succ k ih => exact f_beg1_WS ih hp (by omega)
theorem f_begs_WS {σ : sg} (h : WS σ) {k : Nat} (hk : k ≤ 16) : WS (f_begs σ k) := by
  induction k with
  | zero => exact h
  | succ k ih => exact f_begp_WS (ih (by omega)) (by omega) 8
theorem lp_M_tick158 {d m n p : Nat} {h0 : am_H} {σ : sg} {Q : Option am_V → am_H → Prop} (hw : WS σ) (hp : 1 ≤ p ∧ p ≤ 16) (hQ : ∀ h' y2, gM m n h0 (f_begp σ p 8) h' → am_P (d + 2) mi_M_tick 147 [some (.inr (.inr m)), some (.inl (nI (p + 1))), y2] [] h' Q) : ∀ (j k : Nat) (h : am_H), k + j = 8 → gM m n h0 (f_begp σ p k) h → am_P (d + 2) mi_M_tick 158 [some (.inr (.inr m)), some (.inl (nI p)), some (.inl (iI (7 - (k : Int))))] [] h Q := by
  intro j
  induction j with
  | zero =>
    intro k h hk g
    have hk : k = 8 := by omega
    subst hk
    refine bk_M_tick_158 ?_
    rw [nI_1]
    exact ⟨fun _ => hQ h _ g, fun z => absurd (by decide) z⟩
  | succ j ih =>
    intro k h hk g
    have hM := g.1
    have hws := f_begp_WS hw hp k
    obtain ⟨w0, w1, w2, w3, w4, a1, a2, a3, a4, a5, a6, a7, a8, a9, a10, a11, a12, a13, a14, a15, a16, a17, a18, a19, a20, a21, a22⟩ := WM_of hws
    have hin : vp_in (nI p) 17 := vp_in_nI (by omega) (by omega)
    have b1 := a1 p (by omega)
    have b3 := a3 p (by omega)
    have b7 := a7 (8 * p + (7 - k)) (by omega)
    have e7 : iI (7 - (k : Int)) = nI (7 - k) := by
      rw [← iI_nat (7 - k)]
      congr 1
      omega
    have em : iI (7 - (k : Int)) + (-1) = iI (7 - ((k + 1 : Nat) : Int)) := by
      rw [show (-1 : Int32) = iI (-1) from im1.symm, iI_add]
      congr 1
      omega
    have same : ¬ (0 < (f_begp σ p k) 1 p ∧ (f_begp σ p k) 3 p = 0 ∧ f_may (f_begp σ p k) p (7 - k) = true) → am_P (d + 2) mi_M_tick 158 [some (.inr (.inr m)), some (.inl (nI p)), some (.inl (iI (7 - ((k + 1 : Nat) : Int))))] [] h Q := fun c => ih (k + 1) h (by omega) (by rw [f_begp, f_beg1, if_neg c]; exact g)
    refine bk_M_tick_158 ?_
    rw [em, RM_R228 hM, RM_T1 hM, RM_N1 hM, nI_clamp (by omega), RM_a1 hM, RM_R230 hM, RM_T3 hM, RM_N3 hM, RM_a3 hM, e7]
    refine ⟨fun z => absurd z (nI_pos (by omega)), fun _ => ⟨RM_T hM, rfl, hin, ek_if (cmp_le (b := 0) (by unfold rJ; omega) (by unfold rJ; omega)) (fun c => same (by omega)) (fun c => ⟨RM_T hM, Or.inl rfl, hin, ek_if (iI_eq (b := 0) (by unfold rI; omega) (by unfold rI; omega)) (fun c2 => ⟨RM_T hM, ?_⟩) (fun c2 => same (fun y => c2 y.2.1))⟩)⟩⟩
    refine sp_M_may hM (WM_of hws) hp (by omega) (by omega) ⟨_, rfl, fun z => same (fun y => ?_), fun z => ⟨RM_T hM, ?_⟩⟩
    · rw [bI_f.mp z] at y
      exact absurd y.2.2 (by decide)
    · have hb := bI_t.mp z
      have h7 := f_may_7 hb
      exact sp_M_begin hM (WM_of hws) hp (by omega) (by omega) (by omega) (fun h5 g5 => ⟨rfl, ih (k + 1) h5 (by omega) (by rw [f_begp, f_beg1, if_pos ⟨by omega, c2, hb⟩]; exact gM_tr g g5)⟩)
theorem lp_M_tick147 {d m n : Nat} {h0 : am_H} {σ : sg} {Q : Option am_V → am_H → Prop} (hw : WS σ) (hn : 1 ≤ n ∧ n ≤ 16) (hQ : ∀ h', gM m n h0 (f_begs σ n) h' → am_P (d + 2) mi_M_tick 212 [some (.inr (.inr m)), some (.inl 8), none] [] h' Q) : ∀ (j k : Nat) (h : am_H) (y2 : Option am_V), k + j = n → gM m n h0 (f_begs σ k) h → am_P (d + 2) mi_M_tick 147 [some (.inr (.inr m)), some (.inl (nI (k + 1))), y2] [] h Q := by
  intro j
  induction j with
  | zero =>
    intro k h y2 hk g
    have hk : k = n := by omega
    subst hk
    have hM := g.1
    refine bk_M_tick_147 ?_
    rw [RM_n hM]
    exact ⟨RM_T hM, fun _ => hQ h g, fun z => absurd (nI_lt (by omega) (by omega)) z⟩
  | succ j ih =>
    intro k h y2 hk g
    have hM := g.1
    refine bk_M_tick_147 ?_
    rw [RM_n hM]
    refine ⟨RM_T hM, fun z => absurd z (nI_nlt (by omega) (by omega)), fun _ => ?_⟩
    exact lp_M_tick158 (h0 := h) (f_begs_WS hw (by omega)) (by omega) (fun h' y g' => ih (k + 1) h' y (by omega) (gM_tr g g')) 8 0 h rfl (gM_rf hM)
/-- credits move by a tick -/
def f_cr1 (σ : sg) (q : Nat) : sg := if 0 < σ 12 q then (if 0 < σ 3 (q / 8) ∧ σ 4 (q / 8) = ((q % 8 : Nat) : Int) then am_u2 σ 14 q (σ 14 q + σ 12 q - σ 1 (q / 8) * σ 13 q) else if 0 < σ 7 q then am_u2 σ 14 q (σ 14 q + σ 12 q) else am_u2 σ 14 q (if σ 14 q + σ 12 q < 0 then σ 14 q + σ 12 q else 0)) else σ
def f_crs (σ : sg) : Nat → sg
  | 0 => σ
  | k + 1 => f_cr1 (f_crs σ k) (8 + k)
theorem f_cr1_ne {σ : sg} {q k j : Nat} (h : ¬ (k = 14 ∧ j = q)) : f_cr1 σ q k j = σ k j := by
  unfold f_cr1
  split
  · split
    · rw [am_u2, if_neg h]
    · split
      · rw [am_u2, if_neg h]
      · rw [am_u2, if_neg h]
  · rfl
theorem f_crs_ne {σ : sg} {i k j : Nat} (h : ¬ (k = 14 ∧ 8 ≤ j ∧ j < 8 + i)) : f_crs σ i k j = σ k j := by
  induction i with
  | zero => rfl
  | succ i ih => rw [f_crs, f_cr1_ne (by omega), ih (by omega)]
theorem f_crs_nk {σ : sg} {i k j : Nat} (h : ¬ k = 14) : f_crs σ i k j = σ k j := f_crs_ne (fun z => h z.1)
theorem lp_M_tick212 {d m n : Nat} {h0 : am_H} {σ : sg} {Q : Option am_V → am_H → Prop} (hw : WS σ) (hn : 1 ≤ n ∧ n ≤ 16) (hQ : ∀ h', gM m n h0 (am_u2 (f_crs σ (8 * n)) 0 0 (σ 0 0 + 1)) h' → Q none h') : ∀ (j k : Nat) (h : am_H) (y2 : Option am_V), k + j = 8 * n → gM m n h0 (f_crs σ k) h → am_P d mi_M_tick 212 [some (.inr (.inr m)), some (.inl (nI (8 + k))), y2] [] h Q := by
  intro j
  obtain ⟨w0, w1, w2, w3, w4, a1, a2, a3, a4, a5, a6, a7, a8, a9, a10, a11, a12, a13, a14, a15, a16, a17, a18, a19, a20, a21, a22⟩ := WM_of hw
  have en : (8 : Int32) * nI n + 8 = nI (8 * n + 8) := nI_q n 8
  induction j with
  | zero =>
    intro k h y2 hk g
    have hk : k = 8 * n := by omega
    subst hk
    have hM := g.1
    refine bk_M_tick_212 ?_
    rw [RM_n hM, en, RM_J227 hM, f_crs_nk (by decide), show (1 : Int64) = jJ 1 from rfl, jJ_add]
    refine ⟨RM_T hM, fun _ => ⟨rfl, RM_T hM, RM_T hM, fun h1 e1 => hQ h1 (gM_tr g (by subst e1; exact ⟨RM_now hM, kp_sJ (NM_0 m)⟩))⟩, fun z => absurd (nI_le (by omega) (by omega)) z⟩
  | succ j ih =>
    intro k h y2 hk g
    have hM := g.1
    have hin : vp_in (nI (8 + k)) 136 := vp_in_nI (by omega) (by omega)
    have hin1 : vp_in (nI ((8 + k) / 8)) 17 := vp_in_nI (by omega) (by omega)
    have ed : nI (8 + k) / 8 = nI ((8 + k) / 8) := pk_div (d := 8) (by omega) (by omega) (by omega)
    have er : nI (8 + k) - nI ((8 + k) / 8) * 8 = nI ((8 + k) % 8) := by
      have := pk_rem (a := 8 + k) (d := 8) (by omega) (by omega) (by omega)
      rw [show nI 8 = 8 from rfl, ed] at this
      exact this
    have b1 := a1 ((8 + k) / 8) (by omega)
    have b3 := a3 ((8 + k) / 8) (by omega)
    have b4 := a4 ((8 + k) / 8) (by omega)
    have b7 := a7 (8 + k) (by omega)
    have b12 := a12 (8 + k) (by omega)
    have b13 := a13 (8 + k) (by omega)
    have b14 := a14 (8 + k) (by omega)
    have s14 : f_crs σ k 14 (8 + k) = σ 14 (8 + k) := f_crs_ne (by omega)
    have nx : ∀ h' (y : Option am_V), gM m n h (f_cr1 (f_crs σ k) (8 + k)) h' → am_P d mi_M_tick 212 [some (.inr (.inr m)), some (.inl (nI (8 + k + 1))), y] [] h' Q := fun h' y g' => ih (k + 1) h' y (by omega) (gM_tr g g')
    have c300 : 0 < σ 12 (8 + k) → ¬ (0 < σ 3 ((8 + k) / 8) ∧ σ 4 ((8 + k) / 8) = (((8 + k) % 8 : Nat) : Int)) → am_P d mi_M_tick 300 [some (.inr (.inr m)), some (.inl (nI (8 + k))), some (.inl (nI ((8 + k) / 8)))] [] h Q := by
      intro c1 c2
      have ef : f_cr1 (f_crs σ k) (8 + k) = if 0 < σ 7 (8 + k) then am_u2 (f_crs σ k) 14 (8 + k) (σ 14 (8 + k) + σ 12 (8 + k)) else am_u2 (f_crs σ k) 14 (8 + k) (if σ 14 (8 + k) + σ 12 (8 + k) < 0 then σ 14 (8 + k) + σ 12 (8 + k) else 0) := by
        unfold f_cr1
        rw [s14, f_crs_nk (k := 12) (by decide), f_crs_nk (k := 3) (by decide), f_crs_nk (k := 4) (by decide), f_crs_nk (k := 7) (by decide), if_pos c1, if_neg c2]
      refine bk_M_tick_300 ?_
      rw [RM_R234 hM, RM_T7 hM, RM_N7 hM, nI_clamp (by omega), RM_a7 hM, f_crs_nk (by decide), RM_R241 hM, RM_T14 hM, RM_N14 hM, RM_a14 hM, s14, RM_R239 hM, RM_T12 hM, RM_N12 hM, RM_a12 hM, f_crs_nk (by decide), jJ_add, nI_1 (8 + k)]
      refine ⟨RM_T hM, Or.inl rfl, hin, ek_if (iI_le (b := 0) (by unfold rI; omega) (by unfold rI; omega)) (fun c3 => ⟨RM_T hM, RM_T hM, rfl, hin, RM_T hM, rfl, hin, ek_if (cmp_ge (b := 0) (by unfold rJ; omega) (by unfold rJ; omega)) (fun c4 => ⟨rfl, hin, fun h1 e1 => nx h1 _ ?_⟩) (fun c4 => ⟨RM_T hM, rfl, hin, RM_T hM, rfl, hin, rfl, hin, fun h1 e1 => nx h1 _ ?_⟩)⟩) (fun c3 => ⟨RM_T hM, RM_T hM, rfl, hin, RM_T hM, rfl, hin, rfl, hin, fun h1 e1 => nx h1 _ ?_⟩)⟩
      · rw [ef, if_neg (by omega), if_neg (by omega)]
        subst e1
        exact gM_xJ (v := 0) hM (by decide) rfl
      · rw [ef, if_neg (by omega), if_pos (by omega)]
        subst e1
        exact gM_xJ hM (by decide) rfl
      · rw [ef, if_pos (by omega)]
        subst e1
        exact gM_xJ hM (by decide) rfl
    refine bk_M_tick_212 ?_
    rw [RM_n hM, en, ed, er, RM_R239 hM, RM_T12 hM, RM_N12 hM, nI_clamp (by omega), RM_a12 hM, f_crs_nk (by decide), nI_1 (8 + k), RM_R230 hM, RM_T3 hM, RM_N3 hM, nI_clamp (by omega), RM_a3 hM, f_crs_nk (by decide), RM_R231 hM, RM_T4 hM, RM_N4 hM, RM_a4 hM, f_crs_nk (by decide), RM_R241 hM, RM_T14 hM, RM_N14 hM, RM_a14 hM, s14, RM_R228 hM, RM_T1 hM, RM_N1 hM, RM_a1 hM, f_crs_nk (by decide), RM_R240 hM, RM_T13 hM, RM_N13 hM, RM_a13 hM, f_crs_nk (by decide), jJ_add, jJ_mul, jJ_sub, ← iI_nat ((8 + k) % 8)]
    refine ⟨RM_T hM, fun z => absurd z (nI_ge (by omega) (by omega)), fun _ => ⟨by decide, RM_T hM, rfl, hin, ek_if (cmp_le (b := 0) (by unfold rJ; omega) (by unfold rJ; omega)) (fun c => nx h _ ?_) (fun c => ⟨RM_T hM, Or.inl rfl, hin1, ek_if (iI_le (b := 0) (by unfold rI; omega) (by unfold rI; omega)) (fun c2 => c300 (by omega) (by omega)) (fun c2 => ⟨RM_T hM, Or.inl rfl, hin1, by decide, ek_if (iI_eq (by unfold rI; omega) (by unfold rI; omega)) (fun c3 => ⟨RM_T hM, RM_T hM, rfl, hin, RM_T hM, rfl, hin, RM_T hM, rfl, hin1, RM_T hM, rfl, hin, rfl, hin, fun h2 e2 => nx h2 _ ?_⟩) (fun c3 => c300 (by omega) (by omega))⟩)⟩)⟩⟩
    · unfold f_cr1
      rw [f_crs_nk (k := 12) (by decide), if_neg (by omega)]
      exact gM_rf hM
    · unfold f_cr1
      rw [s14, f_crs_nk (k := 12) (by decide), f_crs_nk (k := 3) (by decide), f_crs_nk (k := 4) (by decide), f_crs_nk (k := 1) (by decide), f_crs_nk (k := 13) (by decide), if_pos (by omega), if_pos (by omega)]
      subst e2
      exact gM_xJ hM (by decide) rfl
def f_tick (n : Nat) (σ : sg) : sg := am_u2 (f_crs (f_begs (f_ends σ n) n) (8 * n)) 0 0 (σ 0 0 + 1)
theorem sp_M_tick {d m n : Nat} {h : am_H} {σ : sg} {Q : Option am_V → am_H → Prop} (hM : RM h m n σ) (hw : WS σ) (hQ : ∀ h', gM m n h (f_tick n σ) h' → Q none h') : am_PC (d + 3) mi_M_tick [.inr (.inr m)] h Q := by
  have hn := hM.1
  refine bk_M_tick ?_
  refine lp_M_tick2 (h0 := h) hw hn (fun h1 g1 => ?_) n 0 h none (by omega) (gM_rf hM)
  refine lp_M_tick147 (h0 := h1) (f_ends_WS hw n) hn (fun h2 g2 => ?_) n 0 h1 none (by omega) (gM_rf g1.1)
  refine lp_M_tick212 (h0 := h2) (f_begs_WS (f_ends_WS hw n) hn.2) hn (fun h3 g3 => ?_) (8 * n) 0 h2 none (by omega) (gM_rf g2.1)
  rw [f_begs_ne (by decide), f_ends_ne (by decide)] at g3
  exact hQ h3 (gM_tr (gM_tr g1 g2) g3)
