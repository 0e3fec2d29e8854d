/-! THE CLASS: gate, link, cycle, left -/
def g_gate (n : Nat) (s : sg) (p r a b : Int) : Int × sg := if 0 < (f_gate n s p r a b).1 then ((f_gate n s p r a b).1, am_u2 (f_gate n s p r a b).2 30 0 (if b < s 30 0 then s 30 0 else b)) else f_gate n s p r a b
theorem sp_K_addWindow {d x n e c i r : Nat} {a b : Int} {h : am_H} {s : sg} {α : Nat → Nat} {Q : Option am_V → am_H → Prop} (hX : RX h x n s α e c) (hi : i < n) (hr : r < 8) (h9 : 0 ≤ s 9 (8 * (i + 1) + r) ∧ s 9 (8 * (i + 1) + r) ≤ 8)
    (hf : s 9 (8 * (i + 1) + r) = 8 → Q (some (.inl 0)) h) (ht : ¬ s 9 (8 * (i + 1) + r) = 8 → ∀ h', gX x n h (am_u2 (am_u2 (am_u2 s 10 (8 * (8 * (i + 1) + r) + (s 9 (8 * (i + 1) + r)).toNat) a) 11 (8 * (8 * (i + 1) + r) + (s 9 (8 * (i + 1) + r)).toNat) b) 9 (8 * (i + 1) + r) (s 9 (8 * (i + 1) + r) + 1)) α e c h' → Q (some (.inl 1)) h') : am_PC (d + 1) mi_K_addWindow [.inr (.inr (kx x i r)), .inr (.inl (jJ a)), .inr (.inl (jJ b))] h Q := by
  have hn := X_n hX
  refine bk_K_addWindow ?_
  rw [XK_70 hX hi hr, XK_68 hX hi hr, XK_T3 hX hi hr, XK_N3 hX hi hr, iI_clamp h9.1 (by unfold rI; omega)]
  refine ⟨XK_T hX hi hr, ek_if (iI_lt (b := 8) (by unfold rI; omega) (by unfold rI; omega)) (fun q => ⟨XK_T hX hi hr, XK_T hX hi hr, rfl, iI_in (by omega) (by omega) (by omega), fun h1 e1 => ?_⟩) (fun q => ⟨Or.inl rfl, hf (by omega)⟩)⟩
  have g1 : gX x n h (am_u2 s 10 (8 * (8 * (i + 1) + r) + (s 9 (8 * (i + 1) + r)).toNat) a) α e c h1 := by subst e1; exact gX_xJ hX (TJ_10 hi hr (by omega))
  have hX1 := g1.1
  rw [XK_70 hX1 hi hr, u2_ne (by decide), XK_69 hX1 hi hr, XK_T4 hX1 hi hr, XK_N4 hX1 hi hr, iI_clamp h9.1 (by unfold rI; omega)]
  refine ⟨XK_T hX1 hi hr, XK_T hX1 hi hr, rfl, iI_in (by omega) (by omega) (by omega), fun h2 e2 => ?_⟩
  have g2 : gX x n h1 (am_u2 (am_u2 s 10 (8 * (8 * (i + 1) + r) + (s 9 (8 * (i + 1) + r)).toNat) a) 11 (8 * (8 * (i + 1) + r) + (s 9 (8 * (i + 1) + r)).toNat) b) α e c h2 := by subst e2; exact gX_xJ hX1 (TJ_11 hi hr (by omega))
  have hX2 := g2.1
  rw [XK_70 hX2 hi hr, u2_ne (by decide), u2_ne (by decide), show (1 : Int32) = iI 1 from rfl, iI_add]
  exact ⟨rfl, XK_T hX2 hi hr, XK_T hX2 hi hr, fun h3 e3 => ⟨Or.inr rfl, ht (by omega) h3 (gX_tr (gX_tr g1 g2) (by subst e3; exact gX_sI hX2 (SI_9 hi hr)))⟩⟩
theorem sp_X_gate {d x n e c : Nat} {p r a b : Int} {h : am_H} {s : sg} {α : Nat → Nat} {Q : Option am_V → am_H → Prop} (hX : RX h x n s α e c) (hp : rI p) (hr : rI r) (ha : rJ a) (hb : rJ b) (hc : 0 ≤ s 0 1 ∧ s 0 1 ≤ 1000000) (h9 : ∀ j, j < 136 → 0 ≤ s 9 j ∧ s 9 j ≤ 8) (h30 : 0 ≤ s 30 0 ∧ s 30 0 ≤ 1000000)
    (hQ : ∀ h', gX x n h (g_gate n s p r a b).2 α e c h' → Q (some (.inl (iI (g_gate n s p r a b).1))) h') : am_PC (d + 2) mi_X_gate [.inr (.inr x), .inl (iI p), .inl (iI r), .inr (.inl (jJ a)), .inr (.inl (jJ b))] h Q := by
  have hn := X_n hX
  have hq : ∀ (y : Int × sg) (w : Int32) h', iI y.1 = w → g_gate n s p r a b = y → gX x n h y.2 α e c h' → Q (some (.inl w)) h' := fun y w h' e1 e g => by subst e1; subst e; exact hQ h' g
  have hqf : ∀ (y : Int × sg) (w : Int32) h', iI y.1 = w → f_gate n s p r a b = y → ¬ 0 < y.1 → gX x n h y.2 α e c h' → Q (some (.inl w)) h' := fun y w h' e1 e h0 g => hq y w h' e1 (by unfold g_gate; rw [e, if_neg h0]) g
  refine bk_X_gate ⟨X_T hX, sp_findPort hX hp (fun cb => ⟨0, rfl, fun _ => hqf (-1, s) _ _ im1 (by unfold f_gate; rw [if_pos (by omega)]) (show ¬ (0 : Int) < -1 by decide) (gX_rf hX), fun z => absurd rfl z⟩) (fun i hi ep => ⟨px x i, rfl, fun z => absurd z px_ne, fun _ => ?_⟩)⟩
  refine sp_isRank hr (fun cb => ⟨0, rfl, fun _ => hqf (-1, s) _ _ im1 (by unfold f_gate; rw [if_pos (by omega)]) (show ¬ (0 : Int) < -1 by decide) (gX_rf hX), fun z => absurd rfl z⟩) (fun cb => ⟨1, rfl, fun z => absurd z (by decide), fun _ => ?_⟩)
  have bad : (a < 0 ∨ b ≤ a ∨ s 0 1 < b) → Q (some (.inl (-2))) h := fun c2 => hqf (-2, s) _ _ im2 (by unfold f_gate; rw [if_neg (by omega), if_pos c2]) (show ¬ (0 : Int) < -2 by decide) (gX_rf hX)
  obtain ⟨kr, rfl⟩ := Int.eq_ofNat_of_zero_le (show 0 ≤ r by omega)
  have hkr : kr < 8 := by omega
  have eq : (8 * p + (kr : Int)).toNat = 8 * (i + 1) + kr := by omega
  rw [X_7 hX, XP_33 hX hi, XP_T1 hX hi, XP_N1 hX hi, iI_nat kr, nI_clamp (by omega), XP_a hX hi hkr]
  refine ek_if (cmp_lt (b := 0) ha (by unfold rJ; omega)) (fun q => bad (by omega)) (fun q => ek_if (cmp_ge ha hb) (fun q2 => bad (by omega)) (fun q2 => ⟨X_T hX, ek_if (cmp_le hb (by unfold rJ; omega)) (fun q3 => ⟨XP_T hX hi, by decide, vp_in_nI hkr (by omega), XK_T hX hi hkr, ?_⟩) (fun q3 => bad (by omega))⟩))
  have b9 := h9 (8 * (i + 1) + kr) (by omega)
  refine sp_K_addWindow hX hi hkr b9 (fun c4 => ⟨0, rfl, fun _ => hqf (-4, s) _ _ im4 (by unfold f_gate; rw [if_neg (by omega), if_neg (by omega), eq, if_pos c4]) (show ¬ (0 : Int) < -4 by decide) (gX_rf hX), fun z => absurd rfl z⟩) (fun c4 h1 g1 => ⟨1, rfl, fun z => absurd z (by decide), fun _ => ?_⟩)
  have hX1 := g1.1
  have ef : f_gate n s p kr a b = (s 9 (8 * (i + 1) + kr) + 1, am_u2 (am_u2 (am_u2 s 10 (8 * (8 * (i + 1) + kr) + (s 9 (8 * (i + 1) + kr)).toNat) a) 11 (8 * (8 * (i + 1) + kr) + (s 9 (8 * (i + 1) + kr)).toNat) b) 9 (8 * (i + 1) + kr) (s 9 (8 * (i + 1) + kr) + 1)) := by
    unfold f_gate
    rw [if_neg (by omega), if_neg (by omega), eq, if_neg c4, show (8 * (8 * p + (kr : Int)) + s 9 (8 * (i + 1) + kr)).toNat = 8 * (8 * (i + 1) + kr) + (s 9 (8 * (i + 1) + kr)).toNat by omega]
  have eg : g_gate n s p kr a b = (s 9 (8 * (i + 1) + kr) + 1, am_u2 (am_u2 (am_u2 (am_u2 s 10 (8 * (8 * (i + 1) + kr) + (s 9 (8 * (i + 1) + kr)).toNat) a) 11 (8 * (8 * (i + 1) + kr) + (s 9 (8 * (i + 1) + kr)).toNat) b) 9 (8 * (i + 1) + kr) (s 9 (8 * (i + 1) + kr) + 1)) 30 0 (if b < s 30 0 then s 30 0 else b)) := by
    unfold g_gate
    rw [ef, if_pos (show 0 < s 9 (8 * (i + 1) + kr) + 1 by omega)]
  refine ⟨X_T hX1, X_T hX1, fun h2 e2 => ?_⟩
  rw [X_8 hX1, u2_ne (by decide), u2_ne (by decide), u2_ne (by decide)] at e2
  have e3 : (if jJ b < jJ (s 30 0) then jJ (s 30 0) else jJ b) = jJ (if b < s 30 0 then s 30 0 else b) := by
    by_cases c5 : b < s 30 0
    · rw [if_pos ((jJ_lt hb (by unfold rJ; omega)).mpr c5), if_pos c5]
    · rw [if_neg (fun z => c5 ((jJ_lt hb (by unfold rJ; omega)).mp z)), if_neg c5]
  rw [e3] at e2
  have g2 : gX x n h1 (am_u2 (am_u2 (am_u2 (am_u2 s 10 (8 * (8 * (i + 1) + kr) + (s 9 (8 * (i + 1) + kr)).toNat) a) 11 (8 * (8 * (i + 1) + kr) + (s 9 (8 * (i + 1) + kr)).toNat) b) 9 (8 * (i + 1) + kr) (s 9 (8 * (i + 1) + kr) + 1)) 30 0 (if b < s 30 0 then s 30 0 else b)) α e c h2 := by subst e2; exact gX_sJ hX1 SJ_30
  have hX2 := g2.1
  rw [XK_70 hX2 hi hkr, u2_ne (by decide), u2_eq]
  exact ⟨XK_T hX2 hi hkr, hq _ _ _ rfl eg (gX_tr g1 g2)⟩
def g_link (n : Nat) (s : sg) (p v : Int) : Int × sg :=
  if p < 1 ∨ (n : Int) < p then (-1, s) else if v < 0 ∨ 10000 < v then (-2, s) else if 0 < v ∧ v ≠ s 1 p.toNat ∧ ¬ s 3 p.toNat = 0 then (-3, s)
  else if 0 < v then (0, am_u2 s 1 p.toNat v)
  else (s 31 p.toNat + (if s 3 p.toNat = 0 then 0 else 1), am_u2 (am_u2 (am_u2 (lzero (am_u2 s 1 p.toNat v) p.toNat 8) 31 p.toNat 0) 3 p.toNat 0) 24 3 (s 24 3 + (s 31 p.toNat + (if s 3 p.toNat = 0 then 0 else 1))))
theorem lp_P_lose {d x n e c i : Nat} {w : Int32} {h0 : am_H} {s : sg} {α : Nat → Nat} {Q : Option am_V → am_H → Prop} (hi : i < n) (hQ : ∀ h', gX x n h0 (am_u2 (am_u2 (lzero s (i + 1) 8) 31 (i + 1) 0) 3 (i + 1) 0) α e c h' → Q (some (.inl w)) h') : ∀ (j r : Nat) (h : am_H), r + j = 8 → gX x n h0 (lzero s (i + 1) r) α e c h → am_P d mi_P_loseFrames 20 [some (.inr (.inr (px x i))), some (.inl w), some (.inl (nI r))] [] h Q := by
  intro j
  induction j with
  | zero =>
    intro r h hr g
    have hr : r = 8 := by omega
    subst hr
    have hX := g.1
    refine bk_P_loseFrames_20 ⟨fun _ => ⟨XP_T hX hi, fun h1 e1 => ?_⟩, fun z => absurd (Int32.le_refl 8) z⟩
    have g1 : gX x n h (am_u2 (lzero s (i + 1) 8) 31 (i + 1) 0) α e c h1 := by subst e1; exact gX_sI (v := 0) hX (SI_31 hi)
    exact ⟨XP_T g1.1 hi, fun h2 e2 => hQ h2 (gX_tr (gX_tr g g1) (by subst e2; exact gX_sI (v := 0) g1.1 (SI_3 hi)))⟩
  | succ j ih =>
    intro r h hr g
    have hX := g.1
    have hr8 : r < 8 := by omega
    refine bk_P_loseFrames_20 ?_
    rw [XP_33 hX hi, XP_T1 hX hi, XP_N1 hX hi, nI_clamp (by omega), XP_a hX hi hr8, nI_1]
    refine ⟨fun z => absurd z (nI_ge (a := r) (b := 8) (by omega) (by omega)), fun _ => ⟨XP_T hX hi, by decide, vp_in_nI hr8 (by omega), XK_T hX hi hr8, fun h3 e3 => ?_⟩⟩
    have g3 : gX x n h (lzero s (i + 1) (r + 1)) α e c h3 := by subst e3; exact gX_sI (v := 0) hX (SI_7 hi hr8)
    exact ih (r + 1) h3 (by omega) (gX_tr g g3)
theorem sp_X_link {d x n e c : Nat} {p v : Int} {h : am_H} {s : sg} {α : Nat → Nat} {Q : Option am_V → am_H → Prop} (hX : RX h x n s α e c) (hp : rI p) (hv : rJ v) (h1 : ∀ j, j < 17 → 0 ≤ s 1 j ∧ s 1 j ≤ 10000) (h3 : ∀ j, j < 17 → 0 ≤ s 3 j ∧ s 3 j ≤ 5000)
    (hQ : ∀ h', gX x n h (g_link n s p v).2 α e c h' → Q (some (.inl (iI (g_link n s p v).1))) h') : am_PC (d + 3) mi_X_link [.inr (.inr x), .inl (iI p), .inr (.inl (jJ v))] h Q := by
  have hn := X_n hX
  have hq : ∀ (y : Int × sg) (w : Int32) h', iI y.1 = w → g_link n s p v = y → gX x n h y.2 α e c h' → Q (some (.inl w)) h' := fun y w h' e1 e g => by subst e1; subst e; exact hQ h' g
  refine bk_X_link ⟨X_T hX, sp_findPort hX hp (fun cb => ⟨0, rfl, fun _ => hq (-1, s) _ _ im1 (by unfold g_link; rw [if_pos cb]) (gX_rf hX), fun z => absurd rfl z⟩) (fun i hi ep => ⟨px x i, rfl, fun z => absurd z px_ne, fun _ => ?_⟩)⟩
  have cb : ¬ (p < 1 ∨ (n : Int) < p) := by omega
  have ept : p.toNat = i + 1 := by omega
  have b1 := h1 (i + 1) (by omega)
  have b3 := h3 (i + 1) (by omega)
  have bad : (v < 0 ∨ 10000 < v) → Q (some (.inl (-2))) h := fun c2 => hq (-2, s) _ _ im2 (by unfold g_link; rw [if_neg cb, if_pos c2]) (gX_rf hX)
  have rest : ¬ (v < 0 ∨ 10000 < v) → ¬ (0 < v ∧ v ≠ s 1 (i + 1) ∧ ¬ s 3 (i + 1) = 0) → am_P (d + 2) mi_X_link 58 [some (.inr (.inr x)), some (.inl (iI p)), some (.inr (.inl (jJ v))), none, some (.inr (.inr (px x i))), none] [] h Q := by
    intro c2 c3
    refine bk_X_link_58 ⟨XP_T hX hi, fun h4 e4 => ?_⟩
    have g4 : gX x n h (am_u2 s 1 (i + 1) v) α e c h4 := by subst e4; exact gX_sJ hX (SJ_1 hi)
    have hX4 := g4.1
    refine ek_if (cmp_le (b := 0) hv (by unfold rJ; omega)) (fun q => ⟨XP_T hX4 hi, ?_⟩) (fun q => hq (0, am_u2 s 1 (i + 1) v) _ _ rfl (by unfold g_link; rw [if_neg cb, if_neg c2, ept, if_neg c3, if_pos (by omega)]) g4)
    refine bk_P_loseFrames ?_
    rw [XP_36 hX4 hi, u2_ne (by decide)]
    have fin : ∀ b : Int, b = (if s 3 (i + 1) = 0 then 0 else 1) → am_P (d + 1) mi_P_loseFrames 20 [some (.inr (.inr (px x i))), some (.inl (iI (s 31 (i + 1)) + iI b)), some (.inl 0)] [] h4 (fun r2 h3 => ∃ x4 : Int32, r2 = some (.inl x4) ∧ am_T h3 x = 10 ∧ 1 = 1 ∧ 1 = 1 ∧ (am_T h3 (am_R h3 3 x) = 1 ∨ am_T h3 (am_R h3 3 x) = 3) ∧ vp_in (3 : Int32) (am_N h3 (am_R h3 3 x)) ∧ am_T h3 (am_R h3 3 x) = 1 ∧ vp_in (3 : Int32) (am_N h3 (am_R h3 3 x)) ∧ (∀ h5 : am_H, h5 = am_xI h3 (am_R h3 3 x) (3 : Int32).toNatClampNeg ((am_aI h3 (am_R h3 3 x) (3 : Int32).toNatClampNeg) + x4) → Q (some (.inl x4)) h5)) := by
      intro b hb
      refine lp_P_lose (h0 := h4) (s := am_u2 s 1 (i + 1) v) hi (fun h5 g5 => ⟨_, rfl, ?_⟩) 8 0 h4 rfl (gX_rf hX4)
      have hX5 := g5.1
      rw [X_R3 hX5, X_T3 hX5, X_N3 hX5, show (3 : Int32).toNatClampNeg = 3 from rfl, X_a24 hX5 (by decide), u2_ne (by decide), u2_ne (by decide), lzero_ne (by decide), u2_ne (by decide), iI_add, iI_add]
      refine ⟨X_T hX5, rfl, rfl, Or.inl rfl, vp_in_nI (n := 3) (by decide) (by decide), rfl, vp_in_nI (n := 3) (by decide) (by decide), fun h6 e6 => ?_⟩
      have g6 : gX x n h5 (am_u2 (am_u2 (am_u2 (lzero (am_u2 s 1 (i + 1) v) (i + 1) 8) 31 (i + 1) 0) 3 (i + 1) 0) 24 3 (s 24 3 + (s 31 (i + 1) + b))) α e c h6 := by subst e6; exact gX_xI hX5 (TI_24 (by decide))
      exact hq (s 31 (i + 1) + b, am_u2 (am_u2 (am_u2 (lzero (am_u2 s 1 (i + 1) v) (i + 1) 8) 31 (i + 1) 0) 3 (i + 1) 0) 24 3 (s 24 3 + (s 31 (i + 1) + b))) _ _ rfl (by unfold g_link; rw [if_neg cb, if_neg c2, ept, if_neg c3, if_neg (by omega), hb]) (gX_tr (gX_tr g4 g5) g6)
    refine ⟨XP_T hX4 hi, XP_T hX4 hi, sp_isSending hX4 hi (by rw [u2_ne (by decide)]; unfold rI; omega) (fun c5 => ⟨0, rfl, fun _ => ?_, fun z => absurd rfl z⟩) (fun c5 => ⟨1, rfl, fun z => absurd z (by decide), fun _ => ?_⟩)⟩
    · rw [u2_ne (by decide)] at c5
      exact fin 0 (by rw [if_pos c5])
    · rw [u2_ne (by decide)] at c5
      exact fin 1 (by rw [if_neg c5])
  rw [XP_34 hX hi]
  refine ek_if (cmp_lt (b := 0) hv (by unfold rJ; omega)) (fun q => bad (by omega)) (fun q => ek_if (cmp_le (b := 10000) hv (by unfold rJ; omega)) (fun q2 => ek_if (cmp_le (b := 0) hv (by unfold rJ; omega)) (fun q4 => rest (by omega) (by omega)) (fun q4 => ⟨XP_T hX hi, ek_if (cmp_eq hv (by unfold rJ; omega)) (fun q5 => rest (by omega) (by omega)) (fun q5 => ⟨XP_T hX hi, ?_⟩)⟩)) (fun q2 => bad (by omega)))
  exact sp_isSending hX hi (by unfold rI; omega) (fun c5 => ⟨0, rfl, fun _ => rest (by omega) (by omega), fun z => absurd rfl z⟩) (fun c5 => ⟨1, rfl, fun z => absurd z (by decide), fun _ => hq (-3, s) _ _ im3 (by unfold g_link; rw [if_neg cb, if_neg (by omega), ept, if_pos (by omega)]) (gX_rf hX)⟩)
theorem sp_X_cycle {d x n e c : Nat} {v : Int} {h : am_H} {s : sg} {α : Nat → Nat} {Q : Option am_V → am_H → Prop} (hX : RX h x n s α e c) (hv : rJ v) (h30 : 0 ≤ s 30 0 ∧ s 30 0 ≤ 1000000) (hno : (v < 0 ∨ 1000000 < v ∨ v < s 30 0) ∨ ¬ v = 0)
    (hbad : (v < 0 ∨ 1000000 < v ∨ v < s 30 0) → Q (some (.inl (-2))) h) (hpos : ¬ (v < 0 ∨ 1000000 < v ∨ v < s 30 0) → ¬ v = 0 → ∀ h', gX x n h (am_u2 s 0 1 v) α e c h' → Q (some (.inl 1)) h') : am_PC (d + 1) mi_X_cycle [.inr (.inr x), .inr (.inl (jJ v))] h Q := by
  refine bk_X_cycle ?_
  rw [X_8 hX]
  exact ek_if (cmp_lt (b := 0) hv (by unfold rJ; omega)) (fun q => hbad (by omega)) (fun q => ek_if (cmp_gt (b := 1000000) hv (by unfold rJ; omega)) (fun q2 => hbad (by omega)) (fun q2 => ⟨X_T hX, ek_if (cmp_ge hv (by unfold rJ; omega)) (fun q3 => ek_if (cmp_eq (b := 0) hv (by unfold rJ; omega)) (fun q4 => by omega) (fun q4 => ⟨X_T hX, fun h1 e1 => hpos (by omega) q4 h1 (by subst e1; exact gX_sJ hX SJ_01)⟩)) (fun q3 => hbad (by omega))⟩))
/-! the list -/
theorem sp_L_size {d x n e c : Nat} {h : am_H} {s : sg} {α : Nat → Nat} {Q : Option am_V → am_H → Prop} (hX : RX h x n s α e c) (hQ : Q (some (.inl (iI (s 0 4)))) h) : am_PC (d + 1) mi_L_size [.inr (.inr (ax x n + 1))] h Q := by
  refine bk_L_size ⟨X_T2 hX, ?_⟩
  rw [hX.2.2.1.1]
  exact hQ
theorem sp_L_get {d x n e c i : Nat} {h : am_H} {s : sg} {α : Nat → Nat} {Q : Option am_V → am_H → Prop} (hX : RX h x n s α e c) (hi : (i : Int) < s 0 4) (hQ : RD h x n s i (am_aR h e i) → Q (some (.inr (.inr (am_aR h e i)))) h) : am_PC (d + 3) mi_L_get [.inr (.inr (ax x n + 1)), .inl (nI i)] h Q := by
  obtain ⟨d1, d2, d3, d4, d5⟩ := hX.2.2.1
  refine bk_L_get ⟨X_T2 hX, bk_O_checkIndex (bk_V_checkIndex ⟨fun z => absurd z (nI_pos (by omega)), fun _ => ⟨fun _ => ⟨_, rfl, _, rfl, rfl, X_T2 hX, ?_⟩, fun z => ?_⟩⟩)⟩
  · refine bk_L_elementData ?_
    rw [d2, nI_clamp (by omega)]
    rcases d4 with d4 | d4
    · omega
    · exact ⟨X_T2 hX, by omega, vp_in_nI (by omega) (by omega), _, rfl, hQ (d5 i hi)⟩
  · rw [d1, ← iI_nat, iI_lt (by unfold rI; omega) (by unfold rI; omega)] at z
    exact absurd hi z
theorem sp_X_left {d x n e c : Nat} {i w : Int} {h : am_H} {s : sg} {α : Nat → Nat} {Q : Option am_V → am_H → Prop} (hX : RX h x n s α e c) (hi : rI i) (hw : rI w) (h23 : ∀ j : Nat, (j : Int) < s 0 4 → rI (s 23 (4 * j + 2)) ∧ rI (s 23 (4 * j + 3))) (hQ : ∀ h', gX x n h s α e c h' → Q (some (.inl (iI (f_left s i w)))) h') : am_PC (d + 4) mi_X_left [.inr (.inr x), .inl (iI i), .inl (iI w)] h Q := by
  have h4 := hX.2.2.1.2.2.1
  have hq : ∀ (r : Int) (v : Int32), iI r = v → f_left s i w = r → Q (some (.inl v)) h := fun r v e1 e => by subst e1; subst e; exact hQ _ (gX_rf hX)
  have rest : ¬ (i = -1 ∧ w = 0) → am_P (d + 3) mi_X_left 14 [some (.inr (.inr x)), some (.inl (iI i)), some (.inl (iI w)), none] [] h Q := by
    intro q0
    refine bk_X_left_14 ?_
    rw [X_R2 hX]
    refine ek_if (iI_lt (b := 0) hi (by unfold rI; omega)) (fun q => hq (-1) _ im1 (by unfold f_left; rw [if_neg q0, if_pos (Or.inl q)])) (fun q => ⟨X_T hX, X_T2 hX, sp_L_size hX ⟨_, rfl, ek_if (iI_lt hi (by unfold rI; omega)) (fun q2 => ⟨X_T hX, ?_⟩) (fun q2 => hq (-1) _ im1 (by unfold f_left; rw [if_neg q0, if_pos (by omega)]))⟩⟩)
    obtain ⟨k, rfl⟩ := Int.eq_ofNat_of_zero_le (show 0 ≤ i by omega)
    rw [X_R2 hX, iI_nat]
    refine ⟨X_T2 hX, sp_L_get hX q2 (fun hD => ?_)⟩
    obtain ⟨t0, t1, t2, t3, t4, t5, t6⟩ := hD
    obtain ⟨u2, u3⟩ := h23 k q2
    refine ⟨_, rfl, ?_⟩
    rw [t3, t4, t5, t6, jJ_i u2, jJ_i u3, t2]
    have fl : ∀ (v : Nat), v ≤ 3 → w = v → f_left s k w = s 23 (4 * k + v) := fun v hv ew => by
      unfold f_left
      rw [if_neg q0, if_neg (by omega), if_neg (by omega), show (4 * (k : Int) + w).toNat = 4 * k + v by omega]
    refine ⟨Or.inr rfl, ek_if (iI_eq (b := 0) hw (by unfold rI; omega)) (fun c0 => ⟨rfl, hq _ _ rfl (fl 0 (by decide) c0)⟩) (fun c0 => ek_if (iI_eq (b := 1) hw (by unfold rI; omega)) (fun c1 => ⟨rfl, hq _ _ rfl (fl 1 (by decide) c1)⟩) (fun c1 => ek_if (iI_eq (b := 2) hw (by unfold rI; omega)) (fun c2 => ⟨rfl, hq _ _ rfl (fl 2 (by decide) c2)⟩) (fun c2 => ek_if (iI_eq (b := 3) hw (by unfold rI; omega)) (fun c3 => ⟨rfl, hq _ _ rfl (fl 3 (by decide) c3)⟩) (fun c3 => hq (-2) _ im2 (by unfold f_left; rw [if_neg q0, if_neg (by omega), if_pos (by omega)])))))⟩
  refine bk_X_left (ek_if (iI_eqm hi) (fun q => ek_if (iI_eq (b := 0) hw (by unfold rI; omega)) (fun q2 => ⟨X_T hX, ?_⟩) (fun q2 => rest (fun z => q2 z.2))) (fun q => rest (fun z => q z.1)))
  rw [X_10 hX]
  exact hq _ _ rfl (by unfold f_left; rw [if_pos ⟨q, q2⟩])
