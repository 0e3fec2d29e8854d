/-! THE CLASS: a new address -/
/-- an address under way: r of its streams are made -/
def AI (h0 : am_H) (r : Nat) (h : am_H) : Prop := eqon (fun a => a ≤ am_Z h0) h0 h ∧ am_Z h = am_Z h0 + 2 + r ∧ am_C h = am_C h0 + 2 + r ∧ am_S h = am_S h0 + 11 + 3 * r ∧ am_T h (am_Z h0 + 1) = 13 ∧ am_R h 96 (am_Z h0 + 1) = am_Z h0 + 2 ∧ am_T h (am_Z h0 + 2) = 103 ∧ am_N h (am_Z h0 + 2) = 8 ∧ am_I h 97 (am_Z h0 + 1) = 0 ∧ am_J h 98 (am_Z h0 + 1) = 0 ∧
  ∀ q, q < r → am_aR h (am_Z h0 + 2) q = am_Z h0 + 3 + q ∧ am_T h (am_Z h0 + 3 + q) = 14 ∧ am_J h 128 (am_Z h0 + 3 + q) = -1 ∧ am_J h 129 (am_Z h0 + 3 + q) = 0 ∧ am_I h 130 (am_Z h0 + 3 + q) = 0
theorem sp_S_init {d v : Nat} {h : am_H} {Q : Option am_V → am_H → Prop} (hv : ¬ v = 0) (hT : am_T h v = 14) (hQ : Q none (am_sJ h 128 v (-1))) : am_PC (d + 1) mi_S_init [.inr (.inr v)] h Q := bk_S_init ⟨hv, hT, fun h1 e1 => by subst e1; exact hQ⟩
theorem lp_A_init {d : Nat} {h0 : am_H} {Q : Option am_V → am_H → Prop} (hQ : ∀ h', AI h0 8 h' → Q none h') : ∀ (j r : Nat) (h : am_H), r + j = 8 → AI h0 r h → am_P (d + 1) mi_A_init 15 [some (.inr (.inr (am_Z h0 + 1))), some (.inl (nI r))] [] h Q := by
  intro j
  induction j with
  | zero =>
    intro r h hr g
    have hr : r = 8 := by omega
    subst hr
    exact bk_A_init_15 ⟨fun _ => hQ h g, fun z => absurd (Int32.le_refl 8) z⟩
  | succ j ih =>
    intro r h hr g
    obtain ⟨g1, g2, g3, g4, g5, g6, g7, g8, g9, g10, g11⟩ := g
    refine bk_A_init_15 ⟨fun z => absurd z (nI_ge (a := r) (b := 8) (by omega) (by omega)), fun _ => ⟨g5, fun h1 e1 => ?_⟩⟩
    rw [g6, g2, nI_clamp (by omega), nI_1]
    have n1 : ¬ (am_Z h0 + 1 = am_Z h0 + 2 + r + 1) := by omega
    have n2 : ¬ (am_Z h0 + 2 = am_Z h0 + 2 + r + 1) := by omega
    have hT : am_T h1 (am_Z h0 + 2 + r + 1) = 14 := by subst e1; rw [hp_T_nO, g2, if_pos rfl]
    refine ⟨rfl, by omega, sp_S_init (by omega) hT ⟨rfl, ?_⟩⟩
    rw [hp_T_sJ, hp_N_sJ, hT]
    have t2 : am_T h1 (am_Z h0 + 2) = 103 := by subst e1; rw [hp_T_nO, g2, if_neg n2, g7]
    have t3 : am_N h1 (am_Z h0 + 2) = 8 := by subst e1; rw [hp_N_nO, g8]
    rw [t2, t3]
    refine ⟨by decide, vp_in_nI (by omega) (by omega), Or.inr ⟨by decide, by decide⟩, fun h4 e4 => ih (r + 1) h4 (by omega) ?_⟩
    subst e4
    subst e1
    have en : eqon (fun a => a ≤ am_Z h0) h (am_nO h 4 3) := eqon_nO (by rw [g2]; omega)
    have es : eqon (fun a => a ≤ am_Z h0) (am_nO h 4 3) (am_sJ (am_nO h 4 3) 128 (am_Z h0 + 2 + r + 1) (-1)) := eqon_sJ (by omega)
    have ex : eqon (fun a => a ≤ am_Z h0) (am_sJ (am_nO h 4 3) 128 (am_Z h0 + 2 + r + 1) (-1)) (am_xR (am_sJ (am_nO h 4 3) 128 (am_Z h0 + 2 + r + 1) (-1)) (am_Z h0 + 2) r (am_Z h0 + 2 + r + 1)) := eqon_xR (by omega)
    refine ⟨eqon_tr (eqon_tr (eqon_tr g1 en) es) ex, by show am_Z h + 1 = _; omega, by show am_C h + 1 = _; omega, by show am_S h + 3 = _; omega, ?_, ?_, t2, t3, ?_, ?_, fun q hq => ?_⟩
    · rw [hp_T_xR, hp_T_sJ, hp_T_nO, g2, if_neg n1, g5]
    · rw [hp_R_xR, hp_R_sJ, hp_R_nO, g2, if_neg n1, g6]
    · rw [hp_I_xR, hp_I_sJ, hp_I_nO, g2, if_neg n1, g9]
    · rw [hp_J_xR, hp_J_sJ, if_neg (fun z => by omega), hp_J_nO, g2, if_neg n1, g10]
    · rw [hp_aR_xR, hp_T_xR, hp_J_xR, hp_I_xR, hp_aR_sJ, hp_T_sJ, hp_J_sJ, hp_J_sJ, hp_I_sJ, hp_aR_nO, hp_T_nO, hp_J_nO, hp_J_nO, hp_I_nO, g2]
      by_cases hc : q = r
      · subst hc
        rw [if_pos ⟨rfl, rfl⟩, if_pos (by omega), if_pos ⟨rfl, by omega⟩, if_neg (fun z => absurd z.1 (by decide)), if_pos (by omega), if_pos (by omega)]
        exact ⟨by omega, rfl, rfl, rfl, rfl⟩
      · rw [if_neg (fun z => hc z.2), if_neg (by omega), if_neg (fun z => by omega), if_neg (by omega), if_neg (fun z => absurd z.1 (by decide)), if_neg (by omega), if_neg (by omega)]
        exact g11 q (by omega)
theorem sp_A_init {d : Nat} {h0 : am_H} {Q : Option am_V → am_H → Prop} (hQ : ∀ h', AI h0 8 h' → Q none h') : am_PC (d + 2) mi_A_init [.inr (.inr (am_Z h0 + 1))] (am_nO h0 3 3) Q := by
  refine bk_A_init ⟨by omega, by decide, by decide, fun h1 e1 => ?_⟩
  have hT : am_T h1 (am_Z h0 + 1) = 13 := by subst e1; rw [hp_T_nA, hp_Z_nO, if_neg (by omega), hp_T_nO, if_pos rfl]
  refine ⟨hT, fun h2 e2 => ?_⟩
  rw [hp_Z_nO] at e2
  refine lp_A_init hQ 8 0 h2 rfl ?_
  subst e2
  subst e1
  refine ⟨?_, rfl, rfl, rfl, hT, ?_, ?_, ?_, ?_, ?_, fun q hq => absurd hq (by omega)⟩
  · exact eqon_tr (eqon_tr (h2 := am_nO h0 3 3) (eqon_nO (by omega)) (eqon_nA (by rw [hp_Z_nO]; omega))) (eqon_sR (by omega))
  · rw [hp_R_sR, if_pos ⟨rfl, rfl⟩]
  · rw [hp_T_sR, hp_T_nA, hp_Z_nO, if_pos rfl]
  · rw [hp_N_sR, hp_N_nA, hp_Z_nO, if_pos rfl]; rfl
  · rw [hp_I_sR, hp_I_nA, hp_I_nO, if_pos rfl]
  · rw [hp_J_sR, hp_J_nA, hp_J_nO, if_pos rfl]
/-- an address is put into the class's array -/
theorem RX_put {h : am_H} {x n e c a v : Nat} {s : sg} {α α' : Nat → Nat} (hX : RX h x n s α e c) (ha : a ≤ 1000) (h0 : α a = 0) (hv : ax x n + 30 < v ∧ v + 9 ≤ am_Z h) (hR : RA h s a v) (hd : ∀ b, b ≤ 1000 → ¬ α b = 0 → α b + 10 ≤ v) (p1 : α' a = v) (p2 : ∀ b, ¬ b = a → α' b = α b) : RX (am_xR h (ax x n) a v) x n s α' e c := by
  have hee := X_e hX
  obtain ⟨⟨⟨s1, s2, ⟨s31, s32, s33, s34⟩, s4, s5, s6⟩, b2, b3, b4, b5⟩, ⟨a1, a2, a3, a4⟩, ⟨d1, d2, d3, d4, d5⟩, oo, hz⟩ := hX
  have hx := ax_x (x := x) (n := n)
  have gR : ∀ b j, ¬ b = ax x n → am_aR (am_xR h (ax x n) a v) b j = am_aR h b j := fun b j hb => by rw [hp_aR_xR, if_neg (fun z => hb z.1)]
  have raR : ∀ b w, ax x n + 30 < w → RA h s b w → RA (am_xR h (ax x n) a v) s b w := fun b w hw hR => by
    obtain ⟨t1, t2, t3, t4, t5, t6, t7⟩ := hR
    refine ⟨t1, t2, t3, t4, t5, t6, fun r hr => ?_⟩
    obtain ⟨u1, u2, u3, u4, u5⟩ := t7 r hr
    exact ⟨by rw [gR _ _ (by omega)]; exact u1, u2, u3, u4, u5⟩
  refine ⟨⟨⟨s1, s2, ⟨s31, s32, s33, fun i hi => by rw [gR _ _ (by omega)]; exact s34 i hi⟩, fun i hi => ?_, s5, s6⟩, b2, b3, b4, b5⟩, ⟨fun b hb => ?_, fun b hb hb0 => ?_, fun b hb hb0 => ?_, fun b b' hb hb' hne hb0 hb0' => ?_⟩, ⟨d1, d2, d3, d4, fun i hi => ?_⟩, oo, hz⟩
  · obtain ⟨y1, y2, y3, y4, y5, y6⟩ := s4 i hi
    exact ⟨y1, y2, y3, y4, y5, fun r hr => by rw [gR _ _ (by unfold px ax; omega)]; exact y6 r hr⟩
  · rw [hp_aR_xR]
    by_cases hc : b = a
    · rw [if_pos ⟨rfl, hc⟩, hc, p1]
    · rw [if_neg (fun z => hc z.2), p2 b hc]; exact a1 b hb
  · by_cases hc : b = a
    · subst hc
      rw [p1]
      exact ⟨hv.1, hv.2, raR _ _ hv.1 hR⟩
    · rw [p2 b hc] at hb0 ⊢
      obtain ⟨z1, z2, z3⟩ := a2 b hb hb0
      exact ⟨z1, z2, raR _ _ z1 z3⟩
  · by_cases hc : b = a
    · rw [hc, p1] at hb0; omega
    · rw [p2 b hc] at hb0; exact a3 b hb hb0
  · by_cases hc : b = a
    · rw [hc, p1, p2 b' (by omega)]
      rw [p2 b' (by omega)] at hb0'
      exact Or.inr (hd b' hb' hb0')
    · rw [p2 b hc] at hb0 ⊢
      by_cases hc' : b' = a
      · rw [hc', p1]
        exact Or.inl (hd b hb hb0)
      · rw [p2 b' hc'] at hb0' ⊢
        exact a4 b b' hb hb' hne hb0 hb0'
  · rw [gR _ _ (by omega)]
    exact d5 i hi
theorem sp_addressOf {d x n e c a : Nat} {h : am_H} {s : sg} {α : Nat → Nat} {Q : Option am_V → am_H → Prop} (hX : RX h x n s α e c) (ha : a ≤ 1000) (hQ : ∀ h' α', gX x n h s α' e (c + 1) h' → ¬ α' a = 0 → Q (some (.inr (.inr (α' a)))) h') : am_PC (d + 3) mi_X_addressOf [.inr (.inr x), .inl (nI a)] h Q := by
  have hx := ax_x (x := x) (n := n)
  have hz := hX.2.2.2.2
  refine bk_X_addressOf ?_
  rw [X_R1 hX, X_T_1 hX, X_N1 hX, nI_clamp (by omega), hX.2.1.1 a ha]
  refine ⟨X_T hX, by decide, vp_in_nI (by omega) (by omega), fun h0 h1 e1 => ⟨rfl, by omega, ?_⟩, fun h0 => hQ h α ⟨RX_grow (k := 1) hX (eqon_rf _ _) (Nat.le_refl _) (by omega) (by omega), eqon_rf _ _⟩ h0⟩
  subst e1
  refine sp_A_init (fun h2 g2 => ⟨rfl, ?_⟩)
  obtain ⟨g1, g2, g3, g4, g5, g6, g7, g8, g9, g10, g11⟩ := g2
  have hX2 : RX h2 x n s α e (c + 1) := RX_grow hX g1 (by omega) (by omega) (by omega)
  rw [X_R1 hX2, X_T_1 hX2, X_N1 hX2, g5]
  obtain ⟨z1, z2, z3⟩ := hX.2.1.2.2.1 a ha h0
  have hR : RA h2 s a (am_Z h + 1) := by
    refine ⟨g5, g6, g7, g8, by rw [g9, z1]; rfl, by rw [g10, z2]; rfl, fun r hr => ?_⟩
    obtain ⟨q1, q2, q3, q4, q5⟩ := g11 r hr
    obtain ⟨r1, r2, r3⟩ := z3 r hr
    rw [r1, r2, r3, show am_Z h + 1 + 2 + r = am_Z h + 3 + r by omega]
    exact ⟨q1, q2, by rw [q3]; exact jm1.symm, q4, q5⟩
  have hX3 := RX_put (α' := fun b => if b = a then am_Z h + 1 else α b) hX2 ha h0 ⟨by omega, by omega⟩ hR (fun b hb hb0 => by have := (hX.2.1.2.1 b hb hb0).2.1; omega) (if_pos rfl) (fun b hb => if_neg hb)
  refine ⟨X_T hX2, by decide, vp_in_nI (by omega) (by omega), Or.inr ⟨by decide, by decide⟩, fun h4 e4 => ?_⟩
  have := hQ h4 (fun b => if b = a then am_Z h + 1 else α b) ⟨by subst e4; exact hX3, ?_⟩ (by rw [if_pos rfl]; omega)
  · rw [if_pos rfl] at this
    exact this
  · subst e4
    refine eqon_tr (eqon_mono (fun b hb => ?_) g1) (eqon_xR (fun z => ?_))
    · unfold OX at hb; show b ≤ am_Z h; omega
    · unfold OX at z; omega
/-! what an address knows -/
theorem sp_isFixed {d x n e c a : Nat} {h : am_H} {s : sg} {α : Nat → Nat} {Q : Option am_V → am_H → Prop} (hX : RX h x n s α e c) (ha : a ≤ 1000) (h0 : ¬ α a = 0) (h17 : -1 ≤ s 17 a ∧ s 17 a ≤ 2000000) (ht : s 17 a = -1 → Q (some (.inl 1)) h) (hf : ¬ s 17 a = -1 → Q (some (.inl 0)) h) : am_PC (d + 1) mi_A_isFixed [.inr (.inr (α a))] h Q := by
  obtain ⟨y1, y2, t1, t2, t3, t4, t5, t6, t7⟩ := hX.2.1.2.1 a ha h0
  refine bk_A_isFixed ?_
  rw [t6, ← jm1]
  exact ⟨t1, ek_if (cmp_eq (by unfold rJ; omega) (by unfold rJ; omega)) (fun q => ⟨Or.inr rfl, ht q⟩) (fun q => ⟨Or.inl rfl, hf q⟩)⟩
theorem sp_portAt {d x n e c a : Nat} {h : am_H} {s : sg} {α : Nat → Nat} {Q : Option am_V → am_H → Prop} (hX : RX h x n s α e c) (ha : a ≤ 1000) (h0 : ¬ α a = 0) (ht : 0 ≤ s 0 0 ∧ s 0 0 ≤ 2000000) (h17 : -1 ≤ s 17 a ∧ s 17 a ≤ 2000000) (h16 : 0 ≤ s 16 a ∧ s 16 a ≤ 16) (hQ : Q (some (.inl (iI (f_at s a)))) h) : am_PC (d + 2) mi_A_portAt [.inr (.inr (α a)), .inr (.inl (jJ (s 0 0)))] h Q := by
  obtain ⟨y1, y2, t1, t2, t3, t4, t5, t6, t7⟩ := hX.2.1.2.1 a ha h0
  have fin : ∀ w : Int, w = f_at s a → Q (some (.inl (iI w))) h := fun w hw => by rw [hw]; exact hQ
  have fa : (s 17 a = -1 ∨ s 0 0 - s 17 a < 3000) → s 16 a = f_at s a := fun hc => by
    unfold f_at
    split
    · rfl
    · omega
  refine bk_A_portAt ⟨t1, ?_⟩
  refine sp_isFixed hX ha h0 h17 (fun c1 => ⟨1, rfl, fun z => absurd z (by decide), fun _ => ⟨t1, ?_⟩⟩) (fun c1 => ⟨0, rfl, fun _ => ?_, fun z => absurd rfl z⟩)
  · rw [t5]; exact fin _ (fa (Or.inl c1))
  · rw [t6, t5, jJ_sub]
    refine ⟨t1, ek_if (cmp_ge (b := 3000) (by unfold rJ; omega) (by unfold rJ; omega)) (fun q => fin 0 ?_) (fun q => ⟨t1, fin _ (fa (by omega))⟩)⟩
    unfold f_at
    rw [if_neg (by omega)]
