/-! THE START: the class's object -/
def XI (h0 : am_H) (x n i : Nat) (h : am_H) : Prop := am_T h x = 10 ∧ Zo h x ∧ am_R h 0 x = x + 1 ∧ am_T h (x + 1) = 100 ∧ am_N h (x + 1) = n ∧ (∀ q, q < i → am_aR h (x + 1) q = px x q ∧ PP h (px x q) q) ∧ am_Z h = x + 1 + 42 * i ∧ eqon (fun a => a < x) h0 h ∧ am_C h = am_C h0 + 1 + 42 * i ∧ am_S h = am_S h0 + n + 481 * i
/-- the object is made -/
def XE (h0 : am_H) (x n : Nat) (h : am_H) : Prop := am_T h x = 10 ∧ (∀ f, am_I h f x = 0) ∧ (∀ f, ¬ f = 7 → am_J h f x = 0) ∧ am_J h 7 x = 1000 ∧ (am_R h 0 x = x + 1 ∧ am_R h 1 x = ax x n ∧ am_R h 2 x = ax x n + 1 ∧ am_R h 3 x = ax x n + 2 ∧ am_R h 4 x = ax x n + 3 ∧ am_R h 5 x = ax x n + 4) ∧ (am_T h (x + 1) = 100 ∧ am_N h (x + 1) = n ∧ ∀ q, q < n → am_aR h (x + 1) q = px x q ∧ PP h (px x q) q) ∧ (am_T h (ax x n) = 102 ∧ am_N h (ax x n) = 1001 ∧ ∀ j, am_aR h (ax x n) j = 0) ∧ (am_T h (ax x n + 1) = 16 ∧ am_I h 193 (ax x n + 1) = 0 ∧ am_R h 192 (ax x n + 1) = am_R h0 9000 0) ∧ Za h (ax x n + 2) 1 4 ∧ Za h (ax x n + 3) 1 101 ∧ Za h (ax x n + 4) 2 101 ∧ am_Z h = ax x n + 4 ∧ eqon (fun a => a < x) h0 h ∧ am_C h = am_C h0 + 6 + 42 * n ∧ am_S h = am_S h0 + n + 481 * n + 1210
theorem sp_L_init {d v : Nat} {h : am_H} {Q : Option am_V → am_H → Prop} (hv : ¬ v = 0) (hT : am_T h v = 16) (hQ : Q none (am_sR (am_sI h 194 v 0) 192 v (am_R h 9000 0))) : am_PC (d + 3) mi_L_init [.inr (.inr v)] h Q := by
  refine bk_L_init ⟨hv, bk_L1_init ⟨hv, bk_L0_init ⟨hv, rfl, hT, fun h1 e1 => ?_⟩⟩⟩
  subst e1
  refine ⟨rfl, hT, fun h2 e2 => ?_⟩
  subst e2
  exact hQ
theorem lp_X_init {d x n : Nat} {h0 : am_H} {Q : Option am_V → am_H → Prop} (hn : 1 ≤ n ∧ n ≤ 16) (hx : 1 ≤ x) (hQ : ∀ h', XE h0 x n h' → Q none h') : ∀ (j i : Nat) (h : am_H) (y1 : Option am_V), i + j = n → XI h0 x n i h → am_P (d + 3) mi_X_init 31 [some (.inr (.inr x)), y1, some (.inl (nI n)), some (.inl (nI i))] [] h Q := by
  intro j
  induction j with
  | zero =>
    intro i h y1 hi g
    have hi : i = n := by omega
    subst hi
    obtain ⟨g1, g2, g3, g4, g5, g6, g7, g8, g9, g10⟩ := g
    have hax : am_Z h + 1 = ax x i := by unfold ax; omega
    refine bk_X_init_31 ⟨fun _ => ⟨by decide, by decide, fun h1 e1 => ?_⟩, fun z => absurd (Int32.le_refl _) z⟩
    -- the addresses' array
    have eA : eqon (fun a => a ≤ am_Z h) h h1 := by subst e1; exact eqon_nA (by omega)
    have z1 : am_Z h1 = ax x i := by subst e1; exact hax
    have t1 : am_T h1 x = 10 := by rw [(eA x (by show x ≤ am_Z h; omega)).1]; exact g1
    refine ⟨t1, fun h2 e2 => ?_⟩
    rw [hax] at e2
    have z2 : am_Z h2 = ax x i := by subst e2; exact z1
    refine fun h3 e3 => ⟨rfl, by omega, ?_⟩
    rw [z2]
    have eB : eqon (fun a => a ≤ ax x i) h2 h3 := by subst e3; exact eqon_nO (by omega)
    have T3 : am_T h3 (ax x i + 1) = 16 := by subst e3; rw [hp_T_nO, z2, if_pos rfl]
    refine sp_L_init (by omega) T3 ⟨rfl, ?_⟩
    -- all that is there by now
    have nx : ¬ x = ax x i + 1 := by unfold ax; omega
    have F3 : am_T h3 x = 10 := by rw [(eB x (by show x ≤ ax x i; unfold ax; omega)).1]; subst e2; exact t1
    refine ⟨F3, fun h6 e6 => ⟨by decide, by decide, fun h7 e7 => ?_⟩⟩
    have z6 : am_Z h6 = ax x i + 1 := by subst e6; show am_Z h3 = _; subst e3; show am_Z h2 + 1 = _; omega
    have T6 : am_T h6 x = 10 := by subst e6; exact F3
    have eC : eqon (fun a => a ≤ ax x i + 1) h6 h7 := by subst e7; exact eqon_nA (by omega)
    have T7 : am_T h7 x = 10 := by rw [(eC x (by show x ≤ ax x i + 1; unfold ax; omega)).1]; exact T6
    refine ⟨T7, fun h8 e8 => ⟨by decide, by decide, fun h9 e9 => ?_⟩⟩
    have z8 : am_Z h8 = ax x i + 2 := by subst e8; show am_Z h7 = _; subst e7; show am_Z h6 + 1 = _; omega
    have eD : eqon (fun a => a ≤ ax x i + 2) h8 h9 := by subst e9; exact eqon_nA (by omega)
    have T8 : am_T h8 x = 10 := by subst e8; exact T7
    have T9 : am_T h9 x = 10 := by rw [(eD x (by show x ≤ ax x i + 2; unfold ax; omega)).1]; exact T8
    refine ⟨T9, fun h10 e10 => ⟨by decide, by decide, fun h11 e11 => ?_⟩⟩
    have z10 : am_Z h10 = ax x i + 3 := by subst e10; show am_Z h9 = _; subst e9; show am_Z h8 + 1 = _; omega
    have eE : eqon (fun a => a ≤ ax x i + 3) h10 h11 := by subst e11; exact eqon_nA (by omega)
    have T10 : am_T h10 x = 10 := by subst e10; exact T9
    have T11 : am_T h11 x = 10 := by rw [(eE x (by show x ≤ ax x i + 3; unfold ax; omega)).1]; exact T10
    refine ⟨T11, fun h12 e12 => ⟨by subst e12; exact T11, fun h13 e13 => hQ h13 ?_⟩⟩
    rw [z6] at e8
    rw [z8] at e10
    rw [z10] at e12
    -- cells beside x
    have nb : ∀ b, ¬ b = x → b ≤ ax x i + 3 → ∀ S : Nat → Prop, (∀ a, S a ↔ a = b) → eqon S h11 h13 := fun b hb hb3 S hS => by
      subst e13
      subst e12
      exact eqon_tr (h2 := am_sR h11 5 x (ax x i + 3 + 1)) (eqon_sR (fun z => hb ((hS x).mp z).symm)) (eqon_sJ (fun z => hb ((hS x).mp z).symm))
    have kA : eqon (fun a => a ≤ am_Z h ∧ ¬ a = x) h h2 := by
      subst e2
      exact eqon_tr (eqon_mono (fun a ha => ha.1) eA) (eqon_sR (fun z => z.2 rfl))
    have kB : eqon (fun a => a ≤ ax x i ∧ ¬ a = x) h2 h6 := by
      subst e6
      refine eqon_tr (eqon_tr (eqon_tr (eqon_mono (fun a ha => ha.1) eB) (eqon_sI (v := 0) (f := 194) (a := ax x i + 1) (fun z => by have := z.1; omega))) (eqon_sR (fun z => by have := z.1; omega))) (eqon_sR (fun z => z.2 rfl))
    have kC : eqon (fun a => a ≤ ax x i + 1 ∧ ¬ a = x) h6 h8 := by
      subst e8
      exact eqon_tr (eqon_mono (fun a ha => ha.1) eC) (eqon_sR (fun z => z.2 rfl))
    have kD : eqon (fun a => a ≤ ax x i + 2 ∧ ¬ a = x) h8 h10 := by
      subst e10
      exact eqon_tr (eqon_mono (fun a ha => ha.1) eD) (eqon_sR (fun z => z.2 rfl))
    have kE : eqon (fun a => a ≤ ax x i + 3 ∧ ¬ a = x) h10 h12 := by
      subst e12
      exact eqon_tr (eqon_mono (fun a ha => ha.1) eE) (eqon_sR (fun z => z.2 rfl))
    have kF : eqon (fun a => ¬ a = x) h12 h13 := by subst e13; exact eqon_sJ (fun z => z rfl)
    have l0 : am_Z h ≤ ax x i := by omega
    have kEF : eqon (fun a => a ≤ ax x i + 3 ∧ ¬ a = x) h10 h13 := eqon_tr kE (eqon_mono (fun a ha => ha.2) kF)
    have kDF : eqon (fun a => a ≤ ax x i + 2 ∧ ¬ a = x) h8 h13 := eqon_tr kD (eqon_mono (fun a ha => ⟨by have := ha.1; omega, ha.2⟩) kEF)
    have kCF : eqon (fun a => a ≤ ax x i + 1 ∧ ¬ a = x) h6 h13 := eqon_tr kC (eqon_mono (fun a ha => ⟨by have := ha.1; omega, ha.2⟩) kDF)
    have kBF : eqon (fun a => a ≤ ax x i ∧ ¬ a = x) h2 h13 := eqon_tr kB (eqon_mono (fun a ha => ⟨by have := ha.1; omega, ha.2⟩) kCF)
    have kAF : eqon (fun a => a ≤ am_Z h ∧ ¬ a = x) h h13 := eqon_tr kA (eqon_mono (fun a ha => ⟨by have := ha.1; omega, ha.2⟩) kBF)
    -- x itself
    have xI : ∀ f, am_I h13 f x = 0 := fun f => by
      rw [e13, hp_I_sJ, e12, hp_I_sR, (eE x (by show x ≤ _; unfold ax; omega)).2.2.1 f, e10, hp_I_sR, (eD x (by show x ≤ _; unfold ax; omega)).2.2.1 f, e8, hp_I_sR, (eC x (by show x ≤ _; unfold ax; omega)).2.2.1 f, e6, hp_I_sR, hp_I_sR, hp_I_sI, if_neg (fun z => nx z.2), (eB x (by show x ≤ _; unfold ax; omega)).2.2.1 f, e2, hp_I_sR, (eA x (by show x ≤ _; omega)).2.2.1 f]
      exact (g2 f).1
    have xJ : ∀ f, am_J h12 f x = 0 := fun f => by
      rw [e12, hp_J_sR, (eE x (by show x ≤ _; unfold ax; omega)).2.2.2.1 f, e10, hp_J_sR, (eD x (by show x ≤ _; unfold ax; omega)).2.2.2.1 f, e8, hp_J_sR, (eC x (by show x ≤ _; unfold ax; omega)).2.2.2.1 f, e6, hp_J_sR, hp_J_sR, hp_J_sI, (eB x (by show x ≤ _; unfold ax; omega)).2.2.2.1 f, e2, hp_J_sR, (eA x (by show x ≤ _; omega)).2.2.2.1 f]
      exact (g2 f).2
    have xR : ∀ f, am_R h13 f x = if f = 5 then ax x i + 4 else if f = 4 then ax x i + 3 else if f = 3 then ax x i + 2 else if f = 2 then ax x i + 1 else if f = 1 then ax x i else am_R h f x := fun f => by
      rw [e13, hp_R_sJ, e12, hp_R_sR]
      by_cases f5 : f = 5
      · rw [if_pos ⟨f5, rfl⟩, if_pos f5]
      · rw [if_neg (fun z => f5 z.1), if_neg f5, (eE x (by show x ≤ _; unfold ax; omega)).2.2.2.2.1 f, e10, hp_R_sR]
        by_cases f4 : f = 4
        · rw [if_pos ⟨f4, rfl⟩, if_pos f4]
        · rw [if_neg (fun z => f4 z.1), if_neg f4, (eD x (by show x ≤ _; unfold ax; omega)).2.2.2.2.1 f, e8, hp_R_sR]
          by_cases f3 : f = 3
          · rw [if_pos ⟨f3, rfl⟩, if_pos f3]
          · rw [if_neg (fun z => f3 z.1), if_neg f3, (eC x (by show x ≤ _; unfold ax; omega)).2.2.2.2.1 f, e6, hp_R_sR]
            by_cases f2 : f = 2
            · rw [if_pos ⟨f2, rfl⟩, if_pos f2]
            · rw [if_neg (fun z => f2 z.1), if_neg f2, hp_R_sR, if_neg (fun z => nx z.2), hp_R_sI, (eB x (by show x ≤ _; unfold ax; omega)).2.2.2.2.1 f, e2, hp_R_sR]
              by_cases f1 : f = 1
              · rw [if_pos ⟨f1, rfl⟩, if_pos f1]
              · rw [if_neg (fun z => f1 z.1), if_neg f1, (eA x (by show x ≤ _; omega)).2.2.2.2.1 f]
    refine ⟨?_, xI, fun f hf => ?_, ?_, ⟨?_, xR 1, xR 2, xR 3, xR 4, xR 5⟩, ⟨?_, ?_, fun q hq => ?_⟩, ?_, ?_, ?_, ?_, ?_, ?_, ?_, ?_, ?_⟩
    · rw [e13, hp_T_sJ, e12, hp_T_sR]; exact T11
    · rw [e13, hp_J_sJ, if_neg (fun z => hf z.1)]; exact xJ f
    · rw [e13, hp_J_sJ, if_pos ⟨rfl, rfl⟩]
    · rw [xR 0]; exact g3
    · rw [(kAF (x + 1) ⟨by omega, by omega⟩).1]; exact g4
    · rw [(kAF (x + 1) ⟨by omega, by omega⟩).2.1]; exact g5
    · obtain ⟨q1, q2⟩ := g6 q hq
      exact ⟨by rw [(kAF (x + 1) ⟨by omega, by omega⟩).2.2.2.2.2.2.2]; exact q1, PP_eq kAF (fun w hw => ⟨by unfold px; omega, by unfold px; omega⟩) q2⟩
    · have hc : ¬ ax x i = x := by unfold ax; omega
      obtain ⟨r1, r2, r3, r4, r5, r6, r7, r8⟩ := kBF (ax x i) ⟨Nat.le_refl _, hc⟩
      rw [r1, r2]
      refine ⟨?_, ?_, fun j => ?_⟩
      · rw [e2, hp_T_sR, e1, hp_T_nA, if_pos hax.symm]
      · rw [e2, hp_N_sR, e1, hp_N_nA, if_pos hax.symm]; rfl
      · rw [r8, e2, hp_aR_sR, e1, hp_aR_nA, if_pos hax.symm]
    · have hc : ¬ ax x i + 1 = x := by unfold ax; omega
      obtain ⟨r1, r2, r3, r4, r5, r6, r7, r8⟩ := kCF (ax x i + 1) ⟨Nat.le_refl _, hc⟩
      rw [r1, r3, r5]
      refine ⟨?_, ?_, ?_⟩
      · rw [e6, hp_T_sR, hp_T_sR, hp_T_sI]; exact T3
      · rw [e6, hp_I_sR, hp_I_sR, hp_I_sI, if_neg (fun z => absurd z.1 (by decide)), e3, hp_I_nO, z2, if_pos rfl]
      · have r0 : am_R h3 9000 0 = am_R h0 9000 0 := by
          rw [(eB 0 (by show 0 ≤ _; omega)).2.2.2.2.1, e2, hp_R_sR, if_neg (fun z => absurd z.1 (by decide)), (eA 0 (by show 0 ≤ _; omega)).2.2.2.2.1, (g8 0 (by show 0 < x; omega)).2.2.2.2.1]
        rw [e6, hp_R_sR, if_neg (fun z => absurd z.1 (by decide)), hp_R_sR, if_pos ⟨rfl, rfl⟩]
        exact r0
    · exact Za_eq kDF ⟨Nat.le_refl _, by unfold ax; omega⟩ (by rw [e8, e7]; exact Za_sR (Za_nA (by omega)))
    · exact Za_eq kEF ⟨Nat.le_refl _, by unfold ax; omega⟩ (by rw [e10, e9]; exact Za_sR (Za_nA (by omega)))
    · exact Za_eq (S := fun a => ¬ a = x) kF (by unfold ax; omega) (by rw [e12, e11]; exact Za_sR (Za_nA (by omega)))
    · rw [e13, hp_Z_sJ, e12, hp_Z_sR, e11, hp_Z_nA, z10]
    · exact eqon_tr g8 (eqon_mono (fun a ha => ⟨by have : a < x := ha; omega, by have : a < x := ha; omega⟩) kAF)
    · have c1 : am_C h1 = am_C h + 1 := by rw [e1]; rfl
      have c3 : am_C h3 = am_C h2 + 1 := by rw [e3]; rfl
      have c7 : am_C h7 = am_C h6 + 1 := by rw [e7]; rfl
      have c9 : am_C h9 = am_C h8 + 1 := by rw [e9]; rfl
      have c11 : am_C h11 = am_C h10 + 1 := by rw [e11]; rfl
      rw [e13, hp_C_sJ, e12, hp_C_sR, c11, e10, hp_C_sR, c9, e8, hp_C_sR, c7, e6, hp_C_sR, hp_C_sR, hp_C_sI, c3, e2, hp_C_sR, c1, g9]
      omega
    · have c1 : am_S h1 = am_S h + 1001 := by rw [e1]; rfl
      have c3 : am_S h3 = am_S h2 + 3 := by rw [e3]; rfl
      have c7 : am_S h7 = am_S h6 + 4 := by rw [e7]; rfl
      have c9 : am_S h9 = am_S h8 + 101 := by rw [e9]; rfl
      have c11 : am_S h11 = am_S h10 + 101 := by rw [e11]; rfl
      rw [e13, hp_S_sJ, e12, hp_S_sR, c11, e10, hp_S_sR, c9, e8, hp_S_sR, c7, e6, hp_S_sR, hp_S_sR, hp_S_sI, c3, e2, hp_S_sR, c1, g10]
      try omega
  | succ j ih =>
    intro i h y1 hi g
    obtain ⟨g1, g2, g3, g4, g5, g6, g7, g8, g9, g10⟩ := g
    have hpx : am_Z h + 1 = px x i := by unfold px; omega
    refine bk_X_init_31 ⟨fun z => absurd z (nI_ge (by omega) (by omega)), fun _ => ⟨g1, fun h14 e14 => ?_⟩⟩
    have eA : eqon (fun a => a ≤ am_Z h) h h14 := by subst e14; exact eqon_nO (by omega)
    rw [hpx, g3, nI_clamp (by omega), nI_1 i]
    have hZ14 : am_Z h14 = px x i := by subst e14; exact hpx
    refine ⟨rfl, by omega, sp_P_init (d := d + 1) (i := i) hZ14 (by omega) (by subst e14; rw [hp_T_nO, if_pos hpx.symm]) (fun f => by subst e14; rw [hp_I_nO, hp_J_nO, if_pos hpx.symm, if_pos hpx.symm]; exact ⟨rfl, rfl⟩) (fun h16 k1 k2 k3 k4 k5 => ⟨rfl, ?_⟩)⟩
    have eB : eqon (fun a => a ≤ am_Z h) h h16 := eqon_tr eA (eqon_mono (fun a ha => by show a < px x i; have : a ≤ am_Z h := ha; omega) k3)
    obtain ⟨f1, f2, f3, f4, f5, f6, f7, f8⟩ := eB (x + 1) (by show x + 1 ≤ am_Z h; omega)
    rw [f1, f2, g4, g5]
    refine ⟨by decide, vp_in_nI (by omega) (by omega), Or.inr ⟨by rw [k1.1]; decide, by rw [k1.1]; decide⟩, fun h17 e17 => ih (i + 1) h17 _ (by omega) ?_⟩
    have hC1 : am_C h14 = am_C h + 1 := by subst e14; rfl
    have hS1 : am_S h14 = am_S h + 9 := by subst e14; rfl
    obtain ⟨x1, x2, x3, x4, x5, x6, x7, x8⟩ := eB x (by show x ≤ am_Z h; omega)
    have hpx' : px x i = x + 2 + 42 * i := rfl
    have eX : eqon (fun a => ¬ a = x + 1) h16 h17 := by subst e17; exact eqon_xR (fun z => z rfl)
    refine ⟨by rw [(eX x (by omega)).1, x1]; exact g1, fun f => by rw [(eX x (by omega)).2.2.1, (eX x (by omega)).2.2.2.1, x3, x4]; exact g2 f, by rw [(eX x (by omega)).2.2.2.2.1, x5]; exact g3, by subst e17; rw [hp_T_xR, f1]; exact g4, by subst e17; rw [hp_N_xR, f2]; exact g5, fun q hq => ?_, by rw [e17, hp_Z_xR, k2, hpx']; omega, eqon_tr (eqon_tr g8 (eqon_mono (fun a ha => by show a ≤ am_Z h; have : a < x := ha; omega) eB)) (eqon_mono (fun a ha => by show ¬ a = x + 1; have : a < x := ha; omega) eX), by rw [e17, hp_C_xR, k4, hC1, g9]; omega, by rw [e17, hp_S_xR, k5, hS1, g10]; omega⟩
    have hne : ∀ w, ¬ px x q + w = x + 1 := fun w => by unfold px; omega
    by_cases hc : q = i
    · subst hc
      refine ⟨by subst e17; rw [hp_aR_xR, if_pos ⟨rfl, rfl⟩], PP_eq eX (fun w hw => hne w) k1⟩
    · obtain ⟨q1, q2⟩ := g6 q (by omega)
      refine ⟨by subst e17; rw [hp_aR_xR, if_neg (fun z => hc z.2), f8]; exact q1, PP_eq eX (fun w hw => hne w) (PP_eq eB (fun w hw => by show px x q + w ≤ am_Z h; unfold px; omega) q2)⟩
theorem sp_X_init {d : Nat} {v : Int32} {h : am_H} {Q : Option am_V → am_H → Prop} (hQ : ∀ h', XE (am_nO h 0 11) (am_Z h + 1) (nP v) h' → Q none h') : am_PC (d + 4) mi_X_init [.inr (.inr (am_Z h + 1)), .inl v] (am_nO h 0 11) Q := by
  have hn := nP_b v
  have st : am_P (d + 3) mi_X_init 20 [some (.inr (.inr (am_Z h + 1))), some (.inl v), none, none] [.inl (nI (nP v))] (am_nO h 0 11) Q := by
    refine bk_X_init_20 ⟨?_, ?_, fun h1 e1 => ?_⟩
    · exact nI_pos (by omega)
    · rw [nI_clamp (by omega)]; omega
    · rw [nI_clamp (by omega)] at e1
      have n1 : ¬ am_Z h + 1 = am_Z (am_nO h 0 11) + 1 := by show ¬ am_Z h + 1 = am_Z h + 1 + 1; omega
      refine ⟨by rw [e1, hp_T_nA, if_neg n1, hp_T_nO, if_pos rfl], fun h2 e2 => ?_⟩
      refine lp_X_init (h0 := am_nO h 0 11) hn (by omega) hQ (nP v) 0 h2 _ (by omega) ?_
      have q2 : am_Z h + 1 + 1 = am_Z (am_nO h 0 11) + 1 := rfl
      refine ⟨by rw [e2, hp_T_sR, e1, hp_T_nA, if_neg n1, hp_T_nO, if_pos rfl], fun f => by rw [e2, hp_I_sR, hp_J_sR, e1, hp_I_nA, hp_J_nA, hp_I_nO, hp_J_nO, if_pos rfl, if_pos rfl]; exact ⟨rfl, rfl⟩, by rw [e2, hp_R_sR, if_pos ⟨rfl, rfl⟩]; rfl, by rw [e2, hp_T_sR, e1, hp_T_nA, if_pos q2], by rw [e2, hp_N_sR, e1, hp_N_nA, if_pos q2], fun q hq => absurd hq (by omega), by rw [e2, e1]; rfl, ?_, by rw [e2, e1]; rfl, by rw [e2, e1]; rfl⟩
      rw [e2, e1]
      exact eqon_tr (h2 := am_nA (am_nO h 0 11) 100 (nP v)) (eqon_nA (by show ¬ am_Z h + 1 + 1 < am_Z h + 1; omega)) (eqon_sR (by omega))
  refine bk_X_init ⟨by omega, fun q => ?_, fun q => ⟨fun q2 => ?_, fun q2 => ?_⟩⟩
  · rw [← nP_4 (Or.inl q)]; exact st
  · rw [← nP_4 (Or.inr q2)]; exact st
  · have := st
    rw [nP_v q q2] at this
    exact this
