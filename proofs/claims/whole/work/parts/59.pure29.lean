/-! THE START: what the constructors leave. The reference -/
def sgM : Nat → Nat
  | 0 => 0
  | k + 1 => sgM k + nM (k + 1)
/-- the reference under way: k of its arrays are made -/
def IM (h0 h : am_H) (m k : Nat) : Prop := am_T h m = 17 ∧ am_Z h = m + k ∧ (∀ f, am_I h f m = 0) ∧ am_J h 227 m = 0 ∧ am_J h 226 m = 1000 ∧ (∀ k', 1 ≤ k' → k' ≤ k → am_R h (fM k') m = m + k' ∧ am_T h (m + k') = tM k' ∧ am_N h (m + k') = nM k' ∧ (∀ j, am_aI h (m + k') j = 0) ∧ (∀ j, am_aJ h (m + k') j = 0)) ∧ eqon (fun a => a < m) h0 h ∧ am_C h = am_C h0 + k ∧ am_S h = am_S h0 + sgM k
theorem fM_inj {k k' : Nat} (h : k ≤ 24) (h' : k' ≤ 24) (hne : ¬ k' = k) : ¬ fM k' = fM k := by
  unfold fM
  split <;> split <;> (try split) <;> (try split) <;> omega
theorem IM_step {h0 h h1 h2 : am_H} {m k t n f : Nat} (g : IM h0 h m k) (hk : k + 1 ≤ 24) (e1 : h1 = am_nA h t n) (ht : t = tM (k + 1)) (hn : n = nM (k + 1)) (hf : f = fM (k + 1)) (e2 : h2 = am_sR h1 f m (am_Z h + 1)) : IM h0 h2 m (k + 1) := by
  obtain ⟨g1, g2, g3, g4, g5, g6, g7, g8, g9⟩ := g
  have n1 : ¬ m = am_Z h + 1 := by omega
  subst e2
  subst e1
  refine ⟨?_, ?_, fun f' => ?_, ?_, ?_, fun k' k1 k2 => ?_, ?_, ?_, ?_⟩
  · rw [hp_T_sR, hp_T_nA, if_neg n1]; exact g1
  · show am_Z h + 1 = _; omega
  · rw [hp_I_sR, hp_I_nA]; exact g3 f'
  · rw [hp_J_sR, hp_J_nA]; exact g4
  · rw [hp_J_sR, hp_J_nA]; exact g5
  · rw [hp_R_sR, hp_T_sR, hp_N_sR, hp_R_nA, hp_T_nA, hp_N_nA]
    simp only [hp_aI_sR, hp_aJ_sR, hp_aI_nA, hp_aJ_nA]
    by_cases hc : k' = k + 1
    · subst hc
      rw [if_pos ⟨hf.symm, trivial⟩, if_pos (by omega), if_pos (by omega)]
      refine ⟨by omega, ht, hn, fun j => ?_, fun j => ?_⟩
      · rw [if_pos (by omega)]
      · rw [if_pos (by omega)]
    · rw [if_neg (fun z => fM_inj (k := k + 1) hk (by omega) hc (z.1.trans hf)), if_neg (by omega), if_neg (by omega)]
      obtain ⟨q1, q2, q3, q4, q5⟩ := g6 k' k1 (by omega)
      refine ⟨q1, q2, q3, fun j => ?_, fun j => ?_⟩
      · rw [if_neg (by omega)]; exact q4 j
      · rw [if_neg (by omega)]; exact q5 j
  · exact eqon_tr (eqon_tr g7 (eqon_nA (by omega))) (eqon_sR (by omega))
  · show am_C h + 1 = _; omega
  · show am_S h + n = _; rw [g9, hn, sgM]; omega
/-- how many ports -/
def nP (v : Int32) : Nat := if v < 1 ∨ 16 < v then 4 else v.toNatClampNeg
theorem nP_b (v : Int32) : 1 ≤ nP v ∧ nP v ≤ 16 := by
  unfold nP
  split
  · decide
  · rename_i h
    have h1 : (1 : Int32) ≤ v := Int32.not_lt.mp (fun z => h (Or.inl z))
    have h2 : v ≤ 16 := Int32.not_lt.mp (fun z => h (Or.inr z))
    have e1 := Int32.le_iff_toInt_le.mp h1
    have e2 := Int32.le_iff_toInt_le.mp h2
    have e3 : (1 : Int32).toInt = 1 := rfl
    have e4 : (16 : Int32).toInt = 16 := rfl
    show 1 ≤ v.toInt.toNat ∧ v.toInt.toNat ≤ 16
    omega
theorem nP_4 {v : Int32} (h : v < 1 ∨ 16 < v) : nI (nP v) = 4 := by unfold nP; rw [if_pos h]; rfl
theorem nP_v {v : Int32} (h1 : ¬ v < 1) (h2 : ¬ 16 < v) : nI (nP v) = v := by
  have hb := nP_b v
  unfold nP at hb ⊢
  rw [if_neg (by intro z; rcases z with z | z; exact h1 z; exact h2 z)] at hb ⊢
  have e1 : (0 : Int) ≤ v.toInt := by
    have hb1 : 1 ≤ v.toInt.toNat := hb.1
    omega
  rw [← iI_nat, show ((v.toNatClampNeg : Nat) : Int) = v.toInt from Int.toNat_of_nonneg e1, iI_self]
/-- the state at the start -/
def s00 : sg := fun k j => if k = 0 ∧ j = 1 then 1000 else if k = 35 then -1 else 0
theorem s00_0 {k j : Nat} (h : ¬ (k = 0 ∧ j = 1)) (h2 : ¬ k = 35) : s00 k j = 0 := by unfold s00; rw [if_neg h, if_neg h2]
theorem s00_c : s00 0 1 = 1000 := rfl
theorem RM_IM {h0 h h1 : am_H} {m n : Nat} (g : IM h0 h m 24) (hn : 1 ≤ n ∧ n ≤ 16) (e1 : h1 = am_sI h 225 m (nI n)) : RM h1 m n s00 := by
  obtain ⟨g1, g2, g3, g4, g5, g6, g7, g8, g9⟩ := g
  subst e1
  refine ⟨hn, g1, by rw [hp_I_sI, if_pos ⟨rfl, rfl⟩], fun k k1 k2 => ?_, ?_, ?_, ?_, ?_, ?_⟩
  · obtain ⟨q1, q2, q3, q4, q5⟩ := g6 k k1 k2
    refine ⟨q1, q2, q3, fun _ j => ?_, fun _ j => ?_⟩
    · rw [s00_0 (by omega) (by omega)]; exact q4 j
    · rw [s00_0 (by omega) (by omega)]; exact q5 j
  · exact g4
  · exact g5
  · rw [hp_I_sI, if_neg (fun z => absurd z.1 (by decide))]; exact g3 242
  · rw [hp_I_sI, if_neg (fun z => absurd z.1 (by decide))]; exact g3 251
  · rw [hp_I_sI, if_neg (fun z => absurd z.1 (by decide))]; exact g3 252
theorem sp_M_init {d : Nat} {v : Int32} {h : am_H} {Q : Option am_V → am_H → Prop} (hQ : ∀ h', RM h' (am_Z h + 1) (nP v) s00 → am_Z h' = am_Z h + 25 → eqon (fun a => a < am_Z h + 1) h h' → am_C h' = am_C h + 25 → am_S h' = am_S h + 31 + sgM 24 → Q none h') : am_PC (d + 1) mi_M_init [.inr (.inr (am_Z h + 1)), .inl v] (am_nO h 7 31) Q := by
  have eo : eqon (fun a => a < am_Z h + 1) h (am_nO h 7 31) := eqon_nO (by omega)
  refine bk_M_init ⟨by omega, by rw [hp_T_nO, if_pos rfl], fun a0 b0 => ?_⟩
  have g0 : IM (am_nO h 7 31) a0 (am_Z h + 1) 0 := by
    subst b0
    refine ⟨by rw [hp_T_sJ, hp_T_nO, if_pos rfl], rfl, fun f => by rw [hp_I_sJ, hp_I_nO, if_pos rfl], by rw [hp_J_sJ, if_neg (fun z => absurd z.1 (by decide)), hp_J_nO, if_pos rfl], by rw [hp_J_sJ, if_pos ⟨rfl, rfl⟩], fun k' k1 k2 => absurd k2 (by omega), eqon_sJ (by omega), rfl, rfl⟩
  refine bk_M_init_11 ⟨by decide, by decide, fun c0 e0 => ⟨by rw [e0, hp_T_nA, if_neg (by have := g0.2.1; omega)]; exact g0.1, fun a1 b1 => ?_⟩⟩
  have g1 := IM_step g0 (by decide) e0 rfl rfl rfl b1
  refine bk_M_init_19 ⟨by decide, by decide, fun c1 e1 => ⟨by rw [e1, hp_T_nA, if_neg (by have := g1.2.1; omega)]; exact g1.1, fun a2 b2 => ?_⟩⟩
  have g2 := IM_step g1 (by decide) e1 rfl rfl rfl b2
  refine bk_M_init_27 ⟨by decide, by decide, fun c2 e2 => ⟨by rw [e2, hp_T_nA, if_neg (by have := g2.2.1; omega)]; exact g2.1, fun a3 b3 => ?_⟩⟩
  have g3 := IM_step g2 (by decide) e2 rfl rfl rfl b3
  refine bk_M_init_35 ⟨by decide, by decide, fun c3 e3 => ⟨by rw [e3, hp_T_nA, if_neg (by have := g3.2.1; omega)]; exact g3.1, fun a4 b4 => ?_⟩⟩
  have g4 := IM_step g3 (by decide) e3 rfl rfl rfl b4
  refine bk_M_init_43 ⟨by decide, by decide, fun c4 e4 => ⟨by rw [e4, hp_T_nA, if_neg (by have := g4.2.1; omega)]; exact g4.1, fun a5 b5 => ?_⟩⟩
  have g5 := IM_step g4 (by decide) e4 rfl rfl rfl b5
  refine bk_M_init_51 ⟨by decide, by decide, fun c5 e5 => ⟨by rw [e5, hp_T_nA, if_neg (by have := g5.2.1; omega)]; exact g5.1, fun a6 b6 => ?_⟩⟩
  have g6 := IM_step g5 (by decide) e5 rfl rfl rfl b6
  refine bk_M_init_59 ⟨by decide, by decide, fun c6 e6 => ⟨by rw [e6, hp_T_nA, if_neg (by have := g6.2.1; omega)]; exact g6.1, fun a7 b7 => ?_⟩⟩
  have g7 := IM_step g6 (by decide) e6 rfl rfl rfl b7
  refine bk_M_init_68 ⟨by decide, by decide, fun c7 e7 => ⟨by rw [e7, hp_T_nA, if_neg (by have := g7.2.1; omega)]; exact g7.1, fun a8 b8 => ?_⟩⟩
  have g8 := IM_step g7 (by decide) e7 rfl rfl rfl b8
  refine bk_M_init_77 ⟨by decide, by decide, fun c8 e8 => ⟨by rw [e8, hp_T_nA, if_neg (by have := g8.2.1; omega)]; exact g8.1, fun a9 b9 => ?_⟩⟩
  have g9 := IM_step g8 (by decide) e8 rfl rfl rfl b9
  refine bk_M_init_86 ⟨by decide, by decide, fun c9 e9 => ⟨by rw [e9, hp_T_nA, if_neg (by have := g9.2.1; omega)]; exact g9.1, fun a10 b10 => ?_⟩⟩
  have g10 := IM_step g9 (by decide) e9 rfl rfl rfl b10
  refine bk_M_init_95 ⟨by decide, by decide, fun c10 e10 => ⟨by rw [e10, hp_T_nA, if_neg (by have := g10.2.1; omega)]; exact g10.1, fun a11 b11 => ?_⟩⟩
  have g11 := IM_step g10 (by decide) e10 rfl rfl rfl b11
  refine bk_M_init_104 ⟨by decide, by decide, fun c11 e11 => ⟨by rw [e11, hp_T_nA, if_neg (by have := g11.2.1; omega)]; exact g11.1, fun a12 b12 => ?_⟩⟩
  have g12 := IM_step g11 (by decide) e11 rfl rfl rfl b12
  refine bk_M_init_113 ⟨by decide, by decide, fun c12 e12 => ⟨by rw [e12, hp_T_nA, if_neg (by have := g12.2.1; omega)]; exact g12.1, fun a13 b13 => ?_⟩⟩
  have g13 := IM_step g12 (by decide) e12 rfl rfl rfl b13
  refine bk_M_init_122 ⟨by decide, by decide, fun c13 e13 => ⟨by rw [e13, hp_T_nA, if_neg (by have := g13.2.1; omega)]; exact g13.1, fun a14 b14 => ?_⟩⟩
  have g14 := IM_step g13 (by decide) e13 rfl rfl rfl b14
  refine bk_M_init_131 ⟨by decide, by decide, fun c14 e14 => ⟨by rw [e14, hp_T_nA, if_neg (by have := g14.2.1; omega)]; exact g14.1, fun a15 b15 => ?_⟩⟩
  have g15 := IM_step g14 (by decide) e14 rfl rfl rfl b15
  refine bk_M_init_140 ⟨by decide, by decide, fun c15 e15 => ⟨by rw [e15, hp_T_nA, if_neg (by have := g15.2.1; omega)]; exact g15.1, fun a16 b16 => ?_⟩⟩
  have g16 := IM_step g15 (by decide) e15 rfl rfl rfl b16
  refine bk_M_init_149 ⟨by decide, by decide, fun c16 e16 => ⟨by rw [e16, hp_T_nA, if_neg (by have := g16.2.1; omega)]; exact g16.1, fun a17 b17 => ?_⟩⟩
  have g17 := IM_step g16 (by decide) e16 rfl rfl rfl b17
  refine bk_M_init_158 ⟨by decide, by decide, fun c17 e17 => ⟨by rw [e17, hp_T_nA, if_neg (by have := g17.2.1; omega)]; exact g17.1, fun a18 b18 => ?_⟩⟩
  have g18 := IM_step g17 (by decide) e17 rfl rfl rfl b18
  refine bk_M_init_167 ⟨by decide, by decide, fun c18 e18 => ⟨by rw [e18, hp_T_nA, if_neg (by have := g18.2.1; omega)]; exact g18.1, fun a19 b19 => ?_⟩⟩
  have g19 := IM_step g18 (by decide) e18 rfl rfl rfl b19
  refine bk_M_init_176 ⟨by decide, by decide, fun c19 e19 => ⟨by rw [e19, hp_T_nA, if_neg (by have := g19.2.1; omega)]; exact g19.1, fun a20 b20 => ?_⟩⟩
  have g20 := IM_step g19 (by decide) e19 rfl rfl rfl b20
  refine bk_M_init_185 ⟨by decide, by decide, fun c20 e20 => ⟨by rw [e20, hp_T_nA, if_neg (by have := g20.2.1; omega)]; exact g20.1, fun a21 b21 => ?_⟩⟩
  have g21 := IM_step g20 (by decide) e20 rfl rfl rfl b21
  refine bk_M_init_193 ⟨by decide, by decide, fun c21 e21 => ⟨by rw [e21, hp_T_nA, if_neg (by have := g21.2.1; omega)]; exact g21.1, fun a22 b22 => ?_⟩⟩
  have g22 := IM_step g21 (by decide) e21 rfl rfl rfl b22
  refine bk_M_init_201 ⟨by decide, by decide, fun c22 e22 => ⟨by rw [e22, hp_T_nA, if_neg (by have := g22.2.1; omega)]; exact g22.1, fun a23 b23 => ?_⟩⟩
  have g23 := IM_step g22 (by decide) e22 rfl rfl rfl b23
  refine bk_M_init_210 ⟨by decide, by decide, fun c23 e23 => ⟨by rw [e23, hp_T_nA, if_neg (by have := g23.2.1; omega)]; exact g23.1, fun a24 b24 => ?_⟩⟩
  have g24 := IM_step g23 (by decide) e23 rfl rfl rfl b24
  have hz := g24.2.1
  have ho := g24.2.2.2.2.2.2.1
  have hc : am_C a24 = am_C h + 1 + 24 := g24.2.2.2.2.2.2.2.1
  have hs : am_S a24 = am_S h + 31 + sgM 24 := g24.2.2.2.2.2.2.2.2
  have fin : ∀ h', h' = am_sI a24 225 (am_Z h + 1) (nI (nP v)) → Q none h' := fun h' e => by
    refine hQ h' (RM_IM g24 (nP_b v) e) ?_ ?_ ?_ ?_
    · subst e; show am_Z a24 = _; omega
    · subst e; exact eqon_tr (eqon_tr eo ho) (eqon_sI (by omega))
    · subst e; show am_C a24 = _; omega
    · subst e; show am_S a24 = _; omega
  refine bk_M_init_217 ⟨fun q => ⟨g24.1, fun h1 e1 => bk_M_init_237 (fin h1 (by rw [nP_4 (Or.inl q)]; exact e1))⟩, fun q => ⟨fun q2 => ⟨g24.1, fun h1 e1 => bk_M_init_237 (fin h1 (by rw [nP_4 (Or.inr q2)]; exact e1))⟩, fun q2 => ⟨g24.1, fun h1 e1 => bk_M_init_237 (fin h1 (by rw [nP_v q q2]; exact e1))⟩⟩⟩
