/-! THE REFERENCE'S METHODS: small ones -/
/-- what a call leaves beside its answer: the same cells elsewhere, the same room -/
def kp (S : Nat → Prop) (h h' : am_H) : Prop := eqon S h h' ∧ am_Z h' = am_Z h ∧ am_C h' = am_C h ∧ am_S h' = am_S h
theorem kp_rf (S : Nat → Prop) (h : am_H) : kp S h h := ⟨eqon_rf S h, rfl, rfl, rfl⟩
theorem kp_tr {S : Nat → Prop} {h1 h2 h3 : am_H} (a : kp S h1 h2) (b : kp S h2 h3) : kp S h1 h3 := ⟨eqon_tr a.1 b.1, b.2.1.trans a.2.1, b.2.2.1.trans a.2.2.1, b.2.2.2.trans a.2.2.2⟩
theorem kp_sI {S : Nat → Prop} {h : am_H} {f a : Nat} {v : Int32} (ha : ¬ S a) : kp S h (am_sI h f a v) := ⟨eqon_sI ha, rfl, rfl, rfl⟩
theorem kp_sJ {S : Nat → Prop} {h : am_H} {f a : Nat} {v : Int64} (ha : ¬ S a) : kp S h (am_sJ h f a v) := ⟨eqon_sJ ha, rfl, rfl, rfl⟩
theorem kp_sR {S : Nat → Prop} {h : am_H} {f a v : Nat} (ha : ¬ S a) : kp S h (am_sR h f a v) := ⟨eqon_sR ha, rfl, rfl, rfl⟩
theorem kp_xI {S : Nat → Prop} {h : am_H} {a j : Nat} {v : Int32} (ha : ¬ S a) : kp S h (am_xI h a j v) := ⟨eqon_xI ha, rfl, rfl, rfl⟩
theorem kp_xJ {S : Nat → Prop} {h : am_H} {a j : Nat} {v : Int64} (ha : ¬ S a) : kp S h (am_xJ h a j v) := ⟨eqon_xJ ha, rfl, rfl, rfl⟩
theorem kp_xR {S : Nat → Prop} {h : am_H} {a j v : Nat} (ha : ¬ S a) : kp S h (am_xR h a j v) := ⟨eqon_xR ha, rfl, rfl, rfl⟩
/-- cells that are not the reference's -/
def NM (m : Nat) (a : Nat) : Prop := ¬ CM m a
theorem NM_0 (m : Nat) : ¬ NM m m := fun h => h ⟨Nat.le_refl _, by omega⟩
theorem NM_k {m k : Nat} (hk : k ≤ 24) : ¬ NM m (m + k) := fun h => h ⟨by omega, by omega⟩
/-- what a call of the reference gives: answer and state -/
def gM (m n : Nat) (h : am_H) (σ' : sg) (h' : am_H) : Prop := RM h' m n σ' ∧ kp (NM m) h h'
theorem sp_none_t {d m n : Nat} {p : Int32} {h : am_H} {σ : sg} {Q : Option am_V → am_H → Prop} (hM : RM h m n σ) (h1 : p < 1 ∨ (¬ p < 1 ∧ nI n < p)) (hQ : Q (some (.inl 1)) (am_sI h 224 m 0)) : am_PC (d + 1) mi_M_none [.inr (.inr m), .inl p] h Q := by
  refine bk_M_none ?_
  simp only [hp_T_sI, hp_N_sI, hp_I_sI, hp_J_sI, hp_R_sI, hp_aI_sI, hp_aJ_sI, hp_aR_sI, hp_Z_sI, hp_C_sI, hp_S_sI, hp_T_sJ, hp_N_sJ, hp_I_sJ, hp_J_sJ, hp_R_sJ, hp_aI_sJ, hp_aJ_sJ, hp_aR_sJ, hp_Z_sJ, hp_C_sJ, hp_S_sJ, hp_T_sR, hp_N_sR, hp_I_sR, hp_J_sR, hp_R_sR, hp_aI_sR, hp_aJ_sR, hp_aR_sR, hp_Z_sR, hp_C_sR, hp_S_sR, hp_T_xI, hp_N_xI, hp_I_xI, hp_J_xI, hp_R_xI, hp_aI_xI, hp_aJ_xI, hp_aR_xI, hp_Z_xI, hp_C_xI, hp_S_xI, hp_T_xJ, hp_N_xJ, hp_I_xJ, hp_J_xJ, hp_R_xJ, hp_aI_xJ, hp_aJ_xJ, hp_aR_xJ, hp_Z_xJ, hp_C_xJ, hp_S_xJ, hp_T_xR, hp_N_xR, hp_I_xR, hp_J_xR, hp_R_xR, hp_aI_xR, hp_aJ_xR, hp_aR_xR, hp_Z_xR, hp_C_xR, hp_S_xR, hp_T_nO, hp_N_nO, hp_I_nO, hp_J_nO, hp_R_nO, hp_aI_nO, hp_aJ_nO, hp_aR_nO, hp_Z_nO, hp_C_nO, hp_S_nO, hp_T_nA, hp_N_nA, hp_I_nA, hp_J_nA, hp_R_nA, hp_aI_nA, hp_aJ_nA, hp_aR_nA, hp_Z_nA, hp_C_nA, hp_S_nA, RM_T hM, RM_n hM]
  refine ⟨trivial, fun _ => ⟨Or.inr rfl, hQ⟩, fun q => ⟨trivial, fun q2 => ?_, fun _ => ⟨Or.inr rfl, hQ⟩⟩⟩
  sorry
