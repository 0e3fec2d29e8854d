/-! READING a heap behind a write -/
theorem hp_T_sI (h : am_H) (f a : Nat) (v : Int32) : am_T (am_sI h f a v) = am_T h := rfl
theorem hp_N_sI (h : am_H) (f a : Nat) (v : Int32) : am_N (am_sI h f a v) = am_N h := rfl
theorem hp_I_sI (h : am_H) (f a : Nat) (v : Int32) (g b : Nat) : am_I (am_sI h f a v) g b = if g = f ∧ b = a then v else am_I h g b := rfl
theorem hp_J_sI (h : am_H) (f a : Nat) (v : Int32) : am_J (am_sI h f a v) = am_J h := rfl
theorem hp_R_sI (h : am_H) (f a : Nat) (v : Int32) : am_R (am_sI h f a v) = am_R h := rfl
theorem hp_aI_sI (h : am_H) (f a : Nat) (v : Int32) : am_aI (am_sI h f a v) = am_aI h := rfl
theorem hp_aJ_sI (h : am_H) (f a : Nat) (v : Int32) : am_aJ (am_sI h f a v) = am_aJ h := rfl
theorem hp_aR_sI (h : am_H) (f a : Nat) (v : Int32) : am_aR (am_sI h f a v) = am_aR h := rfl
theorem hp_Z_sI (h : am_H) (f a : Nat) (v : Int32) : am_Z (am_sI h f a v) = am_Z h := rfl
theorem hp_C_sI (h : am_H) (f a : Nat) (v : Int32) : am_C (am_sI h f a v) = am_C h := rfl
theorem hp_S_sI (h : am_H) (f a : Nat) (v : Int32) : am_S (am_sI h f a v) = am_S h := rfl
theorem hp_T_sJ (h : am_H) (f a : Nat) (v : Int64) : am_T (am_sJ h f a v) = am_T h := rfl
theorem hp_N_sJ (h : am_H) (f a : Nat) (v : Int64) : am_N (am_sJ h f a v) = am_N h := rfl
theorem hp_I_sJ (h : am_H) (f a : Nat) (v : Int64) : am_I (am_sJ h f a v) = am_I h := rfl
theorem hp_J_sJ (h : am_H) (f a : Nat) (v : Int64) (g b : Nat) : am_J (am_sJ h f a v) g b = if g = f ∧ b = a then v else am_J h g b := rfl
theorem hp_R_sJ (h : am_H) (f a : Nat) (v : Int64) : am_R (am_sJ h f a v) = am_R h := rfl
theorem hp_aI_sJ (h : am_H) (f a : Nat) (v : Int64) : am_aI (am_sJ h f a v) = am_aI h := rfl
theorem hp_aJ_sJ (h : am_H) (f a : Nat) (v : Int64) : am_aJ (am_sJ h f a v) = am_aJ h := rfl
theorem hp_aR_sJ (h : am_H) (f a : Nat) (v : Int64) : am_aR (am_sJ h f a v) = am_aR h := rfl
theorem hp_Z_sJ (h : am_H) (f a : Nat) (v : Int64) : am_Z (am_sJ h f a v) = am_Z h := rfl
theorem hp_C_sJ (h : am_H) (f a : Nat) (v : Int64) : am_C (am_sJ h f a v) = am_C h := rfl
theorem hp_S_sJ (h : am_H) (f a : Nat) (v : Int64) : am_S (am_sJ h f a v) = am_S h := rfl
theorem hp_T_sR (h : am_H) (f a v : Nat) : am_T (am_sR h f a v) = am_T h := rfl
theorem hp_N_sR (h : am_H) (f a v : Nat) : am_N (am_sR h f a v) = am_N h := rfl
theorem hp_I_sR (h : am_H) (f a v : Nat) : am_I (am_sR h f a v) = am_I h := rfl
theorem hp_J_sR (h : am_H) (f a v : Nat) : am_J (am_sR h f a v) = am_J h := rfl
theorem hp_R_sR (h : am_H) (f a v : Nat) (g b : Nat) : am_R (am_sR h f a v) g b = if g = f ∧ b = a then v else am_R h g b := rfl
theorem hp_aI_sR (h : am_H) (f a v : Nat) : am_aI (am_sR h f a v) = am_aI h := rfl
theorem hp_aJ_sR (h : am_H) (f a v : Nat) : am_aJ (am_sR h f a v) = am_aJ h := rfl
theorem hp_aR_sR (h : am_H) (f a v : Nat) : am_aR (am_sR h f a v) = am_aR h := rfl
theorem hp_Z_sR (h : am_H) (f a v : Nat) : am_Z (am_sR h f a v) = am_Z h := rfl
theorem hp_C_sR (h : am_H) (f a v : Nat) : am_C (am_sR h f a v) = am_C h := rfl
theorem hp_S_sR (h : am_H) (f a v : Nat) : am_S (am_sR h f a v) = am_S h := rfl
theorem hp_T_xI (h : am_H) (f a : Nat) (v : Int32) : am_T (am_xI h f a v) = am_T h := rfl
theorem hp_N_xI (h : am_H) (f a : Nat) (v : Int32) : am_N (am_xI h f a v) = am_N h := rfl
theorem hp_I_xI (h : am_H) (f a : Nat) (v : Int32) : am_I (am_xI h f a v) = am_I h := rfl
theorem hp_J_xI (h : am_H) (f a : Nat) (v : Int32) : am_J (am_xI h f a v) = am_J h := rfl
theorem hp_R_xI (h : am_H) (f a : Nat) (v : Int32) : am_R (am_xI h f a v) = am_R h := rfl
theorem hp_aI_xI (h : am_H) (f a : Nat) (v : Int32) (g b : Nat) : am_aI (am_xI h f a v) g b = if g = f ∧ b = a then v else am_aI h g b := rfl
theorem hp_aJ_xI (h : am_H) (f a : Nat) (v : Int32) : am_aJ (am_xI h f a v) = am_aJ h := rfl
theorem hp_aR_xI (h : am_H) (f a : Nat) (v : Int32) : am_aR (am_xI h f a v) = am_aR h := rfl
theorem hp_Z_xI (h : am_H) (f a : Nat) (v : Int32) : am_Z (am_xI h f a v) = am_Z h := rfl
theorem hp_C_xI (h : am_H) (f a : Nat) (v : Int32) : am_C (am_xI h f a v) = am_C h := rfl
theorem hp_S_xI (h : am_H) (f a : Nat) (v : Int32) : am_S (am_xI h f a v) = am_S h := rfl
theorem hp_T_xJ (h : am_H) (f a : Nat) (v : Int64) : am_T (am_xJ h f a v) = am_T h := rfl
theorem hp_N_xJ (h : am_H) (f a : Nat) (v : Int64) : am_N (am_xJ h f a v) = am_N h := rfl
theorem hp_I_xJ (h : am_H) (f a : Nat) (v : Int64) : am_I (am_xJ h f a v) = am_I h := rfl
theorem hp_J_xJ (h : am_H) (f a : Nat) (v : Int64) : am_J (am_xJ h f a v) = am_J h := rfl
theorem hp_R_xJ (h : am_H) (f a : Nat) (v : Int64) : am_R (am_xJ h f a v) = am_R h := rfl
theorem hp_aI_xJ (h : am_H) (f a : Nat) (v : Int64) : am_aI (am_xJ h f a v) = am_aI h := rfl
theorem hp_aJ_xJ (h : am_H) (f a : Nat) (v : Int64) (g b : Nat) : am_aJ (am_xJ h f a v) g b = if g = f ∧ b = a then v else am_aJ h g b := rfl
theorem hp_aR_xJ (h : am_H) (f a : Nat) (v : Int64) : am_aR (am_xJ h f a v) = am_aR h := rfl
theorem hp_Z_xJ (h : am_H) (f a : Nat) (v : Int64) : am_Z (am_xJ h f a v) = am_Z h := rfl
theorem hp_C_xJ (h : am_H) (f a : Nat) (v : Int64) : am_C (am_xJ h f a v) = am_C h := rfl
theorem hp_S_xJ (h : am_H) (f a : Nat) (v : Int64) : am_S (am_xJ h f a v) = am_S h := rfl
theorem hp_T_xR (h : am_H) (f a v : Nat) : am_T (am_xR h f a v) = am_T h := rfl
theorem hp_N_xR (h : am_H) (f a v : Nat) : am_N (am_xR h f a v) = am_N h := rfl
theorem hp_I_xR (h : am_H) (f a v : Nat) : am_I (am_xR h f a v) = am_I h := rfl
theorem hp_J_xR (h : am_H) (f a v : Nat) : am_J (am_xR h f a v) = am_J h := rfl
theorem hp_R_xR (h : am_H) (f a v : Nat) : am_R (am_xR h f a v) = am_R h := rfl
theorem hp_aI_xR (h : am_H) (f a v : Nat) : am_aI (am_xR h f a v) = am_aI h := rfl
theorem hp_aJ_xR (h : am_H) (f a v : Nat) : am_aJ (am_xR h f a v) = am_aJ h := rfl
theorem hp_aR_xR (h : am_H) (f a v : Nat) (g b : Nat) : am_aR (am_xR h f a v) g b = if g = f ∧ b = a then v else am_aR h g b := rfl
theorem hp_Z_xR (h : am_H) (f a v : Nat) : am_Z (am_xR h f a v) = am_Z h := rfl
theorem hp_C_xR (h : am_H) (f a v : Nat) : am_C (am_xR h f a v) = am_C h := rfl
theorem hp_S_xR (h : am_H) (f a v : Nat) : am_S (am_xR h f a v) = am_S h := rfl
theorem hp_T_nO (h : am_H) (c n : Nat) (b : Nat) : am_T (am_nO h c n) b = if b = am_Z h + 1 then 10 + c else am_T h b := rfl
theorem hp_N_nO (h : am_H) (c n : Nat) : am_N (am_nO h c n) = am_N h := rfl
theorem hp_I_nO (h : am_H) (c n : Nat) (g b : Nat) : am_I (am_nO h c n) g b = if b = am_Z h + 1 then 0 else am_I h g b := rfl
theorem hp_J_nO (h : am_H) (c n : Nat) (g b : Nat) : am_J (am_nO h c n) g b = if b = am_Z h + 1 then 0 else am_J h g b := rfl
theorem hp_R_nO (h : am_H) (c n : Nat) (g b : Nat) : am_R (am_nO h c n) g b = if b = am_Z h + 1 then 0 else am_R h g b := rfl
theorem hp_aI_nO (h : am_H) (c n : Nat) : am_aI (am_nO h c n) = am_aI h := rfl
theorem hp_aJ_nO (h : am_H) (c n : Nat) : am_aJ (am_nO h c n) = am_aJ h := rfl
theorem hp_aR_nO (h : am_H) (c n : Nat) : am_aR (am_nO h c n) = am_aR h := rfl
theorem hp_Z_nO (h : am_H) (c n : Nat) : am_Z (am_nO h c n) = am_Z h + 1 := rfl
theorem hp_C_nO (h : am_H) (c n : Nat) : am_C (am_nO h c n) = am_C h + 1 := rfl
theorem hp_S_nO (h : am_H) (c n : Nat) : am_S (am_nO h c n) = am_S h + n := rfl
theorem hp_T_nA (h : am_H) (c n : Nat) (b : Nat) : am_T (am_nA h c n) b = if b = am_Z h + 1 then c else am_T h b := rfl
theorem hp_N_nA (h : am_H) (c n : Nat) (b : Nat) : am_N (am_nA h c n) b = if b = am_Z h + 1 then n else am_N h b := rfl
theorem hp_I_nA (h : am_H) (c n : Nat) : am_I (am_nA h c n) = am_I h := rfl
theorem hp_J_nA (h : am_H) (c n : Nat) : am_J (am_nA h c n) = am_J h := rfl
theorem hp_R_nA (h : am_H) (c n : Nat) : am_R (am_nA h c n) = am_R h := rfl
theorem hp_aI_nA (h : am_H) (c n : Nat) (b j : Nat) : am_aI (am_nA h c n) b j = if b = am_Z h + 1 then 0 else am_aI h b j := rfl
theorem hp_aJ_nA (h : am_H) (c n : Nat) (b j : Nat) : am_aJ (am_nA h c n) b j = if b = am_Z h + 1 then 0 else am_aJ h b j := rfl
theorem hp_aR_nA (h : am_H) (c n : Nat) (b j : Nat) : am_aR (am_nA h c n) b j = if b = am_Z h + 1 then 0 else am_aR h b j := rfl
theorem hp_Z_nA (h : am_H) (c n : Nat) : am_Z (am_nA h c n) = am_Z h + 1 := rfl
theorem hp_C_nA (h : am_H) (c n : Nat) : am_C (am_nA h c n) = am_C h + 1 := rfl
theorem hp_S_nA (h : am_H) (c n : Nat) : am_S (am_nA h c n) = am_S h + n := rfl
