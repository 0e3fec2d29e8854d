/-! THE REFERENCE'S METHODS: small ones -/
/-- what a call leaves beside its answer: the same cells elsewhere, the same room -/
def kp (S : Nat → Prop) (h h' : am_H) : Prop := eqon S h h' ∧ am_Z h' = am_Z h ∧ am_C h' = am_C h ∧ am_S h' = am_S h
theorem kp_rf (S : Nat → Prop) (h : am_H) : kp S h h := ⟨eqon_rf S h, rfl, rfl, rfl⟩
theorem kp_tr {S : Nat → Prop} {h1 h2 h3 : am_H} (a : kp S h1 h2) (b : kp S h2 h3) : kp S h1 h3 := ⟨eqon_tr a.1 b.1, b.2.1.trans a.2.1, b.2.2.1.trans a.2.2.1, b.2.2.2.trans a.2.2.2⟩
theorem kp_sI {S : Nat → Prop} {h : am_H} {f a : Nat} {v : Int32} (ha : ¬ S a) : kp S h (am_sI h f a v) := ⟨eqon_sI ha, rfl, rfl, rfl⟩
theorem kp_sJ {S : Nat → Prop} {h : am_H} {f a : Nat} {v : Int64} (ha : ¬ S a) : kp S h (am_sJ h f a v) := ⟨eqon_sJ ha, rfl, rfl, rfl⟩
theorem kp_sR {S : Nat → Prop} {h : am_H} {f a v : Nat} (ha : ¬ S a) : kp S h (am_sR h f a v) := ⟨eqon_sR ha, rfl, rfl, rfl⟩
theorem kp_xI {S : Nat → Prop} {h : am_H} {a j : Nat} {v : Int32} (ha : ¬ S a) : kp S h (am_xI h a j v) := ⟨eqon_xI ha, rfl, rfl, rfl⟩
theorem kp_xJ {S : Nat → Prop} {h : am_H} {a j : Nat} {v : Int64} (ha : ¬ S a) : kp S h (am_xJ h a j v) := ⟨eqon_xJ ha, rfl, rfl, rfl⟩
theorem kp_xR {S : Nat → Prop} {h : am_H} {a j v : Nat} (ha : ¬ S a) : kp S h (am_xR h a j v) := ⟨eqon_xR ha, rfl, rfl, rfl⟩
/-- cells that are not the reference's -/
def NM (m : Nat) (a : Nat) : Prop := ¬ CM m a
theorem NM_0 (m : Nat) : ¬ NM m m := fun h => h ⟨Nat.le_refl _, by omega⟩
theorem NM_k {m k : Nat} (hk : k ≤ 24) : ¬ NM m (m + k) := fun h => h ⟨by omega, by omega⟩
/-- what a call of the reference gives: answer and state -/
def gM (m n : Nat) (h : am_H) (σ' : sg) (h' : am_H) : Prop := RM h' m n σ' ∧ kp (NM m) h h'
theorem gM_rf {m n : Nat} {h : am_H} {σ : sg} (hM : RM h m n σ) : gM m n h σ h := ⟨hM, kp_rf _ _⟩
theorem gM_tr {m n : Nat} {h h1 h2 : am_H} {σ σ' : sg} (a : gM m n h σ h1) (b : gM m n h1 σ' h2) : gM m n h σ' h2 := ⟨b.1, kp_tr a.2 b.2⟩
theorem gM_code {m n : Nat} {h : am_H} {σ : sg} {v : Int32} (hM : RM h m n σ) : gM m n h σ (am_sI h 224 m v) := ⟨RM_code hM, kp_sI (NM_0 m)⟩
theorem gM_xI {h : am_H} {m n k j : Nat} {σ : sg} {v : Int} (hM : RM h m n σ) (hk : 1 ≤ k ∧ k ≤ 24) (ht : tM k = 1) : gM m n h (am_u2 σ k j v) (am_xI h (m + k) j (iI v)) := ⟨RM_xI hM hk ht, kp_xI (NM_k hk.2)⟩
theorem gM_xJ {h : am_H} {m n k j : Nat} {σ : sg} {v : Int} (hM : RM h m n σ) (hk : 1 ≤ k ∧ k ≤ 24) (ht : tM k = 2) : gM m n h (am_u2 σ k j v) (am_xJ h (m + k) j (jJ v)) := ⟨RM_xJ hM hk ht, kp_xJ (NM_k hk.2)⟩
theorem sp_M_none_bad {d m n : Nat} {p : Int32} {h : am_H} {σ : sg} {Q : Option am_V → am_H → Prop} (hM : RM h m n σ) (h1 : p < 1 ∨ (¬ p < 1 ∧ nI n < p)) (hQ : ∀ h', gM m n h σ h' → Q (some (.inl 1)) h') : am_PC (d + 1) mi_M_none [.inr (.inr m), .inl p] h Q := by
  refine bk_M_none ⟨RM_T hM, fun h2 e2 => ?_⟩
  have g : gM m n h σ h2 := by subst e2; exact gM_code hM
  refine ⟨fun _ => ⟨Or.inr rfl, hQ _ g⟩, fun q => ⟨RM_T g.1, ?_⟩⟩
  rw [RM_n g.1]
  refine ⟨fun q2 => ?_, fun _ => ⟨Or.inr rfl, hQ _ g⟩⟩
  rcases h1 with z | z
  · exact absurd z q
  · exact absurd q2 (Int32.not_le.mpr z.2)
theorem sp_M_none_ok {d m n : Nat} {p : Int32} {h : am_H} {σ : sg} {Q : Option am_V → am_H → Prop} (hM : RM h m n σ) (h1 : ¬ p < 1) (h9 : ¬ nI n < p) (hQ : ∀ h', gM m n h σ h' → Q (some (.inl 0)) h') : am_PC (d + 1) mi_M_none [.inr (.inr m), .inl p] h Q := by
  refine bk_M_none ⟨RM_T hM, fun h2 e2 => ?_⟩
  have g : gM m n h σ h2 := by subst e2; exact gM_code hM
  refine ⟨fun q => absurd q h1, fun q => ⟨RM_T g.1, ?_⟩⟩
  rw [RM_n g.1]
  exact ⟨fun _ => ⟨Or.inl rfl, hQ _ g⟩, fun q2 => absurd (Int32.not_lt.mp h9) q2⟩
theorem sp_M_noRank_bad {d m n : Nat} {p r : Int32} {h : am_H} {σ : sg} {Q : Option am_V → am_H → Prop} (hM : RM h m n σ) (h1 : (p < 1 ∨ (¬ p < 1 ∧ nI n < p)) ∨ ((¬ p < 1) ∧ (¬ nI n < p) ∧ (r < 0 ∨ (¬ r < 0 ∧ nI 8 ≤ r)))) (hQ : ∀ h', gM m n h σ h' → Q (some (.inl 1)) h') : am_PC (d + 2) mi_M_noRank [.inr (.inr m), .inl p, .inl r] h Q := by
  refine bk_M_noRank ⟨RM_T hM, ?_⟩
  rcases h1 with h1 | ⟨a1, a2, h1⟩
  · exact sp_M_none_bad hM h1 (fun h2 g => ⟨1, rfl, fun q => absurd q (by decide), fun _ => ⟨Or.inr rfl, hQ _ g⟩⟩)
  · refine sp_M_none_ok hM a1 a2 (fun h2 g => ⟨0, rfl, fun _ => ⟨fun _ => ⟨Or.inr rfl, hQ _ g⟩, fun q => ⟨fun q2 => ?_, fun _ => ⟨Or.inr rfl, hQ _ g⟩⟩⟩, fun q => absurd rfl q⟩)
    rcases h1 with z | z
    · exact absurd z q
    · have e1 := Int32.le_iff_toInt_le.mp z.2
      have e2 := Int32.le_iff_toInt_le.mp q2
      have e3 : (nI 8).toInt = 8 := rfl
      have e4 : (7 : Int32).toInt = 7 := rfl
      omega
theorem sp_M_noRank_ok {d m n : Nat} {p r : Int32} {h : am_H} {σ : sg} {Q : Option am_V → am_H → Prop} (hM : RM h m n σ) (h1 : ¬ p < 1) (h2 : ¬ nI n < p) (h3 : ¬ r < 0) (h4 : ¬ nI 8 ≤ r) (hQ : ∀ h', gM m n h σ h' → Q (some (.inl 0)) h') : am_PC (d + 2) mi_M_noRank [.inr (.inr m), .inl p, .inl r] h Q := by
  refine bk_M_noRank ⟨RM_T hM, sp_M_none_ok hM h1 h2 (fun h2 g => ⟨0, rfl, fun _ => ⟨fun q => absurd q h3, fun _ => ⟨fun _ => ⟨Or.inl rfl, hQ _ g⟩, fun q => ?_⟩⟩, fun q => absurd rfl q⟩)⟩
  exfalso
  have e1 : ¬ (nI 8).toInt ≤ r.toInt := fun z => h4 (Int32.le_iff_toInt_le.mpr z)
  have e2 : ¬ r.toInt ≤ (7 : Int32).toInt := fun z => q (Int32.le_iff_toInt_le.mpr z)
  have e3 : (nI 8).toInt = 8 := rfl
  have e4 : (7 : Int32).toInt = 7 := rfl
  omega
/-- where an offset goes -/
def clk (o z : Int) : Int := if o < z then (if 100 < z - o then o + 100 else z) else (if 100 < o - z then o - 100 else z)
theorem sp_M_clock_1 {d m n : Nat} {p : Int32} {v : Int64} {h : am_H} {σ : sg} {Q : Option am_V → am_H → Prop} (hM : RM h m n σ) (h1 : p < 1 ∨ (¬ p < 1 ∧ nI n < p)) (hQ : ∀ h', gM m n h σ h' → Q (some (.inl (-1))) h') : am_PC (d + 2) mi_M_clock [.inr (.inr m), .inl p, .inr (.inl v)] h Q :=
  bk_M_clock ⟨RM_T hM, sp_M_none_bad hM h1 (fun h2 g => ⟨1, rfl, fun q => absurd q (by decide), fun _ => hQ _ g⟩)⟩
theorem sp_M_clock_2 {d m n : Nat} {p : Int32} {z : Int} {h : am_H} {σ : sg} {Q : Option am_V → am_H → Prop} (hM : RM h m n σ) (h1 : ¬ p < 1) (h2 : ¬ nI n < p) (hz : rJ z) (h3 : z < 0 ∨ 1000000 < z) (hQ : ∀ h', gM m n h σ h' → Q (some (.inl (-2))) h') : am_PC (d + 2) mi_M_clock [.inr (.inr m), .inl p, .inr (.inl (jJ z))] h Q := by
  refine bk_M_clock ⟨RM_T hM, sp_M_none_ok hM h1 h2 (fun h2 g => ⟨0, rfl, fun _ => ⟨fun _ => hQ _ g, fun q => ⟨fun q2 => ?_, fun _ => hQ _ g⟩⟩, fun q => absurd rfl q⟩)⟩
  exfalso
  have e1 := (cmp_le (b := 1000000) hz (by unfold rJ; omega)).mp q2
  have e2 : ¬ z < 0 := fun w => q ((cmp_lt (b := 0) hz (by unfold rJ; omega)).mpr w)
  omega
theorem sp_M_clock_3 {d m n i : Nat} {z : Int} {h : am_H} {σ : sg} {Q : Option am_V → am_H → Prop} (hM : RM h m n σ) (hi : i < n) (h1 : ¬ nI (i + 1) < 1) (h2 : ¬ nI n < nI (i + 1)) (hz : 0 ≤ z ∧ z ≤ 1000000) (ho : 0 ≤ σ 2 (i + 1) ∧ σ 2 (i + 1) ≤ 1000000)
    (hQ : ∀ h', gM m n h (am_u2 σ 2 (i + 1) (clk (σ 2 (i + 1)) z)) h' → Q (some (.inl (iI (clk (σ 2 (i + 1)) z)))) h') : am_PC (d + 2) mi_M_clock [.inr (.inr m), .inl (nI (i + 1)), .inr (.inl (jJ z))] h Q := by
  have hn := hM.1
  refine bk_M_clock ⟨RM_T hM, sp_M_none_ok hM h1 h2 (fun h2 g => ⟨0, rfl, fun _ => ⟨fun q => ?_, fun _ => ⟨fun _ => ?_, fun q => ?_⟩⟩, fun q => absurd rfl q⟩)⟩
  · have := (cmp_lt (b := 0) (a := z) (by unfold rJ; omega) (by unfold rJ; omega)).mp q
    omega
  · have hM2 := g.1
    have hin : vp_in (nI (i + 1)) 17 := vp_in_nI (by omega) (by omega)
    have hcl : (nI (i + 1)).toNatClampNeg = i + 1 := nI_clamp (by omega)
    have fin : ∀ w : Int, w = clk (σ 2 (i + 1)) z → (0 ≤ w ∧ w ≤ 1000000) → ∀ h3, h3 = am_xJ h2 (m + 2) (i + 1) (jJ w) → gM m n h (am_u2 σ 2 (i + 1) (clk (σ 2 (i + 1)) z)) h3 ∧ am_T h3 m = 17 ∧ am_T h3 (m + 2) = 2 ∧ am_R h3 229 m = m + 2 ∧ am_N h3 (m + 2) = 17 ∧ (am_aJ h3 (m + 2) (i + 1)).toInt32 = iI (clk (σ 2 (i + 1)) z) := by
      intro w hw hr h3 e3
      have g3 : gM m n h2 (am_u2 σ 2 (i + 1) w) h3 := by subst e3; exact gM_xJ hM2 (by decide) rfl
      rw [hw] at g3
      refine ⟨gM_tr g g3, RM_T g3.1, RM_T2 g3.1, RM_R229 g3.1, RM_N2 g3.1, ?_⟩
      rw [RM_a2 g3.1, am_u2, if_pos ⟨rfl, rfl⟩, ← hw, jJ_i (by unfold rI; omega)]
    rw [RM_R229 hM2, RM_T2 hM2, RM_N2 hM2, hcl, RM_a2 hM2]
    refine ⟨RM_T hM2, rfl, hin, fun q => ?_, fun q => ?_⟩
    · have q := (cmp_le (a := z) (b := σ 2 (i + 1)) (by unfold rJ; omega) (by unfold rJ; omega)).mp q
      rw [jJ_sub]
      refine ⟨RM_T hM2, RM_T hM2, rfl, hin, fun q2 => ?_, fun q2 => ⟨RM_T hM2, rfl, hin, ?_⟩⟩
      · have q2 := (cmp_le (a := σ 2 (i + 1) - z) (b := 100) (by unfold rJ; omega) (by unfold rJ; omega)).mp q2
        refine bk_M_clock_110 ?_
        rw [RM_T2 hM2, RM_N2 hM2, hcl]
        refine ⟨rfl, hin, fun h3 e3 => ?_⟩
        obtain ⟨k1, k2, k3, k4, k5, k6⟩ := fin z (by unfold clk; rw [if_neg (by omega), if_neg (by omega)]) (by omega) h3 e3
        rw [k4, k3, k5, k6]
        exact ⟨k2, rfl, hin, hQ _ k1⟩
      · have q2 : 100 < σ 2 (i + 1) - z := by
          have := mt (cmp_le (a := σ 2 (i + 1) - z) (b := 100) (by unfold rJ; omega) (by unfold rJ; omega)).mpr q2
          omega
        rw [show (100 : Int64) = jJ 100 from rfl, jJ_sub]
        refine bk_M_clock_110 ?_
        rw [RM_T2 hM2, RM_N2 hM2, hcl]
        refine ⟨rfl, hin, fun h3 e3 => ?_⟩
        obtain ⟨k1, k2, k3, k4, k5, k6⟩ := fin (σ 2 (i + 1) - 100) (by unfold clk; rw [if_neg (by omega), if_pos q2]) (by omega) h3 e3
        rw [k4, k3, k5, k6]
        exact ⟨k2, rfl, hin, hQ _ k1⟩
    · have q : σ 2 (i + 1) < z := by
        have := mt (cmp_le (a := z) (b := σ 2 (i + 1)) (by unfold rJ; omega) (by unfold rJ; omega)).mpr q
        omega
      rw [jJ_sub]
      refine ⟨RM_T hM2, RM_T hM2, rfl, hin, fun q2 => ?_, fun q2 => ⟨RM_T hM2, rfl, hin, ?_⟩⟩
      · have q2 := (cmp_le (a := z - σ 2 (i + 1)) (b := 100) (by unfold rJ; omega) (by unfold rJ; omega)).mp q2
        refine bk_M_clock_72 ?_
        rw [RM_T2 hM2, RM_N2 hM2, hcl]
        refine ⟨rfl, hin, fun h3 e3 => ?_⟩
        obtain ⟨k1, k2, k3, k4, k5, k6⟩ := fin z (by unfold clk; rw [if_pos q, if_neg (by omega)]) (by omega) h3 e3
        rw [k4, k3, k5, k6]
        exact ⟨k2, rfl, hin, hQ _ k1⟩
      · have q2 : 100 < z - σ 2 (i + 1) := by
          have := mt (cmp_le (a := z - σ 2 (i + 1)) (b := 100) (by unfold rJ; omega) (by unfold rJ; omega)).mpr q2
          omega
        rw [show (100 : Int64) = jJ 100 from rfl, jJ_add]
        refine bk_M_clock_72 ?_
        rw [RM_T2 hM2, RM_N2 hM2, hcl]
        refine ⟨rfl, hin, fun h3 e3 => ?_⟩
        obtain ⟨k1, k2, k3, k4, k5, k6⟩ := fin (σ 2 (i + 1) + 100) (by unfold clk; rw [if_pos q, if_pos q2]) (by omega) h3 e3
        rw [k4, k3, k5, k6]
        exact ⟨k2, rfl, hin, hQ _ k1⟩
  · exact absurd ((cmp_le (a := z) (b := 1000000) (by unfold rJ; omega) (by unfold rJ; omega)).mpr hz.2) q
