/-! THE REFERENCE: link, cycle -/
theorem nI_q (p r : Nat) : (8 : Int32) * nI p + nI r = nI (8 * p + r) := by
  rw [show (8 : Int32) = nI 8 from rfl, pk_mul, nI_add]
theorem nI_q16 (p r : Nat) : (16 : Int32) * nI p + nI r = nI (16 * p + r) := by
  rw [show (16 : Int32) = nI 16 from rfl, pk_mul, nI_add]
theorem lp_M_link {d m n p : Nat} {b : Int} {h0 : am_H} {σ : sg} {Q : Option am_V → am_H → Prop} (hp : 1 ≤ p ∧ p ≤ 16) (hQ : ∀ h', gM m n h0 (am_u2 (lzero σ p 8) 24 3 (σ 24 3 + (b + lsum σ p 8))) h' → Q (some (.inl (iI (b + lsum σ p 8)))) h') : ∀ k r h y2 y3, r + k = 8 → gM m n h0 (lzero σ p r) h → am_P d mi_M_link 97 [some (.inr (.inr m)), some (.inl (nI p)), y2, y3, some (.inl (iI (b + lsum σ p r))), some (.inl (nI r))] [] h Q := by
  intro k
  induction k with
  | zero =>
    intro r h y2 y3 hr g
    have hr : r = 8 := by omega
    subst hr
    have hM := g.1
    refine bk_M_link_97 ⟨fun _ => ?_, fun q => absurd (Int32.le_refl 8) q⟩
    rw [RM_R254 hM, RM_T24 hM, RM_N24 hM, RM_a24 hM, iI_add, show (3 : Int32).toNatClampNeg = 3 from rfl]
    refine ⟨RM_T hM, RM_T hM, Or.inl rfl, vp_in_nI (n := 3) (by decide) (by decide), rfl, vp_in_nI (n := 3) (by decide) (by decide), fun h1 e1 => hQ h1 ?_⟩
    have g1 : gM m n h (am_u2 (lzero σ p 8) 24 3 (lzero σ p 8 24 3 + (b + lsum σ p 8))) h1 := by subst e1; exact gM_xI hM (by decide) rfl
    rw [lzero_ne (show ¬ 24 = 7 by decide)] at g1
    exact gM_tr g g1
  | succ k ih =>
    intro r h y2 y3 hr g
    have hM := g.1
    refine bk_M_link_97 ⟨fun q => absurd q (nI_ge (a := r) (b := 8) (by omega) (by omega)), fun _ => ?_⟩
    rw [nI_q, nI_clamp (by omega), RM_R234 hM, RM_T7 hM, RM_N7 hM, RM_a7 hM, lzero_ge (Nat.le_refl r), iI_add, nI_1]
    have hin : vp_in (nI (8 * p + r)) 136 := vp_in_nI (by omega) (by omega)
    refine ⟨RM_T hM, Or.inl rfl, hin, RM_T hM, rfl, hin, fun h2 e2 => ?_⟩
    have g2 : gM m n h (lzero σ p (r + 1)) h2 := by subst e2; exact gM_xI (v := 0) hM (by decide) rfl
    rw [Int.add_assoc]
    exact ih (r + 1) h2 _ _ (by omega) (gM_tr g g2)
theorem lsum_eq {σ σ' : sg} {p k : Nat} (h : ∀ j, σ' 7 j = σ 7 j) : lsum σ' p k = lsum σ p k := by
  induction k with
  | zero => rfl
  | succ k ih => rw [lsum, lsum, ih, h]
theorem sp_M_link {d m n : Nat} {p v : Int} {h : am_H} {σ : sg} {Q : Option am_V → am_H → Prop} (hM : RM h m n σ) (hp : rI p) (hv : rJ v) (h1 : ∀ j, j < 17 → 0 ≤ σ 1 j ∧ σ 1 j ≤ 10000) (h3 : ∀ j, j < 17 → 0 ≤ σ 3 j ∧ σ 3 j ≤ 5000)
    (hQ : ∀ h', gM m n h (f_link n σ p v).2 h' → Q (some (.inl (iI (f_link n σ p v).1))) h') : am_PC (d + 2) mi_M_link [.inr (.inr m), .inl (iI p), .inr (.inl (jJ v))] h Q := by
  have hn := hM.1
  have hq : ∀ (x : Int × sg) (w : Int32) h', iI x.1 = w → f_link n σ p v = x → gM m n h x.2 h' → Q (some (.inl w)) h' := fun x w h' e1 e g => by subst e1; subst e; exact hQ h' g
  refine bk_M_link ⟨RM_T hM, sp_M_none hM hp (fun c h2 g => ⟨1, rfl, fun q => absurd q (by decide), fun _ => hq (-1, σ) _ _ im1 (by unfold f_link; rw [if_pos c]) g⟩) (fun c h2 g => ⟨0, rfl, fun _ => ?_, fun q => absurd rfl q⟩)⟩
  have hM2 := g.1
  have bad : (v < 0 ∨ 10000 < v) → Q (some (.inl (-2))) h2 := fun c2 => hq (-2, σ) _ _ im2 (by unfold f_link; rw [if_neg c, if_pos c2]) g
  obtain ⟨k, rfl⟩ := Int.eq_ofNat_of_zero_le (show 0 ≤ p by omega)
  have hk : k < 17 := by omega
  have hka : ((k : Nat) : Int).toNat = k := rfl
  have hin : vp_in (nI k) 17 := vp_in_nI hk (by omega)
  have b1 := h1 k hk
  have b3 := h3 k hk
  rw [iI_nat, nI_clamp (by omega)]
  have rest : ¬ (v < 0 ∨ 10000 < v) → ¬ (0 < σ 3 k ∧ 0 < v ∧ v ≠ σ 1 k) → am_P (d + 1) mi_M_link 56 [some (.inr (.inr m)), some (.inl (nI k)), some (.inr (.inl (jJ v))), none, none, none] [] h2 Q := by
    intro c2 c3
    refine bk_M_link_56 ?_
    rw [RM_R228 hM2, RM_T1 hM2, RM_N1 hM2, nI_clamp (by omega)]
    refine ⟨RM_T hM2, rfl, hin, fun h4 e4 => ?_⟩
    have g4 : gM m n h2 (am_u2 σ 1 k v) h4 := by subst e4; exact gM_xJ hM2 (by decide) rfl
    have hM4 := g4.1
    rw [RM_R230 hM4, RM_T3 hM4, RM_N3 hM4, RM_a3 hM4, u2_ne (by decide)]
    refine ek_if (cmp_le (b := 0) hv (by unfold rJ; omega)) (fun q => ⟨RM_T hM4, Or.inl rfl, hin, ?_⟩) (fun q => hq (0, am_u2 σ 1 k v) _ _ rfl (by unfold f_link; rw [if_neg c, if_neg c2, hka, if_neg c3, if_pos (by omega)]) (gM_tr g g4))
    have fin : ∀ b : Int, b = (if 0 < σ 3 k then 1 else 0) → am_P (d + 1) mi_M_link 85 [some (.inr (.inr m)), some (.inl (nI k)), some (.inr (.inl (jJ v))), none, none, none] [.inl (iI b)] h4 Q := by
      intro b hb
      refine bk_M_link_85 ?_
      rw [RM_R230 hM4, RM_T3 hM4, RM_N3 hM4, nI_clamp (by omega)]
      refine ⟨RM_T hM4, rfl, hin, fun h5 e5 => ?_⟩
      have g5 : gM m n h4 (am_u2 (am_u2 σ 1 k v) 3 k 0) h5 := by subst e5; exact gM_xI (v := 0) hM4 (by decide) rfl
      have := lp_M_link (d := d + 1) (m := m) (n := n) (p := k) (b := b) (h0 := h5) (σ := am_u2 (am_u2 σ 1 k v) 3 k 0) (Q := Q) (by omega) (fun h6 g6 => ?_) 8 0 h5 none none rfl (gM_rf g5.1)
      · rw [lsum, Int.add_zero] at this
        exact this
      · have e7 : lsum (am_u2 (am_u2 σ 1 k v) 3 k 0) k 8 = lsum σ k 8 := lsum_eq (fun j => by rw [u2_ne (by decide), u2_ne (by decide)])
        rw [e7] at g6 ⊢
        rw [u2_ne (by decide), u2_ne (by decide)] at g6
        exact hq (b + lsum σ k 8, am_u2 (lzero (am_u2 (am_u2 σ 1 k v) 3 k 0) k 8) 24 3 (σ 24 3 + (b + lsum σ k 8))) _ _ rfl (by unfold f_link; rw [if_neg c, if_neg c2, hka, if_neg c3, if_neg (by omega), hb]) (gM_tr (gM_tr (gM_tr g g4) g5) g6)
    exact ek_if (iI_le (b := 0) (by unfold rI; omega) (by unfold rI; omega)) (fun q2 => fin 0 (by rw [if_neg (by omega)])) (fun q2 => fin 1 (by rw [if_pos (by omega)]))
  refine ek_if (cmp_lt (b := 0) hv (by unfold rJ; omega)) (fun q => bad (by omega)) (fun q => ek_if (cmp_le (b := 10000) hv (by unfold rJ; omega)) (fun q2 => ⟨RM_T hM2, ?_⟩) (fun q2 => bad (by omega)))
  rw [RM_R230 hM2, RM_T3 hM2, RM_N3 hM2, RM_a3 hM2, RM_R228 hM2, RM_T1 hM2, RM_N1 hM2, RM_a1 hM2]
  exact ⟨Or.inl rfl, hin, ek_if (iI_le (b := 0) (by unfold rI; omega) (by unfold rI; omega)) (fun q3 => rest (by omega) (by omega)) (fun q3 => ek_if (cmp_le (b := 0) hv (by unfold rJ; omega)) (fun q4 => rest (by omega) (by omega)) (fun q4 => ⟨RM_T hM2, rfl, hin, ek_if (cmp_eq hv (by unfold rJ; omega)) (fun q5 => rest (by omega) (by omega)) (fun q5 => hq (-3, σ) _ _ im3 (by unfold f_link; rw [if_neg c, if_neg (by omega), hka, if_pos (by omega)]) g)⟩))⟩
/-- cycle: a window ends behind v -/
def wover (σ : sg) (v : Int) : Prop := ∃ q k : Nat, 8 ≤ q ∧ q < 136 ∧ (k : Int) < σ 9 q ∧ v < σ 11 (8 * q + k)
theorem lp_M_cycle35 {d m n q : Nat} {v : Int} {h : am_H} {σ : sg} {Q : Option am_V → am_H → Prop} (hM : RM h m n σ) (hv : rJ v) (hq : 8 ≤ q ∧ q < 136) (h9 : 0 ≤ σ 9 q ∧ σ 9 q ≤ 8) (h11 : ∀ j, j < 1088 → rJ (σ 11 j)) (hbad : wover σ v → Q (some (.inl (-2))) h)
    (hok : (∀ k : Nat, (k : Int) < σ 9 q → ¬ v < σ 11 (8 * q + k)) → ∀ y2 y4, am_P d mi_M_cycle 25 [some (.inr (.inr m)), some (.inr (.inl (jJ v))), y2, some (.inl (nI (q + 1))), y4] [] h Q) : ∀ (j k : Nat) (y2 : Option am_V), (k : Int) + j = σ 9 q → (∀ k' : Nat, k' < k → ¬ v < σ 11 (8 * q + k')) → am_P d mi_M_cycle 35 [some (.inr (.inr m)), some (.inr (.inl (jJ v))), y2, some (.inl (nI q)), some (.inl (nI k))] [] h Q := by
  intro j
  have hin : vp_in (nI q) 136 := vp_in_nI hq.2 (by omega)
  induction j with
  | zero =>
    intro k y2 hk hs
    refine bk_M_cycle_35 ?_
    rw [RM_R236 hM, RM_T9 hM, RM_N9 hM, nI_clamp (by omega), RM_a9 hM, nI_1]
    refine ⟨RM_T hM, Or.inl rfl, hin, fun _ => hok (fun k' hk' => hs k' (by omega)) _ _, fun z => absurd ?_ z⟩
    rw [← iI_nat k]
    exact (iI_le (by unfold rI; omega) (by unfold rI; omega)).mpr (by omega)
  | succ j ih =>
    intro k y2 hk hs
    refine bk_M_cycle_35 ?_
    rw [RM_R236 hM, RM_T9 hM, RM_N9 hM, nI_clamp (by omega), RM_a9 hM, nI_1 q, nI_1 k, nI_q, RM_R238 hM, RM_T11 hM, RM_N11 hM, nI_clamp (by omega), RM_a11 hM]
    refine ⟨RM_T hM, Or.inl rfl, hin, fun z => ?_, fun _ => ⟨RM_T hM, rfl, vp_in_nI (by omega) (by omega), ek_if (cmp_le (h11 _ (by omega)) hv) (fun c => ?_) (fun c => hbad ⟨q, k, hq.1, hq.2, by omega, by omega⟩)⟩⟩
    · rw [← iI_nat k, iI_le (by unfold rI; omega) (by unfold rI; omega)] at z
      omega
    · refine ih (k + 1) _ (by omega) (fun k' hk' => ?_)
      rcases Nat.lt_or_eq_of_le (Nat.lt_succ_iff.mp hk') with z | z
      · exact hs k' z
      · subst z; omega
theorem lp_M_cycle25 {d m n : Nat} {v : Int} {h : am_H} {σ : sg} {Q : Option am_V → am_H → Prop} (hM : RM h m n σ) (hv : rJ v) (h9 : ∀ j, j < 136 → 0 ≤ σ 9 j ∧ σ 9 j ≤ 8) (h11 : ∀ j, j < 1088 → rJ (σ 11 j)) (hbad : wover σ v → Q (some (.inl (-2))) h)
    (hzero : ¬ wover σ v → v = 0 → ∀ h', h' = am_sI h 224 m 1 → Q (some (.inl 0)) h') (hpos : ¬ wover σ v → ¬ v = 0 → ∀ h', h' = am_sJ (am_sI h 224 m 0) 226 m (jJ v) → Q (some (.inl 1)) h') : ∀ j q y2 y4, q + j = 136 → 8 ≤ q → (∀ q' k : Nat, 8 ≤ q' → q' < q → (k : Int) < σ 9 q' → ¬ v < σ 11 (8 * q' + k)) → am_P d mi_M_cycle 25 [some (.inr (.inr m)), some (.inr (.inl (jJ v))), y2, some (.inl (nI q)), y4] [] h Q := by
  intro j
  induction j with
  | zero =>
    intro q y2 y4 hq h8 hs
    have hq : q = 136 := by omega
    subst hq
    have hno : ¬ wover σ v := by
      rintro ⟨q', k, a1, a2, a3, a4⟩
      exact hs q' k a1 a2 a3 a4
    refine bk_M_cycle_25 ⟨fun _ => ek_if (cmp_eq (b := 0) hv (by unfold rJ; omega)) (fun c => ?_) (fun c => ?_), fun z => absurd (Int32.le_refl _) z⟩
    · refine bk_M_cycle_90 ⟨RM_T hM, fun h1 e1 => ?_⟩
      have hM1 : RM h1 m n σ := by subst e1; exact RM_code hM
      have e2 : am_I h1 224 m = 1 := by subst e1; rw [hp_I_sI, if_pos ⟨rfl, rfl⟩]
      rw [e2]
      exact ⟨RM_T hM1, fun z => absurd z (by decide), fun _ => hzero hno c h1 e1⟩
    · refine bk_M_cycle_90 ⟨RM_T hM, fun h1 e1 => ?_⟩
      have hM1 : RM h1 m n σ := by subst e1; exact RM_code hM
      have e2 : am_I h1 224 m = 0 := by subst e1; rw [hp_I_sI, if_pos ⟨rfl, rfl⟩]
      rw [e2]
      exact ⟨RM_T hM1, fun _ => ⟨RM_T hM1, fun h2 e3 => hpos hno c h2 (by rw [e3, e1])⟩, fun z => absurd (Int32.le_refl _) z⟩
  | succ j ih =>
    intro q y2 y4 hq h8 hs
    refine bk_M_cycle_25 ⟨fun z => absurd z (nI_ge (a := q) (b := 136) (by omega) (by omega)), fun _ => ?_⟩
    have hw := h9 q (by omega)
    have := lp_M_cycle35 (d := d) (m := m) (n := n) (q := q) (Q := Q) hM hv ⟨h8, by omega⟩ hw h11 hbad (fun hs2 y2 y4 => ih (q + 1) y2 y4 (by omega) (by omega) (fun q' k a1 a2 a3 => ?_)) (σ 9 q).toNat 0 none (by omega) (fun k' hk' => by omega)
    · exact this
    · rcases Nat.lt_or_eq_of_le (Nat.lt_succ_iff.mp a2) with z | z
      · exact hs q' k a1 z a3
      · subst z; exact hs2 k a3
theorem sp_M_cycle {d m n : Nat} {v : Int} {h : am_H} {σ : sg} {Q : Option am_V → am_H → Prop} (hM : RM h m n σ) (hv : rJ v) (h9 : ∀ j, j < 136 → 0 ≤ σ 9 j ∧ σ 9 j ≤ 8) (h11 : ∀ j, j < 1088 → rJ (σ 11 j))
    (hbad : (v < 0 ∨ 1000000 < v ∨ wover σ v) → ∀ h', gM m n h σ h' → am_I h' 224 m = 0 → Q (some (.inl (-2))) h')
    (hzero : ¬ (v < 0 ∨ 1000000 < v ∨ wover σ v) → v = 0 → ∀ h', gM m n h σ h' → am_I h' 224 m = 1 → Q (some (.inl 0)) h')
    (hpos : ¬ (v < 0 ∨ 1000000 < v ∨ wover σ v) → ¬ v = 0 → ∀ h', gM m n h (am_u2 σ 0 1 v) h' → am_I h' 224 m = 0 → Q (some (.inl 1)) h') : am_PC (d + 1) mi_M_cycle [.inr (.inr m), .inr (.inl (jJ v))] h Q := by
  refine bk_M_cycle ⟨RM_T hM, fun h1 e1 => ?_⟩
  have g1 : gM m n h σ h1 := by subst e1; exact gM_code hM
  have ec : am_I h1 224 m = 0 := by subst e1; rw [hp_I_sI, if_pos ⟨rfl, rfl⟩]
  refine ek_if (cmp_lt (b := 0) hv (by unfold rJ; omega)) (fun q => hbad (Or.inl q) _ g1 ec) (fun q => ek_if (cmp_le (b := 1000000) hv (by unfold rJ; omega)) (fun q2 => ?_) (fun q2 => hbad (Or.inr (Or.inl (by omega))) _ g1 ec))
  refine lp_M_cycle25 g1.1 hv h9 h11 (fun w => hbad (Or.inr (Or.inr w)) _ g1 ec) (fun w z h2 e2 => ?_) (fun w z h2 e2 => ?_) 128 8 none none rfl (Nat.le_refl _) (fun q' k a1 a2 => by omega)
  · refine hzero (fun y => ?_) z h2 (gM_tr g1 (by subst e2; exact gM_code g1.1)) (by subst e2; rw [hp_I_sI, if_pos ⟨rfl, rfl⟩])
    rcases y with y | y | y
    · exact q y
    · omega
    · exact w y
  · have g3 : gM m n h1 σ (am_sI h1 224 m 0) := gM_code g1.1
    have g4 : gM m n (am_sI h1 224 m 0) (am_u2 σ 0 1 v) h2 := by subst e2; exact ⟨RM_cyc g3.1, kp_sJ (NM_0 m)⟩
    refine hpos (fun y => ?_) z h2 (gM_tr (gM_tr g1 g3) g4) (by subst e2; rw [hp_I_sJ, hp_I_sI, if_pos ⟨rfl, rfl⟩])
    rcases y with y | y | y
    · exact q y
    · omega
    · exact w y
theorem sp_M_thrown {d m n : Nat} {h : am_H} {σ : sg} {Q : Option am_V → am_H → Prop} (hM : RM h m n σ) (hQ : Q (some (.inl (am_I h 224 m))) h) : am_PC (d + 1) mi_M_thrown [.inr (.inr m)] h Q := bk_M_thrown ⟨RM_T hM, hQ⟩
