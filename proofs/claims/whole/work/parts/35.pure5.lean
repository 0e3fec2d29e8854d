theorem im1 : iI (-1) = -1 := by decide
theorem jm1 : jJ (-1) = -1 := by decide
theorem iI_eqm {a : Int} (h : rI a) : iI a = -1 ↔ a = -1 := by rw [← im1]; exact iI_eq h (by unfold rI; omega)
theorem im2 : iI (-2) = -2 := by decide
theorem im3 : iI (-3) = -3 := by decide
theorem im4 : iI (-4) = -4 := by decide
/-! THE REFERENCE: dropped, left, service, learn, filter, credit, as functions of the state -/
def f_dropped (σ : sg) (w : Int) : Int := if w < 0 ∨ 3 < w then -2 else σ 24 w.toNat
theorem sp_M_dropped {d m n : Nat} {w : Int} {h : am_H} {σ : sg} {Q : Option am_V → am_H → Prop} (hM : RM h m n σ) (hw : rI w) (hQ : ∀ h', gM m n h σ h' → Q (some (.inl (iI (f_dropped σ w)))) h') : am_PC (d + 1) mi_M_dropped [.inr (.inr m), .inl (iI w)] h Q := by
  refine bk_M_dropped ⟨RM_T hM, fun h1 e1 => ?_⟩
  have g : gM m n h σ h1 := by subst e1; exact gM_code hM
  have hM1 := g.1
  have hq : ∀ (r : Int) (v : Int32), iI r = v → f_dropped σ w = r → Q (some (.inl v)) h1 := fun r v e1 e => by subst e1; subst e; exact hQ _ g
  rw [RM_R254 hM1, RM_T24 hM1, RM_N24 hM1]
  refine ek_if (iI_lt (b := 0) hw (by unfold rI; omega)) (fun q => hq (-2) _ im2 (by unfold f_dropped; rw [if_pos (Or.inl q)])) (fun q => ek_if (iI_le (b := 3) hw (by unfold rI; omega)) (fun q2 => ⟨RM_T hM1, Or.inl rfl, iI_in (by omega) (by omega) (by omega), ?_⟩) (fun q2 => hq (-2) _ im2 (by unfold f_dropped; rw [if_pos (by omega)])))
  rw [iI_clamp (by omega) hw, RM_a24 hM1]
  exact hq _ _ rfl (by unfold f_dropped; rw [if_neg (by omega)])
def f_left (σ : sg) (i w : Int) : Int := if i = -1 ∧ w = 0 then σ 0 3 else if i < 0 ∨ σ 0 4 ≤ i then -1 else if w < 0 ∨ 3 < w then -2 else σ 23 (4 * i + w).toNat
theorem sp_M_left {d m n : Nat} {i w : Int} {h : am_H} {σ : sg} {Q : Option am_V → am_H → Prop} (hM : RM h m n σ) (hi : rI i) (hw : rI w) (h4 : 0 ≤ σ 0 4 ∧ σ 0 4 ≤ 5000) (hQ : ∀ h', gM m n h σ h' → Q (some (.inl (iI (f_left σ i w)))) h') : am_PC (d + 1) mi_M_left [.inr (.inr m), .inl (iI i), .inl (iI w)] h Q := by
  refine bk_M_left ⟨RM_T hM, fun h1 e1 => ?_⟩
  have g : gM m n h σ h1 := by subst e1; exact gM_code hM
  have hM1 := g.1
  have hq : ∀ (r : Int) (v : Int32), iI r = v → f_left σ i w = r → Q (some (.inl v)) h1 := fun r v e1 e => by subst e1; subst e; exact hQ _ g
  have rest : ¬ (i = -1 ∧ w = 0) → am_P d mi_M_left 19 [some (.inr (.inr m)), some (.inl (iI i)), some (.inl (iI w))] [] h1 Q := by
    intro q0
    refine bk_M_left_19 ?_
    rw [RM_R253 hM1, RM_T23 hM1, RM_N23 hM1, RM_I252 hM1]
    refine ek_if (iI_lt (b := 0) hi (by unfold rI; omega)) (fun q => hq (-1) _ im1 (by unfold f_left; rw [if_neg q0, if_pos (Or.inl q)])) (fun q => ⟨RM_T hM1, ek_if (iI_lt hi (by unfold rI; omega)) (fun q2 => ?_) (fun q2 => hq (-1) _ im1 (by unfold f_left; rw [if_neg q0, if_pos (by omega)]))⟩)
    refine ek_if (iI_lt (b := 0) hw (by unfold rI; omega)) (fun q3 => hq (-2) _ im2 (by unfold f_left; rw [if_neg q0, if_neg (by omega), if_pos (by omega)])) (fun q3 => ek_if (iI_le (b := 3) hw (by unfold rI; omega)) (fun q4 => ⟨RM_T hM1, Or.inl rfl, ?_⟩) (fun q4 => hq (-2) _ im2 (by unfold f_left; rw [if_neg q0, if_neg (by omega), if_pos (by omega)])))
    rw [show (4 : Int32) = iI 4 from rfl, iI_mul, iI_add, iI_clamp (by omega) (by unfold rI; omega), RM_a23 hM1]
    exact ⟨iI_in (by omega) (by omega) (by omega), hq _ _ rfl (by unfold f_left; rw [if_neg q0, if_neg (by omega), if_neg (by omega)])⟩
  refine ek_if (iI_eqm hi) (fun q => ek_if (iI_eq (b := 0) hw (by unfold rI; omega)) (fun q2 => ⟨RM_T hM1, ?_⟩) (fun q2 => rest (fun z => q2 z.2))) (fun q => rest (fun z => q z.1))
  rw [RM_I251 hM1]
  exact hq _ _ rfl (by unfold f_left; rw [if_pos ⟨q, q2⟩])
/-- none, in whole numbers -/
theorem iI_p1 {p : Int} (hp : rI p) : iI p < 1 ↔ p < 1 := iI_lt (b := 1) hp (by unfold rI; omega)
theorem iI_pn {p : Int} {n : Nat} (hp : rI p) (hn : n ≤ 16) : nI n < iI p ↔ (n : Int) < p := by
  rw [← iI_nat]; exact iI_lt (by unfold rI; omega) hp
theorem sp_M_none {d m n : Nat} {p : Int} {h : am_H} {σ : sg} {Q : Option am_V → am_H → Prop} (hM : RM h m n σ) (hp : rI p) (hbad : (p < 1 ∨ (n : Int) < p) → ∀ h', gM m n h σ h' → Q (some (.inl 1)) h') (hok : ¬ (p < 1 ∨ (n : Int) < p) → ∀ h', gM m n h σ h' → Q (some (.inl 0)) h') : am_PC (d + 1) mi_M_none [.inr (.inr m), .inl (iI p)] h Q := by
  by_cases c : p < 1 ∨ (n : Int) < p
  · refine sp_M_none_bad hM ?_ (hbad c)
    rw [iI_p1 hp, iI_pn hp hM.1.2]
    omega
  · refine sp_M_none_ok hM ?_ ?_ (hok c)
    · rw [iI_p1 hp]; omega
    · rw [iI_pn hp hM.1.2]; omega
def f_service (n : Nat) (σ : sg) (o f : Int) : Int × sg :=
  if o ≠ 0 ∧ (f < 1 ∨ (n : Int) < f) then (-1, σ) else if o < 0 ∨ 100 < o ∨ (o = 0 ∧ (f < 1 ∨ 100 < f)) then (-2, σ)
  else if 0 < o then (f, am_u2 (am_u2 σ 21 o.toNat f) 22 o.toNat (σ 0 0 + 1000)) else (if 0 < σ 21 f.toNat ∧ σ 0 0 < σ 22 f.toNat then σ 21 f.toNat else 0, σ)
theorem sp_M_service {d m n : Nat} {o f : Int} {h : am_H} {σ : sg} {Q : Option am_V → am_H → Prop} (hM : RM h m n σ) (ho : rI o) (hf : rI f) (ht : 0 ≤ σ 0 0 ∧ σ 0 0 ≤ 2000000) (h21 : ∀ j, j ≤ 100 → rI (σ 21 j)) (h22 : ∀ j, j ≤ 100 → rJ (σ 22 j))
    (hQ : ∀ h', gM m n h (f_service n σ o f).2 h' → Q (some (.inl (iI (f_service n σ o f).1))) h') : am_PC (d + 2) mi_M_service [.inr (.inr m), .inl (iI o), .inl (iI f)] h Q := by
  have hq : ∀ (r : Int × sg) (v : Int32) h', iI r.1 = v → f_service n σ o f = r → gM m n h r.2 h' → Q (some (.inl v)) h' := fun r v h' e1 e g => by subst e1; subst e; exact hQ h' g
  refine bk_M_service ⟨RM_T hM, fun h1 e1 => ?_⟩
  have g1 : gM m n h σ h1 := by subst e1; exact gM_code hM
  have rest : ∀ h2, gM m n h σ h2 → ¬ (o ≠ 0 ∧ (f < 1 ∨ (n : Int) < f)) → am_P (d + 1) mi_M_service 19 [some (.inr (.inr m)), some (.inl (iI o)), some (.inl (iI f))] [] h2 Q := by
    intro h2 g2 q0
    have hM2 := g2.1
    have r2 : ¬ (o < 0 ∨ 100 < o ∨ (o = 0 ∧ (f < 1 ∨ 100 < f))) → am_P (d + 1) mi_M_service 47 [some (.inr (.inr m)), some (.inl (iI o)), some (.inl (iI f))] [] h2 Q := by
      intro q1
      refine bk_M_service_47 ?_
      rw [RM_R249 hM2, RM_R250 hM2, RM_T21 hM2, RM_T22 hM2, RM_N21 hM2, RM_N22 hM2, RM_J227 hM2]
      refine ek_if (iI_le (b := 0) ho (by unfold rI; omega)) (fun q => ?_) (fun q => ?_)
      · have hfn : f.toNat ≤ 100 := by omega
        rw [iI_clamp (by omega) hf, RM_a21 hM2, RM_a22 hM2]
        have hin : vp_in (iI f) 101 := iI_in (by omega) (by omega) (by omega)
        refine ⟨RM_T hM2, Or.inl rfl, hin, ek_if (iI_le (b := 0) (h21 _ hfn) (by unfold rI; omega)) (fun q2 => hq (0, σ) _ _ rfl (by unfold f_service; rw [if_neg q0, if_neg q1, if_neg (by omega), if_neg (by omega)]) g2) (fun q2 => ⟨RM_T hM2, rfl, hin, RM_T hM2, ek_if (cmp_le (h22 _ hfn) (by unfold rJ; omega)) (fun q3 => hq (0, σ) _ _ rfl (by unfold f_service; rw [if_neg q0, if_neg q1, if_neg (by omega), if_neg (by omega)]) g2) (fun q3 => ⟨RM_T hM2, Or.inl rfl, hin, hq (σ 21 f.toNat, σ) _ _ rfl (by unfold f_service; rw [if_neg q0, if_neg q1, if_neg (by omega), if_pos (by omega)]) g2⟩)⟩)⟩
      · rw [iI_clamp (by omega) ho]
        have hin : vp_in (iI o) 101 := iI_in (by omega) (by omega) (by omega)
        refine ⟨RM_T hM2, rfl, hin, fun h3 e3 => ?_⟩
        have g3 : gM m n h2 (am_u2 σ 21 o.toNat f) h3 := by subst e3; exact gM_xI hM2 (by decide) rfl
        have hM3 := g3.1
        rw [RM_R250 hM3, RM_T22 hM3, RM_N22 hM3, RM_J227 hM3]
        refine ⟨RM_T hM3, RM_T hM3, rfl, hin, fun h4 e4 => ?_⟩
        have g4 : gM m n h3 (am_u2 (am_u2 σ 21 o.toNat f) 22 o.toNat (σ 0 0 + 1000)) h4 := by
          rw [show (1000 : Int64) = jJ 1000 from rfl, jJ_add] at e4
          subst e4
          exact gM_xJ hM3 (by decide) rfl
        exact hq (f, am_u2 (am_u2 σ 21 o.toNat f) 22 o.toNat (σ 0 0 + 1000)) _ _ rfl (by unfold f_service; rw [if_neg q0, if_neg q1, if_pos (by omega)]) (gM_tr (gM_tr g2 g3) g4)
    refine bk_M_service_19 ?_
    have bad : (o < 0 ∨ 100 < o ∨ (o = 0 ∧ (f < 1 ∨ 100 < f))) → Q (some (.inl (-2))) h2 := fun c => hq (-2, σ) _ _ im2 (by unfold f_service; rw [if_neg q0, if_pos c]) g2
    refine ek_if (iI_lt (b := 0) ho (by unfold rI; omega)) (fun q => bad (by omega)) (fun q => ek_if (iI_lt (a := 100) (by unfold rI; omega) ho) (fun q2 => bad (by omega)) (fun q2 => ek_if (iI_eq (b := 0) ho (by unfold rI; omega)) (fun q3 => ek_if (iI_lt (b := 1) hf (by unfold rI; omega)) (fun q4 => bad (by omega)) (fun q4 => ek_if (iI_le (b := 100) hf (by unfold rI; omega)) (fun q5 => r2 (by omega)) (fun q5 => bad (by omega)))) (fun q3 => r2 (by omega))))
  refine ek_if (iI_eq (b := 0) ho (by unfold rI; omega)) (fun q => rest h1 g1 (by omega)) (fun q => ⟨RM_T g1.1, sp_M_none g1.1 hf (fun c h2 g2 => ⟨1, rfl, fun z => absurd z (by decide), fun _ => hq (-1, σ) _ _ im1 (by unfold f_service; rw [if_pos (by omega)]) (gM_tr g1 g2)⟩) (fun c h2 g2 => ⟨0, rfl, fun _ => rest h2 (gM_tr g1 g2) (by omega), fun z => absurd rfl z⟩)⟩)
/-- where an address is now: 0 nowhere -/
def f_at (σ : sg) (a : Nat) : Int := if 0 < σ 16 a ∧ (σ 17 a = -1 ∨ σ 0 0 - σ 17 a < 3000) then σ 16 a else 0
theorem sp_M_isAt {d m n a : Nat} {h : am_H} {σ : sg} {Q : Option am_V → am_H → Prop} (hM : RM h m n σ) (ha : a ≤ 1000) (ht : 0 ≤ σ 0 0 ∧ σ 0 0 ≤ 2000000) (h16 : rI (σ 16 a)) (h17 : -1 ≤ σ 17 a ∧ σ 17 a ≤ 2000000) (h1 : (0 < σ 16 a ∧ (σ 17 a = -1 ∨ σ 0 0 - σ 17 a < 3000)) → Q (some (.inl 1)) h) (h0 : ¬ (0 < σ 16 a ∧ (σ 17 a = -1 ∨ σ 0 0 - σ 17 a < 3000)) → Q (some (.inl 0)) h) : am_PC (d + 1) mi_M_isAt [.inr (.inr m), .inl (nI a)] h Q := by
  refine bk_M_isAt ?_
  have hin : vp_in (nI a) 1001 := vp_in_nI (by omega) (by omega)
  rw [RM_R244 hM, RM_R245 hM, RM_T16 hM, RM_T17 hM, RM_N16 hM, RM_N17 hM, RM_J227 hM, nI_clamp (by omega), RM_a16 hM, RM_a17 hM, jJ_sub, ← jm1]
  exact ⟨RM_T hM, Or.inl rfl, hin, ek_if (iI_le (b := 0) h16 (by unfold rI; omega)) (fun q => ⟨Or.inl rfl, h0 (by omega)⟩) (fun q => ⟨RM_T hM, rfl, hin, ek_if (cmp_eq (b := -1) (by unfold rJ; omega) (by unfold rJ; omega)) (fun q2 => ⟨Or.inr rfl, h1 (by omega)⟩) (fun q2 => ⟨RM_T hM, RM_T hM, rfl, hin, ek_if (cmp_ge (b := 3000) (by unfold rJ; omega) (by unfold rJ; omega)) (fun q3 => ⟨Or.inl rfl, h0 (by omega)⟩) (fun q3 => ⟨Or.inr rfl, h1 (by omega)⟩)⟩)⟩)⟩
def f_learn (n : Nat) (σ : sg) (a p t : Int) : Int × sg :=
  if p < 1 ∨ (n : Int) < p then (-1, σ) else if a < 1 ∨ 1000 < a ∨ t < -1 ∨ σ 0 0 < t then (-2, σ) else if 0 < σ 16 a.toNat ∧ σ 17 a.toNat = -1 ∧ t ≠ -1 then (-3, σ)
  else (f_at σ a.toNat, am_u2 (am_u2 σ 16 a.toNat p) 17 a.toNat t)
theorem sp_M_learn {d m n : Nat} {a p t : Int} {h : am_H} {σ : sg} {Q : Option am_V → am_H → Prop} (hM : RM h m n σ) (ha : rI a) (hp : rI p) (ht1 : rJ t) (ht : 0 ≤ σ 0 0 ∧ σ 0 0 ≤ 2000000) (h16 : ∀ j, j ≤ 1000 → rI (σ 16 j)) (h17 : ∀ j, j ≤ 1000 → -1 ≤ σ 17 j ∧ σ 17 j ≤ 2000000)
    (hQ : ∀ h', gM m n h (f_learn n σ a p t).2 h' → Q (some (.inl (iI (f_learn n σ a p t).1))) h') : am_PC (d + 2) mi_M_learn [.inr (.inr m), .inl (iI a), .inl (iI p), .inr (.inl (jJ t))] h Q := by
  have hq : ∀ (r : Int × sg) (v : Int32) h', iI r.1 = v → f_learn n σ a p t = r → gM m n h r.2 h' → Q (some (.inl v)) h' := fun r v h' e1 e g => by subst e1; subst e; exact hQ h' g
  refine bk_M_learn ⟨RM_T hM, sp_M_none hM hp (fun c h2 g2 => ⟨1, rfl, fun z => absurd z (by decide), fun _ => hq (-1, σ) _ _ im1 (by unfold f_learn; rw [if_pos c]) g2⟩) (fun c h2 g2 => ⟨0, rfl, fun _ => ?_, fun z => absurd rfl z⟩)⟩
  have hM2 := g2.1
  have bad : (a < 1 ∨ 1000 < a ∨ t < -1 ∨ σ 0 0 < t) → Q (some (.inl (-2))) h2 := fun c2 => hq (-2, σ) _ _ im2 (by unfold f_learn; rw [if_neg c, if_pos c2]) g2
  rw [RM_R244 hM2, RM_R245 hM2, RM_T16 hM2, RM_T17 hM2, RM_N16 hM2, RM_N17 hM2, RM_J227 hM2, ← jm1]
  refine ek_if (iI_lt (b := 1) ha (by unfold rI; omega)) (fun q => bad (by omega)) (fun q => ek_if (iI_lt (a := 1000) (by unfold rI; omega) ha) (fun q2 => bad (by omega)) (fun q2 => ek_if (cmp_lt (b := -1) ht1 (by unfold rJ; omega)) (fun q3 => bad (by omega)) (fun q3 => ⟨RM_T hM2, ek_if (cmp_le ht1 (by unfold rJ; omega)) (fun q4 => ?_) (fun q4 => bad (by omega))⟩)))
  have c2 : ¬ (a < 1 ∨ 1000 < a ∨ t < -1 ∨ σ 0 0 < t) := by omega
  obtain ⟨k, rfl⟩ := Int.eq_ofNat_of_zero_le (show 0 ≤ a by omega)
  have hk : k ≤ 1000 := by omega
  have hka : (k : Int).toNat = k := rfl
  rw [iI_nat]
  have hin : vp_in (nI k) 1001 := vp_in_nI (by omega) (by omega)
  rw [nI_clamp (by omega), RM_a16 hM2, RM_a17 hM2]
  have rest : ¬ (0 < σ 16 k ∧ σ 17 k = -1 ∧ t ≠ -1) → am_P (d + 1) mi_M_learn 75 [some (.inr (.inr m)), some (.inl (nI k)), some (.inl (iI p)), some (.inr (.inl (jJ t))), none, none] [] h2 Q := by
    intro c3
    have fin : ∀ w : Int, w = f_at σ k → am_P (d + 1) mi_M_learn 93 [some (.inr (.inr m)), some (.inl (nI k)), some (.inl (iI p)), some (.inr (.inl (jJ t))), none, none] [.inl (iI w)] h2 Q := by
      intro w hw
      refine bk_M_learn_93 ?_
      rw [RM_R244 hM2, RM_T16 hM2, RM_N16 hM2, nI_clamp (by omega)]
      refine ⟨RM_T hM2, rfl, hin, fun h3 e3 => ?_⟩
      have g3 : gM m n h2 (am_u2 σ 16 k p) h3 := by subst e3; exact gM_xI hM2 (by decide) rfl
      have hM3 := g3.1
      rw [RM_R245 hM3, RM_T17 hM3, RM_N17 hM3]
      refine ⟨RM_T hM3, rfl, hin, fun h4 e4 => ?_⟩
      have g4 : gM m n h3 (am_u2 (am_u2 σ 16 k p) 17 k t) h4 := by subst e4; exact gM_xJ hM3 (by decide) rfl
      exact hq (w, am_u2 (am_u2 σ 16 k p) 17 k t) _ _ rfl (by unfold f_learn; rw [if_neg c, if_neg c2, hka, if_neg c3, hw]) (gM_tr (gM_tr g2 g3) g4)
    refine bk_M_learn_75 ⟨RM_T hM2, sp_M_isAt hM2 hk ht (h16 k hk) (h17 k hk) (fun c4 => ⟨1, rfl, fun z => absurd z (by decide), fun _ => ?_⟩) (fun c4 => ⟨0, rfl, fun _ => fin 0 (by unfold f_at; rw [if_neg c4]), fun z => absurd rfl z⟩)⟩
    rw [RM_R244 hM2, RM_T16 hM2, RM_N16 hM2, nI_clamp (by omega), RM_a16 hM2]
    exact ⟨RM_T hM2, Or.inl rfl, hin, fin _ (by unfold f_at; rw [if_pos c4])⟩
  exact ⟨RM_T hM2, Or.inl rfl, hin, ek_if (iI_le (b := 0) (h16 k hk) (by unfold rI; omega)) (fun q5 => rest (by omega)) (fun q5 => ⟨RM_T hM2, rfl, hin, ek_if (cmp_eq (b := -1) (by have := h17 k hk; unfold rJ; omega) (by unfold rJ; omega)) (fun q6 => ek_if (cmp_eq (b := -1) ht1 (by unfold rJ; omega)) (fun q7 => rest (by omega)) (fun q7 => hq (-3, σ) _ _ im3 (by unfold f_learn; rw [if_neg c, if_neg c2, hka, if_pos (by omega)]) g2)) (fun q6 => rest (by omega))⟩)⟩
