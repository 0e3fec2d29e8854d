/-! THE REFERENCE: filter, credit, gate, link -/
/-- a stream is looked at: its count is of the thousand at hand -/
def f_look (σ : sg) (s : Nat) : sg := am_u2 (if σ 19 s = σ 0 0 / 1000 then σ else am_u2 σ 20 s 0) 19 s (σ 0 0 / 1000)
theorem sp_M_look {d m n s : Nat} {h : am_H} {σ : sg} {Q : Option am_V → am_H → Prop} (hM : RM h m n σ) (hs : s < 8008) (ht : 0 ≤ σ 0 0 ∧ σ 0 0 ≤ 2000000) (h19 : rJ (σ 19 s)) (hQ : ∀ h', gM m n h (f_look σ s) h' → Q none h') : am_PC (d + 1) mi_M_look [.inr (.inr m), .inl (nI s)] h Q := by
  have hin : vp_in (nI s) 8008 := vp_in_nI hs (by omega)
  have fin : ∀ h1 σ1, gM m n h σ1 h1 → σ1 0 0 = σ 0 0 → am_u2 σ1 19 s (σ 0 0 / 1000) = f_look σ s → am_P d mi_M_look 25 [some (.inr (.inr m)), some (.inl (nI s))] [] h1 Q := by
    intro h1 σ1 g1 e0 ef
    have hM1 := g1.1
    refine bk_M_look_25 ?_
    rw [RM_R247 hM1, RM_T19 hM1, RM_N19 hM1, RM_J227 hM1, e0, nI_clamp (by omega), show (1000 : Int64) = jJ 1000 from rfl, jJ_div (by omega) (by omega) (by unfold rJ; omega) (by unfold rJ; omega)]
    refine ⟨RM_T hM1, RM_T hM1, by decide, rfl, hin, fun h2 e2 => ?_⟩
    have g2 : gM m n h1 (am_u2 σ1 19 s (σ 0 0 / 1000)) h2 := by subst e2; exact gM_xJ hM1 (by decide) rfl
    rw [ef] at g2
    exact hQ _ (gM_tr g1 g2)
  refine bk_M_look ?_
  rw [RM_R247 hM, RM_R248 hM, RM_T19 hM, RM_T20 hM, RM_N19 hM, RM_N20 hM, RM_J227 hM, nI_clamp (by omega), RM_a19 hM, show (1000 : Int64) = jJ 1000 from rfl, jJ_div (by omega) (by omega) (by unfold rJ; omega) (by unfold rJ; omega)]
  refine ⟨RM_T hM, rfl, hin, RM_T hM, by decide, ek_if (cmp_eq h19 (by unfold rJ; omega)) (fun q => ?_) (fun q => ⟨RM_T hM, rfl, hin, fun h1 e1 => ?_⟩)⟩
  · exact fin h σ (gM_rf hM) rfl (by unfold f_look; rw [if_pos q])
  · refine fin h1 (am_u2 σ 20 s 0) (by subst e1; exact gM_xI (v := 0) hM (by decide) rfl) ?_ (by unfold f_look; rw [if_neg q])
    rw [am_u2, if_neg (fun z => by omega)]
def f_filter (σ : sg) (s v : Int) : Int × sg := if s < 8 ∨ 8007 < s then (-1, σ) else if v < -1 then (-2, σ) else ((f_look σ s.toNat) 20 s.toNat, am_u2 (f_look σ s.toNat) 18 s.toNat (if 5000 < v then 0 else v + 1))
theorem sp_M_filter {d m n : Nat} {s v : Int} {h : am_H} {σ : sg} {Q : Option am_V → am_H → Prop} (hM : RM h m n σ) (hs : rI s) (hv : rJ v) (ht : 0 ≤ σ 0 0 ∧ σ 0 0 ≤ 2000000) (h19 : ∀ j, j < 8008 → rJ (σ 19 j))
    (hQ : ∀ h', gM m n h (f_filter σ s v).2 h' → Q (some (.inl (iI (f_filter σ s v).1))) h') : am_PC (d + 2) mi_M_filter [.inr (.inr m), .inl (iI s), .inr (.inl (jJ v))] h Q := by
  have hq : ∀ (r : Int × sg) (w : Int32) h', iI r.1 = w → f_filter σ s v = r → gM m n h r.2 h' → Q (some (.inl w)) h' := fun r w h' e1 e g => by subst e1; subst e; exact hQ h' g
  refine bk_M_filter ⟨RM_T hM, fun h1 e1 => ?_⟩
  have g1 : gM m n h σ h1 := by subst e1; exact gM_code hM
  rw [← jm1]
  refine ek_if (iI_lt (b := 8) hs (by unfold rI; omega)) (fun q => hq (-1, σ) _ _ im1 (by unfold f_filter; rw [if_pos (by omega)]) g1) (fun q => ek_if (iI_le (b := 8007) hs (by unfold rI; omega)) (fun q2 => ek_if (cmp_ge (b := -1) hv (by unfold rJ; omega)) (fun q3 => ⟨RM_T g1.1, ?_⟩) (fun q3 => hq (-2, σ) _ _ im2 (by unfold f_filter; rw [if_neg (by omega), if_pos (by omega)]) g1)) (fun q2 => hq (-1, σ) _ _ im1 (by unfold f_filter; rw [if_pos (by omega)]) g1))
  obtain ⟨k, rfl⟩ := Int.eq_ofNat_of_zero_le (show 0 ≤ s by omega)
  have hk : k < 8008 := by omega
  have hin : vp_in (nI k) 8008 := vp_in_nI hk (by omega)
  rw [iI_nat]
  refine sp_M_look g1.1 hk ht (h19 k hk) (fun h2 g2 => ⟨rfl, RM_T g2.1, ?_⟩)
  have hM2 := g2.1
  have fin : ∀ (w : Int) h3, w = (if 5000 < v then 0 else v + 1) → h3 = am_xJ h2 (m + 18) k (jJ w) → am_T h3 m = 17 ∧ (am_T h3 (am_R h3 248 m) = 1 ∨ am_T h3 (am_R h3 248 m) = 3) ∧ vp_in (nI k) (am_N h3 (am_R h3 248 m)) ∧ Q (some (.inl (am_aI h3 (am_R h3 248 m) k))) h3 := by
    intro w h3 hw e3
    have g3 : gM m n h2 (am_u2 (f_look σ k) 18 k w) h3 := by subst e3; exact gM_xJ hM2 (by decide) rfl
    have hM3 := g3.1
    rw [RM_R248 hM3, RM_T20 hM3, RM_N20 hM3, RM_a20 hM3]
    refine ⟨RM_T hM3, Or.inl rfl, hin, hq ((f_look σ k) 20 k, am_u2 (f_look σ k) 18 k w) _ _ ?_ ?_ (gM_tr (gM_tr g1 g2) g3)⟩
    · show iI _ = iI (am_u2 _ _ _ _ _ _)
      rw [am_u2, if_neg (fun z => by omega)]
    · unfold f_filter
      rw [if_neg (by omega), if_neg (by omega), hw]
      rfl
  rw [RM_R246 hM2, RM_T18 hM2, RM_N18 hM2, nI_clamp (by omega)]
  refine ek_if (cmp_le (b := 5000) hv (by unfold rJ; omega)) (fun q4 => ⟨rfl, hin, fun h3 e3 => ?_⟩) (fun q4 => ⟨rfl, hin, fun h3 e3 => ?_⟩)
  · rw [show (1 : Int64) = jJ 1 from rfl, jJ_add] at e3
    exact fin (v + 1) h3 (by rw [if_neg (by omega)]) e3
  · exact fin 0 h3 (by rw [if_pos (by omega)]) e3
theorem sp_M_noRank {d m n : Nat} {p r : Int} {h : am_H} {σ : sg} {Q : Option am_V → am_H → Prop} (hM : RM h m n σ) (hp : rI p) (hr : rI r) (hbad : (p < 1 ∨ (n : Int) < p ∨ r < 0 ∨ 7 < r) → ∀ h', gM m n h σ h' → Q (some (.inl 1)) h') (hok : ¬ (p < 1 ∨ (n : Int) < p ∨ r < 0 ∨ 7 < r) → ∀ h', gM m n h σ h' → Q (some (.inl 0)) h') : am_PC (d + 2) mi_M_noRank [.inr (.inr m), .inl (iI p), .inl (iI r)] h Q := by
  refine bk_M_noRank ⟨RM_T hM, sp_M_none hM hp (fun c h2 g => ⟨1, rfl, fun q => absurd q (by decide), fun _ => ⟨Or.inr rfl, hbad (by omega) _ g⟩⟩) (fun c h2 g => ⟨0, rfl, fun _ => ?_, fun q => absurd rfl q⟩)⟩
  exact ek_if (iI_lt (b := 0) hr (by unfold rI; omega)) (fun q => ⟨Or.inr rfl, hbad (by omega) _ g⟩) (fun q => ek_if (iI_le (b := 7) hr (by unfold rI; omega)) (fun q2 => ⟨Or.inl rfl, hok (by omega) _ g⟩) (fun q2 => ⟨Or.inr rfl, hbad (by omega) _ g⟩))
def f_credit (n : Nat) (σ : sg) (p r a b : Int) : Int × sg :=
  if p < 1 ∨ (n : Int) < p ∨ r < 0 ∨ 7 < r then (-1, σ) else if b < 1 ∨ 1000 < b ∨ a < 0 ∨ 10000 * b < a then (-2, σ)
  else (1, am_u2 (am_u2 (am_u2 σ 12 (8 * p + r).toNat a) 13 (8 * p + r).toNat b) 14 (8 * p + r).toNat 0)
theorem sp_M_credit {d m n : Nat} {p r a b : Int} {h : am_H} {σ : sg} {Q : Option am_V → am_H → Prop} (hM : RM h m n σ) (hp : rI p) (hr : rI r) (ha : rJ a) (hb : rJ b)
    (hQ : ∀ h', gM m n h (f_credit n σ p r a b).2 h' → Q (some (.inl (iI (f_credit n σ p r a b).1))) h') : am_PC (d + 3) mi_M_credit [.inr (.inr m), .inl (iI p), .inl (iI r), .inr (.inl (jJ a)), .inr (.inl (jJ b))] h Q := by
  have hn := hM.1
  have hq : ∀ (x : Int × sg) (w : Int32) h', iI x.1 = w → f_credit n σ p r a b = x → gM m n h x.2 h' → Q (some (.inl w)) h' := fun x w h' e1 e g => by subst e1; subst e; exact hQ h' g
  refine bk_M_credit ⟨RM_T hM, sp_M_noRank hM hp hr (fun c h2 g => ⟨1, rfl, fun q => absurd q (by decide), fun _ => hq (-1, σ) _ _ im1 (by unfold f_credit; rw [if_pos c]) g⟩) (fun c h2 g => ⟨0, rfl, fun _ => ?_, fun q => absurd rfl q⟩)⟩
  have hM2 := g.1
  have bad : (b < 1 ∨ 1000 < b ∨ a < 0 ∨ 10000 * b < a) → Q (some (.inl (-2))) h2 := fun c2 => hq (-2, σ) _ _ im2 (by unfold f_credit; rw [if_neg c, if_pos c2]) g
  refine ek_if (cmp_lt (b := 1) hb (by unfold rJ; omega)) (fun q => bad (by omega)) (fun q => ek_if (cmp_gt (b := 1000) hb (by unfold rJ; omega)) (fun q2 => bad (by omega)) (fun q2 => ek_if (cmp_lt (b := 0) ha (by unfold rJ; omega)) (fun q3 => bad (by omega)) (fun q3 => ?_)))
  rw [show (10000 : Int64) = jJ 10000 from rfl, jJ_mul, show (8 : Int32) = iI 8 from rfl, iI_mul, iI_add, iI_clamp (by omega) (by unfold rI; omega)]
  have hin : vp_in (iI (8 * p + r)) 136 := iI_in (by omega) (by omega) (by omega)
  rw [RM_R239 hM2, RM_T12 hM2, RM_N12 hM2]
  refine ek_if (cmp_le ha (by unfold rJ; omega)) (fun q4 => ⟨RM_T hM2, rfl, hin, fun h3 e3 => ?_⟩) (fun q4 => bad (by omega))
  have g3 : gM m n h2 (am_u2 σ 12 (8 * p + r).toNat a) h3 := by subst e3; exact gM_xJ hM2 (by decide) rfl
  have hM3 := g3.1
  rw [RM_R240 hM3, RM_T13 hM3, RM_N13 hM3]
  refine ⟨RM_T hM3, rfl, hin, fun h4 e4 => ?_⟩
  have g4 : gM m n h3 (am_u2 (am_u2 σ 12 (8 * p + r).toNat a) 13 (8 * p + r).toNat b) h4 := by subst e4; exact gM_xJ hM3 (by decide) rfl
  have hM4 := g4.1
  rw [RM_R241 hM4, RM_T14 hM4, RM_N14 hM4]
  refine ⟨RM_T hM4, rfl, hin, fun h5 e5 => ?_⟩
  have g5 : gM m n h4 (am_u2 (am_u2 (am_u2 σ 12 (8 * p + r).toNat a) 13 (8 * p + r).toNat b) 14 (8 * p + r).toNat 0) h5 := by subst e5; exact gM_xJ (v := 0) hM4 (by decide) rfl
  exact hq (1, am_u2 (am_u2 (am_u2 σ 12 (8 * p + r).toNat a) 13 (8 * p + r).toNat b) 14 (8 * p + r).toNat 0) _ _ rfl (by unfold f_credit; rw [if_neg c, if_neg (by omega)]) (gM_tr (gM_tr (gM_tr g g3) g4) g5)
def f_gate (n : Nat) (σ : sg) (p r a b : Int) : Int × sg :=
  if p < 1 ∨ (n : Int) < p ∨ r < 0 ∨ 7 < r then (-1, σ) else if a < 0 ∨ b ≤ a ∨ σ 0 1 < b then (-2, σ) else if σ 9 (8 * p + r).toNat = 8 then (-4, σ)
  else (σ 9 (8 * p + r).toNat + 1, am_u2 (am_u2 (am_u2 σ 10 (8 * (8 * p + r) + σ 9 (8 * p + r).toNat).toNat a) 11 (8 * (8 * p + r) + σ 9 (8 * p + r).toNat).toNat b) 9 (8 * p + r).toNat (σ 9 (8 * p + r).toNat + 1))
theorem u2_ne {σ : sg} {k j k' j' : Nat} {v : Int} (h : ¬ k' = k) : am_u2 σ k j v k' j' = σ k' j' := by rw [am_u2, if_neg (fun z => h z.1)]
theorem u2_nj {σ : sg} {k j k' j' : Nat} {v : Int} (h : ¬ j' = j) : am_u2 σ k j v k' j' = σ k' j' := by rw [am_u2, if_neg (fun z => h z.2)]
theorem u2_eq {σ : sg} {k j : Nat} {v : Int} : am_u2 σ k j v k j = v := by rw [am_u2, if_pos ⟨rfl, rfl⟩]
theorem sp_M_gate {d m n : Nat} {p r a b : Int} {h : am_H} {σ : sg} {Q : Option am_V → am_H → Prop} (hM : RM h m n σ) (hp : rI p) (hr : rI r) (ha : rJ a) (hb : rJ b) (hc : 0 ≤ σ 0 1 ∧ σ 0 1 ≤ 1000000) (h9 : ∀ j, j < 136 → 0 ≤ σ 9 j ∧ σ 9 j ≤ 8)
    (hQ : ∀ h', gM m n h (f_gate n σ p r a b).2 h' → Q (some (.inl (iI (f_gate n σ p r a b).1))) h') : am_PC (d + 3) mi_M_gate [.inr (.inr m), .inl (iI p), .inl (iI r), .inr (.inl (jJ a)), .inr (.inl (jJ b))] h Q := by
  have hn := hM.1
  have hq : ∀ (x : Int × sg) (w : Int32) h', iI x.1 = w → f_gate n σ p r a b = x → gM m n h x.2 h' → Q (some (.inl w)) h' := fun x w h' e1 e g => by subst e1; subst e; exact hQ h' g
  refine bk_M_gate ⟨RM_T hM, sp_M_noRank hM hp hr (fun c h2 g => ⟨1, rfl, fun q => absurd q (by decide), fun _ => hq (-1, σ) _ _ im1 (by unfold f_gate; rw [if_pos c]) g⟩) (fun c h2 g => ⟨0, rfl, fun _ => ?_, fun q => absurd rfl q⟩)⟩
  have hM2 := g.1
  have bad : (a < 0 ∨ b ≤ a ∨ σ 0 1 < b) → Q (some (.inl (-2))) h2 := fun c2 => hq (-2, σ) _ _ im2 (by unfold f_gate; rw [if_neg c, if_pos c2]) g
  rw [RM_J226 hM2]
  refine ek_if (cmp_lt (b := 0) ha (by unfold rJ; omega)) (fun q => bad (by omega)) (fun q => ek_if (cmp_ge ha hb) (fun q2 => bad (by omega)) (fun q2 => ⟨RM_T hM2, ek_if (cmp_le hb (by unfold rJ; omega)) (fun q3 => ?_) (fun q3 => bad (by omega))⟩))
  obtain ⟨k, hk⟩ := Int.eq_ofNat_of_zero_le (show 0 ≤ 8 * p + r by omega)
  have hk2 : k < 136 := by omega
  have hkn : (8 * p + r).toNat = k := by omega
  have hw := h9 k hk2
  rw [show (8 : Int32) = iI 8 from rfl, iI_mul, iI_add, iI_clamp (by omega) (by unfold rI; omega), hkn]
  have hin : vp_in (iI (8 * p + r)) 136 := iI_in (by omega) (by omega) (by omega)
  rw [RM_R236 hM2, RM_T9 hM2, RM_N9 hM2, RM_a9 hM2, iI_mul, iI_add]
  refine ⟨RM_T hM2, Or.inl rfl, hin, ek_if (iI_eq (b := 8) (by unfold rI; omega) (by unfold rI; omega)) (fun q4 => hq (-4, σ) _ _ im4 (by unfold f_gate; rw [if_neg c, if_neg (by omega), hkn, if_pos q4]) g) (fun q4 => ⟨RM_T hM2, RM_T hM2, Or.inl rfl, hin, ?_⟩)⟩
  have hin2 : vp_in (iI (8 * (8 * p + r) + σ 9 k)) 1088 := iI_in (by omega) (by omega) (by omega)
  rw [RM_R237 hM2, RM_T10 hM2, RM_N10 hM2, iI_clamp (a := 8 * (8 * p + r) + σ 9 k) (by omega) (by unfold rI; omega)]
  refine ⟨rfl, hin2, fun h4 e4 => ?_⟩
  have g4 : gM m n h2 (am_u2 σ 10 (8 * (8 * p + r) + σ 9 k).toNat a) h4 := by subst e4; exact gM_xJ hM2 (by decide) rfl
  have hM4 := g4.1
  rw [RM_R236 hM4, RM_T9 hM4, RM_N9 hM4, RM_a9 hM4, u2_ne (by decide), iI_add, RM_R238 hM4, RM_T11 hM4, RM_N11 hM4, iI_clamp (a := 8 * (8 * p + r) + σ 9 k) (by omega) (by unfold rI; omega)]
  refine ⟨RM_T hM4, RM_T hM4, Or.inl rfl, hin, rfl, hin2, fun h5 e5 => ?_⟩
  have g5 : gM m n h4 (am_u2 (am_u2 σ 10 (8 * (8 * p + r) + σ 9 k).toNat a) 11 (8 * (8 * p + r) + σ 9 k).toNat b) h5 := by subst e5; exact gM_xJ hM4 (by decide) rfl
  have hM5 := g5.1
  rw [RM_R236 hM5, RM_T9 hM5, RM_N9 hM5, RM_a9 hM5, u2_ne (by decide), u2_ne (by decide), show (1 : Int32) = iI 1 from rfl, iI_add]
  refine ⟨RM_T hM5, rfl, rfl, Or.inl rfl, hin, rfl, hin, fun h6 e6 => ?_⟩
  have g6 : gM m n h5 (am_u2 (am_u2 (am_u2 σ 10 (8 * (8 * p + r) + σ 9 k).toNat a) 11 (8 * (8 * p + r) + σ 9 k).toNat b) 9 k (σ 9 k + 1)) h6 := by subst e6; exact gM_xI hM5 (by decide) rfl
  have hM6 := g6.1
  rw [RM_R236 hM6, RM_T9 hM6, RM_N9 hM6, RM_a9 hM6, u2_eq]
  exact ⟨RM_T hM6, Or.inl rfl, hin, hq (σ 9 k + 1, am_u2 (am_u2 (am_u2 σ 10 (8 * (8 * p + r) + σ 9 k).toNat a) 11 (8 * (8 * p + r) + σ 9 k).toNat b) 9 k (σ 9 k + 1)) _ _ rfl (by unfold f_gate; rw [if_neg c, if_neg (by omega), hkn, if_neg q4]) (gM_tr (gM_tr (gM_tr g g4) g5) g6)⟩
/-- link: what all ranks of a port hold; the state when the first k are emptied -/
def lsum (σ : sg) (p : Nat) : Nat → Int
  | 0 => 0
  | k + 1 => lsum σ p k + σ 7 (8 * p + k)
def lzero (σ : sg) (p : Nat) : Nat → sg
  | 0 => σ
  | k + 1 => am_u2 (lzero σ p k) 7 (8 * p + k) 0
theorem lzero_ne {σ : sg} {p k j j' : Nat} (h : ¬ j = 7) : lzero σ p k j j' = σ j j' := by
  induction k with
  | zero => rfl
  | succ k ih => rw [lzero, u2_ne h, ih]
theorem lzero_ge {σ : sg} {p k r : Nat} (h : k ≤ r) : lzero σ p k 7 (8 * p + r) = σ 7 (8 * p + r) := by
  induction k with
  | zero => rfl
  | succ k ih => rw [lzero, u2_nj (by omega), ih (by omega)]
def f_link (n : Nat) (σ : sg) (p v : Int) : Int × sg :=
  if p < 1 ∨ (n : Int) < p then (-1, σ) else if v < 0 ∨ 10000 < v then (-2, σ) else if 0 < σ 3 p.toNat ∧ 0 < v ∧ v ≠ σ 1 p.toNat then (-3, σ)
  else if 0 < v then (0, am_u2 σ 1 p.toNat v)
  else ((if 0 < σ 3 p.toNat then 1 else 0) + lsum σ p.toNat 8, am_u2 (lzero (am_u2 (am_u2 σ 1 p.toNat v) 3 p.toNat 0) p.toNat 8) 24 3 (σ 24 3 + ((if 0 < σ 3 p.toNat then 1 else 0) + lsum σ p.toNat 8)))
