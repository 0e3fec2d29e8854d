/-! THE CLASS: streams, learn, filter -/
def g_tk (s : sg) (q : Nat) : Int := if s 36 q = s 0 0 / 1000 then s 37 q else 0
theorem sp_takenAt {d x n e c a r : Nat} {h : am_H} {s : sg} {α : Nat → Nat} {Q : Option am_V → am_H → Prop} (hX : RX h x n s α e c) (ha : a ≤ 1000) (h0 : ¬ α a = 0) (hr : r < 8) (ht : 0 ≤ s 0 0 ∧ s 0 0 ≤ 2000000) (h36 : 0 ≤ s 36 (8 * a + r) ∧ s 36 (8 * a + r) ≤ 2000) (hQ : Q (some (.inl (iI (g_tk s (8 * a + r))))) h) : am_PC (d + 1) mi_S_takenAt [.inr (.inr (α a + 2 + r)), .inr (.inl (jJ (s 0 0)))] h Q := by
  obtain ⟨w1, w2, w3, w4, w5⟩ := (hX.2.1.2.1 a ha h0).2.2.2.2.2.2.2.2 r hr
  refine bk_S_takenAt ?_
  rw [w4, w5, show (1000 : Int64) = jJ 1000 from rfl, jJ_div (by omega) (by omega) (by unfold rJ; omega) (by unfold rJ; omega)]
  unfold g_tk at hQ
  refine ⟨w2, by decide, ek_if (cmp_eq (by unfold rJ; omega) (by unfold rJ; omega)) (fun q => ⟨w2, ?_⟩) (fun q => ?_)⟩
  · rw [if_pos q] at hQ; exact hQ
  · rw [if_neg q] at hQ; exact hQ
theorem sp_takesOne {d x n e c a r : Nat} {h : am_H} {s : sg} {α : Nat → Nat} {Q : Option am_V → am_H → Prop} (hX : RX h x n s α e c) (ha : a ≤ 1000) (h0 : ¬ α a = 0) (hr : r < 8) (ht : 0 ≤ s 0 0 ∧ s 0 0 ≤ 2000000) (h36 : 0 ≤ s 36 (8 * a + r) ∧ s 36 (8 * a + r) ≤ 2000) (h35 : rJ (s 35 (8 * a + r))) (h37 : 0 ≤ s 37 (8 * a + r) ∧ s 37 (8 * a + r) ≤ 5000)
    (hf : (¬ s 35 (8 * a + r) = -1 ∧ s 35 (8 * a + r) ≤ g_tk s (8 * a + r)) → Q (some (.inl 0)) h) (hQ : ¬ (¬ s 35 (8 * a + r) = -1 ∧ s 35 (8 * a + r) ≤ g_tk s (8 * a + r)) → ∀ h', gX x n h (am_u2 (am_u2 s 36 (8 * a + r) (s 0 0 / 1000)) 37 (8 * a + r) (g_tk s (8 * a + r) + 1)) α e c h' → Q (some (.inl 1)) h') : am_PC (d + 2) mi_S_takesOne [.inr (.inr (α a + 2 + r)), .inr (.inl (jJ (s 0 0)))] h Q := by
  obtain ⟨w1, w2, w3, w4, w5⟩ := (hX.2.1.2.1 a ha h0).2.2.2.2.2.2.2.2 r hr
  have hg : 0 ≤ g_tk s (8 * a + r) ∧ g_tk s (8 * a + r) ≤ 5000 := by
    unfold g_tk
    split
    · exact h37
    · exact ⟨Int.le_refl _, by decide⟩
  have fin : ¬ (¬ s 35 (8 * a + r) = -1 ∧ s 35 (8 * a + r) ≤ g_tk s (8 * a + r)) → am_P (d + 1) mi_S_takesOne 29 [some (.inr (.inr (α a + 2 + r))), some (.inr (.inl (jJ (s 0 0)))), none, some (.inl (iI (g_tk s (8 * a + r))))] [] h Q := by
    intro hc
    refine bk_S_takesOne_29 ?_
    rw [show (1000 : Int64) = jJ 1000 from rfl, jJ_div (by omega) (by omega) (by unfold rJ; omega) (by unfold rJ; omega), show (1 : Int32) = iI 1 from rfl, iI_add]
    refine ⟨by decide, w2, fun h1 e1 => ?_⟩
    have g1 : gX x n h (am_u2 s 36 (8 * a + r) (s 0 0 / 1000)) α e c h1 := by subst e1; exact RX_129 hX ha h0 hr
    obtain ⟨v1, v2, v3, v4, v5⟩ := (g1.1.2.1.2.1 a ha h0).2.2.2.2.2.2.2.2 r hr
    exact ⟨v2, fun h2 e2 => ⟨Or.inr rfl, hQ hc h2 (gX_tr g1 (by subst e2; exact RX_130 g1.1 ha h0 hr))⟩⟩
  refine bk_S_takesOne ⟨w2, sp_takenAt hX ha h0 hr ht h36 ⟨_, rfl, w2, ?_⟩⟩
  rw [w3, ← jm1, iI_l (by unfold rI; omega)]
  exact ek_if (cmp_eq h35 (by unfold rJ; omega)) (fun q => fin (fun z => z.1 q)) (fun q => ⟨w2, ek_if (cmp_lt (by unfold rJ; omega) h35) (fun q2 => fin (by omega)) (fun q2 => ⟨Or.inl rfl, hf (by omega)⟩)⟩)
theorem sp_X_learn {d x n e c : Nat} {a p t : Int} {h : am_H} {s : sg} {α : Nat → Nat} {Q : Option am_V → am_H → Prop} (hX : RX h x n s α e c) (ha : rI a) (hp : rI p) (ht1 : rJ t) (ht : 0 ≤ s 0 0 ∧ s 0 0 ≤ 2000000) (h16 : ∀ j, j ≤ 1000 → 0 ≤ s 16 j ∧ s 16 j ≤ 16) (h17 : ∀ j, j ≤ 1000 → -1 ≤ s 17 j ∧ s 17 j ≤ 2000000) (h67 : ∀ j, j ≤ 1000 → s 17 j = -1 → 0 < s 16 j)
    (hQ : ∀ h' α', gX x n h (f_learn n s a p t).2 α' e (c + 1) h' → Q (some (.inl (iI (f_learn n s a p t).1))) h') : am_PC (d + 4) mi_X_learn [.inr (.inr x), .inl (iI a), .inl (iI p), .inr (.inl (jJ t))] h Q := by
  have hn := X_n hX
  have gs : gX x n h s α e (c + 1) h := ⟨RX_grow (k := 1) hX (eqon_rf _ _) (Nat.le_refl _) (by omega) (by omega), eqon_rf _ _⟩
  have hq : ∀ (y : Int × sg) (w : Int32) h' α', iI y.1 = w → f_learn n s a p t = y → gX x n h y.2 α' e (c + 1) h' → Q (some (.inl w)) h' := fun y w h' α' e1 e g => by subst e1; subst e; exact hQ h' α' g
  refine bk_X_learn ⟨X_T hX, sp_findPort hX hp (fun cb => ⟨0, rfl, fun _ => hq (-1, s) _ _ _ im1 (by unfold f_learn; rw [if_pos cb]) gs, fun z => absurd rfl z⟩) (fun i hi ep => ⟨px x i, rfl, fun z => absurd z px_ne, fun _ => ?_⟩)⟩
  have cb : ¬ (p < 1 ∨ (n : Int) < p) := by omega
  have bad : (a < 1 ∨ 1000 < a ∨ t < -1 ∨ s 0 0 < t) → Q (some (.inl (-2))) h := fun c2 => hq (-2, s) _ _ _ im2 (by unfold f_learn; rw [if_neg cb, if_pos c2]) gs
  refine sp_isAddress ha (fun c2 => ⟨0, rfl, fun _ => bad (by omega), fun z => absurd rfl z⟩) (fun c2 => ⟨1, rfl, fun z => absurd z (by decide), fun _ => ?_⟩)
  rw [← jm1, X_6 hX]
  refine ek_if (cmp_lt ht1 (by unfold rJ; omega)) (fun q => bad (by omega)) (fun q => ⟨X_T hX, ek_if (cmp_le ht1 (by unfold rJ; omega)) (fun q2 => ⟨X_T hX, ?_⟩) (fun q2 => bad (by omega))⟩)
  obtain ⟨k, rfl⟩ := Int.eq_ofNat_of_zero_le (show 0 ≤ a by omega)
  have hk : k ≤ 1000 := by omega
  have hka : ((k : Nat) : Int).toNat = k := rfl
  have c3 : ¬ ((k : Int) < 1 ∨ 1000 < (k : Int) ∨ t < -1 ∨ s 0 0 < t) := by omega
  rw [iI_nat]
  refine sp_addressOf hX hk (fun h2 α' g2 h0 => ⟨α' k, rfl, ?_⟩)
  have hX2 := g2.1
  obtain ⟨y1, y2, t1, -⟩ := hX2.2.1.2.1 k hk h0
  have rest : ¬ (s 17 k = -1 ∧ ¬ t = -1) → am_P (d + 3) mi_X_learn 63 [some (.inr (.inr x)), some (.inl (nI k)), some (.inl (iI p)), some (.inr (.inl (jJ t))), none, some (.inr (.inr (α' k))), none] [] h2 Q := by
    intro c4
    refine bk_X_learn_63 ?_
    rw [X_6 hX2]
    refine ⟨X_T hX2, t1, sp_portAt hX2 hk h0 ht (h17 k hk) (h16 k hk) ⟨_, rfl, t1, fun h4 e4 => ?_⟩⟩
    have g4 : gX x n h2 (am_u2 s 16 k p) α' e (c + 1) h4 := by subst e4; exact RX_97 hX2 hk h0
    obtain ⟨z1, z2, u1, -⟩ := g4.1.2.1.2.1 k hk h0
    refine ⟨u1, fun h5 e5 => ?_⟩
    have g5 : gX x n h4 (am_u2 (am_u2 s 16 k p) 17 k t) α' e (c + 1) h5 := by subst e5; exact RX_98 g4.1 hk h0
    have := h67 k hk
    exact hq (f_at s k, am_u2 (am_u2 s 16 k p) 17 k t) _ _ _ rfl (by unfold f_learn; rw [if_neg cb, if_neg c3, hka, if_neg (by omega)]) (gX_tr (gX_tr g2 g4) g5)
  refine ⟨t1, sp_isFixed hX2 hk h0 (h17 k hk) (fun c4 => ⟨1, rfl, fun z => absurd z (by decide), fun _ => ?_⟩) (fun c4 => ⟨0, rfl, fun _ => rest (fun z => c4 z.1), fun z => absurd rfl z⟩)⟩
  refine ek_if (cmp_eq ht1 (by unfold rJ; omega)) (fun q7 => rest (fun z => z.2 q7)) (fun q7 => hq (-3, s) _ _ α' im3 ?_ g2)
  have := h67 k hk c4
  unfold f_learn
  rw [if_neg cb, if_neg c3, hka, if_pos (by omega)]
def g_filter (s : sg) (q v : Int) : Int × sg := if q < 8 ∨ 8007 < q then (-1, s) else if v < -1 then (-2, s) else (g_tk s q.toNat, am_u2 s 35 q.toNat v)
theorem sp_X_filter {d x n e c : Nat} {q v : Int} {h : am_H} {s : sg} {α : Nat → Nat} {Q : Option am_V → am_H → Prop} (hX : RX h x n s α e c) (hq' : rI q) (hv : rJ v) (ht : 0 ≤ s 0 0 ∧ s 0 0 ≤ 2000000) (h36 : ∀ j, j < 8008 → 0 ≤ s 36 j ∧ s 36 j ≤ 2000)
    (hQ : ∀ h' α', gX x n h (g_filter s q v).2 α' e (c + 1) h' → Q (some (.inl (iI (g_filter s q v).1))) h') : am_PC (d + 4) mi_X_filter [.inr (.inr x), .inl (iI q), .inr (.inl (jJ v))] h Q := by
  have gs : gX x n h s α e (c + 1) h := ⟨RX_grow (k := 1) hX (eqon_rf _ _) (Nat.le_refl _) (by omega) (by omega), eqon_rf _ _⟩
  have hq : ∀ (y : Int × sg) (w : Int32) h' α', iI y.1 = w → g_filter s q v = y → gX x n h y.2 α' e (c + 1) h' → Q (some (.inl w)) h' := fun y w h' α' e1 e g => by subst e1; subst e; exact hQ h' α' g
  refine bk_X_filter ⟨by decide, ek_if (iI_lt (b := 0) hq' (by unfold rI; omega)) (fun c1 => hq (-1, s) _ _ _ im1 (by unfold g_filter; rw [if_pos (by omega)]) gs) (fun c1 => ?_)⟩
  obtain ⟨k, rfl⟩ := Int.eq_ofNat_of_zero_le (show 0 ≤ q by omega)
  unfold rI at hq'
  have ed : iI (k : Int) / 8 = nI (k / 8) := by rw [iI_nat]; exact pk_div (d := 8) (by omega) (by omega) (by omega)
  have er : iI (k : Int) - nI (k / 8) * 8 = nI (k % 8) := by
    have := pk_rem (a := k) (d := 8) (by omega) (by omega) (by omega)
    rw [show nI 8 = 8 from rfl, ← iI_nat k, ed] at this
    exact this
  rw [ed, er, ← iI_nat (k / 8)]
  refine sp_isAddress (by unfold rI; omega) (fun c2 => ⟨0, rfl, fun _ => hq (-1, s) _ _ _ im1 (by unfold g_filter; rw [if_pos (by omega)]) gs, fun z => absurd rfl z⟩) (fun c2 => ⟨1, rfl, fun z => absurd z (by decide), fun _ => ?_⟩)
  rw [← jm1, iI_nat (k / 8)]
  refine ek_if (cmp_ge hv (by unfold rJ; omega)) (fun c3 => ⟨X_T hX, ?_⟩) (fun c3 => hq (-2, s) _ _ _ im2 (by unfold g_filter; rw [if_neg (by omega), if_pos (by omega)]) gs)
  have hk : k / 8 ≤ 1000 := by omega
  have hr : k % 8 < 8 := by omega
  have ek : 8 * (k / 8) + k % 8 = k := by omega
  refine sp_addressOf hX hk (fun h2 α' g2 h0 => ⟨α' (k / 8), rfl, ?_⟩)
  have hX2 := g2.1
  obtain ⟨y1, y2, t1, t2, t3, t4, t5, t6, t7⟩ := hX2.2.1.2.1 (k / 8) hk h0
  obtain ⟨w1, w2, w3, w4, w5⟩ := t7 (k % 8) hr
  rw [t2, t3, t4, nI_clamp (by omega), w1]
  refine ⟨t1, by decide, by decide, vp_in_nI hr (by omega), w2, fun h7 e7 => ?_⟩
  have g7 : gX x n h2 (am_u2 s 35 k v) α' e (c + 1) h7 := by
    subst e7
    have := RX_128 (v := v) hX2 hk h0 hr
    rw [ek] at this
    exact this
  have hX7 := g7.1
  obtain ⟨u1, u2, u3, u4, u5⟩ := (hX7.2.1.2.1 (k / 8) hk h0).2.2.2.2.2.2.2.2 (k % 8) hr
  rw [X_6 hX7]
  have b36 := h36 k (by omega)
  refine ⟨X_T hX7, u2, sp_takenAt hX7 hk h0 hr (by rw [u2_ne (by decide)]; exact ht) (by rw [ek, u2_ne (by decide)]; exact b36) ⟨_, rfl, ?_⟩⟩
  refine hq (g_tk s k, am_u2 s 35 k v) _ _ _ ?_ ?_ (gX_tr g2 g7)
  · rw [ek]
    unfold g_tk
    rw [u2_ne (by decide), u2_ne (by decide), u2_ne (by decide)]
  · unfold g_filter
    rw [if_neg (by omega), if_neg (by omega)]
    rfl
