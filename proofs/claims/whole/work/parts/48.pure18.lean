/-! THE CLASS: frame -/
def g_add (s : sg) (q : Nat) (F L : Int) : sg := am_u2 (am_u2 (am_u2 s 33 (16 * q + ((s 32 q + s 7 q) % 16).toNat) F) 34 (16 * q + ((s 32 q + s 7 q) % 16).toNat) L) 7 q (s 7 q + 1)
theorem sp_K_add {d x n e c i r : Nat} {F L : Int} {h : am_H} {s : sg} {α : Nat → Nat} {Q : Option am_V → am_H → Prop} (hX : RX h x n s α e c) (hi : i < n) (hr : r < 8) (h7 : 0 ≤ s 7 (8 * (i + 1) + r) ∧ s 7 (8 * (i + 1) + r) ≤ 16) (h32 : 0 ≤ s 32 (8 * (i + 1) + r) ∧ s 32 (8 * (i + 1) + r) ≤ 15)
    (hf : s 7 (8 * (i + 1) + r) = 16 → Q (some (.inl 0)) h) (hQ : ¬ s 7 (8 * (i + 1) + r) = 16 → ∀ h', gX x n h (g_add s (8 * (i + 1) + r) F L) α e c h' → Q (some (.inl 1)) h') : am_PC (d + 1) mi_K_add [.inr (.inr (kx x i r)), .inl (iI F), .inl (iI L)] h Q := by
  have m1 : 0 ≤ (s 32 (8 * (i + 1) + r) + s 7 (8 * (i + 1) + r)) % 16 := by omega
  have m2 : (s 32 (8 * (i + 1) + r) + s 7 (8 * (i + 1) + r)) % 16 < 16 := by omega
  have hin : vp_in (iI ((s 32 (8 * (i + 1) + r) + s 7 (8 * (i + 1) + r)) % 16)) 16 := iI_in m1 m2 (by omega)
  refine bk_K_add ?_
  rw [XK_67 hX hi hr, XK_66 hX hi hr, iI_add, show (16 : Int32) = iI 16 from rfl, iI_mod (by omega) (by omega) (by unfold rI; omega) (by unfold rI; omega), iI_clamp m1 (by unfold rI; omega), XK_64 hX hi hr, XK_T1 hX hi hr, XK_N1 hX hi hr]
  refine ⟨XK_T hX hi hr, ek_if (iI_lt (by unfold rI; omega) (by unfold rI; omega)) (fun q => ⟨XK_T hX hi hr, XK_T hX hi hr, by decide, XK_T hX hi hr, rfl, hin, fun h1 e1 => ?_⟩) (fun q => ⟨Or.inl rfl, hf (by omega)⟩)⟩
  have g1 : gX x n h (am_u2 s 33 (16 * (8 * (i + 1) + r) + ((s 32 (8 * (i + 1) + r) + s 7 (8 * (i + 1) + r)) % 16).toNat) F) α e c h1 := by subst e1; exact gX_xI hX (TI_33 hi hr (by omega))
  have hX1 := g1.1
  rw [XK_65 hX1 hi hr, XK_T2 hX1 hi hr, XK_N2 hX1 hi hr]
  refine ⟨XK_T hX1 hi hr, rfl, hin, fun h2 e2 => ?_⟩
  have g2 : gX x n h1 (am_u2 (am_u2 s 33 (16 * (8 * (i + 1) + r) + ((s 32 (8 * (i + 1) + r) + s 7 (8 * (i + 1) + r)) % 16).toNat) F) 34 (16 * (8 * (i + 1) + r) + ((s 32 (8 * (i + 1) + r) + s 7 (8 * (i + 1) + r)) % 16).toNat) L) α e c h2 := by subst e2; exact gX_xI hX1 (TI_34 hi hr (by omega))
  have hX2 := g2.1
  rw [XK_67 hX2 hi hr, u2_ne (by decide), u2_ne (by decide), show (1 : Int32) = iI 1 from rfl, iI_add]
  exact ⟨rfl, XK_T hX2 hi hr, XK_T hX2 hi hr, fun h3 e3 => ⟨Or.inr rfl, hQ (by omega) h3 (gX_tr (gX_tr g1 g2) (by subst e3; exact gX_sI hX2 (SI_7 hi hr)))⟩⟩
def g_que (s : sg) (p r : Nat) (F L : Int) : sg := am_u2 (g_add s (8 * p + r) F L) 31 p (s 31 p + 1)
theorem g_add_ne {s : sg} {q k j : Nat} {F L : Int} (h : ¬ k = 7 ∧ ¬ k = 33 ∧ ¬ k = 34) : g_add s q F L k j = s k j := by
  unfold g_add
  rw [u2_ne h.1, u2_ne h.2.2, u2_ne h.2.1]
theorem g_que_ne {s : sg} {p r k j : Nat} {F L : Int} (h : ¬ k = 7 ∧ ¬ k = 31 ∧ ¬ k = 33 ∧ ¬ k = 34) : g_que s p r F L k j = s k j := by
  unfold g_que
  rw [u2_ne h.2.1, g_add_ne ⟨h.1, h.2.2.1, h.2.2.2⟩]
theorem g_que_7 {s : sg} {p r j : Nat} {F L : Int} : g_que s p r F L 7 j = if j = 8 * p + r then s 7 (8 * p + r) + 1 else s 7 j := by
  unfold g_que g_add
  rw [u2_ne (by decide), am_u2]
  by_cases hc : j = 8 * p + r
  · rw [if_pos ⟨rfl, hc⟩, if_pos hc]
  · rw [if_neg (fun z => hc z.2), if_neg hc, u2_ne (by decide), u2_ne (by decide)]
theorem sp_P_queue {d x n e c i r : Nat} {F L : Int} {h : am_H} {s : sg} {α : Nat → Nat} {Q : Option am_V → am_H → Prop} (hX : RX h x n s α e c) (hi : i < n) (hr : r < 8) (h7 : 0 ≤ s 7 (8 * (i + 1) + r) ∧ s 7 (8 * (i + 1) + r) ≤ 16) (h32 : 0 ≤ s 32 (8 * (i + 1) + r) ∧ s 32 (8 * (i + 1) + r) ≤ 15)
    (hf : s 7 (8 * (i + 1) + r) = 16 → Q (some (.inl 0)) h) (hQ : ¬ s 7 (8 * (i + 1) + r) = 16 → ∀ h', gX x n h (g_que s (i + 1) r F L) α e c h' → Q (some (.inl 1)) h') : am_PC (d + 2) mi_P_queue [.inr (.inr (px x i)), .inl (iI F), .inl (nI r), .inl (iI L)] h Q := by
  refine bk_P_queue ?_
  rw [XP_33 hX hi, XP_T1 hX hi, XP_N1 hX hi, nI_clamp (by omega), XP_a hX hi hr]
  refine ⟨XP_T hX hi, by decide, vp_in_nI hr (by omega), XK_T hX hi hr, sp_K_add hX hi hr h7 h32 (fun q => ⟨0, rfl, fun _ => ⟨Or.inl rfl, hf q⟩, fun z => absurd rfl z⟩) (fun q h1 g1 => ⟨1, rfl, fun z => absurd z (by decide), fun _ => ?_⟩)⟩
  have hX1 := g1.1
  rw [XP_36 hX1 hi, g_add_ne (by decide), show (1 : Int32) = iI 1 from rfl, iI_add]
  exact ⟨rfl, XP_T hX1 hi, XP_T hX1 hi, fun h2 e2 => ⟨Or.inr rfl, hQ q h2 (gX_tr g1 (by subst e2; exact gX_sI hX1 (SI_31 hi)))⟩⟩
/-- the first k ports: ways, taken copies, the state -/
def gr (s : sg) (p r : Nat) (A F L : Int) : Nat → Int × Int × sg
  | 0 => (0, 0, s)
  | k + 1 => if fgo s p A (k + 1) then (if (gr s p r A F L k).2.2 7 (8 * (k + 1) + r) = 16 then ((gr s p r A F L k).1 + 1, (gr s p r A F L k).2.1, (gr s p r A F L k).2.2) else ((gr s p r A F L k).1 + 1, (gr s p r A F L k).2.1 + 1, g_que (gr s p r A F L k).2.2 (k + 1) r F L)) else gr s p r A F L k
theorem gr_ne {s : sg} {p r k j j' : Nat} {A F L : Int} (h : ¬ j = 7 ∧ ¬ j = 31 ∧ ¬ j = 33 ∧ ¬ j = 34) : (gr s p r A F L k).2.2 j j' = s j j' := by
  induction k with
  | zero => rfl
  | succ k ih =>
    rw [gr]
    split
    · split
      · exact ih
      · show g_que _ _ _ _ _ _ _ = _
        rw [g_que_ne h, ih]
    · exact ih
theorem gr_7 {s : sg} {p r k : Nat} {A F L : Int} (h : ∀ j, j < 136 → 0 ≤ s 7 j ∧ s 7 j ≤ 16) : ∀ j, j < 136 → 0 ≤ (gr s p r A F L k).2.2 7 j ∧ (gr s p r A F L k).2.2 7 j ≤ 16 := by
  induction k with
  | zero => exact h
  | succ k ih =>
    intro j hj
    rw [gr]
    split
    · split
      · exact ih j hj
      · rename_i c1 c2
        show 0 ≤ g_que (gr s p r A F L k).2.2 (k + 1) r F L 7 j ∧ g_que (gr s p r A F L k).2.2 (k + 1) r F L 7 j ≤ 16
        rw [g_que_7]
        have b1 := ih j hj
        split
        · rename_i c3
          subst c3
          omega
        · exact b1
    · exact ih j hj
theorem gr_c {s : sg} {p r k : Nat} {A F L : Int} : 0 ≤ (gr s p r A F L k).2.1 ∧ (gr s p r A F L k).2.1 ≤ (gr s p r A F L k).1 ∧ (gr s p r A F L k).1 ≤ k := by
  induction k with
  | zero => exact ⟨Int.le_refl _, Int.le_refl _, Int.le_refl _⟩
  | succ k ih =>
    rw [gr]
    split
    · split
      · show 0 ≤ (gr s p r A F L k).2.1 ∧ (gr s p r A F L k).2.1 ≤ (gr s p r A F L k).1 + 1 ∧ (gr s p r A F L k).1 + 1 ≤ ((k + 1 : Nat) : Int)
        omega
      · show 0 ≤ (gr s p r A F L k).2.1 + 1 ∧ (gr s p r A F L k).2.1 + 1 ≤ (gr s p r A F L k).1 + 1 ∧ (gr s p r A F L k).1 + 1 ≤ ((k + 1 : Nat) : Int)
        omega
    · omega
/-- the counts behind the last port -/
def g_cnt (y : Int × Int × sg) : sg := if y.1 = 0 then am_u2 (am_u2 y.2.2 24 0 (y.2.2 24 0 + (y.1 - y.2.1))) 24 2 (y.2.2 24 2 + 1) else am_u2 y.2.2 24 0 (y.2.2 24 0 + (y.1 - y.2.1))
theorem lp_X_copies {d x n e c i r : Nat} {A F L : Int} {h0 : am_H} {s : sg} {α : Nat → Nat} {Q : Option am_V → am_H → Prop} (hn : 1 ≤ n ∧ n ≤ 16) (hi : i < n) (hr : r < 8) (hA : 0 ≤ A ∧ A ≤ 16) (hF : F = s 0 2) (h1 : ∀ j, j < 17 → 0 ≤ s 1 j ∧ s 1 j ≤ 10000) (h7 : ∀ j, j < 136 → 0 ≤ s 7 j ∧ s 7 j ≤ 16) (h32 : ∀ j, j < 136 → 0 ≤ s 32 j ∧ s 32 j ≤ 15)
    (hQ : ∀ h', gX x n h0 (g_cnt (gr s (i + 1) r A F L n)) α e c h' → Q (some (.inl (iI (gr s (i + 1) r A F L n).2.1))) h') : ∀ (j k : Nat) (h : am_H) (y8 : Option am_V), k + j = n → gX x n h0 (gr s (i + 1) r A F L k).2.2 α e c h → am_P (d + 2) mi_X_queueCopies 9 [some (.inr (.inr x)), some (.inr (.inr (px x i))), some (.inl (iI A)), some (.inl (nI r)), some (.inl (iI L)), some (.inl (iI (gr s (i + 1) r A F L k).1)), some (.inl (iI (gr s (i + 1) r A F L k).2.1)), some (.inl (nI k)), y8] [] h Q := by
  intro j
  induction j with
  | zero =>
    intro k h y8 hk g
    have hk : k = n := by omega
    subst hk
    have hX := g.1
    have hc := gr_c (s := s) (p := i + 1) (r := r) (k := k) (A := A) (F := F) (L := L)
    refine bk_X_queueCopies_9 ?_
    rw [X_R0 hX, X_T0 hX, X_N0 hX, X_R3 hX, X_T3 hX, X_N3 hX, show (0 : Int32).toNatClampNeg = 0 from rfl, show (2 : Int32).toNatClampNeg = 2 from rfl, X_a24 hX (by decide), iI_sub, iI_add]
    refine ⟨X_T hX, by decide, fun _ => ⟨X_T hX, rfl, rfl, Or.inl rfl, vp_in_nI (n := 0) (by decide) (by decide), rfl, vp_in_nI (n := 0) (by decide) (by decide), fun h2 e2 => ?_⟩, fun z => absurd (Int32.le_refl _) z⟩
    have g2 : gX x k h (am_u2 (gr s (i + 1) r A F L k).2.2 24 0 ((gr s (i + 1) r A F L k).2.2 24 0 + ((gr s (i + 1) r A F L k).1 - (gr s (i + 1) r A F L k).2.1))) α e c h2 := by subst e2; exact gX_xI hX (TI_24 (by decide))
    have hX2 := g2.1
    rw [X_R3 hX2, X_T3 hX2, X_N3 hX2, X_a24 hX2 (by decide), u2_nj (by decide), show (1 : Int32) = iI 1 from rfl, iI_add]
    refine ek_if (iI_eq (b := 0) (by unfold rI; omega) (by unfold rI; omega)) (fun c0 => ⟨X_T hX2, rfl, rfl, Or.inl rfl, vp_in_nI (n := 2) (by decide) (by decide), rfl, vp_in_nI (n := 2) (by decide) (by decide), fun h3 e3 => hQ h3 ?_⟩) (fun c0 => hQ h2 ?_)
    · unfold g_cnt
      rw [if_pos c0]
      exact gX_tr (gX_tr g g2) (by subst e3; exact gX_xI hX2 (TI_24 (by decide)))
    · unfold g_cnt
      rw [if_neg c0]
      exact gX_tr g g2
  | succ j ih =>
    intro k h y8 hk g
    have hX := g.1
    have hk' : k < n := by omega
    have b7 := gr_7 (s := s) (p := i + 1) (r := r) (k := k) (A := A) (F := F) (L := L) h7 (8 * (k + 1) + r) (by omega)
    have b32 : 0 ≤ (gr s (i + 1) r A F L k).2.2 32 (8 * (k + 1) + r) ∧ (gr s (i + 1) r A F L k).2.2 32 (8 * (k + 1) + r) ≤ 15 := by rw [gr_ne (by decide)]; exact h32 _ (by omega)
    have b1 := h1 (k + 1) (by omega)
    have same : fgo s (i + 1) A (k + 1) = false → ∀ y, am_P (d + 2) mi_X_queueCopies 9 [some (.inr (.inr x)), some (.inr (.inr (px x i))), some (.inl (iI A)), some (.inl (nI r)), some (.inl (iI L)), some (.inl (iI (gr s (i + 1) r A F L k).1)), some (.inl (iI (gr s (i + 1) r A F L k).2.1)), some (.inl (nI (k + 1))), y] [] h Q := by
      intro hf y
      have e1 : gr s (i + 1) r A F L (k + 1) = gr s (i + 1) r A F L k := by rw [gr, hf]; rfl
      have := ih (k + 1) h y (by omega) (by rw [e1]; exact g)
      rw [e1] at this
      exact this
    have go : fgo s (i + 1) A (k + 1) = true → am_P (d + 2) mi_X_queueCopies 60 [some (.inr (.inr x)), some (.inr (.inr (px x i))), some (.inl (iI A)), some (.inl (nI r)), some (.inl (iI L)), some (.inl (iI (gr s (i + 1) r A F L k).1)), some (.inl (iI (gr s (i + 1) r A F L k).2.1)), some (.inl (nI k)), some (.inr (.inr (px x k)))] [] h Q := by
      intro ht
      refine bk_X_queueCopies_60 ?_
      rw [X_9 hX, gr_ne (by decide), ← hF, show (1 : Int32) = iI 1 from rfl, iI_add, iI_add, show nI k + iI 1 = nI (k + 1) from nI_1 k]
      refine ⟨X_T hX, XP_T hX hk', sp_P_queue hX hk' hr b7 b32 (fun c1 => ⟨0, rfl, fun _ => ?_, fun z => absurd rfl z⟩) (fun c1 h2 g2 => ⟨1, rfl, fun z => absurd z (by decide), fun _ => ?_⟩)⟩
      · have e1 : gr s (i + 1) r A F L (k + 1) = ((gr s (i + 1) r A F L k).1 + 1, (gr s (i + 1) r A F L k).2.1, (gr s (i + 1) r A F L k).2.2) := by rw [gr, ht, if_pos rfl, if_pos c1]
        have := ih (k + 1) h (some (.inr (.inr (px x k)))) (by omega) (by rw [e1]; exact g)
        rw [e1] at this
        exact this
      · have e1 : gr s (i + 1) r A F L (k + 1) = ((gr s (i + 1) r A F L k).1 + 1, (gr s (i + 1) r A F L k).2.1 + 1, g_que (gr s (i + 1) r A F L k).2.2 (k + 1) r F L) := by rw [gr, ht, if_pos rfl, if_neg c1]
        have := ih (k + 1) h2 (some (.inr (.inr (px x k)))) (by omega) (by rw [e1]; exact gX_tr g g2)
        rw [e1] at this
        exact this
    refine bk_X_queueCopies_9 ?_
    rw [X_R0 hX, X_T0 hX, X_N0 hX, nI_clamp (by omega), X_a0 hX hk', XP_34 hX hk', gr_ne (by decide), XP_32 hX hk', nI_1 k, ← iI_nat (k + 1)]
    refine ⟨X_T hX, by decide, fun z => absurd z (nI_ge hk' (by omega)), fun _ => ⟨X_T hX, by decide, vp_in_nI hk' (by omega), ?_⟩⟩
    rw [iI_nat]
    refine ⟨fun z => same ?_ _, fun z => ⟨XP_T hX hk', ek_if (cmp_eq (b := 0) (by unfold rJ; omega) (by unfold rJ; omega)) (fun c2 => same ?_ _) (fun c2 => ek_if (iI_eq (b := 0) (by unfold rI; omega) (by unfold rI; omega)) (fun c3 => go ?_) (fun c3 => ⟨XP_T hX hk', ?_⟩))⟩⟩
    · have : k = i := by unfold px at z; omega
      unfold fgo
      rw [decide_eq_false (by omega)]
      rfl
    · unfold fgo
      rw [decide_eq_false (p := 0 < s 1 (k + 1)) (by omega), Bool.false_and, Bool.and_false]
    · have : ¬ k = i := fun y => z (by rw [y])
      unfold fgo
      rw [decide_eq_true (by omega), decide_eq_true (p := 0 < s 1 (k + 1)) (by omega), decide_eq_true c3]
      rfl
    · have : ¬ k = i := fun y => z (by rw [y])
      rw [← iI_nat (k + 1)]
      refine ek_if (iI_eq (by unfold rI; omega) (by unfold rI; omega)) (fun c4 => ?_) (fun c4 => ?_)
      · refine go ?_
        unfold fgo
        rw [decide_eq_true (by omega), decide_eq_true (p := 0 < s 1 (k + 1)) (by omega), decide_eq_true c4, Bool.or_true]
        rfl
      · rw [iI_nat]
        refine same ?_ _
        unfold fgo
        rw [decide_eq_false c3, decide_eq_false c4]
        simp
/-- a frame, as the class takes it -/
def g_frame (n : Nat) (s : sg) (p a r L : Int) : Int × sg :=
  if p < 1 ∨ (n : Int) < p then (-1, s) else if a < 1 ∨ 1000 < a ∨ r < 0 ∨ 7 < r ∨ L < 64 ∨ 1522 < L then (-2, s) else if s 1 p.toNat = 0 then (-3, s) else if s 0 2 = 5000 then (-4, s)
  else if ¬ s 35 (8 * a + r).toNat = -1 ∧ s 35 (8 * a + r).toNat ≤ g_tk s (8 * a + r).toNat then (0, am_u2 (am_u2 s 0 2 (s 0 2 + 1)) 24 1 (s 24 1 + 1))
  else (if 0 < (gr (am_u2 (am_u2 (am_u2 s 0 2 (s 0 2 + 1)) 36 (8 * a + r).toNat (s 0 0 / 1000)) 37 (8 * a + r).toNat (g_tk s (8 * a + r).toNat + 1)) p.toNat r.toNat (f_at s a.toNat) (s 0 2 + 1) L n).2.1 then s 0 2 + 1 else 0, g_cnt (gr (am_u2 (am_u2 (am_u2 s 0 2 (s 0 2 + 1)) 36 (8 * a + r).toNat (s 0 0 / 1000)) 37 (8 * a + r).toNat (g_tk s (8 * a + r).toNat + 1)) p.toNat r.toNat (f_at s a.toNat) (s 0 2 + 1) L n))
theorem sp_X_frame {d x n e c : Nat} {p a r L : Int} {h : am_H} {s : sg} {α : Nat → Nat} {Q : Option am_V → am_H → Prop} (hX : RX h x n s α e c) (hw : WS s) (hp : rI p) (ha : rI a) (hr : rI r) (hL : rI L) (h35 : ∀ j, j < 8008 → rJ (s 35 j)) (h36 : ∀ j, j < 8008 → 0 ≤ s 36 j ∧ s 36 j ≤ 2000) (h37 : ∀ j, j < 8008 → 0 ≤ s 37 j ∧ s 37 j ≤ 5000) (h32 : ∀ j, j < 136 → 0 ≤ s 32 j ∧ s 32 j ≤ 15)
    (hQ : ∀ h' α', gX x n h (g_frame n s p a r L).2 α' e (c + 1) h' → Q (some (.inl (iI (g_frame n s p a r L).1))) h') : am_PC (d + 4) mi_X_frame [.inr (.inr x), .inl (iI p), .inl (iI a), .inl (iI r), .inl (iI L)] h Q := by
  have hn := X_n hX
  obtain ⟨w0, w1, w2, w3, w4, a1, a2, a3, a4, a5, a6, a7, a8, a9, a10, a11, a12, a13, a14, a15, a16, a17, a18, a19, a20, a21, a22⟩ := WM_of hw
  have gs : gX x n h s α e (c + 1) h := ⟨RX_grow (k := 1) hX (eqon_rf _ _) (Nat.le_refl _) (by omega) (by omega), eqon_rf _ _⟩
  have hq : ∀ (y : Int × sg) (w : Int32) h' α', iI y.1 = w → g_frame n s p a r L = y → gX x n h y.2 α' e (c + 1) h' → Q (some (.inl w)) h' := fun y w h' α' e1 e g => by subst e1; subst e; exact hQ h' α' g
  refine bk_X_frame ⟨X_T hX, sp_findPort hX hp (fun cb => ⟨0, rfl, fun _ => hq (-1, s) _ _ _ im1 (by unfold g_frame; rw [if_pos cb]) gs, fun z => absurd rfl z⟩) (fun i hi ep => ⟨px x i, rfl, fun z => absurd z px_ne, fun _ => ?_⟩)⟩
  have cb : ¬ (p < 1 ∨ (n : Int) < p) := by omega
  have ept : p.toNat = i + 1 := by omega
  have bad : (a < 1 ∨ 1000 < a ∨ r < 0 ∨ 7 < r ∨ L < 64 ∨ 1522 < L) → Q (some (.inl (-2))) h := fun c2 => hq (-2, s) _ _ _ im2 (by unfold g_frame; rw [if_neg cb, if_pos c2]) gs
  refine sp_isAddress ha (fun c2 => ⟨0, rfl, fun _ => bad (by omega), fun z => absurd rfl z⟩) (fun c2 => ⟨1, rfl, fun z => absurd z (by decide), fun _ => ?_⟩)
  refine sp_isRank hr (fun c3 => ⟨0, rfl, fun _ => bad (by omega), fun z => absurd rfl z⟩) (fun c3 => ⟨1, rfl, fun z => absurd z (by decide), fun _ => ?_⟩)
  have b1 := a1 (i + 1) (by omega)
  rw [XP_34 hX hi, X_9 hX, show (1 : Int32) = iI 1 from rfl, iI_add]
  refine ek_if (iI_lt (b := 64) hL (by unfold rI; omega)) (fun q5 => bad (by omega)) (fun q5 => ek_if (iI_le (b := 1522) hL (by unfold rI; omega)) (fun q6 => ⟨XP_T hX hi, ek_if (cmp_eq (b := 0) (by unfold rJ; omega) (by unfold rJ; omega)) (fun q7 => hq (-3, s) _ _ _ im3 (by unfold g_frame; rw [if_neg cb, if_neg (by omega), ept, if_pos q7]) gs) (fun q7 => ⟨X_T hX, ek_if (iI_lt (b := 5000) (by unfold rI; omega) (by unfold rI; omega)) (fun q8 => ⟨rfl, X_T hX, X_T hX, fun h1 e1 => ?_⟩) (fun q8 => hq (-4, s) _ _ _ im4 (by unfold g_frame; rw [if_neg cb, if_neg (by omega), ept, if_neg q7, if_pos (by omega)]) gs)⟩)⟩) (fun q6 => bad (by omega)))
  have g1 : gX x n h (am_u2 s 0 2 (s 0 2 + 1)) α e c h1 := by subst e1; exact gX_sI hX SI_02
  have hX1 := g1.1
  obtain ⟨ka, rfl⟩ := Int.eq_ofNat_of_zero_le (show 0 ≤ a by omega)
  obtain ⟨kr, rfl⟩ := Int.eq_ofNat_of_zero_le (show 0 ≤ r by omega)
  have hka : ka ≤ 1000 := by omega
  have hkr : kr < 8 := by omega
  have es : ((8 : Int) * (ka : Int) + (kr : Int)).toNat = 8 * ka + kr := by omega
  have b35 := h35 (8 * ka + kr) (by omega)
  have b36 := h36 (8 * ka + kr) (by omega)
  have b37 := h37 (8 * ka + kr) (by omega)
  rw [iI_nat ka, iI_nat kr]
  refine ⟨X_T hX1, sp_addressOf hX1 hka (fun h2 α' g2 h0 => ⟨α' ka, rfl, ?_⟩)⟩
  have hX2 := g2.1
  obtain ⟨y1, y2, t1, t2, t3, t4, t5, t6, t7⟩ := hX2.2.1.2.1 ka hka h0
  obtain ⟨v1, v2, v3, v4, v5⟩ := t7 kr hkr
  have e00 : am_u2 s 0 2 (s 0 2 + 1) 0 0 = s 0 0 := u2_nj (by decide)
  have etk : g_tk (am_u2 s 0 2 (s 0 2 + 1)) (8 * ka + kr) = g_tk s (8 * ka + kr) := by
    unfold g_tk
    rw [e00, u2_ne (by decide), u2_ne (by decide)]
  have e35 : am_u2 s 0 2 (s 0 2 + 1) 35 (8 * ka + kr) = s 35 (8 * ka + kr) := u2_ne (by decide)
  rw [t2, t3, t4, nI_clamp (by omega), v1, X_6 hX2]
  have gq2 : gX x n h (am_u2 s 0 2 (s 0 2 + 1)) α' e (c + 1) h2 := gX_tr g1 g2
  refine ⟨t1, by decide, vp_in_nI hkr (by omega), X_T hX2, v2, sp_takesOne hX2 hka h0 hkr (by rw [e00]; exact w0) (by rw [u2_ne (by decide)]; exact b36) (by rw [e35]; exact b35) (by rw [u2_ne (by decide)]; exact b37) (fun ct => ⟨0, rfl, fun _ => ?_, fun z => absurd rfl z⟩) (fun ct h3 g3 => ⟨1, rfl, fun z => absurd z (by decide), fun _ => ?_⟩)⟩
  · rw [e35, etk] at ct
    rw [X_R3 hX2, X_T3 hX2, X_N3 hX2, show (iI 1).toNatClampNeg = 1 from rfl, X_a24 hX2 (by decide), u2_ne (by decide), iI_add]
    refine ⟨X_T hX2, rfl, rfl, Or.inl rfl, vp_in_nI (n := 1) (by decide) (by decide), rfl, vp_in_nI (n := 1) (by decide) (by decide), fun h4 e4 => ?_⟩
    exact hq (0, am_u2 (am_u2 s 0 2 (s 0 2 + 1)) 24 1 (s 24 1 + 1)) _ _ _ rfl (by unfold g_frame; rw [if_neg cb, if_neg (by omega), ept, if_neg q7, if_neg (by omega), es, if_pos ct]) (gX_tr gq2 (by subst e4; exact gX_xI hX2 (TI_24 (by decide))))
  · rw [e35, etk] at ct
    rw [etk, e00] at g3
    have hX3 := g3.1
    obtain ⟨z1, z2, u1, -⟩ := hX3.2.1.2.1 ka hka h0
    have f00 : am_u2 (am_u2 (am_u2 s 0 2 (s 0 2 + 1)) 36 (8 * ka + kr) (s 0 0 / 1000)) 37 (8 * ka + kr) (g_tk s (8 * ka + kr) + 1) 0 0 = s 0 0 := by rw [u2_ne (by decide), u2_ne (by decide), u2_nj (by decide)]
    have f16 : ∀ j, am_u2 (am_u2 (am_u2 s 0 2 (s 0 2 + 1)) 36 (8 * ka + kr) (s 0 0 / 1000)) 37 (8 * ka + kr) (g_tk s (8 * ka + kr) + 1) 16 j = s 16 j := fun j => by rw [u2_ne (by decide), u2_ne (by decide), u2_ne (by decide)]
    have f17 : ∀ j, am_u2 (am_u2 (am_u2 s 0 2 (s 0 2 + 1)) 36 (8 * ka + kr) (s 0 0 / 1000)) 37 (8 * ka + kr) (g_tk s (8 * ka + kr) + 1) 17 j = s 17 j := fun j => by rw [u2_ne (by decide), u2_ne (by decide), u2_ne (by decide)]
    have fat : f_at (am_u2 (am_u2 (am_u2 s 0 2 (s 0 2 + 1)) 36 (8 * ka + kr) (s 0 0 / 1000)) 37 (8 * ka + kr) (g_tk s (8 * ka + kr) + 1)) ka = f_at s ka := by
      unfold f_at
      rw [f00, f16, f17]
    rw [X_6 hX3]
    refine ⟨X_T hX3, u1, sp_portAt hX3 hka h0 (by rw [f00]; exact w0) (by rw [f17]; exact a17 ka hka) (by rw [f16]; exact a16 ka hka) ⟨_, rfl, X_T hX3, ?_⟩⟩
    rw [fat]
    have hA : 0 ≤ f_at s ka ∧ f_at s ka ≤ 16 := by
      have := a16 ka hka
      unfold f_at
      split <;> omega
    have f02 : am_u2 (am_u2 (am_u2 s 0 2 (s 0 2 + 1)) 36 (8 * ka + kr) (s 0 0 / 1000)) 37 (8 * ka + kr) (g_tk s (8 * ka + kr) + 1) 0 2 = s 0 2 + 1 := by rw [u2_ne (by decide), u2_ne (by decide), u2_eq]
    refine bk_X_queueCopies (lp_X_copies (h0 := h3) (s := am_u2 (am_u2 (am_u2 s 0 2 (s 0 2 + 1)) 36 (8 * ka + kr) (s 0 0 / 1000)) 37 (8 * ka + kr) (g_tk s (8 * ka + kr) + 1)) (A := f_at s ka) (F := s 0 2 + 1) (L := L) hn hi hkr hA f02.symm (fun j hj => by rw [u2_ne (by decide), u2_ne (by decide), u2_ne (by decide)]; exact a1 j hj) (fun j hj => by rw [u2_ne (by decide), u2_ne (by decide), u2_ne (by decide)]; exact a7 j hj) (fun j hj => by rw [u2_ne (by decide), u2_ne (by decide), u2_ne (by decide)]; exact h32 j hj) (fun h5 g5 => ⟨_, rfl, ?_⟩) n 0 h3 none (by omega) (gX_rf hX3))
    have hc := gr_c (s := am_u2 (am_u2 (am_u2 s 0 2 (s 0 2 + 1)) 36 (8 * ka + kr) (s 0 0 / 1000)) 37 (8 * ka + kr) (g_tk s (8 * ka + kr) + 1)) (p := i + 1) (r := kr) (k := n) (A := f_at s ka) (F := s 0 2 + 1) (L := L)
    have hX5 := g5.1
    have e02 : g_cnt (gr (am_u2 (am_u2 (am_u2 s 0 2 (s 0 2 + 1)) 36 (8 * ka + kr) (s 0 0 / 1000)) 37 (8 * ka + kr) (g_tk s (8 * ka + kr) + 1)) (i + 1) kr (f_at s ka) (s 0 2 + 1) L n) 0 2 = s 0 2 + 1 := by
      unfold g_cnt
      split
      · rw [u2_ne (by decide), u2_ne (by decide), gr_ne (by decide), f02]
      · rw [u2_ne (by decide), gr_ne (by decide), f02]
    rw [X_9 hX5, e02]
    have eg : g_frame n s p ka kr L = (if 0 < (gr (am_u2 (am_u2 (am_u2 s 0 2 (s 0 2 + 1)) 36 (8 * ka + kr) (s 0 0 / 1000)) 37 (8 * ka + kr) (g_tk s (8 * ka + kr) + 1)) (i + 1) kr (f_at s ka) (s 0 2 + 1) L n).2.1 then s 0 2 + 1 else 0, g_cnt (gr (am_u2 (am_u2 (am_u2 s 0 2 (s 0 2 + 1)) 36 (8 * ka + kr) (s 0 0 / 1000)) 37 (8 * ka + kr) (g_tk s (8 * ka + kr) + 1)) (i + 1) kr (f_at s ka) (s 0 2 + 1) L n)) := by
      unfold g_frame
      rw [if_neg cb, if_neg (by omega), ept, if_neg q7, if_neg (by omega), es, if_neg ct]
      rfl
    refine ek_if (iI_le (b := 0) (by unfold rI; omega) (by unfold rI; omega)) (fun c5 => hq _ _ _ _ ?_ eg (gX_tr (gX_tr gq2 g3) g5)) (fun c5 => ⟨X_T hX5, hq _ _ _ _ ?_ eg (gX_tr (gX_tr gq2 g3) g5)⟩)
    · show iI (if _ then _ else _) = 0
      rw [if_neg (by omega)]
      rfl
    · show iI (if _ then _ else _) = _
      rw [if_pos (by omega)]
