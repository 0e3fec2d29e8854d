/-! RANGES of the state, so that they are easily kept -/
def wlo (k : Nat) : Int := if k = 17 then -1 else 0
def whi (k : Nat) : Int := [0, 10000, 1000000, 5000, 7, 2000000, 3000000, 16, 0, 8, 1000000, 1000000, 10000000, 1000, 0, 0, 16, 2000000, 5001, 2000, 5000, 16, 3000000].getD k 0
def WB (σ : sg) : Prop := ∀ k j, 1 ≤ k → k ≤ 22 → ¬ k = 8 → ¬ k = 14 → ¬ k = 15 → ¬ k = 20 → j < nM k → wlo k ≤ σ k j ∧ σ k j ≤ whi k
def WS (σ : sg) : Prop := (0 ≤ σ 0 0 ∧ σ 0 0 ≤ 2000000) ∧ (1 ≤ σ 0 1 ∧ σ 0 1 ≤ 1000000) ∧ (0 ≤ σ 0 2 ∧ σ 0 2 ≤ 5000) ∧ (0 ≤ σ 0 3) ∧ (0 ≤ σ 0 4 ∧ σ 0 4 ≤ 5000) ∧ WB σ ∧ (∀ q k : Nat, q < 136 → (k : Int) < σ 7 q → 1 ≤ σ 8 (16 * q + k) ∧ σ 8 (16 * q + k) ≤ σ 0 2) ∧ (∀ j, j < 136 → -(10000000 * σ 0 0) ≤ σ 14 j ∧ σ 14 j ≤ 10000000 * σ 0 0) ∧ (∀ j : Nat, 1 ≤ j → (j : Int) ≤ σ 0 2 → 64 ≤ σ 15 j ∧ σ 15 j ≤ 1522) ∧ (∀ j, j < 8008 → 0 ≤ σ 20 j ∧ σ 20 j ≤ σ 0 2)
theorem WM_of {σ : sg} (h : WS σ) : WM σ := by
  obtain ⟨w0, w1, w2, w3, w4, b, q, c, l, t⟩ := h
  exact ⟨w0, w1, w2, w3, w4, fun j hj => b 1 j (by decide) (by decide) (by decide) (by decide) (by decide) (by decide) hj, fun j hj => b 2 j (by decide) (by decide) (by decide) (by decide) (by decide) (by decide) hj, fun j hj => b 3 j (by decide) (by decide) (by decide) (by decide) (by decide) (by decide) hj, fun j hj => b 4 j (by decide) (by decide) (by decide) (by decide) (by decide) (by decide) hj, fun j hj => b 5 j (by decide) (by decide) (by decide) (by decide) (by decide) (by decide) hj, fun j hj => b 6 j (by decide) (by decide) (by decide) (by decide) (by decide) (by decide) hj, fun j hj => b 7 j (by decide) (by decide) (by decide) (by decide) (by decide) (by decide) hj, q, fun j hj => b 9 j (by decide) (by decide) (by decide) (by decide) (by decide) (by decide) hj, fun j hj => b 10 j (by decide) (by decide) (by decide) (by decide) (by decide) (by decide) hj, fun j hj => b 11 j (by decide) (by decide) (by decide) (by decide) (by decide) (by decide) hj, fun j hj => b 12 j (by decide) (by decide) (by decide) (by decide) (by decide) (by decide) hj, fun j hj => b 13 j (by decide) (by decide) (by decide) (by decide) (by decide) (by decide) hj, c, l,
    fun j hj => b 16 j (by decide) (by decide) (by decide) (by decide) (by decide) (by decide) (Nat.lt_succ_of_le hj), fun j hj => b 17 j (by decide) (by decide) (by decide) (by decide) (by decide) (by decide) (Nat.lt_succ_of_le hj), fun j hj => b 18 j (by decide) (by decide) (by decide) (by decide) (by decide) (by decide) hj, fun j hj => b 19 j (by decide) (by decide) (by decide) (by decide) (by decide) (by decide) hj, fun j hj => by have := t j hj; omega, fun j hj => b 21 j (by decide) (by decide) (by decide) (by decide) (by decide) (by decide) (Nat.lt_succ_of_le hj), fun j hj => b 22 j (by decide) (by decide) (by decide) (by decide) (by decide) (by decide) (Nat.lt_succ_of_le hj)⟩
theorem WB_u2 {σ : sg} {k j : Nat} {v : Int} (h : WB σ) (hv : wlo k ≤ v ∧ v ≤ whi k) : WB (am_u2 σ k j v) := by
  intro k' j' h1 h2 h3 h4 h5 h7 h6
  unfold am_u2
  by_cases hc : k' = k ∧ j' = j
  · rw [if_pos hc, hc.1]; exact hv
  · rw [if_neg hc]; exact h k' j' h1 h2 h3 h4 h5 h7 h6
theorem WB_un {σ : sg} {k j : Nat} {v : Int} (h : WB σ) (hk : k = 0 ∨ k = 8 ∨ k = 14 ∨ k = 15 ∨ k = 20 ∨ 22 < k) : WB (am_u2 σ k j v) := by
  intro k' j' h1 h2 h3 h4 h5 h7 h6
  rw [u2_ne (by omega)]
  exact h k' j' h1 h2 h3 h4 h5 h7 h6
theorem WS_u2 {σ : sg} {k j : Nat} {v : Int} (h : WS σ) (hk : 1 ≤ k ∧ ¬ k = 7 ∧ ¬ k = 8 ∧ ¬ k = 14 ∧ ¬ k = 15 ∧ ¬ k = 20) (hv : wlo k ≤ v ∧ v ≤ whi k) : WS (am_u2 σ k j v) := by
  obtain ⟨w0, w1, w2, w3, w4, b, q, c, l, t⟩ := h
  unfold WS
  simp only [u2_ne (show ¬ 0 = k by omega), u2_ne (show ¬ 7 = k by omega), u2_ne (show ¬ 8 = k by omega), u2_ne (show ¬ 14 = k by omega), u2_ne (show ¬ 15 = k by omega), u2_ne (show ¬ 20 = k by omega)]
  exact ⟨w0, w1, w2, w3, w4, WB_u2 b hv, q, c, l, t⟩
theorem WS_un {σ : sg} {k j : Nat} {v : Int} (h : WS σ) (hk : 22 < k) : WS (am_u2 σ k j v) := by
  obtain ⟨w0, w1, w2, w3, w4, b, q, c, l, t⟩ := h
  unfold WS
  simp only [u2_ne (show ¬ 0 = k by omega), u2_ne (show ¬ 7 = k by omega), u2_ne (show ¬ 8 = k by omega), u2_ne (show ¬ 14 = k by omega), u2_ne (show ¬ 15 = k by omega), u2_ne (show ¬ 20 = k by omega)]
  exact ⟨w0, w1, w2, w3, w4, WB_un b (by omega), q, c, l, t⟩
theorem WS_20 {σ : sg} {j : Nat} {v : Int} (h : WS σ) (hv : 0 ≤ v ∧ v ≤ σ 0 2) : WS (am_u2 σ 20 j v) := by
  obtain ⟨w0, w1, w2, w3, w4, b, q, c, l, t⟩ := h
  unfold WS
  simp only [u2_ne (show ¬ 0 = 20 by decide), u2_ne (show ¬ 7 = 20 by decide), u2_ne (show ¬ 8 = 20 by decide), u2_ne (show ¬ 14 = 20 by decide), u2_ne (show ¬ 15 = 20 by decide)]
  refine ⟨w0, w1, w2, w3, w4, WB_un b (by omega), q, c, l, fun j' hj => ?_⟩
  by_cases hc : j' = j
  · subst hc; rw [u2_eq]; exact hv
  · rw [u2_nj hc]; exact t j' hj
theorem WS_03 {σ : sg} {v : Int} (h : WS σ) (hv : 0 ≤ v) : WS (am_u2 σ 0 3 v) := by
  obtain ⟨w0, w1, w2, w3, w4, b, q, c, l, t⟩ := h
  unfold WS
  simp only [u2_ne (show ¬ 7 = 0 by decide), u2_ne (show ¬ 8 = 0 by decide), u2_ne (show ¬ 14 = 0 by decide), u2_ne (show ¬ 15 = 0 by decide), u2_ne (show ¬ 20 = 0 by decide), u2_nj (show ¬ 0 = 3 by decide), u2_nj (show ¬ 1 = 3 by decide), u2_nj (show ¬ 2 = 3 by decide), u2_nj (show ¬ 4 = 3 by decide), u2_eq]
  exact ⟨w0, w1, w2, hv, w4, WB_un b (by omega), q, c, l, t⟩
theorem WS_04 {σ : sg} {v : Int} (h : WS σ) (hv : 0 ≤ v ∧ v ≤ 5000) : WS (am_u2 σ 0 4 v) := by
  obtain ⟨w0, w1, w2, w3, w4, b, q, c, l, t⟩ := h
  unfold WS
  simp only [u2_ne (show ¬ 7 = 0 by decide), u2_ne (show ¬ 8 = 0 by decide), u2_ne (show ¬ 14 = 0 by decide), u2_ne (show ¬ 15 = 0 by decide), u2_ne (show ¬ 20 = 0 by decide), u2_nj (show ¬ 0 = 4 by decide), u2_nj (show ¬ 1 = 4 by decide), u2_nj (show ¬ 2 = 4 by decide), u2_nj (show ¬ 3 = 4 by decide), u2_eq]
  exact ⟨w0, w1, w2, w3, hv, WB_un b (by omega), q, c, l, t⟩
theorem WS_01 {σ : sg} {v : Int} (h : WS σ) (hv : 1 ≤ v ∧ v ≤ 1000000) : WS (am_u2 σ 0 1 v) := by
  obtain ⟨w0, w1, w2, w3, w4, b, q, c, l, t⟩ := h
  unfold WS
  simp only [u2_ne (show ¬ 7 = 0 by decide), u2_ne (show ¬ 8 = 0 by decide), u2_ne (show ¬ 14 = 0 by decide), u2_ne (show ¬ 15 = 0 by decide), u2_ne (show ¬ 20 = 0 by decide), u2_nj (show ¬ 0 = 1 by decide), u2_nj (show ¬ 4 = 1 by decide), u2_nj (show ¬ 2 = 1 by decide), u2_nj (show ¬ 3 = 1 by decide), u2_eq]
  exact ⟨w0, hv, w2, w3, w4, WB_un b (by omega), q, c, l, t⟩
/-- a frame more, with its length -/
theorem WS_02 {σ : sg} {v : Int} (h : WS σ) (hv : 64 ≤ v ∧ v ≤ 1522) (hf : ¬ σ 0 2 = 5000) : WS (am_u2 (am_u2 σ 0 2 (σ 0 2 + 1)) 15 (σ 0 2 + 1).toNat v) := by
  obtain ⟨w0, w1, w2, w3, w4, b, q, c, l, t⟩ := h
  unfold WS
  simp only [u2_ne (show ¬ 7 = 0 by decide), u2_ne (show ¬ 8 = 0 by decide), u2_ne (show ¬ 14 = 0 by decide), u2_ne (show ¬ 15 = 0 by decide), u2_ne (show ¬ 20 = 0 by decide), u2_ne (show ¬ 7 = 15 by decide), u2_ne (show ¬ 8 = 15 by decide), u2_ne (show ¬ 14 = 15 by decide), u2_ne (show ¬ 0 = 15 by decide), u2_ne (show ¬ 20 = 15 by decide), u2_nj (show ¬ 0 = 2 by decide), u2_nj (show ¬ 4 = 2 by decide), u2_nj (show ¬ 1 = 2 by decide), u2_nj (show ¬ 3 = 2 by decide), u2_eq]
  refine ⟨w0, w1, by omega, w3, w4, WB_un (WB_un b (by omega)) (by omega), fun a k ha hk => ?_, c, fun j j1 j2 => ?_, fun j hj => by have := t j hj; omega⟩
  · have := q a k ha hk
    omega
  · by_cases hj : j = (σ 0 2 + 1).toNat
    · subst hj; rw [u2_eq]; exact hv
    · rw [u2_nj hj, u2_ne (by decide)]
      exact l j j1 (by omega)
/-- a queue one longer -/
theorem WS_enq {σ : sg} {a : Nat} {v : Int} (h : WS σ) (ha : a < 136) (hs : ¬ σ 7 a = 16) (hv : 1 ≤ v ∧ v ≤ σ 0 2) : WS (am_u2 (am_u2 σ 8 (16 * a + (σ 7 a).toNat) v) 7 a (σ 7 a + 1)) := by
  obtain ⟨w0, w1, w2, w3, w4, b, q, c, l, t⟩ := h
  have b7 := b 7 a (by decide) (by decide) (by decide) (by decide) (by decide) (by decide) ha
  have c7 : (0 : Int) ≤ σ 7 a ∧ σ 7 a ≤ 16 := b7
  unfold WS
  simp only [u2_ne (show ¬ 0 = 8 by decide), u2_ne (show ¬ 14 = 8 by decide), u2_ne (show ¬ 15 = 8 by decide), u2_ne (show ¬ 0 = 7 by decide), u2_ne (show ¬ 8 = 7 by decide), u2_ne (show ¬ 14 = 7 by decide), u2_ne (show ¬ 15 = 7 by decide), u2_ne (show ¬ 20 = 7 by decide), u2_ne (show ¬ 20 = 8 by decide), bshift_ne (show ¬ 20 = 8 by decide)]
  refine ⟨w0, w1, w2, w3, w4, WB_u2 (WB_un b (by omega)) (show (0 : Int) ≤ σ 7 a + 1 ∧ σ 7 a + 1 ≤ 16 by omega), fun a' k ha' hk => ?_, c, l, t⟩
  by_cases he : a' = a
  · subst he
    rw [u2_eq] at hk
    by_cases hz : k = (σ 7 a').toNat
    · subst hz; rw [u2_eq]; exact hv
    · rw [u2_nj (by omega)]
      exact q a' k ha (by omega)
  · rw [u2_nj he, u2_ne (by decide)] at hk
    have d7 : (0 : Int) ≤ σ 7 a' ∧ σ 7 a' ≤ 16 := b 7 a' (by decide) (by decide) (by decide) (by decide) (by decide) (by decide) ha'
    rw [u2_nj (by omega)]
    exact q a' k ha' hk
/-- a queue without its first -/
theorem WS_deq {σ : sg} {a : Nat} (h : WS σ) (ha : a < 136) (hs : 0 < σ 7 a) : WS (bshift (am_u2 σ 7 a (σ 7 a - 1)) a (σ 7 a - 1).toNat) := by
  obtain ⟨w0, w1, w2, w3, w4, b, q, c, l, t⟩ := h
  have c7 : (0 : Int) ≤ σ 7 a ∧ σ 7 a ≤ 16 := b 7 a (by decide) (by decide) (by decide) (by decide) (by decide) (by decide) ha
  unfold WS
  simp only [bshift_ne (show ¬ 0 = 8 by decide), bshift_ne (show ¬ 7 = 8 by decide), bshift_ne (show ¬ 14 = 8 by decide), bshift_ne (show ¬ 15 = 8 by decide), u2_ne (show ¬ 0 = 7 by decide), u2_ne (show ¬ 14 = 7 by decide), u2_ne (show ¬ 15 = 7 by decide), u2_ne (show ¬ 20 = 7 by decide), u2_ne (show ¬ 20 = 8 by decide), bshift_ne (show ¬ 20 = 8 by decide)]
  refine ⟨w0, w1, w2, w3, w4, fun k' j' h1 h2 h3 h4 h5 h7 h6 => ?_, fun a' k ha' hk => ?_, c, l, t⟩
  · rw [bshift_ne h3]
    exact WB_u2 b (show (0 : Int) ≤ σ 7 a - 1 ∧ σ 7 a - 1 ≤ 16 by omega) k' j' h1 h2 h3 h4 h5 h7 h6
  · by_cases he : a' = a
    · subst he
      rw [u2_eq] at hk
      rw [bshift_lt (by omega), u2_ne (by decide)]
      exact q a' (k + 1) ha' (by omega)
    · rw [u2_nj he] at hk
      have d7 : (0 : Int) ≤ σ 7 a' ∧ σ 7 a' ≤ 16 := b 7 a' (by decide) (by decide) (by decide) (by decide) (by decide) (by decide) ha'
      rw [bshift_ge (by omega), u2_ne (by decide)]
      exact q a' k ha' hk
/-! THE REFERENCE: enter, frame -/
def f_enter (σ : sg) (q : Nat) (F : Int) : Int × sg := if σ 7 q = 16 then (0, am_u2 σ 24 0 (σ 24 0 + 1)) else (F, am_u2 (am_u2 σ 8 (16 * q + (σ 7 q).toNat) F) 7 q (σ 7 q + 1))
theorem f_enter_ne {σ : sg} {q k j : Nat} {F : Int} (h : ¬ k = 7 ∧ ¬ k = 8 ∧ ¬ k = 24) : (f_enter σ q F).2 k j = σ k j := by
  unfold f_enter
  split
  · exact u2_ne h.2.2
  · show am_u2 _ _ _ _ _ _ = _
    rw [u2_ne h.1, u2_ne h.2.1]
theorem f_enter_WS {σ : sg} {q : Nat} {F : Int} (h : WS σ) (hq : q < 136) (hF : 1 ≤ F ∧ F ≤ σ 0 2) : WS (f_enter σ q F).2 := by
  unfold f_enter
  split
  · exact WS_un h (by decide)
  · rename_i c
    exact WS_enq h hq c hF
theorem sp_M_enter {d m n p r : Nat} {F : Int} {h : am_H} {σ : sg} {Q : Option am_V → am_H → Prop} (hM : RM h m n σ) (hp : 1 ≤ p ∧ p ≤ 16) (hr : r < 8) (h7 : 0 ≤ σ 7 (8 * p + r) ∧ σ 7 (8 * p + r) ≤ 16)
    (hQ : ∀ h', gM m n h (f_enter σ (8 * p + r) F).2 h' → Q (some (.inl (iI (f_enter σ (8 * p + r) F).1))) h') : am_PC (d + 1) mi_M_enter [.inr (.inr m), .inl (nI p), .inl (nI r), .inl (iI F)] h Q := by
  have hq : ∀ (x : Int × sg) h', f_enter σ (8 * p + r) F = x → gM m n h x.2 h' → Q (some (.inl (iI x.1))) h' := fun x h' e g => by subst e; exact hQ h' g
  have hin : vp_in (nI (8 * p + r)) 136 := vp_in_nI (by omega) (by omega)
  have e16 : (16 : Int32) * nI (8 * p + r) + iI (σ 7 (8 * p + r)) = nI (16 * (8 * p + r) + (σ 7 (8 * p + r)).toNat) := by
    rw [← nI_q16, ← iI_nat (σ 7 (8 * p + r)).toNat]
    congr 2
    omega
  refine bk_M_enter ?_
  rw [nI_q, nI_clamp (by omega), RM_R234 hM, RM_T7 hM, RM_N7 hM, RM_a7 hM, RM_R254 hM, RM_T24 hM, RM_N24 hM, RM_a24 hM, RM_R235 hM, RM_T8 hM, RM_N8 hM, e16, show (0 : Int32).toNatClampNeg = 0 from rfl, show (1 : Int32) = iI 1 from rfl, iI_add]
  refine ⟨RM_T hM, Or.inl rfl, hin, ek_if (iI_eq (b := 16) (by unfold rI; omega) (by unfold rI; omega)) (fun c => ⟨RM_T hM, rfl, rfl, Or.inl rfl, vp_in_nI (n := 0) (by decide) (by decide), rfl, vp_in_nI (n := 0) (by decide) (by decide), fun h1 e1 => ?_⟩) (fun c => ⟨RM_T hM, RM_T hM, Or.inl rfl, hin, rfl, vp_in_nI (by omega) (by omega), fun h1 e1 => ?_⟩)⟩
  · exact hq (0, am_u2 σ 24 0 (σ 24 0 + 1)) h1 (by unfold f_enter; rw [if_pos c]) (by subst e1; exact gM_xI hM (by decide) rfl)
  · rw [nI_clamp (by omega)] at e1
    have g1 : gM m n h (am_u2 σ 8 (16 * (8 * p + r) + (σ 7 (8 * p + r)).toNat) F) h1 := by subst e1; exact gM_xI hM (by decide) rfl
    have hM1 := g1.1
    rw [RM_R234 hM1, RM_T7 hM1, RM_N7 hM1, RM_a7 hM1, u2_ne (by decide), iI_add]
    refine ⟨RM_T hM1, rfl, rfl, Or.inl rfl, hin, rfl, hin, fun h2 e2 => ?_⟩
    have g2 : gM m n h1 (am_u2 (am_u2 σ 8 (16 * (8 * p + r) + (σ 7 (8 * p + r)).toNat) F) 7 (8 * p + r) (σ 7 (8 * p + r) + 1)) h2 := by subst e2; exact gM_xI hM1 (by decide) rfl
    exact hq (F, am_u2 (am_u2 σ 8 (16 * (8 * p + r) + (σ 7 (8 * p + r)).toNat) F) 7 (8 * p + r) (σ 7 (8 * p + r) + 1)) h2 (by unfold f_enter; rw [if_neg c]) (gM_tr g1 g2)
/-- a frame goes out at port o -/
def fgo (σ : sg) (p : Nat) (A : Int) (o : Nat) : Bool := decide (¬ o = p) && (decide (0 < σ 1 o) && (decide (A = 0) || decide (A = o)))
/-- the first k ports: is there a way, the answer, the state -/
def fr (σ : sg) (p r : Nat) (A F : Int) : Nat → Bool × Int × sg
  | 0 => (false, 0, σ)
  | k + 1 => if fgo σ p A (k + 1) then (true, if 0 < (f_enter (fr σ p r A F k).2.2 (8 * (k + 1) + r) F).1 then F else (fr σ p r A F k).2.1, (f_enter (fr σ p r A F k).2.2 (8 * (k + 1) + r) F).2) else fr σ p r A F k
theorem fr_ne {σ : sg} {p r k j j' : Nat} {A F : Int} (h : ¬ j = 7 ∧ ¬ j = 8 ∧ ¬ j = 24) : (fr σ p r A F k).2.2 j j' = σ j j' := by
  induction k with
  | zero => rfl
  | succ k ih =>
    rw [fr]
    split
    · show (f_enter _ _ _).2 _ _ = _
      rw [f_enter_ne h, ih]
    · exact ih
theorem fr_WS {σ : sg} {p r k : Nat} {A F : Int} (h : WS σ) (hk : k ≤ 16) (hr : r < 8) (hF : 1 ≤ F ∧ F ≤ σ 0 2) : WS (fr σ p r A F k).2.2 := by
  induction k with
  | zero => exact h
  | succ k ih =>
    rw [fr]
    split
    · exact f_enter_WS (ih (by omega)) (by omega) (by rw [fr_ne (by decide)]; exact hF)
    · exact ih (by omega)
def f_fr9 (x : Bool × Int × sg) : Int × sg := (x.2.1, am_u2 x.2.2 24 2 (if x.1 then x.2.2 24 2 else x.2.2 24 2 + 1))
theorem lp_M_frame {d m n p a r : Nat} {A F : Int} {h0 : am_H} {σ : sg} {Q : Option am_V → am_H → Prop} (hw : WS σ) (hn : 1 ≤ n ∧ n ≤ 16) (hp : p ≤ 16) (ha : a ≤ 1000) (hr : r < 8) (hA : A = f_at σ a) (hF : F = σ 0 2) (hF1 : 1 ≤ F)
    (hQ : ∀ h', gM m n h0 (f_fr9 (fr σ p r A F n)).2 h' → Q (some (.inl (iI (f_fr9 (fr σ p r A F n)).1))) h') : ∀ (j k : Nat) (h : am_H) (y4 y5 y9 : Option am_V), k + j = n → gM m n h0 (fr σ p r A F k).2.2 h → am_P (d + 1) mi_M_frame 177 [some (.inr (.inr m)), some (.inl (nI p)), some (.inl (nI a)), some (.inl (nI r)), y4, y5, some (.inl (iI (fr σ p r A F k).2.1)), some (.inl (bI (fr σ p r A F k).1)), some (.inl (nI (k + 1))), y9] [] h Q := by
  intro j
  induction j with
  | zero =>
    intro k h y4 y5 y9 hk g
    have hk : k = n := by omega
    subst hk
    have hM := g.1
    have fin : ∀ v h1, h1 = am_xI h (m + 24) 2 (iI v) → v = (if (fr σ p r A F k).1 then (fr σ p r A F k).2.2 24 2 else (fr σ p r A F k).2.2 24 2 + 1) → Q (some (.inl (iI (fr σ p r A F k).2.1))) h1 := by
      intro v h1 e1 ev
      have g1 : gM m k h (am_u2 (fr σ p r A F k).2.2 24 2 v) h1 := by subst e1; exact gM_xI hM (by decide) rfl
      rw [ev] at g1
      exact hQ h1 (gM_tr g g1)
    refine bk_M_frame_177 ?_
    rw [RM_n hM, RM_R254 hM, RM_T24 hM, RM_N24 hM, RM_a24 hM, show (2 : Int32).toNatClampNeg = 2 from rfl, show (1 : Int32) = iI 1 from rfl, iI_add]
    refine ⟨RM_T hM, fun _ => ⟨RM_T hM, fun z => ⟨RM_T hM, Or.inl rfl, vp_in_nI (n := 2) (by decide) (by decide), rfl, vp_in_nI (n := 2) (by decide) (by decide), fun h1 e1 => fin _ h1 e1 (by rw [bI_f.mp z]; rfl)⟩, fun z => ⟨RM_T hM, Or.inl rfl, vp_in_nI (n := 2) (by decide) (by decide), rfl, vp_in_nI (n := 2) (by decide) (by decide), fun h1 e1 => fin _ h1 e1 (by rw [bI_t.mp z]; rfl)⟩⟩, fun z => absurd (nI_lt (by omega) (by omega)) z⟩
  | succ j ih =>
    intro k h y4 y5 y9 hk g
    have hM := g.1
    have hws : WS (fr σ p r A F k).2.2 := fr_WS hw (by omega) hr (by omega)
    obtain ⟨w0, w1, w2, w3, w4, a1, a2, a3, a4, a5, a6, a7, a8, a9, a10, a11, a12, a13, a14, a15, a16, a17, a18, a19, a20, a21, a22⟩ := WM_of hws
    have hin : vp_in (nI (k + 1)) 17 := vp_in_nI (by omega) (by omega)
    have go : ∀ b : Bool, b = fgo σ p A (k + 1) → am_P (d + 1) mi_M_frame 228 [some (.inr (.inr m)), some (.inl (nI p)), some (.inl (nI a)), some (.inl (nI r)), none, none, some (.inl (iI (fr σ p r A F k).2.1)), some (.inl (bI (fr σ p r A F k).1)), some (.inl (nI (k + 1))), none] [.inl (bI b)] h Q := by
      intro b hb
      have g45 : ∀ c : Bool, c = ((fr σ p r A F k).1 || b) → am_P (d + 1) mi_M_frame 245 [some (.inr (.inr m)), some (.inl (nI p)), some (.inl (nI a)), some (.inl (nI r)), none, none, some (.inl (iI (fr σ p r A F k).2.1)), some (.inl (bI (fr σ p r A F k).1)), some (.inl (nI (k + 1))), some (.inl (bI b))] [.inl (bI c)] h Q := by
        intro c hc
        refine bk_M_frame_245 ?_
        rw [nI_1 (k + 1), RM_I242 hM, fr_ne (by decide), ← hF]
        refine ⟨fun z => ?_, fun z => ⟨RM_T hM, RM_T hM, sp_M_enter hM (by omega) hr (a7 _ (by omega)) (fun h2 g2 => ⟨_, rfl, ?_⟩)⟩⟩
        · have hbf := bI_f.mp z
          have e : fr σ p r A F (k + 1) = fr σ p r A F k := by rw [fr, ← hb, hbf]; rfl
          have := ih (k + 1) h none none (some (.inl (bI b))) (by omega) (by rw [e]; exact g)
          rw [e] at this
          rw [hc, hbf, Bool.or_false]
          rw [hbf] at this
          exact this
        · have hbt := bI_t.mp z
          have e : fr σ p r A F (k + 1) = (true, if 0 < (f_enter (fr σ p r A F k).2.2 (8 * (k + 1) + r) F).1 then F else (fr σ p r A F k).2.1, (f_enter (fr σ p r A F k).2.2 (8 * (k + 1) + r) F).2) := by rw [fr, ← hb, hbt]; rfl
          have e1 : (fr σ p r A F (k + 1)).1 = c := by rw [e, hc, hbt, Bool.or_true]
          have nx := ih (k + 1) h2 none none (some (.inl (bI b))) (by omega) (by rw [e]; exact gM_tr g g2)
          rw [e1] at nx
          have hM2 := g2.1
          rw [RM_I242 hM2, f_enter_ne (by decide), fr_ne (by decide), ← hF]
          have hr1 : rI (f_enter (fr σ p r A F k).2.2 (8 * (k + 1) + r) F).1 := by
            unfold f_enter
            split
            · exact (by unfold rI; omega)
            · show rI F
              have := hw.2.2.1
              unfold rI; omega
          refine ek_if (iI_le (b := 0) hr1 (by unfold rI; omega)) (fun q => ?_) (fun q => ⟨RM_T hM2, ?_⟩)
          · rw [e, if_neg (by omega)] at nx
            exact nx
          · rw [e, if_pos (by omega)] at nx
            exact nx
      refine bk_M_frame_228 ⟨fun z => ⟨fun z2 => g45 false (by rw [bI_f.mp z, bI_f.mp z2]; rfl), fun z2 => g45 true (by rw [bI_t.mp z2, Bool.or_true])⟩, fun z => g45 true (by rw [bI_t.mp z, Bool.true_or])⟩
    refine bk_M_frame_177 ?_
    rw [RM_n hM, RM_R228 hM, RM_T1 hM, RM_N1 hM, nI_clamp (by omega), RM_a1 hM, fr_ne (by decide)]
    have b1 := a1 (k + 1) (by omega)
    rw [fr_ne (by decide)] at b1
    refine ⟨RM_T hM, fun z => absurd z (nI_nlt (by omega) (by omega)), fun _ => ek_if (nI_eq (by omega) (by omega)) (fun c => go false (by unfold fgo; rw [decide_eq_false (by omega)]; rfl)) (fun c => ⟨RM_T hM, rfl, hin, ek_if (cmp_le (b := 0) (by unfold rJ; omega) (by unfold rJ; omega)) (fun c2 => go false (by unfold fgo; rw [decide_eq_false (p := 0 < σ 1 (k + 1)) (by omega), Bool.false_and, Bool.and_false])) (fun c2 => ⟨RM_T hM, ?_⟩)⟩)⟩
    have b16 := a16 a ha
    have b17 := a17 a ha
    have e1 : fgo σ p A (k + 1) = (decide (A = 0) || decide (A = ((k + 1 : Nat) : Int))) := by
      unfold fgo
      rw [decide_eq_true c, decide_eq_true (p := 0 < σ 1 (k + 1)) (by omega)]
      rfl
    rw [fr_ne (by decide)] at b16 b17
    refine sp_M_isAt hM ha w0 (by rw [fr_ne (by decide)]; unfold rI; omega) (a17 a ha) (fun c3 => ⟨1, rfl, fun z => absurd z (by decide), fun _ => ?_⟩) (fun c3 => ⟨0, rfl, fun _ => go true ?_, fun z => absurd rfl z⟩)
    · rw [fr_ne (by decide), fr_ne (by decide), fr_ne (by decide)] at c3
      have eA : A = σ 16 a := by rw [hA]; unfold f_at; rw [if_pos c3]
      rw [RM_R244 hM, RM_T16 hM, RM_N16 hM, nI_clamp (by omega), RM_a16 hM, fr_ne (by decide), ← eA, ← iI_nat (k + 1)]
      exact ⟨RM_T hM, Or.inl rfl, vp_in_nI (by omega) (by omega), ek_if (iI_eq (a := A) (by unfold rI; omega) (by unfold rI; omega)) (fun c4 => by rw [iI_nat]; exact go true (by rw [e1, decide_eq_true c4, Bool.or_true])) (fun c4 => by rw [iI_nat]; exact go false (by rw [e1, decide_eq_false c4, decide_eq_false (by omega)]; rfl))⟩
    · rw [fr_ne (by decide), fr_ne (by decide), fr_ne (by decide)] at c3
      have eA : A = 0 := by rw [hA]; unfold f_at; rw [if_neg c3]
      rw [e1, decide_eq_true eA, Bool.true_or]
def f_frm0 (σ : sg) (L : Int) : sg := am_u2 (am_u2 σ 0 2 (σ 0 2 + 1)) 15 (σ 0 2 + 1).toNat L
def f_frm1 (σ : sg) (s : Nat) (L : Int) : sg := f_look (f_frm0 σ L) s
def f_frm2 (σ : sg) (s : Nat) (L : Int) : sg := am_u2 (f_frm1 σ s L) 20 s ((f_frm1 σ s L) 20 s + 1)
def f_frame (n : Nat) (σ : sg) (p a r L : Int) : Int × sg :=
  if p < 1 ∨ (n : Int) < p then (-1, σ) else if a < 1 ∨ 1000 < a ∨ r < 0 ∨ 7 < r ∨ L < 64 ∨ 1522 < L then (-2, σ) else if σ 1 p.toNat = 0 then (-3, σ) else if σ 0 2 = 5000 then (-4, σ)
  else if 0 < (f_frm1 σ (8 * a + r).toNat L) 18 (8 * a + r).toNat ∧ (f_frm1 σ (8 * a + r).toNat L) 18 (8 * a + r).toNat - 1 ≤ (f_frm1 σ (8 * a + r).toNat L) 20 (8 * a + r).toNat then (0, am_u2 (f_frm1 σ (8 * a + r).toNat L) 24 1 ((f_frm1 σ (8 * a + r).toNat L) 24 1 + 1))
  else f_fr9 (fr (f_frm2 σ (8 * a + r).toNat L) p.toNat r.toNat (f_at (f_frm2 σ (8 * a + r).toNat L) a.toNat) (σ 0 2 + 1) n)
theorem f_look_ne {σ : sg} {s k j : Nat} (h : ¬ k = 19 ∧ ¬ k = 20) : f_look σ s k j = σ k j := by
  unfold f_look
  rw [u2_ne h.1]
  split
  · rfl
  · exact u2_ne h.2
theorem f_look_20 {σ : sg} {s : Nat} : f_look σ s 20 s = if σ 19 s = σ 0 0 / 1000 then σ 20 s else 0 := by
  unfold f_look
  rw [u2_ne (by decide)]
  split
  · rfl
  · exact u2_eq
theorem f_look_WS {σ : sg} {s : Nat} (h : WS σ) : WS (f_look σ s) := by
  have w0 := h.1
  unfold f_look
  split
  · exact WS_u2 h (by decide) (show (0 : Int) ≤ σ 0 0 / 1000 ∧ σ 0 0 / 1000 ≤ 2000 by omega)
  · exact WS_u2 (WS_20 h ⟨Int.le_refl 0, h.2.2.1.1⟩) (by decide) (show (0 : Int) ≤ σ 0 0 / 1000 ∧ σ 0 0 / 1000 ≤ 2000 by omega)
theorem f_frm0_ne {σ : sg} {L : Int} {k j : Nat} (h : ¬ (k = 0 ∧ j = 2) ∧ ¬ k = 15) : f_frm0 σ L k j = σ k j := by
  unfold f_frm0
  rw [u2_ne h.2, am_u2, if_neg h.1]
theorem f_frm0_nk {σ : sg} {L : Int} {k j : Nat} (h : ¬ k = 0 ∧ ¬ k = 15) : f_frm0 σ L k j = σ k j := f_frm0_ne ⟨fun z => h.1 z.1, h.2⟩
theorem f_frm0_02 {σ : sg} {L : Int} : f_frm0 σ L 0 2 = σ 0 2 + 1 := by
  unfold f_frm0
  rw [u2_ne (by decide), u2_eq]
theorem f_frm2_WS {σ : sg} {s : Nat} {L : Int} (h : WS σ) (hs : s < 8008) (hL : 64 ≤ L ∧ L ≤ 1522) (hf : ¬ σ 0 2 = 5000) : WS (f_frm2 σ s L) := by
  have h0 : WS (f_frm0 σ L) := WS_02 h hL hf
  have t := h.2.2.2.2.2.2.2.2.2 s hs
  have w2 := h.2.2.1
  refine WS_20 (f_look_WS h0) ?_
  unfold f_frm1
  rw [show f_look (f_frm0 σ L) s 0 2 = σ 0 2 + 1 by rw [f_look_ne (by decide), f_frm0_02], f_look_20, f_frm0_nk (k := 20) (by decide)]
  split <;> omega
theorem sp_M_frame {d m n : Nat} {p a r L : Int} {h : am_H} {σ : sg} {Q : Option am_V → am_H → Prop} (hM : RM h m n σ) (hw : WS σ) (hp : rI p) (ha : rI a) (hr : rI r) (hL : rI L)
    (hQ : ∀ h', gM m n h (f_frame n σ p a r L).2 h' → Q (some (.inl (iI (f_frame n σ p a r L).1))) h') : am_PC (d + 2) mi_M_frame [.inr (.inr m), .inl (iI p), .inl (iI a), .inl (iI r), .inl (iI L)] h Q := by
  have hn := hM.1
  have hws := hw
  obtain ⟨w0, w1, w2, w3, w4, a1, a2, a3, a4, a5, a6, a7, a8, a9, a10, a11, a12, a13, a14, a15, a16, a17, a18, a19, a20, a21, a22⟩ := WM_of hw
  have hq : ∀ (x : Int × sg) (w : Int32) h', iI x.1 = w → f_frame n σ p a r L = x → gM m n h x.2 h' → Q (some (.inl w)) h' := fun x w h' e1 e g => by subst e1; subst e; exact hQ h' g
  refine bk_M_frame ⟨RM_T hM, sp_M_none hM hp (fun c h2 g => ⟨1, rfl, fun q => absurd q (by decide), fun _ => hq (-1, σ) _ _ im1 (by unfold f_frame; rw [if_pos c]) g⟩) (fun c h2 g => ⟨0, rfl, fun _ => ?_, fun q => absurd rfl q⟩)⟩
  have hM2 := g.1
  have bad : (a < 1 ∨ 1000 < a ∨ r < 0 ∨ 7 < r ∨ L < 64 ∨ 1522 < L) → Q (some (.inl (-2))) h2 := fun c2 => hq (-2, σ) _ _ im2 (by unfold f_frame; rw [if_neg c, if_pos c2]) g
  refine ek_if (iI_lt (b := 1) ha (by unfold rI; omega)) (fun q => bad (by omega)) (fun q => ek_if (iI_lt (a := 1000) (by unfold rI; omega) ha) (fun q2 => bad (by omega)) (fun q2 => ek_if (iI_lt (b := 0) hr (by unfold rI; omega)) (fun q3 => bad (by omega)) (fun q3 => ek_if (iI_lt (a := 7) (by unfold rI; omega) hr) (fun q4 => bad (by omega)) (fun q4 => ek_if (iI_lt (b := 64) hL (by unfold rI; omega)) (fun q5 => bad (by omega)) (fun q5 => ek_if (iI_le (b := 1522) hL (by unfold rI; omega)) (fun q6 => ⟨RM_T hM2, ?_⟩) (fun q6 => bad (by omega)))))))
  obtain ⟨kp', rfl⟩ := Int.eq_ofNat_of_zero_le (show 0 ≤ p by omega)
  obtain ⟨ka, rfl⟩ := Int.eq_ofNat_of_zero_le (show 0 ≤ a by omega)
  obtain ⟨kr, rfl⟩ := Int.eq_ofNat_of_zero_le (show 0 ≤ r by omega)
  have c2 : ¬ ((ka : Int) < 1 ∨ 1000 < (ka : Int) ∨ (kr : Int) < 0 ∨ 7 < (kr : Int) ∨ L < 64 ∨ 1522 < L) := by omega
  have es : ((8 : Int) * (ka : Int) + (kr : Int)).toNat = 8 * ka + kr := by omega
  have ep : ((kp' : Nat) : Int).toNat = kp' := rfl
  have b1 := a1 kp' (by omega)
  rw [iI_nat kp', iI_nat ka, iI_nat kr, nI_q, nI_clamp (by omega), RM_R228 hM2, RM_T1 hM2, RM_N1 hM2, RM_a1 hM2, RM_I242 hM2, show (1 : Int32) = iI 1 from rfl, iI_add]
  refine ⟨rfl, vp_in_nI (by omega) (by omega), ek_if (cmp_eq (b := 0) (by unfold rJ; omega) (by unfold rJ; omega)) (fun q7 => hq (-3, σ) _ _ im3 (by unfold f_frame; rw [if_neg c, if_neg c2, ep, if_pos q7]) g) (fun q7 => ⟨RM_T hM2, ek_if (iI_eq (b := 5000) (by unfold rI; omega) (by unfold rI; omega)) (fun q8 => hq (-4, σ) _ _ im4 (by unfold f_frame; rw [if_neg c, if_neg c2, ep, if_neg q7, if_pos q8]) g) (fun q8 => ⟨rfl, RM_T hM2, RM_T hM2, fun h4 e4 => ?_⟩)⟩)⟩
  have g4 : gM m n h2 (am_u2 σ 0 2 (σ 0 2 + 1)) h4 := by subst e4; exact ⟨RM_frames hM2, kp_sI (NM_0 m)⟩
  have hM4 := g4.1
  rw [RM_I242 hM4, u2_eq, RM_R243 hM4, RM_T15 hM4, RM_N15 hM4, iI_clamp (by omega) (by unfold rI; omega)]
  refine ⟨RM_T hM4, RM_T hM4, rfl, iI_in (by omega) (by omega) (by omega), fun h5 e5 => ?_⟩
  have g5 : gM m n h4 (f_frm0 σ L) h5 := by subst e5; exact gM_xI (k := 15) hM4 (by decide) rfl
  have hM5 := g5.1
  have hs : 8 * ka + kr < 8008 := by omega
  have hin : vp_in (nI (8 * ka + kr)) 8008 := vp_in_nI hs (by omega)
  have e00 : f_frm0 σ L 0 0 = σ 0 0 := f_frm0_ne (by decide)
  have e19 : f_frm0 σ L 19 (8 * ka + kr) = σ 19 (8 * ka + kr) := f_frm0_nk (by decide)
  have b19 := a19 _ hs
  refine ⟨RM_T hM5, sp_M_look hM5 hs (by rw [e00]; exact w0) (by rw [e19]; unfold rJ; omega) (fun h7 g7 => ⟨rfl, RM_T g7.1, ?_⟩)⟩
  have hM7 : RM h7 m n (f_frm1 σ (8 * ka + kr) L) := g7.1
  have gg : gM m n h (f_frm1 σ (8 * ka + kr) L) h7 := gM_tr (gM_tr (gM_tr g g4) g5) g7
  have e18 : f_frm1 σ (8 * ka + kr) L 18 (8 * ka + kr) = σ 18 (8 * ka + kr) := by unfold f_frm1; rw [f_look_ne (by decide), f_frm0_nk (by decide)]
  have e20 : 0 ≤ f_frm1 σ (8 * ka + kr) L 20 (8 * ka + kr) ∧ f_frm1 σ (8 * ka + kr) L 20 (8 * ka + kr) ≤ 5000 := by
    have := a20 _ hs
    unfold f_frm1
    rw [f_look_20, f_frm0_nk (k := 20) (by decide)]
    split <;> omega
  have b18 := a18 _ hs
  have rest : ¬ (0 < f_frm1 σ (8 * ka + kr) L 18 (8 * ka + kr) ∧ f_frm1 σ (8 * ka + kr) L 18 (8 * ka + kr) - 1 ≤ f_frm1 σ (8 * ka + kr) L 20 (8 * ka + kr)) → am_P (d + 1) mi_M_frame 157 [some (.inr (.inr m)), some (.inl (nI kp')), some (.inl (nI ka)), some (.inl (nI kr)), some (.inl (iI L)), some (.inl (nI (8 * ka + kr))), none, none, none, none] [] h7 Q := by
    intro c3
    refine bk_M_frame_157 ?_
    rw [RM_R248 hM7, RM_T20 hM7, RM_N20 hM7, nI_clamp (by omega), RM_a20 hM7, show (1 : Int32) = iI 1 from rfl, iI_add]
    refine ⟨RM_T hM7, rfl, rfl, Or.inl rfl, hin, rfl, hin, fun h8 e8 => ?_⟩
    have g8 : gM m n h7 (f_frm2 σ (8 * ka + kr) L) h8 := by subst e8; exact gM_xI (k := 20) hM7 (by decide) rfl
    have e02 : f_frm2 σ (8 * ka + kr) L 0 2 = σ 0 2 + 1 := by
      unfold f_frm2 f_frm1
      rw [u2_ne (by decide), f_look_ne (by decide), f_frm0_02]
    refine lp_M_frame (σ := f_frm2 σ (8 * ka + kr) L) (A := f_at (f_frm2 σ (8 * ka + kr) L) ka) (F := σ 0 2 + 1) (h0 := h8) (f_frm2_WS hws hs (by omega) q8) hn (by omega) (by omega) (by omega) rfl e02.symm (by omega) (fun h9 g9 => ?_) n 0 h8 _ _ _ (by omega) (gM_rf g8.1)
    exact hq _ _ _ rfl (by unfold f_frame; rw [if_neg c, if_neg c2, ep, if_neg q7, if_neg q8, es, if_neg c3]; rfl) (gM_tr (gM_tr gg g8) g9)
  rw [RM_R246 hM7, RM_T18 hM7, RM_N18 hM7, nI_clamp (by omega), RM_a18 hM7, RM_R248 hM7, RM_T20 hM7, RM_N20 hM7, RM_a20 hM7, RM_R254 hM7, RM_T24 hM7, RM_N24 hM7, iI_l (by unfold rI; omega), show (1 : Int64) = jJ 1 from rfl, jJ_sub]
  refine ⟨rfl, hin, ek_if (cmp_le (b := 0) (by rw [e18]; unfold rJ; omega) (by unfold rJ; omega)) (fun q9 => rest (by omega)) (fun q9 => ⟨RM_T hM7, Or.inl rfl, hin, RM_T hM7, rfl, hin, ek_if (cmp_lt (by unfold rJ; omega) (by rw [e18]; unfold rJ; omega)) (fun q10 => rest (by omega)) (fun q10 => ⟨RM_T hM7, rfl, rfl, Or.inl rfl, vp_in_nI (n := 1) (by decide) (by decide), rfl, vp_in_nI (n := 1) (by decide) (by decide), fun h8 e8 => ?_⟩)⟩)⟩
  rw [show (iI 1).toNatClampNeg = 1 from rfl, RM_a24 hM7, iI_add] at e8
  have g8 : gM m n h7 (am_u2 (f_frm1 σ (8 * ka + kr) L) 24 1 ((f_frm1 σ (8 * ka + kr) L) 24 1 + 1)) h8 := by subst e8; exact gM_xI hM7 (by decide) rfl
  exact hq (0, am_u2 (f_frm1 σ (8 * ka + kr) L) 24 1 ((f_frm1 σ (8 * ka + kr) L) 24 1 + 1)) _ _ rfl (by unfold f_frame; rw [if_neg c, if_neg c2, ep, if_neg q7, if_neg q8, es, if_pos (by omega)]) (gM_tr gg g8)
