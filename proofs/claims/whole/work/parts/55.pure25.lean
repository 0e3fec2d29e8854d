/-! BOTH TOGETHER: what the state keeps to; one call of each -/
def WL (s : sg) : Prop := (0 ≤ s 30 0 ∧ s 30 0 ≤ 1000000) ∧ (∀ q k : Nat, 8 ≤ q → q < 136 → (k : Int) < s 9 q → s 11 (8 * q + k) ≤ s 30 0) ∧ (s 30 0 = 0 ∨ ∃ q k : Nat, 8 ≤ q ∧ q < 136 ∧ (k : Int) < s 9 q ∧ s 11 (8 * q + k) = s 30 0)
def WT (s : sg) : Prop := ∀ j, j < 8008 → (0 ≤ s 36 j ∧ s 36 j ≤ s 0 0 / 1000) ∧ s 19 j ≤ s 0 0 / 1000 ∧ (if s 36 j = s 0 0 / 1000 then s 37 j else 0) = (if s 19 j = s 0 0 / 1000 then s 20 j else 0) ∧ (0 ≤ s 37 j ∧ s 37 j ≤ s 0 2) ∧ (-1 ≤ s 35 j ∧ rJ (s 35 j)) ∧ s 18 j = (if 5000 < s 35 j then 0 else s 35 j + 1)
def WA (s : sg) : Prop := (∀ j, j ≤ 1000 → s 17 j = -1 → 0 < s 16 j) ∧ (∀ j : Nat, (j : Int) < s 0 4 → (0 ≤ s 23 (4 * j + 2) ∧ s 23 (4 * j + 2) ≤ 2000000) ∧ (0 ≤ s 23 (4 * j + 3) ∧ s 23 (4 * j + 3) ≤ 2000000))
def WF (n : Nat) (s : sg) : Prop := WS s ∧ WK s ∧ WE n s ∧ WL s ∧ WT s ∧ WA s
theorem WL_ext {s s' : sg} (h : WL s) (he : ∀ k j, (k = 9 ∨ k = 11 ∨ k = 30) → s' k j = s k j) : WL s' := by
  have e9 : ∀ j, s' 9 j = s 9 j := fun j => he 9 j (by omega)
  have e11 : ∀ j, s' 11 j = s 11 j := fun j => he 11 j (by omega)
  have e30 : s' 30 0 = s 30 0 := he 30 0 (by omega)
  unfold WL
  simp only [e9, e11, e30]
  exact h
theorem WT_ext {s s' : sg} (h : WT s) (he : ∀ k j, (k = 18 ∨ k = 19 ∨ k = 20 ∨ k = 35 ∨ k = 36 ∨ k = 37) → s' k j = s k j) (h0 : s' 0 0 = s 0 0) (h2 : s 0 2 ≤ s' 0 2) : WT s' := by
  intro j hj
  rw [he 18 _ (by omega), he 19 _ (by omega), he 20 _ (by omega), he 35 _ (by omega), he 36 _ (by omega), he 37 _ (by omega), h0]
  obtain ⟨t1, t2, t3, t4, t5, t6⟩ := h j hj
  exact ⟨t1, t2, t3, by omega, t5, t6⟩
theorem WT_now {s s' : sg} (h : WT s) (he : ∀ k j, (k = 18 ∨ k = 19 ∨ k = 20 ∨ k = 35 ∨ k = 36 ∨ k = 37) → s' k j = s k j) (h0 : s 0 0 ≤ s' 0 0) (h2 : s' 0 2 = s 0 2) : WT s' := by
  intro j hj
  rw [he 18 _ (by omega), he 19 _ (by omega), he 20 _ (by omega), he 35 _ (by omega), he 36 _ (by omega), he 37 _ (by omega), h2]
  obtain ⟨t1, t2, t3, t4, t5, t6⟩ := h j hj
  by_cases hc : s' 0 0 / 1000 = s 0 0 / 1000
  · rw [hc]; exact ⟨t1, t2, t3, t4, t5, t6⟩
  · have : s 0 0 / 1000 ≤ s' 0 0 / 1000 := by omega
    refine ⟨by omega, by omega, ?_, t4, t5, t6⟩
    rw [if_neg (by omega), if_neg (by omega)]
theorem WA_ext {s s' : sg} (h : WA s) (he : ∀ k j, (k = 16 ∨ k = 17 ∨ k = 23) → s' k j = s k j) (h4 : s' 0 4 = s 0 4) : WA s' := by
  have e16 : ∀ j, s' 16 j = s 16 j := fun j => he 16 j (by omega)
  have e17 : ∀ j, s' 17 j = s 17 j := fun j => he 17 j (by omega)
  have e23 : ∀ j, s' 23 j = s 23 j := fun j => he 23 j (by omega)
  unfold WA
  simp only [e16, e17, e23, h4]
  exact h
theorem WE_ext {n : Nat} {s s' : sg} (h : WE n s) (he : ∀ k j, (k = 1 ∨ k = 3 ∨ k = 6) → s' k j = s k j) (h0 : s' 0 0 = s 0 0) : WE n s' := by
  intro p hp
  rw [he 3 _ (by omega)] at hp
  rw [he 6 _ (by omega), he 1 _ (by omega), h0]
  exact h p hp
theorem RM_s {h : am_H} {m n : Nat} {s s' : sg} (hM : RM h m n s) (hs : ∀ k j, k ≤ 24 → s' k j = s k j) : RM h m n s' := by
  obtain ⟨hn, hT, hP, hA, s1, s2, s3, s4, s5⟩ := hM
  refine ⟨hn, hT, hP, fun k' k1 k2 => ?_, by rw [hs 0 0 (by omega)]; exact s1, by rw [hs 0 1 (by omega)]; exact s2, by rw [hs 0 2 (by omega)]; exact s3, by rw [hs 0 3 (by omega)]; exact s4, by rw [hs 0 4 (by omega)]; exact s5⟩
  obtain ⟨a1, a2, a3, a4, a5⟩ := hA k' k1 k2
  exact ⟨a1, a2, a3, fun t j' => by rw [hs k' j' k2]; exact a4 t j', fun t j' => by rw [hs k' j' k2]; exact a5 t j'⟩
/-- the two objects, in one state -/
def J (h : am_H) (x n : Nat) (s : sg) (c : Nat) : Prop := ∃ α e, RX h x n s α e c ∧ RM h (ax x n + 5) n s
/-- cells of neither: ahead, and the law's array -/
def OO (x n a : Nat) : Prop := a < x ∨ a = ax x n + 30
/-- behind a call of the class and one of the reference -/
theorem J_step {h h1 h2 : am_H} {x n c c' : Nat} {s sX sM s' : sg} (hJ : J h x n s c) (hX : ∃ α e, gX x n h sX α e c' h1) (hM : RM h1 (ax x n + 5) n s → gM (ax x n + 5) n h1 sM h2) (h24 : ∀ k j, k ≤ 24 → s' k j = sM k j) (hcl : ∀ k j, ¬ k = 8 → ¬ k = 15 → ¬ k = 18 → ¬ k = 19 → ¬ k = 20 → s' k j = sX k j) : J h2 x n s' c' ∧ eqon (OO x n) h h2 := by
  obtain ⟨α0, e0, hX0, hM0⟩ := hJ
  obtain ⟨α, e, g⟩ := hX
  have hM1 : RM h1 (ax x n + 5) n s := RM_eqon hM0 (eqon_mono (fun a ha => Or.inr ⟨ha.1, by have := ha.2; omega⟩) g.2)
  have gm := hM hM1
  refine ⟨⟨α, e, RX_s (RX_kp g.1 gm.2) hcl, RM_s gm.1 h24⟩, eqon_tr (eqon_mono (fun a ha => ?_) g.2) (eqon_mono (fun a ha => ?_) gm.2.1)⟩
  · rcases ha with ha | ha
    · exact Or.inl ha
    · exact Or.inr ⟨by omega, by omega⟩
  · have := ax_x (x := x) (n := n)
    intro hc
    obtain ⟨c1, c2⟩ := hc
    rcases ha with ha | ha <;> omega
theorem J_M {h h1 : am_H} {x n c c' e : Nat} {α : Nat → Nat} {s sX : sg} (hJ : J h x n s c) (g : gX x n h sX α e c' h1) : RM h1 (ax x n + 5) n s := by
  obtain ⟨α0, e0, hX0, hM0⟩ := hJ
  exact RM_eqon hM0 (eqon_mono (fun a ha => Or.inr ⟨ha.1, by have := ha.2; omega⟩) g.2)
/-! each call's state keeps to it -/
theorem WF_un {n k j : Nat} {s : sg} {v : Int} (h : WF n s) (hk : k = 24 ∨ 37 < k) : WF n (am_u2 s k j v) := by
  obtain ⟨h1, h2, h3, h4, h5, h6⟩ := h
  exact ⟨WS_un h1 (by omega), WK_ext h2 (fun k' j' hk' => u2_ne (by omega)), WE_ext h3 (fun k' j' hk' => u2_ne (by omega)) (u2_ne (by omega)), WL_ext h4 (fun k' j' hk' => u2_ne (by omega)), WT_ext h5 (fun k' j' hk' => u2_ne (by omega)) (u2_ne (by omega)) (by rw [u2_ne (by omega)]; exact Int.le_refl _), WA_ext h6 (fun k' j' hk' => u2_ne (by omega)) (u2_ne (by omega))⟩
/-- one of the plain kinds 2, 12, 13, 21, 22 -/
theorem WF_pl {n k j : Nat} {s : sg} {v : Int} (h : WF n s) (hk : k = 2 ∨ k = 12 ∨ k = 13 ∨ k = 21 ∨ k = 22) (hv : wlo k ≤ v ∧ v ≤ whi k) : WF n (am_u2 s k j v) := by
  obtain ⟨h1, h2, h3, h4, h5, h6⟩ := h
  exact ⟨WS_u2 h1 (by omega) hv, WK_ext h2 (fun k' j' hk' => u2_ne (by omega)), WE_ext h3 (fun k' j' hk' => u2_ne (by omega)) (u2_ne (by omega)), WL_ext h4 (fun k' j' hk' => u2_ne (by omega)), WT_ext h5 (fun k' j' hk' => u2_ne (by omega)) (u2_ne (by omega)) (by rw [u2_ne (by omega)]; exact Int.le_refl _), WA_ext h6 (fun k' j' hk' => u2_ne (by omega)) (u2_ne (by omega))⟩
theorem WF_clock {n : Nat} {s : sg} {p v : Int} (h : WF n s) (hn : n ≤ 16) : WF n (f_clock n s p v).2 := by
  unfold f_clock
  split
  · exact h
  · rename_i c1
    split
    · exact h
    · have b2 := (WM_of h.1).2.2.2.2.2.2.1 p.toNat (by omega)
      refine WF_pl h (by omega) (show (0 : Int) ≤ clk (s 2 p.toNat) v ∧ clk (s 2 p.toNat) v ≤ 1000000 from ?_)
      unfold clk
      split <;> split <;> omega
theorem WF_service {n : Nat} {s : sg} {o f : Int} (h : WF n s) (hn : n ≤ 16) : WF n (f_service n s o f).2 := by
  have w0 := h.1.1
  unfold f_service
  split
  · exact h
  · rename_i c1
    split
    · exact h
    · split
      · rename_i c2 c3
        refine WF_pl (WF_pl h (by omega) (show (0 : Int) ≤ f ∧ f ≤ 16 by omega)) (by omega) (show (0 : Int) ≤ s 0 0 + 1000 ∧ s 0 0 + 1000 ≤ 3000000 by omega)
      · exact h
theorem WF_14 {n j : Nat} {s : sg} (h : WF n s) : WF n (am_u2 s 14 j 0) := by
  obtain ⟨⟨w0, w1, w2, w3, w4, b, q, c, l, t⟩, h2, h3, h4, h5, h6⟩ := h
  refine ⟨?_, WK_ext h2 (fun k' j' hk' => u2_ne (by omega)), WE_ext h3 (fun k' j' hk' => u2_ne (by omega)) (u2_ne (by omega)), WL_ext h4 (fun k' j' hk' => u2_ne (by omega)), WT_ext h5 (fun k' j' hk' => u2_ne (by omega)) (u2_ne (by omega)) (by rw [u2_ne (by omega)]; exact Int.le_refl _), WA_ext h6 (fun k' j' hk' => u2_ne (by omega)) (u2_ne (by omega))⟩
  unfold WS
  simp only [u2_ne (show ¬ 0 = 14 by decide), u2_ne (show ¬ 7 = 14 by decide), u2_ne (show ¬ 8 = 14 by decide), u2_ne (show ¬ 15 = 14 by decide), u2_ne (show ¬ 20 = 14 by decide)]
  refine ⟨w0, w1, w2, w3, w4, WB_un b (by omega), q, fun j' hj' => ?_, l, t⟩
  by_cases hc : j' = j
  · subst hc; rw [u2_eq]; omega
  · rw [u2_nj hc]; exact c j' hj'
theorem WF_credit {n : Nat} {s : sg} {p r a b : Int} (h : WF n s) : WF n (f_credit n s p r a b).2 := by
  unfold f_credit
  split
  · exact h
  · split
    · exact h
    · exact WF_14 (WF_pl (WF_pl h (by omega) (show (0 : Int) ≤ a ∧ a ≤ 10000000 by omega)) (by omega) (show (0 : Int) ≤ b ∧ b ≤ 1000 by omega))
theorem WF_learn {n : Nat} {s : sg} {a p t : Int} (h : WF n s) (hn : n ≤ 16) : WF n (f_learn n s a p t).2 := by
  have w0 := h.1.1
  unfold f_learn
  split
  · exact h
  · split
    · exact h
    · split
      · exact h
      · rename_i c1 c2 c3
        show WF n (am_u2 (am_u2 s 16 a.toNat p) 17 a.toNat t)
        obtain ⟨h1, h2, h3, h4, h5, h6⟩ := h
        refine ⟨WS_u2 (WS_u2 h1 (by decide) (show (0 : Int) ≤ p ∧ p ≤ 16 by omega)) (by decide) (show (-1 : Int) ≤ t ∧ t ≤ 2000000 by omega), WK_ext h2 (fun k' j' hk' => by rw [u2_ne (by omega), u2_ne (by omega)]), WE_ext h3 (fun k' j' hk' => by rw [u2_ne (by omega), u2_ne (by omega)]) (by rw [u2_ne (by omega), u2_ne (by omega)]), WL_ext h4 (fun k' j' hk' => by rw [u2_ne (by omega), u2_ne (by omega)]), WT_ext h5 (fun k' j' hk' => by rw [u2_ne (by omega), u2_ne (by omega)]) (by rw [u2_ne (by omega), u2_ne (by omega)]) (by rw [u2_ne (by omega), u2_ne (by omega)]; exact Int.le_refl _), fun j hj hj2 => ?_, fun j hj => ?_⟩
        · rw [u2_ne (by decide)]
          by_cases hc : j = a.toNat
          · subst hc; rw [u2_eq]; omega
          · rw [u2_nj hc, u2_ne (by decide)] at hj2
            rw [u2_nj hc]
            exact h6.1 j hj hj2
        · rw [u2_ne (by decide), u2_ne (by decide)] at hj
          rw [u2_ne (by decide), u2_ne (by decide), u2_ne (by decide), u2_ne (by decide)]
          exact h6.2 j hj
theorem WF_cycle {n : Nat} {s : sg} {v : Int} (h : WF n s) (hv : 1 ≤ v ∧ v ≤ 1000000) : WF n (am_u2 s 0 1 v) := by
  obtain ⟨h1, h2, h3, h4, h5, h6⟩ := h
  exact ⟨WS_01 h1 hv, WK_ext h2 (fun k' j' hk' => u2_ne (by omega)), WE_ext h3 (fun k' j' hk' => u2_ne (by omega)) (u2_nj (by omega)), WL_ext h4 (fun k' j' hk' => u2_ne (by omega)), WT_ext h5 (fun k' j' hk' => u2_ne (by omega)) (u2_nj (by omega)) (by rw [u2_nj (by omega)]; exact Int.le_refl _), WA_ext h6 (fun k' j' hk' => u2_ne (by omega)) (u2_nj (by omega))⟩
theorem wover_lwe {s : sg} {v : Int} (h : WL s) (hv : 0 ≤ v) : wover s v ↔ v < s 30 0 := by
  obtain ⟨l1, l2, l3⟩ := h
  constructor
  · rintro ⟨q, k, a1, a2, a3, a4⟩
    have := l2 q k a1 a2 a3
    omega
  · intro hc
    rcases l3 with z | ⟨q, k, a1, a2, a3, a4⟩
    · omega
    · exact ⟨q, k, a1, a2, a3, by omega⟩
/-- gate: both answer alike, and the state stays well -/
theorem WF_gate {n : Nat} {s : sg} {p r a b : Int} (h : WF n s) (hn : n ≤ 16) : WF n (g_gate n s p r a b).2 ∧ (g_gate n s p r a b).1 = (f_gate n s p r a b).1 ∧ ∀ k j, k ≤ 24 → (g_gate n s p r a b).2 k j = (f_gate n s p r a b).2 k j := by
  unfold g_gate
  by_cases hc : 0 < (f_gate n s p r a b).1
  · rw [if_pos hc]
    refine ⟨?_, rfl, fun k j hk => u2_ne (by omega)⟩
    unfold f_gate at hc ⊢
    by_cases c1 : p < 1 ∨ (n : Int) < p ∨ r < 0 ∨ 7 < r
    · rw [if_pos c1] at hc; exact absurd hc (show ¬ (0 : Int) < -1 by decide)
    · rw [if_neg c1] at hc ⊢
      by_cases c2 : a < 0 ∨ b ≤ a ∨ s 0 1 < b
      · rw [if_pos c2] at hc; exact absurd hc (show ¬ (0 : Int) < -2 by decide)
      · rw [if_neg c2] at hc ⊢
        by_cases c3 : s 9 (8 * p + r).toNat = 8
        · rw [if_pos c3] at hc; exact absurd hc (show ¬ (0 : Int) < -4 by decide)
        · rw [if_neg c3]
          obtain ⟨h1, h2, h3, h4, h5, h6⟩ := h
          have w1 := h1.2.1
          have b9 := (WM_of h1).2.2.2.2.2.2.2.2.2.2.2.2.2.1 (8 * p + r).toNat (by omega)
          have Q1 : 8 ≤ (8 * p + r).toNat ∧ (8 * p + r).toNat < 136 := by omega
          have e8 : (8 * (8 * p + r) + s 9 (8 * p + r).toNat).toNat = 8 * (8 * p + r).toNat + (s 9 (8 * p + r).toNat).toNat := by omega
          show WF n (am_u2 (am_u2 (am_u2 (am_u2 s 10 (8 * (8 * p + r) + s 9 (8 * p + r).toNat).toNat a) 11 (8 * (8 * p + r) + s 9 (8 * p + r).toNat).toNat b) 9 (8 * p + r).toNat (s 9 (8 * p + r).toNat + 1)) 30 0 (if b < s 30 0 then s 30 0 else b))
          rw [e8]
          refine ⟨WS_un (WS_u2 (WS_u2 (WS_u2 h1 (by decide) (show (0 : Int) ≤ a ∧ a ≤ 1000000 by omega)) (by decide) (show (0 : Int) ≤ b ∧ b ≤ 1000000 by omega)) (by decide) (show (0 : Int) ≤ s 9 (8 * p + r).toNat + 1 ∧ s 9 (8 * p + r).toNat + 1 ≤ 8 by omega)) (by decide), WK_ext h2 (fun k' j' hk' => by rw [u2_ne (by omega), u2_ne (by omega), u2_ne (by omega), u2_ne (by omega)]), WE_ext h3 (fun k' j' hk' => by rw [u2_ne (by omega), u2_ne (by omega), u2_ne (by omega), u2_ne (by omega)]) (by rw [u2_ne (by omega), u2_ne (by omega), u2_ne (by omega), u2_ne (by omega)]), ?_, WT_ext h5 (fun k' j' hk' => by rw [u2_ne (by omega), u2_ne (by omega), u2_ne (by omega), u2_ne (by omega)]) (by rw [u2_ne (by omega), u2_ne (by omega), u2_ne (by omega), u2_ne (by omega)]) (by rw [u2_ne (by omega), u2_ne (by omega), u2_ne (by omega), u2_ne (by omega)]; exact Int.le_refl _), WA_ext h6 (fun k' j' hk' => by rw [u2_ne (by omega), u2_ne (by omega), u2_ne (by omega), u2_ne (by omega)]) (by rw [u2_ne (by omega), u2_ne (by omega), u2_ne (by omega), u2_ne (by omega)])⟩
          obtain ⟨l1, l2, l3⟩ := h4
          generalize hQ : (8 * p + r).toNat = q at *
          generalize hw : (s 9 q).toNat = w at *
          have e9 : ∀ j, (am_u2 (am_u2 (am_u2 (am_u2 s 10 (8 * q + w) a) 11 (8 * q + w) b) 9 q (s 9 q + 1)) 30 0 (if b < s 30 0 then s 30 0 else b)) 9 j = if j = q then s 9 q + 1 else s 9 j := fun j => by
            rw [u2_ne (by decide), am_u2]
            by_cases hz : j = q
            · rw [if_pos ⟨rfl, hz⟩, if_pos hz]
            · rw [if_neg (fun y => hz y.2), if_neg hz, u2_ne (by decide), u2_ne (by decide)]
          have e11 : ∀ j, (am_u2 (am_u2 (am_u2 (am_u2 s 10 (8 * q + w) a) 11 (8 * q + w) b) 9 q (s 9 q + 1)) 30 0 (if b < s 30 0 then s 30 0 else b)) 11 j = if j = 8 * q + w then b else s 11 j := fun j => by
            rw [u2_ne (by decide), u2_ne (by decide), am_u2]
            by_cases hz : j = 8 * q + w
            · rw [if_pos ⟨rfl, hz⟩, if_pos hz]
            · rw [if_neg (fun y => hz y.2), if_neg hz, u2_ne (by decide)]
          unfold WL
          simp only [e9, e11, u2_eq]
          refine ⟨by split <;> omega, fun q' k a1 a2 a3 => ?_, ?_⟩
          · by_cases hz : q' = q
            · subst hz
              rw [if_pos rfl] at a3
              by_cases hy : k = w
              · subst hy
                rw [if_pos rfl]
                split <;> omega
              · rw [if_neg (by omega)]
                have := l2 q' k a1 a2 (by omega)
                split <;> omega
            · rw [if_neg hz] at a3
              have b9' := (WM_of h1).2.2.2.2.2.2.2.2.2.2.2.2.2.1 q' a2
              rw [if_neg (by omega)]
              have := l2 q' k a1 a2 a3
              split <;> omega
          · by_cases hb : b < s 30 0
            · rw [if_pos hb]
              rcases l3 with z | ⟨q', k, a1, a2, a3, a4⟩
              · omega
              · refine Or.inr ⟨q', k, a1, a2, ?_, ?_⟩
                · split
                  · rename_i hz; subst hz; omega
                  · exact a3
                · rw [if_neg (fun z => ?_)]
                  · exact a4
                  · have b9' := (WM_of h1).2.2.2.2.2.2.2.2.2.2.2.2.2.1 q' a2
                    have : q' = q := by omega
                    subst this
                    omega
            · rw [if_neg hb]
              refine Or.inr ⟨q, w, Q1.1, Q1.2, ?_, ?_⟩
              · rw [if_pos rfl]; omega
              · rw [if_pos rfl]
  · rw [if_neg hc]
    refine ⟨?_, rfl, fun _ _ _ => rfl⟩
    unfold f_gate at hc ⊢
    by_cases c1 : p < 1 ∨ (n : Int) < p ∨ r < 0 ∨ 7 < r
    · rw [if_pos c1]; exact h
    · rw [if_neg c1] at hc ⊢
      by_cases c2 : a < 0 ∨ b ≤ a ∨ s 0 1 < b
      · rw [if_pos c2]; exact h
      · rw [if_neg c2] at hc ⊢
        by_cases c3 : s 9 (8 * p + r).toNat = 8
        · rw [if_pos c3]; exact h
        · rw [if_neg c3] at hc
          have b9 := (WM_of h.1).2.2.2.2.2.2.2.2.2.2.2.2.2.1 (8 * p + r).toNat (by omega)
          exact absurd (show 0 < s 9 (8 * p + r).toNat + 1 by omega) hc
