/-! BOTH TOGETHER: link, filter, run -/
theorem u2_nn {σ : sg} {k j k' j' : Nat} {v : Int} (h : ¬ (k' = k ∧ j' = j)) : am_u2 σ k j v k' j' = σ k' j' := by rw [am_u2, if_neg h]
theorem u2_pp {σ : sg} {k j k' j' : Nat} {v : Int} (h : k' = k ∧ j' = j) : am_u2 σ k j v k' j' = v := by rw [am_u2, if_pos h]
theorem WS_ext {s s' : sg} (h : WS s) (he : ∀ k j, k ≤ 22 → s' k j = s k j) : WS s' := by
  obtain ⟨w0, w1, w2, w3, w4, b, q, c, l, t⟩ := h
  have e0 : ∀ j, s' 0 j = s 0 j := fun j => he 0 j (by omega)
  have e7 : ∀ j, s' 7 j = s 7 j := fun j => he 7 j (by omega)
  have e8 : ∀ j, s' 8 j = s 8 j := fun j => he 8 j (by omega)
  have e14 : ∀ j, s' 14 j = s 14 j := fun j => he 14 j (by omega)
  have e15 : ∀ j, s' 15 j = s 15 j := fun j => he 15 j (by omega)
  have e20 : ∀ j, s' 20 j = s 20 j := fun j => he 20 j (by omega)
  unfold WS
  simp only [e0, e7, e8, e14, e15, e20]
  exact ⟨w0, w1, w2, w3, w4, fun k j h1 h2 h3 h4 h5 h6 h7 => by rw [he k j h2]; exact b k j h1 h2 h3 h4 h5 h6 h7, q, c, l, t⟩
theorem WS_70 {σ : sg} {a : Nat} (h : WS σ) : WS (am_u2 σ 7 a 0) := by
  obtain ⟨w0, w1, w2, w3, w4, b, q, c, l, t⟩ := h
  unfold WS
  simp only [u2_ne (show ¬ 0 = 7 by decide), u2_ne (show ¬ 8 = 7 by decide), u2_ne (show ¬ 14 = 7 by decide), u2_ne (show ¬ 15 = 7 by decide), u2_ne (show ¬ 20 = 7 by decide)]
  refine ⟨w0, w1, w2, w3, w4, WB_u2 b (show (0 : Int) ≤ 0 ∧ (0 : Int) ≤ 16 by omega), fun a' k ha' hk => ?_, c, l, t⟩
  by_cases he : a' = a
  · subst he
    rw [u2_eq] at hk
    omega
  · rw [u2_nj he] at hk
    exact q a' k ha' hk
theorem WS_lz {σ : sg} {p : Nat} (h : WS σ) (k : Nat) : WS (lzero σ p k) := by
  induction k with
  | zero => exact h
  | succ k ih => exact WS_70 ih
theorem lzero_7 {σ : sg} {p k j : Nat} : lzero σ p k 7 j = if 8 * p ≤ j ∧ j < 8 * p + k then 0 else σ 7 j := by
  induction k with
  | zero => rw [if_neg (by omega)]; rfl
  | succ k ih =>
    rw [lzero, am_u2]
    by_cases hc : j = 8 * p + k
    · rw [if_pos ⟨rfl, hc⟩, if_pos (by omega)]
    · rw [if_neg (fun z => hc z.2), ih]
      by_cases hd : 8 * p ≤ j ∧ j < 8 * p + k
      · rw [if_pos hd, if_pos (by omega)]
      · rw [if_neg hd, if_neg (by omega)]
theorem lsum_0 {s : sg} {p : Nat} (k : Nat) (h : ∀ j, j < k → s 7 (8 * p + j) = 0) : lsum s p k = 0 := by
  induction k with
  | zero => rfl
  | succ k ih => rw [lsum, ih (fun j hj => h j (by omega)), h k (by omega)]; rfl
theorem lsum_eq' {s s' : sg} {p : Nat} (k : Nat) (h : ∀ j, j < k → s' 7 (8 * p + j) = s 7 (8 * p + j)) : lsum s' p k = lsum s p k := by
  induction k with
  | zero => rfl
  | succ k ih => rw [lsum, lsum, ih (fun j hj => h j (by omega)), h k (by omega)]
theorem WF_link {n : Nat} {s : sg} {p v : Int} (h : WF n s) (hn : n ≤ 16) : WF n (g_link n s p v).2 ∧ (g_link n s p v).1 = (f_link n s p v).1 ∧ ∀ k j, k ≤ 24 → (g_link n s p v).2 k j = (f_link n s p v).2 k j := by
  unfold g_link f_link
  by_cases c1 : p < 1 ∨ (n : Int) < p
  · rw [if_pos c1, if_pos c1]; exact ⟨h, rfl, fun _ _ _ => rfl⟩
  · rw [if_neg c1, if_neg c1]
    by_cases c2 : v < 0 ∨ 10000 < v
    · rw [if_pos c2, if_pos c2]; exact ⟨h, rfl, fun _ _ _ => rfl⟩
    · rw [if_neg c2, if_neg c2]
      have hP : 1 ≤ p.toNat ∧ p.toNat ≤ n := by omega
      generalize p.toNat = P at hP ⊢
      have b3 := (WM_of h.1).2.2.2.2.2.2.2.1 P (by omega)
      by_cases c3 : 0 < v ∧ v ≠ s 1 P ∧ ¬ s 3 P = 0
      · rw [if_pos c3, if_pos (show 0 < s 3 P ∧ 0 < v ∧ v ≠ s 1 P from ⟨by omega, c3.1, c3.2.1⟩)]; exact ⟨h, rfl, fun _ _ _ => rfl⟩
      · rw [if_neg c3, if_neg (show ¬ (0 < s 3 P ∧ 0 < v ∧ v ≠ s 1 P) from fun z => c3 ⟨z.2.1, z.2.2, by have := z.1; omega⟩)]
        by_cases c4 : 0 < v
        · rw [if_pos c4, if_pos c4]
          refine ⟨?_, rfl, fun _ _ _ => rfl⟩
          show WF n (am_u2 s 1 P v)
          obtain ⟨h1, h2, h3, h4, h5, h6⟩ := h
          refine ⟨WS_u2 h1 (by decide) (show (0 : Int) ≤ v ∧ v ≤ 10000 by omega), WK_ext h2 (fun k' j' hk' => u2_ne (by omega)), fun q hq => ?_, WL_ext h4 (fun k' j' hk' => u2_ne (by omega)), WT_ext h5 (fun k' j' hk' => u2_ne (by omega)) (u2_ne (by omega)) (by rw [show (am_u2 s 1 P v) 0 2 = s 0 2 from u2_ne (by omega)]; exact Int.le_refl _), WA_ext h6 (fun k' j' hk' => u2_ne (by omega)) (u2_ne (by omega))⟩
          rw [show (am_u2 s 1 P v) 3 q = s 3 q from u2_ne (by omega)] at hq
          have e := h3 q hq
          rw [show (am_u2 s 1 P v) 0 0 = s 0 0 from u2_ne (by omega), show (am_u2 s 1 P v) 6 q = s 6 q from u2_ne (by omega)]
          refine ⟨e.1, e.2.1, ?_⟩
          by_cases hqp : q = P
          · subst hqp; show 0 < am_u2 s 1 q v 1 q; rw [u2_eq]; exact c4
          · show 0 < am_u2 s 1 P v 1 q; rw [u2_nj hqp]; exact e.2.2
        · rw [if_neg c4, if_neg c4]
          have hv : v = 0 := by omega
          subst hv
          have e31 := h.2.1.2.2 P hP.1 (by omega)
          have eb : (if 0 < s 3 P then (1 : Int) else 0) = if s 3 P = 0 then 0 else 1 := by split <;> split <;> omega
          have ev : s 31 P + (if s 3 P = 0 then (0 : Int) else 1) = (if 0 < s 3 P then (1 : Int) else 0) + lsum s P 8 := by rw [eb, e31]; omega
          rw [ev]
          generalize hz : (if 0 < s 3 P then (1 : Int) else 0) + lsum s P 8 = z
          have agr : ∀ k j, k ≤ 24 → am_u2 (am_u2 (am_u2 (lzero (am_u2 s 1 P 0) P 8) 31 P 0) 3 P 0) 24 3 (s 24 3 + z) k j = am_u2 (lzero (am_u2 (am_u2 s 1 P 0) 3 P 0) P 8) 24 3 (s 24 3 + z) k j := by
            intro k j hk
            by_cases h24 : k = 24 ∧ j = 3
            · rw [u2_pp h24, u2_pp h24]
            · rw [u2_nn h24, u2_nn h24]
              by_cases h3 : k = 3
              · subst h3
                rw [lzero_ne (by decide)]
                by_cases hj : j = P
                · subst hj; rw [u2_eq, u2_eq]
                · simp only [u2_nj hj]; rw [lzero_ne (by decide), u2_nj hj]
              · rw [u2_ne h3, u2_ne (show ¬ k = 31 by omega)]
                by_cases h7 : k = 7
                · subst h7
                  rw [lzero_7, lzero_7, u2_ne (by decide), u2_ne (by decide), u2_ne (by decide)]
                · rw [lzero_ne h7, lzero_ne h7, u2_ne (k := 3) h3]
          refine ⟨?_, rfl, agr⟩
          show WF n (am_u2 (am_u2 (am_u2 (lzero (am_u2 s 1 P 0) P 8) 31 P 0) 3 P 0) 24 3 (s 24 3 + z))
          obtain ⟨h1, h2, h3, h4, h5, h6⟩ := h
          have ne : ∀ k j, ¬ k = 1 → ¬ k = 3 → ¬ k = 7 → ¬ k = 24 → ¬ k = 31 → am_u2 (am_u2 (am_u2 (lzero (am_u2 s 1 P 0) P 8) 31 P 0) 3 P 0) 24 3 (s 24 3 + z) k j = s k j := fun k j q1 q3 q7 q24 q31 => by
            rw [u2_ne q24, u2_ne q3, u2_ne q31, lzero_ne q7, u2_ne q1]
          have e7 : ∀ j, am_u2 (am_u2 (am_u2 (lzero (am_u2 s 1 P 0) P 8) 31 P 0) 3 P 0) 24 3 (s 24 3 + z) 7 j = if 8 * P ≤ j ∧ j < 8 * P + 8 then 0 else s 7 j := fun j => by
            rw [u2_ne (by decide), u2_ne (by decide), u2_ne (by decide), lzero_7, u2_ne (by decide)]
          refine ⟨WS_ext (WS_un (WS_lz (WS_u2 (WS_u2 h1 (k := 1) (j := P) (v := 0) (by decide) (show (0 : Int) ≤ 0 ∧ (0 : Int) ≤ 10000 by omega)) (k := 3) (j := P) (v := 0) (by decide) (show (0 : Int) ≤ 0 ∧ (0 : Int) ≤ 5000 by omega)) (p := P) 8) (k := 24) (j := 3) (v := s 24 3 + z) (by decide)) (fun k j hk => agr k j (by omega)), ?_, ?_, WL_ext h4 (fun k' j' hk' => ne k' j' (by omega) (by omega) (by omega) (by omega) (by omega)), WT_ext h5 (fun k' j' hk' => ne k' j' (by omega) (by omega) (by omega) (by omega) (by omega)) (ne 0 0 (by decide) (by decide) (by decide) (by decide) (by decide)) (by rw [ne 0 2 (by decide) (by decide) (by decide) (by decide) (by decide)]; exact Int.le_refl _), WA_ext h6 (fun k' j' hk' => ne k' j' (by omega) (by omega) (by omega) (by omega) (by omega)) (ne 0 4 (by decide) (by decide) (by decide) (by decide) (by decide))⟩
          · obtain ⟨k1, k2, k3⟩ := h2
            refine ⟨fun q hq => ?_, fun q t hq ht => ?_, fun p' p1 p2 => ?_⟩
            · rw [ne 32 q (by decide) (by decide) (by decide) (by decide) (by decide)]; exact k1 q hq
            · rw [e7] at ht
              by_cases hc : 8 * P ≤ q ∧ q < 8 * P + 8
              · rw [if_pos hc] at ht; omega
              · rw [if_neg hc] at ht
                have := k2 q t hq ht
                rw [ne 32 q (by decide) (by decide) (by decide) (by decide) (by decide), ne 33 _ (by decide) (by decide) (by decide) (by decide) (by decide), ne 34 _ (by decide) (by decide) (by decide) (by decide) (by decide), ne 8 _ (by decide) (by decide) (by decide) (by decide) (by decide), ne 15 _ (by decide) (by decide) (by decide) (by decide) (by decide)]
                exact this
            · by_cases hc : p' = P
              · subst hc
                rw [lsum_0 8 (fun j hj => by rw [e7, if_pos (by omega)]), u2_ne (by decide), u2_ne (by decide), u2_eq]
              · rw [lsum_eq' (s := s) 8 (fun j hj => by rw [e7, if_neg (by omega)]), u2_ne (by decide), u2_ne (by decide), u2_nj hc, lzero_ne (by decide), u2_ne (by decide)]
                exact k3 p' p1 p2
          · intro q hq
            have hqp : ¬ q = P := fun e => hq (by subst e; rw [u2_ne (by decide), u2_eq])
            have e3 : am_u2 (am_u2 (am_u2 (lzero (am_u2 s 1 P 0) P 8) 31 P 0) 3 P 0) 24 3 (s 24 3 + z) 3 q = s 3 q := by
              rw [u2_ne (by decide), u2_nj hqp, u2_ne (by decide), lzero_ne (by decide), u2_ne (by decide)]
            have e1 : am_u2 (am_u2 (am_u2 (lzero (am_u2 s 1 P 0) P 8) 31 P 0) 3 P 0) 24 3 (s 24 3 + z) 1 q = s 1 q := by
              rw [u2_ne (by decide), u2_ne (by decide), u2_ne (by decide), lzero_ne (by decide), u2_nj hqp]
            rw [e3] at hq
            rw [e1, ne 0 0 (by decide) (by decide) (by decide) (by decide) (by decide), ne 6 q (by decide) (by decide) (by decide) (by decide) (by decide)]
            exact h3 q hq
/-! filter -/
theorem f_look_nj {σ : sg} {s k j : Nat} (h : ¬ j = s) : f_look σ s k j = σ k j := by
  unfold f_look
  rw [u2_nj h]
  split
  · rfl
  · exact u2_nj h
theorem f_look_19 {σ : sg} {s : Nat} : f_look σ s 19 s = σ 0 0 / 1000 := u2_eq
theorem look_tk {s : sg} {q : Nat} (h : WT s) (hq : q < 8008) : f_look s q 20 q = g_tk s q := by
  rw [f_look_20]
  unfold g_tk
  exact ((h q hq).2.2.1).symm
def h_filter (s : sg) (q v : Int) : sg := if q < 8 ∨ 8007 < q then s else if v < -1 then s else am_u2 (am_u2 (f_look s q.toNat) 18 q.toNat (if 5000 < v then 0 else v + 1)) 35 q.toNat v
theorem WF_filter {n : Nat} {s : sg} {q v : Int} (h : WF n s) (hv : rJ v) : WF n (h_filter s q v) ∧ (g_filter s q v).1 = (f_filter s q v).1 ∧ (∀ k j, k ≤ 24 → h_filter s q v k j = (f_filter s q v).2 k j) ∧ (∀ k j, ¬ k = 8 → ¬ k = 15 → ¬ k = 18 → ¬ k = 19 → ¬ k = 20 → h_filter s q v k j = (g_filter s q v).2 k j) := by
  unfold h_filter g_filter f_filter
  by_cases c1 : q < 8 ∨ 8007 < q
  · rw [if_pos c1, if_pos c1, if_pos c1]; exact ⟨h, rfl, fun _ _ _ => rfl, fun _ _ _ _ _ _ _ => rfl⟩
  · rw [if_neg c1, if_neg c1, if_neg c1]
    by_cases c2 : v < -1
    · rw [if_pos c2, if_pos c2, if_pos c2]; exact ⟨h, rfl, fun _ _ _ => rfl, fun _ _ _ _ _ _ _ => rfl⟩
    · rw [if_neg c2, if_neg c2, if_neg c2]
      have hQ : q.toNat < 8008 := by omega
      generalize q.toNat = Q at hQ ⊢
      obtain ⟨h1, h2, h3, h4, h5, h6⟩ := h
      refine ⟨?_, (look_tk h5 hQ).symm, fun k j hk => u2_ne (by omega), fun k j k1 k2 k3 k4 k5 => ?_⟩
      · have ne : ∀ k j, ¬ k = 18 → ¬ k = 19 → ¬ k = 20 → ¬ k = 35 → am_u2 (am_u2 (f_look s Q) 18 Q (if 5000 < v then 0 else v + 1)) 35 Q v k j = s k j := fun k j q1 q2 q3 q4 => by rw [u2_ne q4, u2_ne q1, f_look_ne ⟨q2, q3⟩]
        have nj : ∀ k j, ¬ j = Q → am_u2 (am_u2 (f_look s Q) 18 Q (if 5000 < v then 0 else v + 1)) 35 Q v k j = s k j := fun k j q1 => by rw [u2_nj q1, u2_nj q1, f_look_nj q1]
        refine ⟨WS_un (WS_u2 (f_look_WS h1) (by decide) (show (0 : Int) ≤ (if 5000 < v then 0 else v + 1) ∧ (if 5000 < v then 0 else v + 1) ≤ 5001 by split <;> omega)) (by decide), WK_ext h2 (fun k' j' hk' => ne k' j' (by omega) (by omega) (by omega) (by omega)), WE_ext h3 (fun k' j' hk' => ne k' j' (by omega) (by omega) (by omega) (by omega)) (ne 0 0 (by decide) (by decide) (by decide) (by decide)), WL_ext h4 (fun k' j' hk' => ne k' j' (by omega) (by omega) (by omega) (by omega)), fun j hj => ?_, WA_ext h6 (fun k' j' hk' => ne k' j' (by omega) (by omega) (by omega) (by omega)) (ne 0 4 (by decide) (by decide) (by decide) (by decide))⟩
        rw [ne 0 0 (by decide) (by decide) (by decide) (by decide), ne 0 2 (by decide) (by decide) (by decide) (by decide), ne 36 j (by decide) (by decide) (by decide) (by decide), ne 37 j (by decide) (by decide) (by decide) (by decide)]
        obtain ⟨t1, t2, t3, t4, t5, t6⟩ := h5 j hj
        by_cases hc : j = Q
        · subst hc
          have e19 : am_u2 (am_u2 (f_look s j) 18 j (if 5000 < v then 0 else v + 1)) 35 j v 19 j = s 0 0 / 1000 := by rw [u2_ne (by decide), u2_ne (by decide), f_look_19]
          have e20 : am_u2 (am_u2 (f_look s j) 18 j (if 5000 < v then 0 else v + 1)) 35 j v 20 j = (if s 19 j = s 0 0 / 1000 then s 20 j else 0) := by rw [u2_ne (by decide), u2_ne (by decide), f_look_20]
          have e18 : am_u2 (am_u2 (f_look s j) 18 j (if 5000 < v then 0 else v + 1)) 35 j v 18 j = (if 5000 < v then 0 else v + 1) := by rw [u2_ne (by decide), u2_eq]
          rw [e19, e20, e18, u2_eq, if_pos rfl]
          exact ⟨t1, Int.le_refl _, t3, t4, ⟨by omega, hv⟩, rfl⟩
        · rw [nj 19 j hc, nj 20 j hc, nj 18 j hc, nj 35 j hc]
          exact ⟨t1, t2, t3, t4, t5, t6⟩
      · show am_u2 (am_u2 (f_look s Q) 18 Q (if 5000 < v then 0 else v + 1)) 35 Q v k j = am_u2 s 35 Q v k j
        by_cases h35 : k = 35
        · subst h35
          by_cases hj : j = Q
          · subst hj; rw [u2_eq, u2_eq]
          · simp only [u2_nj hj]; exact f_look_nj hj
        · rw [u2_ne h35, u2_ne k3, f_look_ne ⟨k4, k5⟩, u2_ne h35]
/-! run -/
theorem f_tick_ne {n : Nat} {s : sg} {k j : Nat} (h : ¬ (k = 0 ∧ (j = 0 ∨ j = 3 ∨ j = 4))) (h3 : ¬ k = 3 ∧ ¬ k = 4 ∧ ¬ k = 5 ∧ ¬ k = 6 ∧ ¬ k = 7 ∧ ¬ k = 8 ∧ ¬ k = 14 ∧ ¬ k = 23 ∧ ¬ k = 31 ∧ ¬ k = 32) : f_tick n s k j = s k j := by
  unfold f_tick
  rw [am_u2, if_neg (fun z => h ⟨z.1, Or.inl z.2⟩), f_crs_nk (by omega), f_begs_ne (by omega), f_ends_ne (by omega)]
theorem ticks_ne {n : Nat} {s : sg} {k j : Nat} (h : ¬ (k = 0 ∧ (j = 0 ∨ j = 3 ∨ j = 4))) (h3 : ¬ k = 3 ∧ ¬ k = 4 ∧ ¬ k = 5 ∧ ¬ k = 6 ∧ ¬ k = 7 ∧ ¬ k = 8 ∧ ¬ k = 14 ∧ ¬ k = 23 ∧ ¬ k = 31 ∧ ¬ k = 32) (t : Nat) : ticks n s t k j = s k j := by
  induction t with
  | zero => rfl
  | succ t ih => rw [ticks, f_tick_ne h h3, ih]
/-- those that left have left between the beginning and now -/
def WD (s : sg) : Prop := ∀ j : Nat, (j : Int) < s 0 4 → (0 ≤ s 23 (4 * j + 2) ∧ s 23 (4 * j + 2) ≤ 2000000) ∧ (0 ≤ s 23 (4 * j + 3) ∧ s 23 (4 * j + 3) ≤ 2000000)
theorem f_end0_WD {s : sg} {p : Nat} (h : WD s) (hw : WS s) (hp : p < 17) : WD (f_end0 s p) := by
  have w0 := hw.1
  have w4 := hw.2.2.2.2.1
  have b5 := (WM_of hw).2.2.2.2.2.2.2.2.2.1 p hp
  unfold f_end0
  split
  · exact h
  · intro j hj
    rw [u2_eq] at hj
    by_cases hc : j = (s 0 4).toNat
    · subst hc
      have e2 : am_u2 (am_u2 (am_u2 (am_u2 (am_u2 s 23 (4 * (s 0 4).toNat) (s 3 p)) 23 (4 * (s 0 4).toNat + 1) p) 23 (4 * (s 0 4).toNat + 2) (s 5 p)) 23 (4 * (s 0 4).toNat + 3) (s 0 0)) 0 4 (s 0 4 + 1) 23 (4 * (s 0 4).toNat + 2) = s 5 p := by rw [u2_ne (by decide), u2_nj (by omega), u2_eq]
      have e3 : am_u2 (am_u2 (am_u2 (am_u2 (am_u2 s 23 (4 * (s 0 4).toNat) (s 3 p)) 23 (4 * (s 0 4).toNat + 1) p) 23 (4 * (s 0 4).toNat + 2) (s 5 p)) 23 (4 * (s 0 4).toNat + 3) (s 0 0)) 0 4 (s 0 4 + 1) 23 (4 * (s 0 4).toNat + 3) = s 0 0 := by rw [u2_ne (by decide), u2_eq]
      rw [e2, e3]
      exact ⟨b5, w0⟩
    · have := h j (by omega)
      rw [u2_ne (by decide), u2_nj (by omega), u2_nj (by omega), u2_nj (by omega), u2_nj (by omega), u2_ne (by decide), u2_nj (by omega), u2_nj (by omega), u2_nj (by omega), u2_nj (by omega)]
      exact this
theorem WD_ext {s s' : sg} (h : WD s) (he : ∀ j, s' 23 j = s 23 j) (h4 : s' 0 4 = s 0 4) : WD s' := by
  unfold WD
  simp only [he, h4]
  exact h
theorem f_ends_WD {s : sg} (h : WD s) (hw : WS s) {k : Nat} (hk : k ≤ 16) : WD (f_ends s k) := by
  induction k with
  | zero => exact h
  | succ k ih =>
    rw [f_ends, f_end1]
    split
    · exact WD_ext (f_end0_WD (p := k + 1) (ih (by omega)) (f_ends_WS hw k) (by omega)) (fun j => by rw [u2_ne (by decide), u2_ne (by decide)]) (by rw [u2_ne (by decide), u2_nj (by decide)])
    · exact ih (by omega)
theorem ticks_WD {n : Nat} {s : sg} (h : WD s) (hw : WS s) (hn : n ≤ 16) (k : Nat) (ht : s 0 0 + k ≤ 2000000) : WD (ticks n s k) := by
  induction k with
  | zero => exact h
  | succ k ih =>
    rw [ticks, f_tick]
    exact WD_ext (f_ends_WD (ih (by omega)) (ticks_WS hw hn k (by omega)) hn) (fun j => by rw [u2_ne (by decide), f_crs_nk (by decide), f_begs_ne (by decide)]) (by rw [u2_nj (by decide), f_crs_nk (by decide), f_begs_ne (by decide)])
theorem WF_run {n : Nat} {s : sg} {v : Int} (h : WF n s) (hn : n ≤ 16) (ht : s 0 0 + 2000 ≤ 2000000) : WF n (f_run n s v).2 ∧ (f_run n s v).2 0 0 ≤ s 0 0 + 2000 := by
  unfold f_run
  split
  · exact ⟨h, by show s 0 0 ≤ _; omega⟩
  · rename_i c
    show WF n (ticks n s v.toNat) ∧ _
    have ht' : s 0 0 + v.toNat ≤ 2000000 := by omega
    obtain ⟨h1, h2, h3, h4, h5, h6⟩ := h
    have e := ticks_WE h3 h2 h1 hn v.toNat ht'
    refine ⟨⟨ticks_WS h1 hn _ ht', e.2, e.1, WL_ext h4 (fun k' j' hk' => ticks_ne (by omega) (by omega) _), WT_now h5 (fun k' j' hk' => ticks_ne (by omega) (by omega) _) (by rw [ticks_00]; omega) (ticks_ne (by omega) (by omega) _), ?_, ticks_WD h6.2 h1 hn _ ht'⟩, by show ticks n s v.toNat 0 0 ≤ _; rw [ticks_00]; omega⟩
    intro j hj hj2
    have e17 : ticks n s v.toNat 17 j = s 17 j := ticks_ne (by omega) (by omega) _
    have e16 : ticks n s v.toNat 16 j = s 16 j := ticks_ne (by omega) (by omega) _
    rw [e17] at hj2
    rw [e16]
    exact h6.1 j hj hj2
