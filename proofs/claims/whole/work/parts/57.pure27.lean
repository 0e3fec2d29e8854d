/-! BOTH TOGETHER: frame -/
def mrg (f g : sg) : sg := fun k j => if k = 8 ∨ k = 15 ∨ k = 18 ∨ k = 19 ∨ k = 20 then f k j else g k j
theorem mrg_f {f g : sg} {k j : Nat} (h : k = 8 ∨ k = 15 ∨ k = 18 ∨ k = 19 ∨ k = 20) : mrg f g k j = f k j := by rw [mrg, if_pos h]
theorem mrg_g {f g : sg} {k j : Nat} (h : ¬ (k = 8 ∨ k = 15 ∨ k = 18 ∨ k = 19 ∨ k = 20)) : mrg f g k j = g k j := by rw [mrg, if_neg h]
/-- a ring and its queue, one longer -/
theorem WK_que {u u' : sg} {p r : Nat} {F L : Int} (h : WK u) (h7 : ∀ j, j < 136 → 0 ≤ u 7 j ∧ u 7 j ≤ 16) (hp : 1 ≤ p ∧ p ≤ 16) (hr : r < 8) (hf : ¬ u 7 (8 * p + r) = 16) (hL : u 15 F.toNat = L)
    (e7 : ∀ j, u' 7 j = if j = 8 * p + r then u 7 j + 1 else u 7 j) (e8 : ∀ j, u' 8 j = if j = 16 * (8 * p + r) + (u 7 (8 * p + r)).toNat then F else u 8 j) (e33 : ∀ j, u' 33 j = if j = 16 * (8 * p + r) + ((u 32 (8 * p + r) + u 7 (8 * p + r)) % 16).toNat then F else u 33 j) (e34 : ∀ j, u' 34 j = if j = 16 * (8 * p + r) + ((u 32 (8 * p + r) + u 7 (8 * p + r)) % 16).toNat then L else u 34 j)
    (e31 : ∀ j, u' 31 j = if j = p then u 31 j + 1 else u 31 j) (e32 : ∀ j, u' 32 j = u 32 j) (e15 : ∀ j, u' 15 j = u 15 j) : WK u' := by
  obtain ⟨k1, k2, k3⟩ := h
  have b7 := h7 (8 * p + r) (by omega)
  have b32 := k1 (8 * p + r) (by omega)
  refine ⟨fun q hq => by rw [e32]; exact k1 q hq, fun q t hq ht => ?_, fun p' p1 p2 => ?_⟩
  · rw [e7] at ht
    rw [e32, e33, e34, e15, e8]
    have c32 := k1 q hq
    have c7 := h7 q hq
    by_cases hc : q = 8 * p + r
    · subst hc
      rw [if_pos rfl] at ht
      by_cases hz : (t : Int) = u 7 (8 * p + r)
      · rw [← hz, if_pos rfl, if_pos rfl, if_pos (by omega)]
        exact ⟨rfl, hL.symm⟩
      · rw [if_neg (by omega), if_neg (by omega), if_neg (by omega)]
        exact k2 _ t hq (by omega)
    · rw [if_neg hc] at ht
      rw [if_neg (by omega), if_neg (by omega), if_neg (by omega)]
      exact k2 q t hq ht
  · by_cases hc : p' = p
    · subst hc
      rw [e31, if_pos rfl, lsum_ch e7 8, if_pos hr, k3 p' p1 p2]
    · rw [e31, if_neg hc, lsum_ch' e7 hr hc 8 (Nat.le_refl _), k3 p' p1 p2]
/-- the two loops, side by side -/
theorem fr_gr {s t : sg} {p r : Nat} {A F L : Int} (hr : r < 8) (hF : 0 < F) (h1 : ∀ j, s 1 j = t 1 j) (h7 : ∀ j, s 7 j = t 7 j) (b7 : ∀ j, j < 136 → 0 ≤ t 7 j ∧ t 7 j ≤ 16) (hL : s 15 F.toNat = L) (hK : WK (mrg s t)) {k : Nat} (hk : k ≤ 16) :
    (∀ j, (fr s p r A F k).2.2 7 j = (gr t p r A F L k).2.2 7 j) ∧ (∀ j, (fr s p r A F k).2.2 24 j = if j = 0 then s 24 0 + ((gr t p r A F L k).1 - (gr t p r A F L k).2.1) else s 24 j) ∧ ((fr s p r A F k).1 = decide (¬ (gr t p r A F L k).1 = 0)) ∧ ((fr s p r A F k).2.1 = if 0 < (gr t p r A F L k).2.1 then F else 0) ∧ WK (mrg (fr s p r A F k).2.2 (gr t p r A F L k).2.2) := by
  induction k with
  | zero => exact ⟨h7, fun j => by show s 24 j = if j = 0 then s 24 0 + (0 - 0) else s 24 j; split <;> simp_all, rfl, rfl, hK⟩
  | succ k ih =>
    obtain ⟨i1, i2, i3, i4, i5⟩ := ih (by omega)
    have hc := gr_c (s := t) (p := p) (r := r) (k := k) (A := A) (F := F) (L := L)
    have efg : fgo s p A (k + 1) = fgo t p A (k + 1) := by unfold fgo; rw [h1]
    rw [fr, gr, efg]
    cases hg : fgo t p A (k + 1) with
    | false => exact ⟨i1, i2, i3, i4, i5⟩
    | true =>
      simp only [if_true]
      have e15 : (fr s p r A F k).2.2 15 F.toNat = L := by rw [fr_ne (by decide)]; exact hL
      generalize fr s p r A F k = X at i1 i2 i3 i4 i5 e15 ⊢
      generalize hY : gr t p r A F L k = Y at i1 i2 i3 i4 i5 hc ⊢
      obtain ⟨X1, X2, X3⟩ := X
      obtain ⟨Y1, Y2, Y3⟩ := Y
      dsimp only at i1 i2 i3 i4 i5 hc e15 ⊢
      by_cases hf : Y3 7 (8 * (k + 1) + r) = 16
      · rw [if_pos hf]
        unfold f_enter
        rw [if_pos (by rw [i1]; exact hf)]
        dsimp only
        refine ⟨fun j => by rw [u2_ne (by decide)]; exact i1 j, fun j => ?_, ?_, ?_, ?_⟩
        · by_cases hj : j = 0
          · subst hj; rw [u2_eq, if_pos rfl, i2, if_pos rfl]; omega
          · rw [u2_nj hj, if_neg hj, i2, if_neg hj]
        · exact (decide_eq_true (by omega)).symm
        · rw [if_neg (by decide)]; exact i4
        · exact WK_ext i5 (fun k' j' hk' => by
            by_cases hm : k' = 8 ∨ k' = 15 ∨ k' = 18 ∨ k' = 19 ∨ k' = 20
            · rw [mrg_f hm, mrg_f hm, u2_ne (by omega)]
            · rw [mrg_g hm, mrg_g hm])
      · rw [if_neg hf]
        unfold f_enter
        rw [if_neg (by rw [i1]; exact hf)]
        dsimp only
        have e7g : ∀ j, g_que Y3 (k + 1) r F L 7 j = if j = 8 * (k + 1) + r then Y3 7 j + 1 else Y3 7 j := fun j => by
          rw [g_que_7]
          split
          · rename_i z; rw [z]
          · rfl
        have b7Y : ∀ j, j < 136 → 0 ≤ Y3 7 j ∧ Y3 7 j ≤ 16 := by
          have := gr_7 (s := t) (p := p) (r := r) (k := k) (A := A) (F := F) (L := L) b7
          rw [hY] at this
          exact this
        refine ⟨fun j => ?_, fun j => ?_, ?_, ?_, ?_⟩
        · rw [e7g, am_u2]
          by_cases hj : j = 8 * (k + 1) + r
          · rw [if_pos ⟨rfl, hj⟩, if_pos hj, hj, i1]
          · rw [if_neg (fun z => hj z.2), if_neg hj, u2_ne (by decide), i1]
        · rw [u2_ne (by decide), u2_ne (by decide), i2]
          by_cases hj : j = 0
          · rw [if_pos hj, if_pos hj]; omega
          · rw [if_neg hj, if_neg hj]
        · exact (decide_eq_true (by omega)).symm
        · rw [if_pos hF, if_pos (by omega)]
        · refine WK_que (u := mrg X3 Y3) (p := k + 1) (r := r) (F := F) (L := L) i5 (fun j hj => by rw [mrg_g (by decide)]; exact b7Y j hj) (by omega) hr (by rw [mrg_g (by decide)]; exact hf) (by rw [mrg_f (by decide)]; exact e15) (fun j => ?_) (fun j => ?_) (fun j => ?_) (fun j => ?_) (fun j => ?_) (fun j => ?_) (fun j => ?_)
          · rw [mrg_g (by decide), mrg_g (by decide)]; exact e7g j
          · rw [mrg_f (k := 8) (by decide), mrg_g (k := 7) (by decide), mrg_f (k := 8) (by decide), u2_ne (by decide), am_u2, ← i1]
            by_cases hj : j = 16 * (8 * (k + 1) + r) + (X3 7 (8 * (k + 1) + r)).toNat
            · rw [if_pos ⟨rfl, hj⟩, if_pos hj]
            · rw [if_neg (fun z => hj z.2), if_neg hj]
          · rw [mrg_g (by decide), mrg_g (by decide), mrg_g (by decide), mrg_g (by decide)]
            unfold g_que g_add
            rw [u2_ne (by decide), u2_ne (by decide), u2_ne (by decide), am_u2]
            by_cases hj : j = 16 * (8 * (k + 1) + r) + ((Y3 32 (8 * (k + 1) + r) + Y3 7 (8 * (k + 1) + r)) % 16).toNat
            · rw [if_pos ⟨rfl, hj⟩, if_pos hj]
            · rw [if_neg (fun z => hj z.2), if_neg hj]
          · rw [mrg_g (by decide), mrg_g (by decide), mrg_g (by decide), mrg_g (by decide)]
            unfold g_que g_add
            rw [u2_ne (by decide), u2_ne (by decide), am_u2]
            by_cases hj : j = 16 * (8 * (k + 1) + r) + ((Y3 32 (8 * (k + 1) + r) + Y3 7 (8 * (k + 1) + r)) % 16).toNat
            · rw [if_pos ⟨rfl, hj⟩, if_pos hj]
            · rw [if_neg (fun z => hj z.2), if_neg hj, u2_ne (by decide)]
          · rw [mrg_g (by decide), mrg_g (by decide)]
            unfold g_que
            rw [am_u2]
            by_cases hj : j = k + 1
            · rw [if_pos ⟨rfl, hj⟩, if_pos hj, hj]
            · rw [if_neg (fun z => hj z.2), if_neg hj, g_add_ne (by decide)]
          · rw [mrg_g (by decide), mrg_g (by decide), g_que_ne (by decide)]
          · rw [mrg_f (by decide), mrg_f (by decide), u2_ne (by decide), u2_ne (by decide)]
theorem WK_15 {s u : sg} (h : WK s) (hw : WS s) (he : ∀ k j, (k = 7 ∨ k = 8 ∨ k = 31 ∨ k = 32 ∨ k = 33 ∨ k = 34) → u k j = s k j) (h15 : ∀ j, ¬ j = (s 0 2 + 1).toNat → u 15 j = s 15 j) : WK u := by
  obtain ⟨k1, k2, k3⟩ := h
  have w2 := hw.2.2.1
  refine ⟨fun q hq => by rw [he 32 q (by omega)]; exact k1 q hq, fun q t hq ht => ?_, fun p h1 h2 => ?_⟩
  · rw [he 7 _ (by omega)] at ht
    have b8 := hw.2.2.2.2.2.2.1 q t hq ht
    have hne : ¬ (s 8 (16 * q + t)).toNat = (s 0 2 + 1).toNat := by omega
    rw [he 32 _ (by omega), he 33 _ (by omega), he 34 _ (by omega), he 8 _ (by omega), h15 _ hne]
    exact k2 q t hq ht
  · rw [he 31 _ (by omega), lsum_eq (fun j => he 7 j (by omega))]
    exact k3 p h1 h2
def h_frame (n : Nat) (s : sg) (p a r L : Int) : sg := mrg (f_frame n s p a r L).2 (g_frame n s p a r L).2
theorem frm1_ne {s : sg} {q k j : Nat} {L : Int} (h : ¬ (k = 0 ∧ j = 2) ∧ ¬ k = 15 ∧ ¬ k = 19 ∧ ¬ k = 20) : f_frm1 s q L k j = s k j := by
  unfold f_frm1
  rw [f_look_ne h.2.2, f_frm0_ne ⟨h.1, h.2.1⟩]
theorem frm1_02 {s : sg} {q : Nat} {L : Int} : f_frm1 s q L 0 2 = s 0 2 + 1 := by
  unfold f_frm1
  rw [f_look_ne (by decide), f_frm0_02]
theorem frm1_nj {s : sg} {q k j : Nat} {L : Int} (h : ¬ k = 0 ∧ ¬ k = 15) (hj : ¬ j = q) : f_frm1 s q L k j = s k j := by
  unfold f_frm1
  rw [f_look_nj hj, f_frm0_nk h]
theorem frm1_15 {s : sg} {q j : Nat} {L : Int} : f_frm1 s q L 15 j = if j = (s 0 2 + 1).toNat then L else s 15 j := by
  unfold f_frm1 f_frm0
  rw [f_look_ne (by decide), am_u2]
  by_cases hj : j = (s 0 2 + 1).toNat
  · rw [if_pos ⟨rfl, hj⟩, if_pos hj]
  · rw [if_neg (fun z => hj z.2), if_neg hj, u2_ne (by decide)]
theorem frm1_19 {s : sg} {q : Nat} {L : Int} : f_frm1 s q L 19 q = s 0 0 / 1000 := by
  unfold f_frm1
  rw [f_look_19, f_frm0_ne (by decide)]
theorem frm1_20 {s : sg} {q : Nat} {L : Int} (h : WT s) (hq : q < 8008) : f_frm1 s q L 20 q = g_tk s q := by
  unfold f_frm1
  rw [f_look_20, f_frm0_nk (k := 19) (by decide), f_frm0_nk (k := 20) (by decide), f_frm0_ne (by decide)]
  unfold g_tk
  exact ((h q hq).2.2.1).symm
theorem g_tk_b {s : sg} {q : Nat} (h : WT s) (hq : q < 8008) (hw : WS s) : 0 ≤ g_tk s q ∧ g_tk s q ≤ s 0 2 := by
  have t := (h q hq).2.2.2.1
  have w := hw.2.2.1
  unfold g_tk
  split <;> omega
/-- both refuse it by its rate, or neither -/
theorem rate_eq {s : sg} {q : Nat} {L : Int} (h : WT s) (hq : q < 8008) (hw : WS s) : (¬ s 35 q = -1 ∧ s 35 q ≤ g_tk s q) ↔ (0 < f_frm1 s q L 18 q ∧ f_frm1 s q L 18 q - 1 ≤ f_frm1 s q L 20 q) := by
  rw [frm1_20 h hq, frm1_ne (by omega)]
  have b := g_tk_b h hq hw
  have w := hw.2.2.1
  obtain ⟨-, -, -, -, t5, t6⟩ := h q hq
  rw [t6]
  split <;> omega
/-- the time's thousand, of one stream that is touched -/
theorem WT_frm {s u : sg} {q : Nat} (h : WT s) (hq : q < 8008) (h0 : u 0 0 = s 0 0) (h2 : u 0 2 = s 0 2 + 1) (h18 : ∀ j, u 18 j = s 18 j) (h35 : ∀ j, u 35 j = s 35 j) (nj : ∀ k j, (k = 19 ∨ k = 20 ∨ k = 36 ∨ k = 37) → ¬ j = q → u k j = s k j)
    (a19 : u 19 q ≤ s 0 0 / 1000) (a36 : 0 ≤ u 36 q ∧ u 36 q ≤ s 0 0 / 1000) (a37 : 0 ≤ u 37 q ∧ u 37 q ≤ s 0 2 + 1) (ae : (if u 36 q = s 0 0 / 1000 then u 37 q else 0) = (if u 19 q = s 0 0 / 1000 then u 20 q else 0)) : WT u := by
  intro j hj
  rw [h0, h2, h18, h35]
  obtain ⟨t1, t2, t3, t4, t5, t6⟩ := h j hj
  by_cases hc : j = q
  · subst hc
    exact ⟨a36, a19, ae, a37, t5, t6⟩
  · rw [nj 19 j (by omega) hc, nj 20 j (by omega) hc, nj 36 j (by omega) hc, nj 37 j (by omega) hc]
    exact ⟨t1, t2, t3, by omega, t5, t6⟩
theorem WF_frame {n : Nat} {s : sg} {p a r L : Int} (h : WF n s) (hn : n ≤ 16) : WF n (h_frame n s p a r L) ∧ (g_frame n s p a r L).1 = (f_frame n s p a r L).1 ∧ (∀ k j, k ≤ 24 → h_frame n s p a r L k j = (f_frame n s p a r L).2 k j) := by
  have same : ∀ v : Int, g_frame n s p a r L = (v, s) → f_frame n s p a r L = (v, s) → WF n (h_frame n s p a r L) ∧ (g_frame n s p a r L).1 = (f_frame n s p a r L).1 ∧ (∀ k j, k ≤ 24 → h_frame n s p a r L k j = (f_frame n s p a r L).2 k j) := by
    intro v eg ef
    have e : h_frame n s p a r L = s := by
      funext k j
      unfold h_frame mrg
      rw [eg, ef]
      split <;> rfl
    rw [e, eg, ef]
    exact ⟨h, rfl, fun _ _ _ => rfl⟩
  by_cases c1 : p < 1 ∨ (n : Int) < p
  · exact same (-1) (by unfold g_frame; rw [if_pos c1]) (by unfold f_frame; rw [if_pos c1])
  by_cases c2 : a < 1 ∨ 1000 < a ∨ r < 0 ∨ 7 < r ∨ L < 64 ∨ 1522 < L
  · exact same (-2) (by unfold g_frame; rw [if_neg c1, if_pos c2]) (by unfold f_frame; rw [if_neg c1, if_pos c2])
  by_cases c3 : s 1 p.toNat = 0
  · exact same (-3) (by unfold g_frame; rw [if_neg c1, if_neg c2, if_pos c3]) (by unfold f_frame; rw [if_neg c1, if_neg c2, if_pos c3])
  by_cases c4 : s 0 2 = 5000
  · exact same (-4) (by unfold g_frame; rw [if_neg c1, if_neg c2, if_neg c3, if_pos c4]) (by unfold f_frame; rw [if_neg c1, if_neg c2, if_neg c3, if_pos c4])
  obtain ⟨h1, h2, h3, h4, h5, h6⟩ := h
  have hq : (8 * a + r).toNat < 8008 := by omega
  have w0 := h1.1
  have w2 := h1.2.2.1
  have tb := g_tk_b h5 hq h1
  obtain ⟨t1, t2, t3, t4, t5, t6⟩ := h5 (8 * a + r).toNat hq
  by_cases c5 : ¬ s 35 (8 * a + r).toNat = -1 ∧ s 35 (8 * a + r).toNat ≤ g_tk s (8 * a + r).toNat
  · have c5' := (rate_eq (L := L) h5 hq h1).mp c5
    have eg : g_frame n s p a r L = (0, am_u2 (am_u2 s 0 2 (s 0 2 + 1)) 24 1 (s 24 1 + 1)) := by unfold g_frame; rw [if_neg c1, if_neg c2, if_neg c3, if_neg c4, if_pos c5]
    have ef : f_frame n s p a r L = (0, am_u2 (f_frm1 s (8 * a + r).toNat L) 24 1 ((f_frm1 s (8 * a + r).toNat L) 24 1 + 1)) := by unfold f_frame; rw [if_neg c1, if_neg c2, if_neg c3, if_neg c4, if_pos c5']
    unfold h_frame
    rw [eg, ef]
    dsimp only
    generalize (8 * a + r).toNat = q at *
    have ag : ∀ k j, ¬ k = 8 → ¬ k = 15 → ¬ k = 18 → ¬ k = 19 → ¬ k = 20 → am_u2 (f_frm1 s q L) 24 1 ((f_frm1 s q L) 24 1 + 1) k j = am_u2 (am_u2 s 0 2 (s 0 2 + 1)) 24 1 (s 24 1 + 1) k j := by
      intro k j k8 k15 k18 k19 k20
      by_cases h24 : k = 24 ∧ j = 1
      · rw [u2_pp h24, u2_pp h24, frm1_ne (by omega)]
      · rw [u2_nn h24, u2_nn h24]
        by_cases h02 : k = 0 ∧ j = 2
        · obtain ⟨rfl, rfl⟩ := h02
          rw [frm1_02, u2_eq]
        · rw [frm1_ne ⟨h02, k15, k19, k20⟩, am_u2, if_neg h02]
    have eM : ∀ k j, mrg (am_u2 (f_frm1 s q L) 24 1 ((f_frm1 s q L) 24 1 + 1)) (am_u2 (am_u2 s 0 2 (s 0 2 + 1)) 24 1 (s 24 1 + 1)) k j = am_u2 (f_frm1 s q L) 24 1 ((f_frm1 s q L) 24 1 + 1) k j := fun k j => by
      by_cases hm : k = 8 ∨ k = 15 ∨ k = 18 ∨ k = 19 ∨ k = 20
      · rw [mrg_f hm]
      · rw [mrg_g hm, ag k j (by omega) (by omega) (by omega) (by omega) (by omega)]
    have eN : mrg (am_u2 (f_frm1 s q L) 24 1 ((f_frm1 s q L) 24 1 + 1)) (am_u2 (am_u2 s 0 2 (s 0 2 + 1)) 24 1 (s 24 1 + 1)) = am_u2 (f_frm1 s q L) 24 1 ((f_frm1 s q L) 24 1 + 1) := funext fun k => funext fun j => eM k j
    rw [eN]
    refine ⟨?_, rfl, fun _ _ _ => rfl⟩
    have ne : ∀ k j, ¬ (k = 0 ∧ j = 2) → ¬ k = 15 → ¬ k = 19 → ¬ k = 20 → ¬ k = 24 → am_u2 (f_frm1 s q L) 24 1 ((f_frm1 s q L) 24 1 + 1) k j = s k j := fun k j z0 z1 z2 z3 z4 => by rw [u2_ne z4, frm1_ne ⟨z0, z1, z2, z3⟩]
    refine ⟨WS_un (f_look_WS (WS_02 h1 (by omega) c4)) (by decide), WK_15 h2 h1 (fun k j hk => ne k j (by omega) (by omega) (by omega) (by omega) (by omega)) (fun j hj => by rw [u2_ne (by decide), frm1_15, if_neg hj]), WE_ext h3 (fun k j hk => ne k j (by omega) (by omega) (by omega) (by omega) (by omega)) (ne 0 0 (by omega) (by omega) (by omega) (by omega) (by omega)), WL_ext h4 (fun k j hk => ne k j (by omega) (by omega) (by omega) (by omega) (by omega)), ?_, WA_ext h6 (fun k j hk => ne k j (by omega) (by omega) (by omega) (by omega) (by omega)) (ne 0 4 (by omega) (by omega) (by omega) (by omega) (by omega))⟩
    refine WT_frm h5 hq (ne 0 0 (by omega) (by omega) (by omega) (by omega) (by omega)) (by rw [u2_ne (by decide), frm1_02]) (fun j => ne 18 j (by omega) (by omega) (by omega) (by omega) (by omega)) (fun j => ne 35 j (by omega) (by omega) (by omega) (by omega) (by omega)) (fun k j hk hj => by rw [u2_ne (by omega), frm1_nj (by omega) hj]) ?_ ?_ ?_ ?_
    · rw [u2_ne (by decide), frm1_19]; exact Int.le_refl _
    · rw [ne 36 q (by omega) (by omega) (by omega) (by omega) (by omega)]; exact t1
    · rw [ne 37 q (by omega) (by omega) (by omega) (by omega) (by omega)]; omega
    · rw [ne 36 q (by omega) (by omega) (by omega) (by omega) (by omega), ne 37 q (by omega) (by omega) (by omega) (by omega) (by omega), u2_ne (by decide), frm1_19, if_pos rfl, u2_ne (by decide), frm1_20 h5 hq]
      rfl
  · have c5' := mt (rate_eq (L := L) h5 hq h1).mpr c5
    have hat : f_at (f_frm2 s (8 * a + r).toNat L) a.toNat = f_at s a.toNat := by
      unfold f_at f_frm2
      rw [u2_ne (by decide), u2_ne (by decide), u2_ne (by decide), frm1_ne (by omega), frm1_ne (by omega), frm1_ne (by omega)]
    have eg : g_frame n s p a r L = (if 0 < (gr (am_u2 (am_u2 (am_u2 s 0 2 (s 0 2 + 1)) 36 (8 * a + r).toNat (s 0 0 / 1000)) 37 (8 * a + r).toNat (g_tk s (8 * a + r).toNat + 1)) p.toNat r.toNat (f_at s a.toNat) (s 0 2 + 1) L n).2.1 then s 0 2 + 1 else 0, g_cnt (gr (am_u2 (am_u2 (am_u2 s 0 2 (s 0 2 + 1)) 36 (8 * a + r).toNat (s 0 0 / 1000)) 37 (8 * a + r).toNat (g_tk s (8 * a + r).toNat + 1)) p.toNat r.toNat (f_at s a.toNat) (s 0 2 + 1) L n)) := by unfold g_frame; rw [if_neg c1, if_neg c2, if_neg c3, if_neg c4, if_neg c5]
    have ef : f_frame n s p a r L = f_fr9 (fr (f_frm2 s (8 * a + r).toNat L) p.toNat r.toNat (f_at s a.toNat) (s 0 2 + 1) n) := by unfold f_frame; rw [if_neg c1, if_neg c2, if_neg c3, if_neg c4, if_neg c5', hat]
    unfold h_frame
    rw [eg, ef]
    dsimp only
    have hS2 : WS (f_frm2 s (8 * a + r).toNat L) := f_frm2_WS h1 hq (by omega) c4
    have hr8 : r.toNat < 8 := by omega
    generalize (8 * a + r).toNat = q at *
    generalize f_at s a.toNat = A at *
    generalize r.toNat = R at *
    generalize p.toNat = P at *
    -- the two states ahead of the loops
    have n2 : ∀ k j, ¬ (k = 0 ∧ j = 2) → ¬ k = 15 → ¬ k = 19 → ¬ k = 20 → f_frm2 s q L k j = s k j := fun k j z0 z1 z2 z3 => by unfold f_frm2; rw [u2_ne z3, frm1_ne ⟨z0, z1, z2, z3⟩]
    have n02 : f_frm2 s q L 0 2 = s 0 2 + 1 := by unfold f_frm2; rw [u2_ne (by decide), frm1_02]
    have n15 : ∀ j, f_frm2 s q L 15 j = if j = (s 0 2 + 1).toNat then L else s 15 j := fun j => by unfold f_frm2; rw [u2_ne (by decide), frm1_15]
    have g2 : ∀ k j, ¬ (k = 0 ∧ j = 2) → ¬ k = 36 → ¬ k = 37 → am_u2 (am_u2 (am_u2 s 0 2 (s 0 2 + 1)) 36 q (s 0 0 / 1000)) 37 q (g_tk s q + 1) k j = s k j := fun k j z0 z1 z2 => by rw [u2_ne z2, u2_ne z1, am_u2, if_neg z0]
    have g02 : am_u2 (am_u2 (am_u2 s 0 2 (s 0 2 + 1)) 36 q (s 0 0 / 1000)) 37 q (g_tk s q + 1) 0 2 = s 0 2 + 1 := by rw [u2_ne (by decide), u2_ne (by decide), u2_eq]
    have g36 : am_u2 (am_u2 (am_u2 s 0 2 (s 0 2 + 1)) 36 q (s 0 0 / 1000)) 37 q (g_tk s q + 1) 36 q = s 0 0 / 1000 := by rw [u2_ne (by decide), u2_eq]
    have g37 : am_u2 (am_u2 (am_u2 s 0 2 (s 0 2 + 1)) 36 q (s 0 0 / 1000)) 37 q (g_tk s q + 1) 37 q = g_tk s q + 1 := u2_eq
    have gnj : ∀ k j, ¬ k = 0 → ¬ j = q → am_u2 (am_u2 (am_u2 s 0 2 (s 0 2 + 1)) 36 q (s 0 0 / 1000)) 37 q (g_tk s q + 1) k j = s k j := fun k j z0 zj => by rw [u2_nj zj, u2_nj zj, u2_ne z0]
    have f19 : f_frm2 s q L 19 q = s 0 0 / 1000 := by unfold f_frm2; rw [u2_ne (by decide), frm1_19]
    have f20 : f_frm2 s q L 20 q = g_tk s q + 1 := by unfold f_frm2; rw [u2_eq, frm1_20 h5 hq]
    have fnj : ∀ k j, ¬ k = 0 → ¬ k = 15 → ¬ j = q → f_frm2 s q L k j = s k j := fun k j z0 z1 zj => by unfold f_frm2; rw [u2_nj zj, frm1_nj ⟨z0, z1⟩ zj]
    generalize f_frm2 s q L = σ at *
    generalize am_u2 (am_u2 (am_u2 s 0 2 (s 0 2 + 1)) 36 q (s 0 0 / 1000)) 37 q (g_tk s q + 1) = τ at *
    have hF : (0 : Int) < s 0 2 + 1 := by omega
    have hKm : WK (mrg σ τ) := WK_15 h2 h1 (fun k j hk => by
      by_cases hm : k = 8 ∨ k = 15 ∨ k = 18 ∨ k = 19 ∨ k = 20
      · rw [mrg_f hm, n2 k j (by omega) (by omega) (by omega) (by omega)]
      · rw [mrg_g hm, g2 k j (by omega) (by omega) (by omega)]) (fun j hj => by rw [mrg_f (by decide), n15, if_neg hj])
    have hgr := fr_gr (s := σ) (t := τ) (p := P) (r := R) (A := A) (F := s 0 2 + 1) (L := L) hr8 hF (fun j => by rw [n2 1 j (by omega) (by omega) (by omega) (by omega), g2 1 j (by omega) (by omega) (by omega)]) (fun j => by rw [n2 7 j (by omega) (by omega) (by omega) (by omega), g2 7 j (by omega) (by omega) (by omega)]) (fun j hj => by rw [g2 7 j (by omega) (by omega) (by omega)]; exact (WM_of h1).2.2.2.2.2.2.2.2.2.2.2.1 j hj) (by rw [n15, if_pos rfl]) hKm (k := n) hn
    have hX : ∀ k j, ¬ k = 7 → ¬ k = 8 → ¬ k = 24 → (fr σ P R A (s 0 2 + 1) n).2.2 k j = σ k j := fun k j z7 z8 z24 => fr_ne ⟨z7, z8, z24⟩
    have hXW : WS (fr σ P R A (s 0 2 + 1) n).2.2 := fr_WS hS2 hn hr8 (by rw [n02]; omega)
    have hYc := gr_c (s := τ) (p := P) (r := R) (k := n) (A := A) (F := s 0 2 + 1) (L := L)
    have hYn : ∀ k j, ¬ k = 7 → ¬ k = 31 → ¬ k = 33 → ¬ k = 34 → (gr τ P R A (s 0 2 + 1) L n).2.2 k j = τ k j := fun k j z7 z31 z33 z34 => gr_ne ⟨z7, z31, z33, z34⟩
    generalize fr σ P R A (s 0 2 + 1) n = X at *
    generalize gr τ P R A (s 0 2 + 1) L n = Y at *
    obtain ⟨X1, X2, X3⟩ := X
    obtain ⟨Y1, Y2, Y3⟩ := Y
    dsimp only at hgr hX hXW hYc hYn ⊢
    obtain ⟨i1, i2, i3, i4, i5⟩ := hgr
    unfold f_fr9
    dsimp only
    -- the counts
    have cn : ∀ k j, ¬ k = 24 → g_cnt (Y1, Y2, Y3) k j = Y3 k j := fun k j z => by
      unfold g_cnt
      dsimp only
      split
      · rw [u2_ne z, u2_ne z]
      · rw [u2_ne z]
    have y24 : ∀ j, Y3 24 j = s 24 j := fun j => by rw [hYn 24 j (by decide) (by decide) (by decide) (by decide), g2 24 j (by omega) (by omega) (by omega)]
    have x24 : ∀ j, X3 24 j = if j = 0 then s 24 0 + (Y1 - Y2) else s 24 j := fun j => by rw [i2 j, n2 24 0 (by omega) (by omega) (by omega) (by omega), n2 24 j (by omega) (by omega) (by omega) (by omega)]
    have c24 : ∀ j, g_cnt (Y1, Y2, Y3) 24 j = am_u2 X3 24 2 (if X1 = true then X3 24 2 else X3 24 2 + 1) 24 j := fun j => by
      unfold g_cnt
      dsimp only
      by_cases hz : Y1 = 0
      · have hx1 : ¬ X1 = true := by rw [i3, decide_eq_false (fun y => y hz)]; decide
        rw [if_pos hz, if_neg hx1]
        by_cases hj2 : j = 2
        · subst hj2; rw [u2_eq, u2_eq, y24, x24, if_neg (by decide)]
        · rw [u2_nj hj2, u2_nj hj2, x24]
          by_cases hj0 : j = 0
          · subst hj0; rw [u2_eq, if_pos rfl, y24]
          · rw [u2_nj hj0, if_neg hj0, y24]
      · have hx1 : X1 = true := by rw [i3, decide_eq_true hz]
        rw [if_neg hz, if_pos hx1]
        by_cases hj2 : j = 2
        · subst hj2; rw [u2_nj (by decide), u2_eq, y24, x24, if_neg (by decide)]
        · rw [u2_nj hj2, x24]
          by_cases hj0 : j = 0
          · subst hj0; rw [u2_eq, if_pos rfl, y24]
          · rw [u2_nj hj0, if_neg hj0, y24]
    have ag : ∀ k j, k ≤ 24 → ¬ k = 8 → ¬ k = 15 → ¬ k = 18 → ¬ k = 19 → ¬ k = 20 → g_cnt (Y1, Y2, Y3) k j = am_u2 X3 24 2 (if X1 = true then X3 24 2 else X3 24 2 + 1) k j := fun k j z0 z8 z15 z18 z19 z20 => by
      by_cases hz : k = 24
      · subst hz; exact c24 j
      · rw [cn k j hz, u2_ne hz]
        by_cases hz7 : k = 7
        · subst hz7; exact (i1 j).symm
        · rw [hYn k j hz7 (by omega) (by omega) (by omega), hX k j hz7 z8 hz]
          by_cases h02 : k = 0 ∧ j = 2
          · obtain ⟨rfl, rfl⟩ := h02
            rw [g02, n02]
          · rw [g2 k j h02 (by omega) (by omega), n2 k j h02 z15 z19 z20]
    have ag2 : ∀ k j, k ≤ 24 → mrg (am_u2 X3 24 2 (if X1 = true then X3 24 2 else X3 24 2 + 1)) (g_cnt (Y1, Y2, Y3)) k j = am_u2 X3 24 2 (if X1 = true then X3 24 2 else X3 24 2 + 1) k j := fun k j hk => by
      by_cases hm : k = 8 ∨ k = 15 ∨ k = 18 ∨ k = 19 ∨ k = 20
      · rw [mrg_f hm]
      · rw [mrg_g hm, ag k j hk (by omega) (by omega) (by omega) (by omega) (by omega)]
    refine ⟨?_, i4.symm, ag2⟩
    have ne : ∀ k j, ¬ (k = 0 ∧ j = 2) → ¬ k = 7 → ¬ k = 8 → ¬ k = 15 → ¬ k = 19 → ¬ k = 20 → ¬ k = 24 → ¬ k = 31 → ¬ k = 33 → ¬ k = 34 → ¬ k = 36 → ¬ k = 37 → mrg (am_u2 X3 24 2 (if X1 = true then X3 24 2 else X3 24 2 + 1)) (g_cnt (Y1, Y2, Y3)) k j = s k j := fun k j z0 z7 z8 z15 z19 z20 z24 z31 z33 z34 z36 z37 => by
      by_cases hm : k = 8 ∨ k = 15 ∨ k = 18 ∨ k = 19 ∨ k = 20
      · rw [mrg_f hm, u2_ne z24, hX k j z7 z8 z24, n2 k j z0 z15 z19 z20]
      · rw [mrg_g hm, cn k j z24, hYn k j z7 z31 z33 z34, g2 k j z0 z36 z37]
    refine ⟨WS_ext (WS_un hXW (by decide)) (fun k j hk => ag2 k j (by omega)), ?_, WE_ext h3 (fun k j hk => ne k j (by omega) (by omega) (by omega) (by omega) (by omega) (by omega) (by omega) (by omega) (by omega) (by omega) (by omega) (by omega)) (ne 0 0 (by omega) (by omega) (by omega) (by omega) (by omega) (by omega) (by omega) (by omega) (by omega) (by omega) (by omega) (by omega)), WL_ext h4 (fun k j hk => ne k j (by omega) (by omega) (by omega) (by omega) (by omega) (by omega) (by omega) (by omega) (by omega) (by omega) (by omega) (by omega)), ?_, WA_ext h6 (fun k j hk => ne k j (by omega) (by omega) (by omega) (by omega) (by omega) (by omega) (by omega) (by omega) (by omega) (by omega) (by omega) (by omega)) (ne 0 4 (by omega) (by omega) (by omega) (by omega) (by omega) (by omega) (by omega) (by omega) (by omega) (by omega) (by omega) (by omega))⟩
    · refine WK_ext i5 (fun k j hk => ?_)
      by_cases hm : k = 8 ∨ k = 15 ∨ k = 18 ∨ k = 19 ∨ k = 20
      · rw [mrg_f hm, mrg_f hm, u2_ne (by omega)]
      · rw [mrg_g hm, mrg_g hm, cn k j (by omega)]
    · have m36 : ∀ k j, (k = 36 ∨ k = 37) → mrg (am_u2 X3 24 2 (if X1 = true then X3 24 2 else X3 24 2 + 1)) (g_cnt (Y1, Y2, Y3)) k j = τ k j := fun k j hk => by rw [mrg_g (by omega), cn k j (by omega), hYn k j (by omega) (by omega) (by omega) (by omega)]
      have m19 : ∀ k j, (k = 19 ∨ k = 20) → mrg (am_u2 X3 24 2 (if X1 = true then X3 24 2 else X3 24 2 + 1)) (g_cnt (Y1, Y2, Y3)) k j = σ k j := fun k j hk => by rw [mrg_f (by omega), u2_ne (by omega), hX k j (by omega) (by omega) (by omega)]
      refine WT_frm h5 hq (ne 0 0 (by omega) (by omega) (by omega) (by omega) (by omega) (by omega) (by omega) (by omega) (by omega) (by omega) (by omega) (by omega)) (by rw [ag2 0 2 (by omega), u2_ne (by decide), hX 0 2 (by decide) (by decide) (by decide), n02]) (fun j => ne 18 j (by omega) (by omega) (by omega) (by omega) (by omega) (by omega) (by omega) (by omega) (by omega) (by omega) (by omega) (by omega)) (fun j => ne 35 j (by omega) (by omega) (by omega) (by omega) (by omega) (by omega) (by omega) (by omega) (by omega) (by omega) (by omega) (by omega)) (fun k j hk hj => ?_) ?_ ?_ ?_ ?_
      · rcases hk with hk | hk | hk | hk
        · rw [m19 k j (by omega), fnj k j (by omega) (by omega) hj]
        · rw [m19 k j (by omega), fnj k j (by omega) (by omega) hj]
        · rw [m36 k j (by omega), gnj k j (by omega) hj]
        · rw [m36 k j (by omega), gnj k j (by omega) hj]
      · rw [m19 19 q (by omega), f19]; exact Int.le_refl _
      · rw [m36 36 q (by omega), g36]; omega
      · rw [m36 37 q (by omega), g37]; omega
      · rw [m36 36 q (by omega), g36, m36 37 q (by omega), g37, m19 19 q (by omega), f19, m19 20 q (by omega), f20]
