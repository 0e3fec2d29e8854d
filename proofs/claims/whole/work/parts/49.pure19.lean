/-! THE CLASS: the list grows -/
/-- an int field that the picture has not -/
theorem RX_sIx {h : am_H} {x n e c a : Nat} {s : sg} {α : Nat → Nat} {w : Int32} (hX : RX h x n s α e c) : RX (am_sI h 194 a w) x n s α e c := by
  obtain ⟨⟨b1, b2, b3, b4, b5⟩, ⟨a1, a2, a3, a4⟩, ⟨d1, d2, d3, d4, d5⟩, oo, hz⟩ := hX
  have gI : ∀ f' b, ¬ f' = 194 → am_I (am_sI h 194 a w) f' b = am_I h f' b := fun f' b hf => by rw [hp_I_sI, if_neg (fun z => hf z.1)]
  refine ⟨⟨SX_sI b1 (by decide), fun k j f b hs => ?_, b3, b4, b5⟩, ⟨a1, fun b hb hb0 => ?_, a3, a4⟩, ⟨by rw [gI _ _ (by decide)]; exact d1, d2, d3, d4, fun i hi => ?_⟩, oo, hz⟩
  · rw [gI _ _ (by unfold SI at hs; rcases hs with hs | hs | ⟨i, hs⟩ | ⟨i, r, hs⟩ <;> omega)]
    exact b2 k j f b hs
  · obtain ⟨z1, z2, t1, t2, t3, t4, t5, t6, t7⟩ := a2 b hb hb0
    refine ⟨z1, z2, t1, t2, t3, t4, by rw [gI _ _ (by decide)]; exact t5, t6, fun r hr => ?_⟩
    obtain ⟨u1, u2, u3, u4, u5⟩ := t7 r hr
    exact ⟨u1, u2, u3, u4, by rw [gI _ _ (by decide)]; exact u5⟩
  · obtain ⟨q0, q1, q2, q3, q4, q5, q6⟩ := d5 i hi
    exact ⟨q0, q1, q2, by rw [gI _ _ (by decide)]; exact q3, by rw [gI _ _ (by decide)]; exact q4, q5, q6⟩
/-- another array of the list, with the same departures -/
theorem RX_re {h h' : am_H} {x n e c m : Nat} {s : sg} {α : Nat → Nat} (hX : RX h x n s α e c) (he : eqon (fun a => a ≤ am_Z h) h h') (hz : am_Z h' = am_Z h + 1) (hT : am_T h' (am_Z h + 1) = 104) (hN : am_N h' (am_Z h + 1) = m) (hA : ∀ i : Nat, (i : Int) < s 0 4 → am_aR h' (am_Z h + 1) i = am_aR h e i) (hC : am_C h' = am_C h + 1) (hS : am_S h' = am_S h + m) (hm : s 0 4 ≤ m ∧ 10 ≤ m ∧ m ≤ 7500 ∧ am_N h e < m ∧ 4 * am_N h e ≤ 3 * m) : RX (am_sR h' 192 (ax x n + 1) (am_Z h + 1)) x n s α (am_Z h + 1) c := by
  have hee := X_e hX
  have hX' : RX h' x n s α e (c + 7500) := RX_grow hX he (by omega) (by omega) (by omega)
  obtain ⟨-, -, -, ⟨o1, o2⟩, hz0⟩ := hX
  obtain ⟨⟨⟨s1, s2, ⟨s31, s32, s33, s34⟩, s4, s5, ⟨s61, s62, s63⟩, ⟨s71, s72⟩, ⟨s81, s82, s83⟩, ⟨s91, s92, s93⟩, ⟨s101, s102, s103⟩⟩, b2, b3, b4, b5⟩, ⟨a1, a2, a3, a4⟩, ⟨d1, d2, d3, d4, d5⟩, -, hz'⟩ := hX'
  have gR : ∀ f b, ¬ f = 192 → am_R (am_sR h' 192 (ax x n + 1) (am_Z h + 1)) f b = am_R h' f b := fun f b hf => by rw [hp_R_sR, if_neg (fun z => hf z.1)]
  refine ⟨⟨⟨s1, s2, ⟨by rw [gR _ _ (by decide)]; exact s31, s32, s33, s34⟩, fun i hi => ?_, fun i r hi hr => ?_, ⟨by rw [gR _ _ (by decide)]; exact s61, s62, s63⟩, ⟨by rw [gR _ _ (by decide)]; exact s71, s72⟩, ⟨by rw [gR _ _ (by decide)]; exact s81, s82, s83⟩, ⟨by rw [gR _ _ (by decide)]; exact s91, s92, s93⟩, ⟨by rw [gR _ _ (by decide)]; exact s101, s102, s103⟩⟩, b2, b3, b4, b5⟩, ⟨a1, fun a ha ha0 => ?_, a3, a4⟩, ⟨d1, by rw [hp_R_sR, if_pos ⟨rfl, rfl⟩], d3, Or.inr ⟨by omega, ?_, hT, ?_, ?_, ?_⟩, fun i hi => ?_⟩, ⟨?_, ?_⟩, hz'⟩
  · obtain ⟨y1, y2, y3, y4⟩ := s4 i hi
    exact ⟨y1, y2, by rw [gR _ _ (by decide)]; exact y3, y4⟩
  · obtain ⟨y1, y2, y3, y4, y5, y6⟩ := s5 i r hi hr
    exact ⟨y1, by rw [gR _ _ (by decide)]; exact y2, by rw [gR _ _ (by decide)]; exact y3, by rw [gR _ _ (by decide)]; exact y4, by rw [gR _ _ (by decide)]; exact y5, y6⟩
  · obtain ⟨z1, z2, t1, t2, t3⟩ := a2 a ha ha0
    exact ⟨z1, z2, t1, by rw [gR _ _ (by decide)]; exact t2, t3⟩
  · show am_Z h + 1 ≤ am_Z h'; omega
  · show s 0 4 ≤ am_N h' (am_Z h + 1); rw [hN]; exact hm.1
  · show 10 ≤ am_N h' (am_Z h + 1); rw [hN]; exact hm.2.1
  · show am_N h' (am_Z h + 1) ≤ 7500; rw [hN]; exact hm.2.2.1
  · show RD _ x n s i (am_aR h' (am_Z h + 1) i)
    have h1 := d5 i hi
    have e8 : am_aR h' e i = am_aR h e i := (he e (by show e ≤ am_Z h; have := ax_x (x := x) (n := n); omega)).2.2.2.2.2.2.2 i
    rw [hA i hi, ← e8]
    exact h1
  · show am_C h' ≤ 2000 + 20 * c + 21 * (s 0 4).toNat + am_N h' (am_Z h + 1); rw [hN]; omega
  · show am_S h' ≤ 200000 + 100 * c + 104 * (s 0 4).toNat + 4 * am_N h' (am_Z h + 1); rw [hN]; omega
def g_push (s : sg) (a0 a1 a2 a3 : Int) : sg := am_u2 (am_u2 (am_u2 (am_u2 (am_u2 s 23 (4 * (s 0 4).toNat) a0) 23 (4 * (s 0 4).toNat + 1) a1) 23 (4 * (s 0 4).toNat + 2) a2) 23 (4 * (s 0 4).toNat + 3) a3) 0 4 (s 0 4 + 1)
theorem g_push_ne {s : sg} {a0 a1 a2 a3 : Int} {k j : Nat} (h : ¬ (k = 0 ∧ j = 4) ∧ ¬ k = 23) : g_push s a0 a1 a2 a3 k j = s k j := by
  unfold g_push
  rw [am_u2, if_neg h.1, u2_ne h.2, u2_ne h.2, u2_ne h.2, u2_ne h.2]
theorem RX_push {h : am_H} {x n e c v : Nat} {s : sg} {α : Nat → Nat} {a0 a1 a2 a3 : Int} (hX : RX h x n s α e (c + 1)) (hk : s 0 4 < 5000) (hdyn : ax x n + 30 < e ∧ s 0 4 < am_N h e) (hv : ax x n + 30 < v ∧ v ≤ am_Z h ∧ am_T h v = 15 ∧ am_I h 160 v = iI a0 ∧ am_I h 161 v = iI a1 ∧ am_J h 162 v = jJ a2 ∧ am_J h 163 v = jJ a3) : RX (am_sI (am_xR h e (s 0 4).toNat v) 193 (ax x n + 1) (iI (s 0 4 + 1))) x n (g_push s a0 a1 a2 a3) α e c := by
  have hx := ax_x (x := x) (n := n)
  obtain ⟨⟨⟨s1, s2, ⟨s31, s32, s33, s34⟩, s4, s5, s6⟩, b2, b3, b4, b5⟩, ⟨a1', a2', a3', a4'⟩, ⟨d1, d2, d3, d4, d5⟩, ⟨o1, o2⟩, hz⟩ := hX
  have gI : ∀ f b, ¬ f = 193 → am_I (am_sI (am_xR h e (s 0 4).toNat v) 193 (ax x n + 1) (iI (s 0 4 + 1))) f b = am_I h f b := fun f b hf => by rw [hp_I_sI, if_neg (fun z => hf z.1), hp_I_xR]
  have gR : ∀ b j, ¬ b = e → am_aR (am_sI (am_xR h e (s 0 4).toNat v) 193 (ax x n + 1) (iI (s 0 4 + 1))) b j = am_aR h b j := fun b j hb => by rw [hp_aR_sI, hp_aR_xR, if_neg (fun z => hb z.1)]
  have e04 : g_push s a0 a1 a2 a3 0 4 = s 0 4 + 1 := u2_eq
  refine ⟨⟨⟨s1, s2, ⟨s31, s32, s33, fun i hi => by rw [gR _ _ (by omega)]; exact s34 i hi⟩, fun i hi => ?_, s5, s6⟩, fun k j f a hs => ?_, fun k j f a hs => ?_, fun k j a t hs => ?_, fun k j a t hs => ?_⟩, ⟨fun a ha => by rw [gR _ _ (by omega)]; exact a1' a ha, fun a ha ha0 => ?_, fun a ha ha0 => ?_, a4'⟩, ⟨by rw [hp_I_sI, if_pos ⟨rfl, rfl⟩, e04], d2, by rw [e04]; omega, ?_, fun i hi => ?_⟩, ⟨?_, ?_⟩, hz⟩
  · obtain ⟨y1, y2, y3, y4, y5, y6⟩ := s4 i hi
    exact ⟨y1, by rw [gI _ _ (by decide)]; exact y2, y3, y4, y5, fun r hr => by rw [gR _ _ (by unfold px; unfold ax at hdyn; omega)]; exact y6 r hr⟩
  · have q := SI_in hs
    rw [gI _ _ (by omega), g_push_ne (by omega)]; exact b2 k j f a hs
  · have q := SJ_in hs
    rw [g_push_ne (by omega)]; exact b3 k j f a hs
  · have q := TI_in hs
    rw [g_push_ne (by omega)]; exact b4 k j a t hs
  · have q := TJ_in hs
    rw [g_push_ne (by omega)]; exact b5 k j a t hs
  · obtain ⟨z1, z2, z3⟩ := a2' a ha ha0
    obtain ⟨t1, t2, t3, t4, t5, t6, t7⟩ := RA_s (s' := g_push s a0 a1 a2 a3) z3 (g_push_ne (by omega)) (g_push_ne (by omega)) (fun r hr => ⟨g_push_ne (by omega), g_push_ne (by omega), g_push_ne (by omega)⟩)
    refine ⟨z1, z2, t1, t2, t3, t4, by rw [gI _ _ (by decide)]; exact t5, t6, fun r hr => ?_⟩
    obtain ⟨u1, u2, u3, u4, u5⟩ := t7 r hr
    refine ⟨?_, u2, u3, u4, by rw [gI _ _ (by decide)]; exact u5⟩
    rw [gR _ _ (fun z => ?_)]
    · exact u1
    · rw [z] at t3
      rcases d4 with q | q
      · omega
      · rw [q.2.2.1] at t3; cases t3
  · obtain ⟨z1, z2, z3⟩ := a3' a ha ha0
    rw [g_push_ne (by omega), g_push_ne (by omega)]
    refine ⟨z1, z2, fun r hr => ?_⟩
    rw [g_push_ne (by omega), g_push_ne (by omega), g_push_ne (by omega)]
    exact z3 r hr
  · rw [e04]
    rcases d4 with q | q
    · omega
    · exact Or.inr ⟨q.1, q.2.1, q.2.2.1, by show s 0 4 + 1 ≤ am_N h e; omega, q.2.2.2.2⟩
  · rw [e04] at hi
    have d23 : ∀ j : Nat, j < 4 * (s 0 4).toNat → g_push s a0 a1 a2 a3 23 j = s 23 j := fun j hj => by
      unfold g_push
      rw [u2_ne (by decide), u2_nj (by omega), u2_nj (by omega), u2_nj (by omega), u2_nj (by omega)]
    rw [hp_aR_sI, hp_aR_xR]
    by_cases hc : i = (s 0 4).toNat
    · subst hc
      rw [if_pos ⟨rfl, rfl⟩]
      obtain ⟨v1, v2, v3, v4, v5, v6, v7⟩ := hv
      refine ⟨v1, v2, v3, ?_, ?_, ?_, ?_⟩
      · rw [gI _ _ (by decide), v4]; congr 1
        unfold g_push; rw [u2_ne (by decide), u2_nj (by omega), u2_nj (by omega), u2_nj (by omega), u2_eq]
      · rw [gI _ _ (by decide), v5]; congr 1
        unfold g_push; rw [u2_ne (by decide), u2_nj (by omega), u2_nj (by omega), u2_eq]
      · show am_J h 162 v = _
        rw [v6]; congr 1
        unfold g_push; rw [u2_ne (by decide), u2_nj (by omega), u2_eq]
      · show am_J h 163 v = _
        rw [v7]; congr 1
        unfold g_push; rw [u2_ne (by decide), u2_eq]
    · rw [if_neg (fun z => hc z.2)]
      obtain ⟨q0, q1, q2, q3, q4, q5, q6⟩ := d5 i (by omega)
      exact ⟨q0, q1, q2, by rw [gI _ _ (by decide), d23 _ (by omega)]; exact q3, by rw [gI _ _ (by decide), d23 _ (by omega)]; exact q4, by rw [d23 _ (by omega)]; exact q5, by rw [d23 _ (by omega)]; exact q6⟩
  · rw [e04]
    show am_C h ≤ 2000 + 20 * c + 21 * (s 0 4 + 1).toNat + am_N h e
    omega
  · rw [e04]
    show am_S h ≤ 200000 + 100 * c + 104 * (s 0 4 + 1).toNat + 4 * am_N h e
    omega
theorem pk_half {k : Nat} (hk : k < 2 ^ 31) : nI k >>> ((1 : Int32) &&& 31) = nI (k / 2) := by
  apply Int32.toInt_inj.mp
  have e := pk_shr (nI k) ((1 : Int32) &&& 31) 1 rfl
  rw [e, nI_toInt hk, nI_toInt (by omega), Int.shiftRight_eq_div_pow]
  rfl
theorem cp_T (h : am_H) (a n b : Nat) : am_T (am_cp h a n) b = if b = am_Z h + 1 then 104 else am_T h b := rfl
theorem cp_N (h : am_H) (a n b : Nat) : am_N (am_cp h a n) b = if b = am_Z h + 1 then n else am_N h b := rfl
theorem cp_aR (h : am_H) (a n b j : Nat) : am_aR (am_cp h a n) b j = if b = am_Z h + 1 then (if j < am_N h a ∧ j < n then am_aR h a j else 0) else am_aR h b j := rfl
theorem eqon_cp {S : Nat → Prop} {h : am_H} {a n : Nat} (ha : ¬ S (am_Z h + 1)) : eqon S h (am_cp h a n) := fun q hq => by
  have hne : ¬ q = am_Z h + 1 := fun z => ha (z ▸ hq)
  exact ⟨by rw [cp_T, if_neg hne], by rw [cp_N, if_neg hne], fun _ => rfl, fun _ => rfl, fun _ => rfl, fun g => by show (if _ then _ else _) = _; rw [if_neg hne], fun g => by show (if _ then _ else _) = _; rw [if_neg hne], fun g => by rw [cp_aR, if_neg hne]⟩
theorem sp_L_grow {d x n e c : Nat} {h : am_H} {s : sg} {α : Nat → Nat} {Q : Option am_V → am_H → Prop} (hX : RX h x n s α e c) (hk : s 0 4 < 5000) (hfull : s 0 4 = am_N h e) (hQ : ∀ h' e', RX h' x n s α e' c → ax x n + 30 < e' → s 0 4 < am_N h' e' → eqon (fun a => a ≤ am_Z h ∧ ¬ a = ax x n + 1) h h' → am_Z h ≤ am_Z h' → Q (some (.inr (.inr e'))) h') : am_PC (d + 6) mi_L_grow [.inr (.inr (ax x n + 1))] h Q := by
  have hx := ax_x (x := x) (n := n)
  obtain ⟨d1, d2, d3, d4, d5⟩ := hX.2.2.1
  have hz := hX.2.2.2.2
  refine bk_L_grow ⟨X_T2 hX, X_T2 hX, bk_L_grow2 ?_⟩
  rw [d1, d2, show (1 : Int32) = iI 1 from rfl, iI_add, show Int32.ofNat (am_N h e) = nI (am_N h e) from rfl]
  have eN : am_N h e = (s 0 4).toNat := by omega
  have e1 : iI (s 0 4 + 1) = nI (am_N h e + 1) := by
    rw [← iI_nat]; congr 1; omega
  rcases d4 with q | q
  · have e0 : am_N h e = 0 := by omega
    rw [e1, e0, ← q.2.1]
    refine ⟨X_T2 hX, by rw [q.2.2.2.1]; decide, fun z => absurd z (by decide), fun _ => ⟨X_T2 hX, fun _ => ?_, fun z => absurd rfl z⟩⟩
    rw [show (if (10 : Int32) < nI (0 + 1) then nI (0 + 1) else (10 : Int32)) = 10 from by decide]
    refine ⟨by decide, by decide, fun h1 e1 => ⟨rfl, rfl, ?_⟩⟩
    have hT1 : am_T h1 (ax x n + 1) = 16 := by subst e1; rw [hp_T_nA, if_neg (by omega)]; exact X_T2 hX
    refine ⟨hT1, fun h2 e2 => ⟨_, rfl, ?_⟩⟩
    have ee : eqon (fun a => a ≤ am_Z h) h h1 := by subst e1; exact eqon_nA (by omega)
    have hX2 : RX h2 x n s α (am_Z h + 1) c := by
      subst e2
      refine RX_re (m := 10) hX ee (by subst e1; rfl) (by subst e1; rw [hp_T_nA, if_pos rfl]) (by subst e1; rw [hp_N_nA, if_pos rfl]; rfl) (fun i hi => by omega) (by subst e1; rfl) (by subst e1; rfl) ?_
      rw [e0]
      omega
    refine hQ h2 (am_Z h + 1) hX2 (by omega) ?_ ?_ (by subst e2; subst e1; show am_Z h ≤ am_Z h + 1; omega)
    · subst e2; subst e1
      rw [hp_N_sR, hp_N_nA, if_pos rfl]
      show s 0 4 < 10
      omega
    · subst e2
      exact eqon_tr (eqon_mono (fun a ha => ha.1) ee) (eqon_sR (fun z => z.2 rfl))
  · have hpos : 0 < nI (am_N h e) := nI_lt (a := 0) (by omega) (by omega)
    refine ⟨X_T2 hX, by rw [q.2.2.1]; decide, fun _ => ?_, fun z => absurd hpos z⟩
    refine bk_L_grow2_20 (bk_Q_newLength ?_)
    rw [e1, pk_sub (by omega), pk_half (by omega), if_pos (nI_lt (by omega) (by omega)), nI_add]
    refine ⟨fun z => absurd z (nI_nle (by omega) (by omega)), fun _ => ⟨fun z => absurd z (nI_nlt (a := 2147483639) (by omega) (by omega)), fun _ => ⟨_, rfl, X_T2 hX, ?_⟩⟩⟩
    rw [d2]
    refine ⟨by omega, q.2.2.1, nI_pos (by omega), by rw [nI_clamp (by omega)]; omega, by omega, fun j hj => Or.inr (by rw [(d5 j (by omega)).2.2.1]; decide), _, rfl, rfl, rfl, ?_⟩
    rw [nI_clamp (by omega)]
    refine ⟨by rw [cp_T, if_neg (by omega)]; exact X_T2 hX, fun h2 e2 => ⟨_, rfl, ?_⟩⟩
    have ee : eqon (fun a => a ≤ am_Z h) h (am_cp h e (am_N h e + am_N h e / 2)) := eqon_cp (by omega)
    have hX2 : RX h2 x n s α (am_Z h + 1) c := by
      subst e2
      exact RX_re (m := am_N h e + am_N h e / 2) hX ee rfl (by rw [cp_T, if_pos rfl]) (by rw [cp_N, if_pos rfl]) (fun i hi => by rw [cp_aR, if_pos rfl, if_pos ⟨by omega, by omega⟩]) rfl rfl ⟨by omega, by omega, by omega, by omega, by omega⟩
    refine hQ h2 (am_Z h + 1) hX2 (by omega) ?_ ?_ (by subst e2; show am_Z h ≤ am_Z h + 1; omega)
    · subst e2
      rw [hp_N_sR, cp_N, if_pos rfl]
      omega
    · subst e2
      exact eqon_tr (eqon_mono (fun a ha => ha.1) ee) (eqon_sR (fun z => z.2 rfl))
theorem sp_L_add {d x n e c v : Nat} {h : am_H} {s : sg} {α : Nat → Nat} {a0 a1 a2 a3 : Int} {Q : Option am_V → am_H → Prop} (hX : RX h x n s α e (c + 1)) (hk : s 0 4 < 5000) (hv : ax x n + 30 < v ∧ v ≤ am_Z h ∧ am_T h v = 15 ∧ am_I h 160 v = iI a0 ∧ am_I h 161 v = iI a1 ∧ am_J h 162 v = jJ a2 ∧ am_J h 163 v = jJ a3) (hQ : ∀ h' e', RX h' x n (g_push s a0 a1 a2 a3) α e' c → eqon (OX x n) h h' → Q (some (.inl 1)) h') : am_PC (d + 8) mi_L_add [.inr (.inr (ax x n + 1)), .inr (.inr v)] h Q := by
  have hx := ax_x (x := x) (n := n)
  have hz := hX.2.2.2.2
  refine bk_L_add ⟨rfl, X_T2 hX, X_T2 hX, fun h1 e1 => ?_⟩
  have hX1 : RX h1 x n s α e (c + 1) := by subst e1; exact RX_sIx hX
  have ee1 : eqon (OX x n) h h1 := by subst e1; exact eqon_sI (by unfold OX; omega)
  have hv1 : ax x n + 30 < v ∧ v ≤ am_Z h1 ∧ am_T h1 v = 15 ∧ am_I h1 160 v = iI a0 ∧ am_I h1 161 v = iI a1 ∧ am_J h1 162 v = jJ a2 ∧ am_J h1 163 v = jJ a3 := by
    subst e1
    obtain ⟨v1, v2, v3, v4, v5, v6, v7⟩ := hv
    exact ⟨v1, v2, v3, by rw [hp_I_sI, if_neg (fun z => absurd z.1 (by decide))]; exact v4, by rw [hp_I_sI, if_neg (fun z => absurd z.1 (by decide))]; exact v5, v6, v7⟩
  obtain ⟨d1, d2, d3, d4, d5⟩ := hX1.2.2.1
  have hz1 := hX1.2.2.2.2
  refine ⟨X_T2 hX1, X_T2 hX1, X_T2 hX1, bk_L_add2 ?_⟩
  rw [d1, d2, show Int32.ofNat (am_N h1 e) = nI (am_N h1 e) from rfl]
  have fin : ∀ h2 e', RX h2 x n s α e' (c + 1) → ax x n + 30 < e' → s 0 4 < am_N h2 e' → eqon (OX x n) h h2 → (ax x n + 30 < v ∧ v ≤ am_Z h2 ∧ am_T h2 v = 15 ∧ am_I h2 160 v = iI a0 ∧ am_I h2 161 v = iI a1 ∧ am_J h2 162 v = jJ a2 ∧ am_J h2 163 v = jJ a3) → am_P (d + 6) mi_L_add2 11 [some (.inr (.inr (ax x n + 1))), some (.inr (.inr v)), some (.inr (.inr e')), some (.inl (iI (s 0 4)))] [] h2 (fun r2 h3 => r2 = none ∧ ((1 : Int32) = 0 ∨ (1 : Int32) = 1) ∧ Q (some (.inl 1)) h3) := by
    intro h2 e' hX2 he' hN2 ho hv2
    have dd := hX2.2.2.1.2.2.2.1
    have hT : am_T h2 e' = 104 := by
      rcases dd with q | q
      · omega
      · exact q.2.2.1
    refine bk_L_add2_11 ?_
    rw [hT, hv2.2.2.1, iI_clamp (by omega) (by unfold rI; omega), show (1 : Int32) = iI 1 from rfl, iI_add]
    refine ⟨by decide, iI_in (by omega) (by omega) (by have := hX2.2.2.1.2.2.2.1; omega), Or.inr ⟨by decide, by decide⟩, fun h3 e3 => ⟨by subst e3; exact (X_T2 hX2 : am_T h2 (ax x n + 1) = 16), fun h4 e4 => ⟨rfl, Or.inr rfl, hQ h4 e' ?_ ?_⟩⟩⟩
    · subst e4; subst e3
      exact RX_push hX2 hk ⟨he', hN2⟩ hv2
    · subst e4; subst e3
      exact eqon_tr (eqon_tr ho (eqon_xR (by unfold OX; omega))) (eqon_sI (by unfold OX; omega))
  refine ⟨?_, fun z => ⟨X_T2 hX1, ?_⟩, fun z => ?_⟩
  · rcases d4 with q | q
    · rw [q.2.2.2.1]; decide
    · rw [q.2.2.1]; decide
  · have hfull : s 0 4 = am_N h1 e := by
      rw [← iI_nat, iI_eq (by unfold rI; omega) (by unfold rI; rcases d4 with q | q <;> omega)] at z
      exact z
    refine sp_L_grow hX1 hk hfull (fun h2 e' hX2 he' hN2 ho hzz => ⟨e', rfl, fin h2 e' hX2 he' hN2 (eqon_tr ee1 (eqon_mono (fun a ha => ?_) ho)) ?_⟩)
    · unfold OX at ha
      exact ⟨by omega, by omega⟩
    · obtain ⟨v1, v2, v3, v4, v5, v6, v7⟩ := hv1
      obtain ⟨t1, t2, t3, t4, -⟩ := ho v ⟨v2, by omega⟩
      exact ⟨v1, by omega, by rw [t1]; exact v3, by rw [t3]; exact v4, by rw [t3]; exact v5, by rw [t4]; exact v6, by rw [t4]; exact v7⟩
  · have hne : ¬ s 0 4 = am_N h1 e := fun y => z (by rw [y, iI_nat])
    rcases d4 with q | q
    · omega
    · exact fin h1 e hX1 q.1 (by omega) ee1 hv1
