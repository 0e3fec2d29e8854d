/-! THE START: both objects in one state -/
theorem s00_n {k j : Nat} (h : 1 ≤ k) (h2 : ¬ k = 35) : s00 k j = 0 := s00_0 (by omega) h2
theorem WF_00 {n : Nat} : WF n s00 := by
  have wb : ∀ k, k < 23 → wlo k ≤ 0 ∧ 0 ≤ whi k := by decide
  have e00 : s00 0 0 = 0 := rfl
  have e01 : s00 0 1 = 1000 := rfl
  have e02 : s00 0 2 = 0 := rfl
  have e03 : s00 0 3 = 0 := rfl
  have e04 : s00 0 4 = 0 := rfl
  have e30 : s00 30 0 = 0 := rfl
  refine ⟨⟨by rw [e00]; decide, by rw [e01]; decide, by rw [e02]; decide, by rw [e03]; decide, by rw [e04]; decide, fun k j h1 h2 h3 h4 h5 h6 h7 => ?_, fun q k hq hk => ?_, fun j hj => ?_, fun j j1 j2 => ?_, fun j hj => ?_⟩, ⟨fun q hq => ?_, fun q t hq ht => ?_, fun p p1 p2 => ?_⟩, fun p hp => ?_, ⟨by rw [e30]; decide, fun q k q1 q2 q3 => ?_, Or.inl e30⟩, fun j hj => ?_, ⟨fun j hj hj2 => ?_, fun j hj => ?_⟩⟩
  · rw [s00_n h1 (by omega)]; exact wb k (by omega)
  · rw [s00_n (by omega) (by omega)] at hk; omega
  · rw [e00, s00_n (k := 14) (by omega) (by omega)]; omega
  · rw [e02] at j2; omega
  · rw [s00_n (by omega) (by omega), e02]; omega
  · rw [s00_n (by omega) (by omega)]; omega
  · rw [s00_n (by omega) (by omega)] at ht; omega
  · rw [s00_n (by omega) (by omega), lsum_0 8 (fun j hj => s00_n (by omega) (by omega))]
  · exact absurd (s00_n (by omega) (by omega)) hp
  · rw [s00_n (by omega) (by omega)] at q3; omega
  · have e35 : s00 35 j = -1 := rfl
    rw [s00_n (k := 36) (by omega) (by omega), s00_n (k := 37) (by omega) (by omega), s00_n (k := 19) (by omega) (by omega), s00_n (k := 20) (by omega) (by omega), s00_n (k := 18) (by omega) (by omega), e35, e00, e02]
    refine ⟨by decide, by decide, by decide, by decide, ⟨by decide, (by unfold rJ; omega)⟩, by decide⟩
  · rw [s00_n (by omega) (by omega)] at hj2; omega
  · rw [e04] at hj; omega
theorem RX_start {h0 h hF : am_H} {x n : Nat} (g : XE h0 x n h) (hn : 1 ≤ n ∧ n ≤ 16) (hx : 1 ≤ x) (he : eqon (fun a => a ≤ ax x n + 4) h hF) (hz : ax x n + 30 ≤ am_Z hF) (hE : am_R h0 9000 0 < x ∧ am_T h0 (am_R h0 9000 0) = 4 ∧ am_N h0 (am_R h0 9000 0) = 0) (hC : am_C hF ≤ 2000) (hS : am_S hF ≤ 200000) : RX hF x n s00 (fun _ => 0) (am_R h0 9000 0) 0 := by
  obtain ⟨g1, g2, g3, g4, ⟨r0, r1, r2, r3, r4, r5⟩, ⟨p1, p2, p3⟩, ⟨a1, a2, a3⟩, ⟨l1, l2, l3⟩, za2, za3, za4, gz, g0, gC, gS⟩ := g
  have hax : ax x n = x + 2 + 42 * n := rfl
  obtain ⟨x1, x2, x3, x4, x5, x6, x7, x8⟩ := he x (by show x ≤ _; omega)
  obtain ⟨y1, y2, y3, y4, y5, y6, y7, y8⟩ := he (x + 1) (by show x + 1 ≤ _; omega)
  obtain ⟨b1, b2, b3, b4, b5, b6, b7, b8⟩ := he (ax x n) (by show _ ≤ _; omega)
  obtain ⟨c1, c2, c3, c4, c5, c6, c7, c8⟩ := he (ax x n + 1) (by show _ ≤ _; omega)
  have z2 := Za_eq he (show _ ≤ _ by omega) za2
  have z3 := Za_eq he (show _ ≤ _ by omega) za3
  have z4 := Za_eq he (show _ ≤ _ by omega) za4
  have P : ∀ i, i < n → PP hF (px x i) i := fun i hi => PP_eq he (fun w hw => by show _ ≤ _; unfold px; omega) (p3 i hi).2
  have K : ∀ i r, i < n → r < 8 → KK hF (kx x i r) := fun i r hi hr => by
    have := (P i hi).2.2.2.2.2.2.2 r hr
    rw [show px x i + 2 + 5 * r = kx x i r by unfold px kx; omega] at this
    exact this.2
  have z0 : ∀ k j, 1 ≤ k → ¬ k = 35 → (0 : Int32) = iI (s00 k j) := fun k j h1 h2 => by rw [s00_n h1 h2]; rfl
  have w0 : ∀ k j, 1 ≤ k → ¬ k = 35 → (0 : Int64) = jJ (s00 k j) := fun k j h1 h2 => by rw [s00_n h1 h2]; rfl
  refine ⟨⟨⟨hn, by rw [x1]; exact g1, ⟨by rw [x5]; exact r0, by rw [y1]; exact p1, by rw [y2]; exact p2, fun i hi => by rw [y8]; exact (p3 i hi).1⟩, fun i hi => ?_, fun i r hi hr => ?_, ⟨by rw [x5]; exact r1, by rw [b1]; exact a1, by rw [b2]; exact a2⟩, ⟨by rw [x5]; exact r2, by rw [c1]; exact l1⟩, ⟨by rw [x5]; exact r3, z2.1, z2.2.1⟩, ⟨by rw [x5]; exact r4, z3.1, z3.2.1⟩, ⟨by rw [x5]; exact r5, z4.1, z4.2.1⟩⟩, fun k j f a hs => ?_, fun k j f a hs => ?_, fun k j a t hs => ?_, fun k j a t hs => ?_⟩, ⟨fun a ha => by rw [b8]; exact a3 a, fun a ha h0 => absurd rfl h0, fun a ha _ => ⟨rfl, rfl, fun r hr => ⟨rfl, rfl, rfl⟩⟩, fun a b ha hb hne h0 => absurd rfl h0⟩, ⟨by rw [c3]; exact l2, by rw [c5]; exact l3, by decide, Or.inl ⟨rfl, ?_, hE.1, ?_, ?_⟩, fun i hi => ?_⟩, ⟨by show am_C hF ≤ 2000 + 20 * 0 + 21 * 0 + _; omega, by show am_S hF ≤ 200000 + 100 * 0 + 104 * 0 + _; omega⟩, hz⟩
  · obtain ⟨q1, q2, q3, q4, q5, q6, q7, q8⟩ := P i hi
    exact ⟨q1, q2, q5, q6, q7, fun r hr => by rw [(q8 r hr).1]; unfold px kx; omega⟩
  · obtain ⟨q1, q2, ⟨q3, q4, q5, q6⟩, q7, q8, q9, q10⟩ := K i r hi hr
    exact ⟨q1, q3, q4, q5, q6, q7.1, q8.1, q9.1, q10.1, q7.2.1, q8.2.1, q9.2.1, q10.2.1⟩
  · rcases hs with ⟨rfl, rfl, rfl, rfl⟩ | ⟨rfl, rfl, rfl, rfl⟩ | ⟨i, hi, rfl, rfl, hk⟩ | ⟨i, r, hi, hr, rfl, rfl, hk⟩
    · rw [x3]; exact g2 9
    · rw [x3]; exact g2 10
    · rw [(P i hi).2.2.1 f (by omega)]; exact z0 k _ (by omega) (by omega)
    · rw [((K i r hi hr).2.1 f).1]; exact z0 k _ (by omega) (by omega)
  · rcases hs with ⟨rfl, hk⟩ | ⟨i, hi, rfl, rfl, hk⟩ | ⟨i, r, hi, hr, rfl, rfl, hk⟩
    · rcases hk with ⟨rfl, rfl, rfl⟩ | ⟨rfl, rfl, rfl⟩ | ⟨rfl, rfl, rfl⟩
      · rw [x4]; exact g3 6 (by decide)
      · rw [x4]; exact g4
      · rw [x4]; exact g3 8 (by decide)
    · rw [(P i hi).2.2.2.1 f]; exact w0 k _ (by omega) (by omega)
    · rw [((K i r hi hr).2.1 f).2]; exact w0 k _ (by omega) (by omega)
  · rcases hs with ⟨rfl, rfl, rfl, ht⟩ | ⟨rfl, rfl, rfl, ht⟩ | ⟨i, r, hi, hr, ht, rfl, hk⟩
    · exact (z2.2.2 _).1
    · exact (z3.2.2 _).1
    · obtain ⟨q1, q2, q3, q7, q8, q9, q10⟩ := K i r hi hr
      rcases hk with ⟨rfl, rfl⟩ | ⟨rfl, rfl⟩
      · exact (q7.2.2 _).1
      · exact (q8.2.2 _).1
  · rcases hs with ⟨rfl, rfl, rfl, ht⟩ | ⟨i, r, hi, hr, ht, rfl, hk⟩
    · exact (z4.2.2 _).2
    · obtain ⟨q1, q2, q3, q7, q8, q9, q10⟩ := K i r hi hr
      rcases hk with ⟨rfl, rfl⟩ | ⟨rfl, rfl⟩
      · exact (q9.2.2 _).2
      · exact (q10.2.2 _).2
  · rw [(he 0 (by show 0 ≤ _; omega)).2.2.2.2.1, (g0 0 (by show 0 < x; omega)).2.2.2.2.1]
  · rw [(he _ (by show am_R h0 9000 0 ≤ _; omega)).1, (g0 _ hE.1).1]; exact hE.2.1
  · rw [(he _ (by show am_R h0 9000 0 ≤ _; omega)).2.1, (g0 _ hE.1).2.1]; exact hE.2.2
  · exact absurd hi (by show ¬ (i : Int) < 0; omega)
/-- behind the three constructions -/
theorem J_start {h0 h hM hF : am_H} {x n : Nat} (g : XE h0 x n h) (hn : 1 ≤ n ∧ n ≤ 16) (hx : 1 ≤ x) (hE : am_R h0 9000 0 < x ∧ am_T h0 (am_R h0 9000 0) = 4 ∧ am_N h0 (am_R h0 9000 0) = 0) (hC0 : am_C h0 ≤ 100) (hS0 : am_S h0 ≤ 1000)
    (gM' : RM hM (ax x n + 5) n s00) (zM : am_Z hM = ax x n + 29) (eM : eqon (fun a => a < ax x n + 5) h hM) (cM : am_C hM = am_C h + 25) (sM : am_S hM = am_S h + 31 + sgM 24) (eF : hF = am_nA hM 2 1) : J hF x n s00 0 ∧ am_T hF (ax x n + 30) = 2 ∧ am_N hF (ax x n + 30) = 1 ∧ eqon (fun a => a < x) h0 hF := by
  have hax : ax x n = x + 2 + 42 * n := rfl
  have gC := g.2.2.2.2.2.2.2.2.2.2.2.2.2.1
  have gS := g.2.2.2.2.2.2.2.2.2.2.2.2.2.2
  have g0 := g.2.2.2.2.2.2.2.2.2.2.2.2.1
  have eMF : eqon (fun a => a < ax x n + 30) hM hF := by subst eF; exact eqon_nA (by omega)
  have s24 : sgM 24 = 56367 := by decide
  refine ⟨⟨_, _, RX_start g hn hx (eqon_tr (eqon_mono (fun a ha => by show a < _; have : a ≤ ax x n + 4 := ha; omega) eM) (eqon_mono (fun a ha => by show a < _; have : a ≤ ax x n + 4 := ha; omega) eMF)) ?_ hE ?_ ?_, RM_eqon gM' (eqon_mono (fun a ha => by show a < _; have := ha.2; omega) eMF)⟩, ?_, ?_, ?_⟩
  · subst eF; show _ ≤ am_Z hM + 1; omega
  · subst eF; show am_C hM + 1 ≤ 2000; omega
  · subst eF; show am_S hM + 1 ≤ 200000; omega
  · subst eF; rw [hp_T_nA, if_pos (by omega)]
  · subst eF; rw [hp_N_nA, if_pos (by omega)]
  · exact eqon_tr (eqon_tr g0 (eqon_mono (fun a ha => by show a < _; have : a < x := ha; omega) eM)) (eqon_mono (fun a ha => by show a < _; have : a < x := ha; omega) eMF)
