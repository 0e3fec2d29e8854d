/-! THE CLASS: addresses -/
theorem X_e {h : am_H} {x n e c : Nat} {s : sg} {α : Nat → Nat} (hX : RX h x n s α e c) : e < x ∨ (ax x n + 30 < e ∧ e ≤ am_Z h) := by
  rcases hX.2.2.1.2.2.2.1 with q | q
  · exact Or.inl q.2.2.1
  · exact Or.inr ⟨q.1, q.2.1⟩
theorem ax_x {x n : Nat} : x + 2 ≤ ax x n := by unfold ax; omega
/-- the same cells (the reference's aside), perhaps more of them -/
theorem RX_eqon {h h' : am_H} {x n e c k : Nat} {s : sg} {α : Nat → Nat} (hX : RX h x n s α e c) (he : eqon (fun a => a ≤ am_Z h ∧ ¬ (ax x n + 5 ≤ a ∧ a ≤ ax x n + 30)) h h') (hz' : am_Z h ≤ am_Z h') (hc' : am_C h' ≤ am_C h + 20 * k) (hs' : am_S h' ≤ am_S h + 100 * k) : RX h' x n s α e (c + k) := by
  have hee := X_e hX
  obtain ⟨⟨⟨s1, s2, ⟨s31, s32, s33, s34⟩, s4, s5, ⟨s61, s62, s63⟩, ⟨s71, s72⟩, ⟨s81, s82, s83⟩, ⟨s91, s92, s93⟩, ⟨s101, s102, s103⟩⟩, b2, b3, b4, b5⟩, ⟨a1, a2, a3, a4⟩, ⟨d1, d2, d3, d4, d5⟩, ⟨o1, o2⟩, hz⟩ := hX
  have hx := ax_x (x := x) (n := n)
  have ox : ∀ a, ¬ OX x n a → a < ax x n + 5 → a ≤ am_Z h ∧ ¬ (ax x n + 5 ≤ a ∧ a ≤ ax x n + 30) := fun a _ h2 => ⟨by omega, by omega⟩
  obtain ⟨x1, x2, x3, x4, x5, x6, x7, x8⟩ := he x ⟨by omega, by omega⟩
  obtain ⟨p1, p2, p3, p4, p5, p6, p7, p8⟩ := he (x + 1) ⟨by omega, by omega⟩
  obtain ⟨q1, q2, q3, q4, q5, q6, q7, q8⟩ := he (ax x n) ⟨by omega, by omega⟩
  obtain ⟨r1, r2, r3, r4, r5, r6, r7, r8⟩ := he (ax x n + 1) ⟨by omega, by omega⟩
  obtain ⟨t1, t2, t3, t4, t5, t6, t7, t8⟩ := he (ax x n + 2) ⟨by omega, by omega⟩
  obtain ⟨u1, u2, u3, u4, u5, u6, u7, u8⟩ := he (ax x n + 3) ⟨by omega, by omega⟩
  obtain ⟨v1, v2, v3, v4, v5, v6, v7, v8⟩ := he (ax x n + 4) ⟨by omega, by omega⟩
  obtain ⟨e1, e2, e3, e4, e5, e6, e7, e8⟩ := he e ⟨by omega, by omega⟩
  obtain ⟨z1, z2, z3, z4, z5, z6, z7, z8⟩ := he 0 ⟨by omega, by omega⟩
  refine ⟨⟨⟨s1, by rw [x1]; exact s2, ⟨by rw [x5]; exact s31, by rw [p1]; exact s32, by rw [p2]; exact s33, fun i hi => by rw [p8]; exact s34 i hi⟩, fun i hi => ?_, fun i r hi hr => ?_, ⟨by rw [x5]; exact s61, by rw [q1]; exact s62, by rw [q2]; exact s63⟩, ⟨by rw [x5]; exact s71, by rw [r1]; exact s72⟩, ⟨by rw [x5]; exact s81, by rw [t1]; exact s82, by rw [t2]; exact s83⟩, ⟨by rw [x5]; exact s91, by rw [u1]; exact s92, by rw [u2]; exact s93⟩, ⟨by rw [x5]; exact s101, by rw [v1]; exact s102, by rw [v2]; exact s103⟩⟩, fun k j f a hs => ?_, fun k j f a hs => ?_, fun k j a t hs => ?_, fun k j a t hs => ?_⟩, ⟨fun a ha => by rw [q8]; exact a1 a ha, fun a ha ha0 => ?_, a3, a4⟩, ⟨by rw [r3]; exact d1, by rw [r5]; exact d2, d3, ?_, fun i hi => ?_⟩, ⟨by rw [e2]; omega, by rw [e2]; omega⟩, by omega⟩
  · obtain ⟨y1, y2, y3, y4, y5, y6⟩ := s4 i hi
    have m1 : px x i + 1 < ax x n := by unfold px ax; omega
    obtain ⟨f1, f2, f3, f4, f5, f6, f7, f8⟩ := he (px x i) ⟨by omega, by omega⟩
    obtain ⟨g1, g2, g3, g4, g5, g6, g7, g8⟩ := he (px x i + 1) ⟨by omega, by omega⟩
    exact ⟨by rw [f1]; exact y1, by rw [f3]; exact y2, by rw [f5]; exact y3, by rw [g1]; exact y4, by rw [g2]; exact y5, fun r hr => by rw [g8]; exact y6 r hr⟩
  · obtain ⟨y1, y2, y3, y4, y5, y6, y7, y8, y9, y10, y11, y12, y13⟩ := s5 i r hi hr
    have m1 : kx x i r + 4 < ax x n := by unfold kx ax; omega
    obtain ⟨f1, f2, f3, f4, f5, f6, f7, f8⟩ := he (kx x i r) ⟨by omega, by omega⟩
    obtain ⟨g1, g2, -⟩ := he (kx x i r + 1) ⟨by omega, by omega⟩
    obtain ⟨k1, k2, -⟩ := he (kx x i r + 2) ⟨by omega, by omega⟩
    obtain ⟨l1, l2, -⟩ := he (kx x i r + 3) ⟨by omega, by omega⟩
    obtain ⟨m1, m2, -⟩ := he (kx x i r + 4) ⟨by omega, by omega⟩
    exact ⟨by rw [f1]; exact y1, by rw [f5]; exact y2, by rw [f5]; exact y3, by rw [f5]; exact y4, by rw [f5]; exact y5, by rw [g1]; exact y6, by rw [k1]; exact y7, by rw [l1]; exact y8, by rw [m1]; exact y9, by rw [g2]; exact y10, by rw [k2]; exact y11, by rw [l2]; exact y12, by rw [m2]; exact y13⟩
  · rw [(he a (ox a (SI_in hs).1 (SI_in hs).2.1)).2.2.1]; exact b2 k j f a hs
  · rw [(he a (ox a (SJ_in hs).1 (SJ_in hs).2.1)).2.2.2.1]; exact b3 k j f a hs
  · rw [(he a (ox a (TI_in hs).1 (TI_in hs).2.1)).2.2.2.2.2.1]; exact b4 k j a t hs
  · rw [(he a (ox a (TJ_in hs).1 (TJ_in hs).2.1)).2.2.2.2.2.2.1]; exact b5 k j a t hs
  · obtain ⟨y1, y2, y3, y4, y5, y6, y7, y8, y9⟩ := a2 a ha ha0
    obtain ⟨f1, f2, f3, f4, f5, f6, f7, f8⟩ := he (α a) ⟨by omega, by omega⟩
    obtain ⟨g1, g2, g3, g4, g5, g6, g7, g8⟩ := he (α a + 1) ⟨by omega, by omega⟩
    refine ⟨y1, by omega, by rw [f1]; exact y3, by rw [f5]; exact y4, by rw [g1]; exact y5, by rw [g2]; exact y6, by rw [f3]; exact y7, by rw [f4]; exact y8, fun r hr => ?_⟩
    obtain ⟨w1, w2, w3, w4, w5⟩ := y9 r hr
    obtain ⟨l1, l2, l3, l4, l5, l6, l7, l8⟩ := he (α a + 2 + r) ⟨by omega, by omega⟩
    exact ⟨by rw [g8]; exact w1, by rw [l1]; exact w2, by rw [l4]; exact w3, by rw [l4]; exact w4, by rw [l3]; exact w5⟩
  · rw [z5, e1, e2]
    rcases d4 with q | q
    · exact Or.inl q
    · exact Or.inr ⟨q.1, by omega, q.2.2⟩
  · obtain ⟨y0, y1, y2, y3, y4, y5, y6⟩ := d5 i hi
    rw [e8]
    obtain ⟨f1, f2, f3, f4, f5, f6, f7, f8⟩ := he (am_aR h e i) ⟨y1, by omega⟩
    exact ⟨y0, by omega, by rw [f1]; exact y2, by rw [f3]; exact y3, by rw [f3]; exact y4, by rw [f4]; exact y5, by rw [f4]; exact y6⟩
theorem RX_kp {h h' : am_H} {x n e c : Nat} {s : sg} {α : Nat → Nat} (hX : RX h x n s α e c) (hk : kp (NM (ax x n + 5)) h h') : RX h' x n s α e c := by
  obtain ⟨k1, k2, k3, k4⟩ := hk
  exact RX_eqon (k := 0) hX (eqon_mono (S := NM (ax x n + 5)) (fun a ha => show ¬ CM (ax x n + 5) a from fun hc => ha.2 ⟨hc.1, by have := hc.2; omega⟩) k1) (by omega) (by omega) (by omega)
theorem RX_grow {h h' : am_H} {x n e c k : Nat} {s : sg} {α : Nat → Nat} (hX : RX h x n s α e c) (he : eqon (fun a => a ≤ am_Z h) h h') (hz' : am_Z h ≤ am_Z h') (hc' : am_C h' ≤ am_C h + 20 * k) (hs' : am_S h' ≤ am_S h + 100 * k) : RX h' x n s α e (c + k) := RX_eqon hX (eqon_mono (fun _ ha => ha.1) he) hz' hc' hs'
/-- of another state that is the same on the class's kinds -/
theorem RX_s {h : am_H} {x n e c : Nat} {s s' : sg} {α : Nat → Nat} (hX : RX h x n s α e c) (hs : ∀ k j, ¬ k = 8 → ¬ k = 15 → ¬ k = 18 → ¬ k = 19 → ¬ k = 20 → s' k j = s k j) : RX h x n s' α e c := by
  obtain ⟨⟨b1, b2, b3, b4, b5⟩, ⟨a1, a2, a3, a4⟩, ⟨d1, d2, d3, d4, d5⟩, ⟨o1, o2⟩, hz⟩ := hX
  have e04 : s' 0 4 = s 0 4 := hs 0 4 (by decide) (by decide) (by decide) (by decide) (by decide)
  have e16 : ∀ j, s' 16 j = s 16 j := fun j => hs 16 j (by decide) (by decide) (by decide) (by decide) (by decide)
  have e17 : ∀ j, s' 17 j = s 17 j := fun j => hs 17 j (by decide) (by decide) (by decide) (by decide) (by decide)
  have e35 : ∀ j, s' 35 j = s 35 j := fun j => hs 35 j (by decide) (by decide) (by decide) (by decide) (by decide)
  have e36 : ∀ j, s' 36 j = s 36 j := fun j => hs 36 j (by decide) (by decide) (by decide) (by decide) (by decide)
  have e37 : ∀ j, s' 37 j = s 37 j := fun j => hs 37 j (by decide) (by decide) (by decide) (by decide) (by decide)
  have e23 : ∀ j, s' 23 j = s 23 j := fun j => hs 23 j (by decide) (by decide) (by decide) (by decide) (by decide)
  refine ⟨⟨b1, fun k j f a h1 => ?_, fun k j f a h1 => ?_, fun k j a t h1 => ?_, fun k j a t h1 => ?_⟩, ⟨a1, fun b hb hb0 => ?_, fun b hb hb0 => ?_, a4⟩, ⟨by rw [e04]; exact d1, d2, by rw [e04]; exact d3, by rw [e04]; exact d4, fun i hi => ?_⟩, ⟨by rw [e04]; exact o1, by rw [e04]; exact o2⟩, hz⟩
  · rw [b2 k j f a h1]
    congr 1
    unfold SI at h1
    refine (hs k j ?_ ?_ ?_ ?_ ?_).symm <;> (rcases h1 with h1 | h1 | ⟨i, h1⟩ | ⟨i, r, h1⟩ <;> omega)
  · rw [b3 k j f a h1]
    congr 1
    unfold SJ at h1
    refine (hs k j ?_ ?_ ?_ ?_ ?_).symm <;> (rcases h1 with h1 | ⟨i, h1⟩ | ⟨i, r, h1⟩ <;> omega)
  · rw [b4 k j a t h1]
    congr 1
    unfold TI at h1
    refine (hs k j ?_ ?_ ?_ ?_ ?_).symm <;> (rcases h1 with h1 | h1 | ⟨i, r, h1⟩ <;> omega)
  · rw [b5 k j a t h1]
    congr 1
    unfold TJ at h1
    refine (hs k j ?_ ?_ ?_ ?_ ?_).symm <;> (rcases h1 with h1 | ⟨i, r, h1⟩ <;> omega)
  · obtain ⟨z1, z2, z3⟩ := a2 b hb hb0
    exact ⟨z1, z2, RA_s z3 (e16 _) (e17 _) (fun r hr => ⟨e35 _, e36 _, e37 _⟩)⟩
  · obtain ⟨z1, z2, z3⟩ := a3 b hb hb0
    rw [e16, e17]
    refine ⟨z1, z2, fun r hr => ?_⟩
    rw [e35, e36, e37]
    exact z3 r hr
  · rw [e04] at hi
    obtain ⟨q0, q1, q2, q3, q4, q5, q6⟩ := d5 i hi
    exact ⟨q0, q1, q2, by rw [e23]; exact q3, by rw [e23]; exact q4, by rw [e23]; exact q5, by rw [e23]; exact q6⟩
/-- a kind of the addresses changes: what is fixed stays -/
theorem RXs_u {h : am_H} {x n k j : Nat} {s : sg} {v : Int} (hX : RXs h x n s) (hk : k = 16 ∨ k = 17 ∨ k = 35 ∨ k = 36 ∨ k = 37) : RXs h x n (am_u2 s k j v) := by
  obtain ⟨b1, b2, b3, b4, b5⟩ := hX
  refine ⟨b1, fun k' j' f a h1 => ?_, fun k' j' f a h1 => ?_, fun k' j' a t h1 => ?_, fun k' j' a t h1 => ?_⟩
  · have := SI_in h1
    rw [u2_ne (by omega)]; exact b2 _ _ _ _ h1
  · have := SJ_in h1
    rw [u2_ne (by omega)]; exact b3 _ _ _ _ h1
  · have := TI_in h1
    rw [u2_ne (by omega)]; exact b4 _ _ _ _ h1
  · have := TJ_in h1
    rw [u2_ne (by omega)]; exact b5 _ _ _ _ h1
theorem RXd_u {h : am_H} {x n e k j : Nat} {s : sg} {v : Int} (hX : RXd h x n s e) (hk : k = 16 ∨ k = 17 ∨ k = 35 ∨ k = 36 ∨ k = 37) : RXd h x n (am_u2 s k j v) e := by
  obtain ⟨d1, d2, d3, d4, d5⟩ := hX
  have e04 : am_u2 s k j v 0 4 = s 0 4 := u2_ne (by omega)
  refine ⟨by rw [e04]; exact d1, d2, by rw [e04]; exact d3, by rw [e04]; exact d4, fun i hi => ?_⟩
  rw [e04] at hi
  obtain ⟨q0, q1, q2, q3, q4, q5, q6⟩ := d5 i hi
  exact ⟨q0, q1, q2, by rw [u2_ne (by omega)]; exact q3, by rw [u2_ne (by omega)]; exact q4, by rw [u2_ne (by omega)]; exact q5, by rw [u2_ne (by omega)]; exact q6⟩
theorem RO_u {h : am_H} {e c k j : Nat} {s : sg} {v : Int} (hX : RO h s e c) (hk : k = 16 ∨ k = 17 ∨ k = 35 ∨ k = 36 ∨ k = 37) : RO h (am_u2 s k j v) e c := by
  unfold RO
  rw [u2_ne (by omega)]
  exact hX
theorem RX_97 {h : am_H} {x n e c a : Nat} {s : sg} {α : Nat → Nat} {v : Int} (hX : RX h x n s α e c) (ha : a ≤ 1000) (h0 : ¬ α a = 0) : gX x n h (am_u2 s 16 a v) α e c (am_sI h 97 (α a) (iI v)) := by
  obtain ⟨b, ⟨a1, a2, a3, a4⟩, dd, oo, hz⟩ := hX
  have hk : 16 = 16 ∨ 16 = 17 ∨ 16 = 35 ∨ 16 = 36 ∨ 16 = 37 := by omega
  obtain ⟨y1, y2, y3⟩ := a2 a ha h0
  refine ⟨⟨?_, ⟨a1, fun b hb hb0 => ?_, fun b hb hb0 => ?_, a4⟩, ?_, ?_, hz⟩, eqon_sI (by unfold OX; have := ax_x (x := x) (n := n); omega)⟩
  · obtain ⟨b1, b2, b3, b4, b5⟩ := RXs_u (j := a) (v := v) b hk
    refine ⟨SX_sI b1 (by decide), fun k' j' f a' h1 => ?_, b3, b4, b5⟩
    have := SI_in h1
    rw [hp_I_sI, if_neg (fun z => by omega)]; exact b2 _ _ _ _ h1
  · obtain ⟨z1, z2, t1, t2, t3, t4, t5, t6, t7⟩ := a2 b hb hb0
    refine ⟨z1, z2, t1, t2, t3, t4, ?_, by rw [u2_ne (by decide)]; exact t6, fun r' hr' => ?_⟩
    · rw [hp_I_sI]
      by_cases hc : b = a
      · subst hc; rw [if_pos ⟨rfl, rfl⟩, u2_eq]
      · have := a4 a b ha hb (fun z => hc z.symm) h0 hb0
        rw [if_neg (fun z => by omega), u2_nj hc]; exact t5
    · obtain ⟨w1, w2, w3, w4, w5⟩ := t7 r' hr'
      refine ⟨w1, w2, by rw [u2_ne (by decide)]; exact w3, by rw [u2_ne (by decide)]; exact w4, by rw [hp_I_sI, if_neg (fun z => absurd z.1 (by decide)), u2_ne (by decide)]; exact w5⟩
  · obtain ⟨z1, z2, z3⟩ := a3 b hb hb0
    have hba : ¬ b = a := fun z => h0 (by rw [← z]; exact hb0)
    refine ⟨by rw [u2_nj hba]; exact z1, by rw [u2_nj hba]; exact z2, fun r' hr' => ?_⟩
    rw [u2_ne (by decide), u2_ne (by decide), u2_ne (by decide)]; exact z3 r' hr'
  · obtain ⟨d1, d2, d3, d4, d5⟩ := RXd_u (j := a) (v := v) dd hk
    refine ⟨by rw [hp_I_sI, if_neg (fun z => absurd z.1 (by decide))]; exact d1, d2, d3, d4, fun i hi => ?_⟩
    obtain ⟨q0, q1, q2, q3, q4, q5, q6⟩ := d5 i hi
    exact ⟨q0, q1, q2, by rw [hp_I_sI, if_neg (fun z => absurd z.1 (by decide))]; exact q3, by rw [hp_I_sI, if_neg (fun z => absurd z.1 (by decide))]; exact q4, q5, q6⟩
  · exact RO_u (j := a) (v := v) oo hk
theorem RX_98 {h : am_H} {x n e c a : Nat} {s : sg} {α : Nat → Nat} {v : Int} (hX : RX h x n s α e c) (ha : a ≤ 1000) (h0 : ¬ α a = 0) : gX x n h (am_u2 s 17 a v) α e c (am_sJ h 98 (α a) (jJ v)) := by
  obtain ⟨b, ⟨a1, a2, a3, a4⟩, dd, oo, hz⟩ := hX
  have hk : 17 = 16 ∨ 17 = 17 ∨ 17 = 35 ∨ 17 = 36 ∨ 17 = 37 := by omega
  obtain ⟨y1, y2, y3⟩ := a2 a ha h0
  refine ⟨⟨?_, ⟨a1, fun b hb hb0 => ?_, fun b hb hb0 => ?_, a4⟩, ?_, ?_, hz⟩, eqon_sJ (by unfold OX; have := ax_x (x := x) (n := n); omega)⟩
  · obtain ⟨b1, b2, b3, b4, b5⟩ := RXs_u (j := a) (v := v) b hk
    refine ⟨b1, b2, fun k' j' f a' h1 => ?_, b4, b5⟩
    have := SJ_in h1
    rw [hp_J_sJ, if_neg (fun z => by omega)]; exact b3 _ _ _ _ h1
  · obtain ⟨z1, z2, t1, t2, t3, t4, t5, t6, t7⟩ := a2 b hb hb0
    refine ⟨z1, z2, t1, t2, t3, t4, by rw [u2_ne (by decide)]; exact t5, ?_, fun r' hr' => ?_⟩
    · rw [hp_J_sJ]
      by_cases hc : b = a
      · subst hc; rw [if_pos ⟨rfl, rfl⟩, u2_eq]
      · have := a4 a b ha hb (fun z => hc z.symm) h0 hb0
        rw [if_neg (fun z => by omega), u2_nj hc]; exact t6
    · obtain ⟨w1, w2, w3, w4, w5⟩ := t7 r' hr'
      refine ⟨w1, w2, by rw [hp_J_sJ, if_neg (fun z => absurd z.1 (by decide)), u2_ne (by decide)]; exact w3, by rw [hp_J_sJ, if_neg (fun z => absurd z.1 (by decide)), u2_ne (by decide)]; exact w4, by rw [u2_ne (by decide)]; exact w5⟩
  · obtain ⟨z1, z2, z3⟩ := a3 b hb hb0
    have hba : ¬ b = a := fun z => h0 (by rw [← z]; exact hb0)
    refine ⟨by rw [u2_nj hba]; exact z1, by rw [u2_nj hba]; exact z2, fun r' hr' => ?_⟩
    rw [u2_ne (by decide), u2_ne (by decide), u2_ne (by decide)]; exact z3 r' hr'
  · obtain ⟨d1, d2, d3, d4, d5⟩ := RXd_u (j := a) (v := v) dd hk
    refine ⟨d1, d2, d3, d4, fun i hi => ?_⟩
    obtain ⟨q0, q1, q2, q3, q4, q5, q6⟩ := d5 i hi
    exact ⟨q0, q1, q2, q3, q4, by rw [hp_J_sJ, if_neg (fun z => absurd z.1 (by decide))]; exact q5, by rw [hp_J_sJ, if_neg (fun z => absurd z.1 (by decide))]; exact q6⟩
  · exact RO_u (j := a) (v := v) oo hk
theorem RX_128 {h : am_H} {x n e c a r : Nat} {s : sg} {α : Nat → Nat} {v : Int} (hX : RX h x n s α e c) (ha : a ≤ 1000) (h0 : ¬ α a = 0) (hr : r < 8) : gX x n h (am_u2 s 35 (8 * a + r) v) α e c (am_sJ h 128 (α a + 2 + r) (jJ v)) := by
  obtain ⟨b, ⟨a1, a2, a3, a4⟩, dd, oo, hz⟩ := hX
  have hk : 35 = 16 ∨ 35 = 17 ∨ 35 = 35 ∨ 35 = 36 ∨ 35 = 37 := by omega
  obtain ⟨y1, y2, y3⟩ := a2 a ha h0
  refine ⟨⟨?_, ⟨a1, fun b hb hb0 => ?_, fun b hb hb0 => ?_, a4⟩, ?_, ?_, hz⟩, eqon_sJ (by unfold OX; have := ax_x (x := x) (n := n); omega)⟩
  · obtain ⟨b1, b2, b3, b4, b5⟩ := RXs_u (j := (8 * a + r)) (v := v) b hk
    refine ⟨b1, b2, fun k' j' f a' h1 => ?_, b4, b5⟩
    have := SJ_in h1
    rw [hp_J_sJ, if_neg (fun z => by omega)]; exact b3 _ _ _ _ h1
  · obtain ⟨z1, z2, t1, t2, t3, t4, t5, t6, t7⟩ := a2 b hb hb0
    refine ⟨z1, z2, t1, t2, t3, t4, by rw [u2_ne (by decide)]; exact t5, by rw [hp_J_sJ, if_neg (fun z => absurd z.1 (by decide)), u2_ne (by decide)]; exact t6, fun r' hr' => ?_⟩
    · obtain ⟨w1, w2, w3, w4, w5⟩ := t7 r' hr'
      refine ⟨w1, w2, ?_, by rw [hp_J_sJ, if_neg (fun z => absurd z.1 (by decide)), u2_ne (by decide)]; exact w4, by rw [u2_ne (by decide)]; exact w5⟩
      rw [hp_J_sJ]
      by_cases hc : b = a ∧ r' = r
      · obtain ⟨rfl, rfl⟩ := hc; rw [if_pos ⟨rfl, rfl⟩, u2_eq]
      · have hd : ¬ b = a → α a + 10 ≤ α b ∨ α b + 10 ≤ α a := fun z => a4 a b ha hb (fun y => z y.symm) h0 hb0
        have hne : ¬ (α b + 2 + r' = α a + 2 + r) := fun z => by
          by_cases hq : b = a
          · subst hq; exact hc ⟨rfl, by omega⟩
          · have := hd hq; omega
        rw [if_neg (fun z => hne z.2), u2_nj (by omega)]; exact w3
  · obtain ⟨z1, z2, z3⟩ := a3 b hb hb0
    have hba : ¬ b = a := fun z => h0 (by rw [← z]; exact hb0)
    refine ⟨by rw [u2_ne (by decide)]; exact z1, by rw [u2_ne (by decide)]; exact z2, fun r' hr' => ?_⟩
    rw [u2_nj (by omega), u2_nj (by omega), u2_nj (by omega)]; exact z3 r' hr'
  · obtain ⟨d1, d2, d3, d4, d5⟩ := RXd_u (j := (8 * a + r)) (v := v) dd hk
    refine ⟨d1, d2, d3, d4, fun i hi => ?_⟩
    obtain ⟨q0, q1, q2, q3, q4, q5, q6⟩ := d5 i hi
    exact ⟨q0, q1, q2, q3, q4, by rw [hp_J_sJ, if_neg (fun z => absurd z.1 (by decide))]; exact q5, by rw [hp_J_sJ, if_neg (fun z => absurd z.1 (by decide))]; exact q6⟩
  · exact RO_u (j := (8 * a + r)) (v := v) oo hk
theorem RX_129 {h : am_H} {x n e c a r : Nat} {s : sg} {α : Nat → Nat} {v : Int} (hX : RX h x n s α e c) (ha : a ≤ 1000) (h0 : ¬ α a = 0) (hr : r < 8) : gX x n h (am_u2 s 36 (8 * a + r) v) α e c (am_sJ h 129 (α a + 2 + r) (jJ v)) := by
  obtain ⟨b, ⟨a1, a2, a3, a4⟩, dd, oo, hz⟩ := hX
  have hk : 36 = 16 ∨ 36 = 17 ∨ 36 = 35 ∨ 36 = 36 ∨ 36 = 37 := by omega
  obtain ⟨y1, y2, y3⟩ := a2 a ha h0
  refine ⟨⟨?_, ⟨a1, fun b hb hb0 => ?_, fun b hb hb0 => ?_, a4⟩, ?_, ?_, hz⟩, eqon_sJ (by unfold OX; have := ax_x (x := x) (n := n); omega)⟩
  · obtain ⟨b1, b2, b3, b4, b5⟩ := RXs_u (j := (8 * a + r)) (v := v) b hk
    refine ⟨b1, b2, fun k' j' f a' h1 => ?_, b4, b5⟩
    have := SJ_in h1
    rw [hp_J_sJ, if_neg (fun z => by omega)]; exact b3 _ _ _ _ h1
  · obtain ⟨z1, z2, t1, t2, t3, t4, t5, t6, t7⟩ := a2 b hb hb0
    refine ⟨z1, z2, t1, t2, t3, t4, by rw [u2_ne (by decide)]; exact t5, by rw [hp_J_sJ, if_neg (fun z => absurd z.1 (by decide)), u2_ne (by decide)]; exact t6, fun r' hr' => ?_⟩
    · obtain ⟨w1, w2, w3, w4, w5⟩ := t7 r' hr'
      refine ⟨w1, w2, by rw [hp_J_sJ, if_neg (fun z => absurd z.1 (by decide)), u2_ne (by decide)]; exact w3, ?_, by rw [u2_ne (by decide)]; exact w5⟩
      rw [hp_J_sJ]
      by_cases hc : b = a ∧ r' = r
      · obtain ⟨rfl, rfl⟩ := hc; rw [if_pos ⟨rfl, rfl⟩, u2_eq]
      · have hd : ¬ b = a → α a + 10 ≤ α b ∨ α b + 10 ≤ α a := fun z => a4 a b ha hb (fun y => z y.symm) h0 hb0
        have hne : ¬ (α b + 2 + r' = α a + 2 + r) := fun z => by
          by_cases hq : b = a
          · subst hq; exact hc ⟨rfl, by omega⟩
          · have := hd hq; omega
        rw [if_neg (fun z => hne z.2), u2_nj (by omega)]; exact w4
  · obtain ⟨z1, z2, z3⟩ := a3 b hb hb0
    have hba : ¬ b = a := fun z => h0 (by rw [← z]; exact hb0)
    refine ⟨by rw [u2_ne (by decide)]; exact z1, by rw [u2_ne (by decide)]; exact z2, fun r' hr' => ?_⟩
    rw [u2_nj (by omega), u2_nj (by omega), u2_nj (by omega)]; exact z3 r' hr'
  · obtain ⟨d1, d2, d3, d4, d5⟩ := RXd_u (j := (8 * a + r)) (v := v) dd hk
    refine ⟨d1, d2, d3, d4, fun i hi => ?_⟩
    obtain ⟨q0, q1, q2, q3, q4, q5, q6⟩ := d5 i hi
    exact ⟨q0, q1, q2, q3, q4, by rw [hp_J_sJ, if_neg (fun z => absurd z.1 (by decide))]; exact q5, by rw [hp_J_sJ, if_neg (fun z => absurd z.1 (by decide))]; exact q6⟩
  · exact RO_u (j := (8 * a + r)) (v := v) oo hk
theorem RX_130 {h : am_H} {x n e c a r : Nat} {s : sg} {α : Nat → Nat} {v : Int} (hX : RX h x n s α e c) (ha : a ≤ 1000) (h0 : ¬ α a = 0) (hr : r < 8) : gX x n h (am_u2 s 37 (8 * a + r) v) α e c (am_sI h 130 (α a + 2 + r) (iI v)) := by
  obtain ⟨b, ⟨a1, a2, a3, a4⟩, dd, oo, hz⟩ := hX
  have hk : 37 = 16 ∨ 37 = 17 ∨ 37 = 35 ∨ 37 = 36 ∨ 37 = 37 := by omega
  obtain ⟨y1, y2, y3⟩ := a2 a ha h0
  refine ⟨⟨?_, ⟨a1, fun b hb hb0 => ?_, fun b hb hb0 => ?_, a4⟩, ?_, ?_, hz⟩, eqon_sI (by unfold OX; have := ax_x (x := x) (n := n); omega)⟩
  · obtain ⟨b1, b2, b3, b4, b5⟩ := RXs_u (j := (8 * a + r)) (v := v) b hk
    refine ⟨SX_sI b1 (by decide), fun k' j' f a' h1 => ?_, b3, b4, b5⟩
    have := SI_in h1
    rw [hp_I_sI, if_neg (fun z => by omega)]; exact b2 _ _ _ _ h1
  · obtain ⟨z1, z2, t1, t2, t3, t4, t5, t6, t7⟩ := a2 b hb hb0
    refine ⟨z1, z2, t1, t2, t3, t4, by rw [hp_I_sI, if_neg (fun z => absurd z.1 (by decide)), u2_ne (by decide)]; exact t5, by rw [u2_ne (by decide)]; exact t6, fun r' hr' => ?_⟩
    · obtain ⟨w1, w2, w3, w4, w5⟩ := t7 r' hr'
      refine ⟨w1, w2, by rw [u2_ne (by decide)]; exact w3, by rw [u2_ne (by decide)]; exact w4, ?_⟩
      rw [hp_I_sI]
      by_cases hc : b = a ∧ r' = r
      · obtain ⟨rfl, rfl⟩ := hc; rw [if_pos ⟨rfl, rfl⟩, u2_eq]
      · have hd : ¬ b = a → α a + 10 ≤ α b ∨ α b + 10 ≤ α a := fun z => a4 a b ha hb (fun y => z y.symm) h0 hb0
        have hne : ¬ (α b + 2 + r' = α a + 2 + r) := fun z => by
          by_cases hq : b = a
          · subst hq; exact hc ⟨rfl, by omega⟩
          · have := hd hq; omega
        rw [if_neg (fun z => hne z.2), u2_nj (by omega)]; exact w5
  · obtain ⟨z1, z2, z3⟩ := a3 b hb hb0
    have hba : ¬ b = a := fun z => h0 (by rw [← z]; exact hb0)
    refine ⟨by rw [u2_ne (by decide)]; exact z1, by rw [u2_ne (by decide)]; exact z2, fun r' hr' => ?_⟩
    rw [u2_nj (by omega), u2_nj (by omega), u2_nj (by omega)]; exact z3 r' hr'
  · obtain ⟨d1, d2, d3, d4, d5⟩ := RXd_u (j := (8 * a + r)) (v := v) dd hk
    refine ⟨by rw [hp_I_sI, if_neg (fun z => absurd z.1 (by decide))]; exact d1, d2, d3, d4, fun i hi => ?_⟩
    obtain ⟨q0, q1, q2, q3, q4, q5, q6⟩ := d5 i hi
    exact ⟨q0, q1, q2, by rw [hp_I_sI, if_neg (fun z => absurd z.1 (by decide))]; exact q3, by rw [hp_I_sI, if_neg (fun z => absurd z.1 (by decide))]; exact q4, q5, q6⟩
  · exact RO_u (j := (8 * a + r)) (v := v) oo hk
