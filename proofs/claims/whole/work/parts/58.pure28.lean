/-! BOTH TOGETHER: one call of the class, the same of the reference: equal answers -/
theorem J_up {h : am_H} {x n c : Nat} {s : sg} (hJ : J h x n s c) : J h x n s (c + 1) := by
  obtain ⟨α, e, hX, hM⟩ := hJ
  exact ⟨α, e, RX_grow (k := 1) hX (eqon_rf _ _) (Nat.le_refl _) (by omega) (by omega), hM⟩
/-- as the law calls them -/
def ST (d x n c : Nat) (h : am_H) (s : sg) (mX mM : Nat) (as : am_Sk) : Prop := ∀ Q1 : Option am_V → am_H → Prop, (∀ (h1 : am_H) (y : Int32), eqon (OO x n) h h1 → am_T h1 (ax x n + 5) = 17 → (∀ Q2 : Option am_V → am_H → Prop, (∀ (h2 : am_H) (s' : sg), J h2 x n s' (c + 1) → WF n s' → eqon (OO x n) h h2 → s' 0 0 ≤ s 0 0 + 2000 → Q2 (some (.inl y)) h2) → am_PC d mM (.inr (.inr (ax x n + 5)) :: as) h1 Q2) → Q1 (some (.inl y)) h1) → am_PC d mX (.inr (.inr x) :: as) h Q1
theorem OO_OX {x n a : Nat} (h : OO x n a) : OX x n a := by
  rcases h with h | h
  · exact Or.inl h
  · exact Or.inr ⟨by omega, by omega⟩
theorem ST_of {d x n c c' : Nat} {h : am_H} {s sX sM s' : sg} {mX mM : Nat} {as : am_Sk} {vX vM : Int} (hJ : J h x n s c) (hc : c' = c ∨ c' = c + 1)
    (PX : ∀ Q : Option am_V → am_H → Prop, (∀ h1 α e, gX x n h sX α e c' h1 → Q (some (.inl (iI vX))) h1) → am_PC d mX (.inr (.inr x) :: as) h Q)
    (PM : ∀ (h1 : am_H) (Q : Option am_V → am_H → Prop), RM h1 (ax x n + 5) n s → (∀ h2, gM (ax x n + 5) n h1 sM h2 → Q (some (.inl (iI vM))) h2) → am_PC d mM (.inr (.inr (ax x n + 5)) :: as) h1 Q)
    (hv : vX = vM) (hW : WF n s') (h24 : ∀ k j, k ≤ 24 → s' k j = sM k j) (hcl : ∀ k j, ¬ k = 8 → ¬ k = 15 → ¬ k = 18 → ¬ k = 19 → ¬ k = 20 → s' k j = sX k j) (ht : s' 0 0 ≤ s 0 0 + 2000) : ST d x n c h s mX mM as := by
  intro Q1 H
  refine PX Q1 (fun h1 α e g1 => ?_)
  have hM1 := J_M hJ g1
  refine H h1 _ (eqon_mono (fun a ha => OO_OX ha) g1.2) (RM_T hM1) (fun Q2 K => PM h1 Q2 hM1 (fun h2 g2 => ?_))
  obtain ⟨hJ2, he⟩ := J_step hJ ⟨α, e, g1⟩ (fun _ => g2) h24 hcl
  rw [← hv]
  refine K h2 s' ?_ hW he ht
  rcases hc with hc | hc
  · subst hc; exact J_up hJ2
  · subst hc; exact hJ2
theorem st_link {x n c : Nat} {h : am_H} {s : sg} (hJ : J h x n s c) (hW : WF n s) (p : Int32) (v : Int64) : ST 10 x n c h s mi_X_link mi_M_link [.inl p, .inr (.inl v)] := by
  obtain ⟨α0, e0, hX0, hM0⟩ := id hJ
  have hn := X_n hX0
  obtain ⟨p, pr, rfl⟩ : ∃ z : Int, rI z ∧ iI z = p := ⟨p.toInt, rI_self p, iI_self p⟩
  obtain ⟨v, vr, rfl⟩ : ∃ z : Int, rJ z ∧ jJ z = v := ⟨v.toInt, rJ_self v, jJ_self v⟩
  have w0 := hW.1.1
  have w1 := hW.1.2.1
  have w2 := hW.1.2.2.1
  have W := WF_link (p := p) (v := v) hW hn.2
  have T : (f_link n s p v).2 0 0 = s 0 0 := by
    unfold f_link
    split
    · rfl
    · split
      · rfl
      · split
        · rfl
        · split
          · dsimp only; rw [u2_ne (by decide)]
          · dsimp only
            rw [u2_ne (by decide), lzero_ne (by decide), u2_ne (by decide), u2_ne (by decide)]
  exact ST_of (c' := c) (sX := (g_link n s p v).2) (sM := (f_link n s p v).2) (s' := (g_link n s p v).2) (vX := (g_link n s p v).1) (vM := (f_link n s p v).1) hJ (Or.inl rfl)
    (fun Q hQ => sp_X_link (d := 7) hX0 pr vr (WM_of hW.1).2.2.2.2.2.1 (WM_of hW.1).2.2.2.2.2.2.2.1 (fun h1 g1 => hQ h1 α0 e0 g1))
    (fun h1 Q hM1 hQ => sp_M_link (d := 8) hM1 pr vr (WM_of hW.1).2.2.2.2.2.1 (WM_of hW.1).2.2.2.2.2.2.2.1 hQ)
    W.2.1 W.1 W.2.2 (fun _ _ _ _ _ _ _ => rfl) (by rw [W.2.2 0 0 (by decide), T]; omega)
theorem st_gate {x n c : Nat} {h : am_H} {s : sg} (hJ : J h x n s c) (hW : WF n s) (p : Int32) (r : Int32) (a : Int64) (b : Int64) : ST 10 x n c h s mi_X_gate mi_M_gate [.inl p, .inl r, .inr (.inl a), .inr (.inl b)] := by
  obtain ⟨α0, e0, hX0, hM0⟩ := id hJ
  have hn := X_n hX0
  obtain ⟨p, pr, rfl⟩ : ∃ z : Int, rI z ∧ iI z = p := ⟨p.toInt, rI_self p, iI_self p⟩
  obtain ⟨r, rr, rfl⟩ : ∃ z : Int, rI z ∧ iI z = r := ⟨r.toInt, rI_self r, iI_self r⟩
  obtain ⟨a, ar, rfl⟩ : ∃ z : Int, rJ z ∧ jJ z = a := ⟨a.toInt, rJ_self a, jJ_self a⟩
  obtain ⟨b, br, rfl⟩ : ∃ z : Int, rJ z ∧ jJ z = b := ⟨b.toInt, rJ_self b, jJ_self b⟩
  have w0 := hW.1.1
  have w1 := hW.1.2.1
  have w2 := hW.1.2.2.1
  have W := WF_gate (p := p) (r := r) (a := a) (b := b) hW hn.2
  have T : (f_gate n s p r a b).2 0 0 = s 0 0 := by
    unfold f_gate
    split
    · rfl
    · split
      · rfl
      · split
        · rfl
        · dsimp only
          rw [u2_ne (by decide), u2_ne (by decide), u2_ne (by decide)]
  exact ST_of (c' := c) (sX := (g_gate n s p r a b).2) (sM := (f_gate n s p r a b).2) (s' := (g_gate n s p r a b).2) (vX := (g_gate n s p r a b).1) (vM := (f_gate n s p r a b).1) hJ (Or.inl rfl)
    (fun Q hQ => sp_X_gate (d := 8) hX0 pr rr ar br (by omega) (WM_of hW.1).2.2.2.2.2.2.2.2.2.2.2.2.2.1 hW.2.2.2.1.1 (fun h1 g1 => hQ h1 α0 e0 g1))
    (fun h1 Q hM1 hQ => sp_M_gate (d := 7) hM1 pr rr ar br (by omega) (WM_of hW.1).2.2.2.2.2.2.2.2.2.2.2.2.2.1 hQ)
    W.2.1 W.1 W.2.2 (fun _ _ _ _ _ _ _ => rfl) (by rw [W.2.2 0 0 (by decide), T]; omega)
theorem st_frame {x n c : Nat} {h : am_H} {s : sg} (hJ : J h x n s c) (hW : WF n s) (p : Int32) (a : Int32) (r : Int32) (v : Int32) : ST 10 x n c h s mi_X_frame mi_M_frame [.inl p, .inl a, .inl r, .inl v] := by
  obtain ⟨α0, e0, hX0, hM0⟩ := id hJ
  have hn := X_n hX0
  obtain ⟨p, pr, rfl⟩ : ∃ z : Int, rI z ∧ iI z = p := ⟨p.toInt, rI_self p, iI_self p⟩
  obtain ⟨a, ar, rfl⟩ : ∃ z : Int, rI z ∧ iI z = a := ⟨a.toInt, rI_self a, iI_self a⟩
  obtain ⟨r, rr, rfl⟩ : ∃ z : Int, rI z ∧ iI z = r := ⟨r.toInt, rI_self r, iI_self r⟩
  obtain ⟨v, vr, rfl⟩ : ∃ z : Int, rI z ∧ iI z = v := ⟨v.toInt, rI_self v, iI_self v⟩
  have w0 := hW.1.1
  have w1 := hW.1.2.1
  have w2 := hW.1.2.2.1
  have W := WF_frame (p := p) (a := a) (r := r) (L := v) hW hn.2
  have T : h_frame n s p a r v 0 0 = s 0 0 := by
    rw [W.2.2 0 0 (by decide)]
    unfold f_frame
    split
    · rfl
    · split
      · rfl
      · split
        · rfl
        · split
          · rfl
          · split
            · dsimp only
              rw [u2_ne (by decide), frm1_ne (by omega)]
            · unfold f_fr9
              dsimp only
              rw [u2_ne (by decide), fr_ne (by decide)]
              unfold f_frm2
              rw [u2_ne (by decide), frm1_ne (by omega)]
  exact ST_of (c' := c + 1) (sX := (g_frame n s p a r v).2) (sM := (f_frame n s p a r v).2) (s' := (h_frame n s p a r v)) (vX := (g_frame n s p a r v).1) (vM := (f_frame n s p a r v).1) hJ (Or.inr rfl)
    (fun Q hQ => sp_X_frame (d := 6) hX0 hW.1 pr ar rr vr (fun j hj => ((hW.2.2.2.2.1 j hj).2.2.2.2.1).2) (fun j hj => by have := (hW.2.2.2.2.1 j hj).1; omega) (fun j hj => by have := (hW.2.2.2.2.1 j hj).2.2.2.1; omega) hW.2.1.1 (fun h1 α1 g1 => hQ h1 α1 e0 g1))
    (fun h1 Q hM1 hQ => sp_M_frame (d := 8) hM1 hW.1 pr ar rr vr hQ)
    W.2.1 W.1 W.2.2 (fun k j k1 k2 k3 k4 k5 => mrg_g (by omega)) (by rw [T]; omega)
theorem st_run {x n c : Nat} {h : am_H} {s : sg} (hJ : J h x n s c) (hW : WF n s) (ht : s 0 0 + 2000 ≤ 2000000) (v : Int64) : ST 10 x n c h s mi_X_run mi_M_run [.inr (.inl v)] := by
  obtain ⟨α0, e0, hX0, hM0⟩ := id hJ
  have hn := X_n hX0
  obtain ⟨v, vr, rfl⟩ : ∃ z : Int, rJ z ∧ jJ z = v := ⟨v.toInt, rJ_self v, jJ_self v⟩
  have w0 := hW.1.1
  have w1 := hW.1.2.1
  have w2 := hW.1.2.2.1
  have W := WF_run (v := v) hW hn.2 ht
  exact ST_of (c' := c) (sX := (f_run n s v).2) (sM := (f_run n s v).2) (s' := (f_run n s v).2) (vX := (f_run n s v).1) (vM := (f_run n s v).1) hJ (Or.inl rfl)
    (fun Q hQ => sp_X_run (d := 0) hX0 hW.1 hW.2.1 hW.2.2.1 vr ht (fun h1 e1 g1 => hQ h1 α0 e1 g1))
    (fun h1 Q hM1 hQ => sp_M_run (d := 6) hM1 hW.1 vr ht hQ)
    rfl W.1 (fun _ _ _ => rfl) (fun _ _ _ _ _ _ _ => rfl) W.2
theorem st_left {x n c : Nat} {h : am_H} {s : sg} (hJ : J h x n s c) (hW : WF n s) (i : Int32) (w : Int32) : ST 10 x n c h s mi_X_left mi_M_left [.inl i, .inl w] := by
  obtain ⟨α0, e0, hX0, hM0⟩ := id hJ
  have hn := X_n hX0
  obtain ⟨i, ir, rfl⟩ : ∃ z : Int, rI z ∧ iI z = i := ⟨i.toInt, rI_self i, iI_self i⟩
  obtain ⟨w, wr, rfl⟩ : ∃ z : Int, rI z ∧ iI z = w := ⟨w.toInt, rI_self w, iI_self w⟩
  have w0 := hW.1.1
  have w1 := hW.1.2.1
  have w2 := hW.1.2.2.1
  exact ST_of (c' := c) (sX := s) (sM := s) (s' := s) (vX := (f_left s i w)) (vM := (f_left s i w)) hJ (Or.inl rfl)
    (fun Q hQ => sp_X_left (d := 6) hX0 ir wr (fun j hj => by have := hW.2.2.2.2.2.2 j hj; exact ⟨(by unfold rI; omega), (by unfold rI; omega)⟩) (fun h1 g1 => hQ h1 α0 e0 g1))
    (fun h1 Q hM1 hQ => sp_M_left (d := 9) hM1 ir wr hW.1.2.2.2.2.1 hQ)
    rfl hW (fun _ _ _ => rfl) (fun _ _ _ _ _ _ _ => rfl) (by omega)
theorem st_learn {x n c : Nat} {h : am_H} {s : sg} (hJ : J h x n s c) (hW : WF n s) (a : Int32) (p : Int32) (t : Int64) : ST 10 x n c h s mi_X_learn mi_M_learn [.inl a, .inl p, .inr (.inl t)] := by
  obtain ⟨α0, e0, hX0, hM0⟩ := id hJ
  have hn := X_n hX0
  obtain ⟨a, ar, rfl⟩ : ∃ z : Int, rI z ∧ iI z = a := ⟨a.toInt, rI_self a, iI_self a⟩
  obtain ⟨p, pr, rfl⟩ : ∃ z : Int, rI z ∧ iI z = p := ⟨p.toInt, rI_self p, iI_self p⟩
  obtain ⟨t, tr, rfl⟩ : ∃ z : Int, rJ z ∧ jJ z = t := ⟨t.toInt, rJ_self t, jJ_self t⟩
  have w0 := hW.1.1
  have w1 := hW.1.2.1
  have w2 := hW.1.2.2.1
  have T : (f_learn n s a p t).2 0 0 = s 0 0 := by
    unfold f_learn
    split
    · rfl
    · split
      · rfl
      · split
        · rfl
        · dsimp only
          rw [u2_ne (by decide), u2_ne (by decide)]
  exact ST_of (c' := c + 1) (sX := (f_learn n s a p t).2) (sM := (f_learn n s a p t).2) (s' := (f_learn n s a p t).2) (vX := (f_learn n s a p t).1) (vM := (f_learn n s a p t).1) hJ (Or.inr rfl)
    (fun Q hQ => sp_X_learn (d := 6) hX0 ar pr tr w0 (WM_of hW.1).2.2.2.2.2.2.2.2.2.2.2.2.2.2.2.2.2.2.2.2.1 (WM_of hW.1).2.2.2.2.2.2.2.2.2.2.2.2.2.2.2.2.2.2.2.2.2.1 hW.2.2.2.2.2.1 (fun h1 α1 g1 => hQ h1 α1 e0 g1))
    (fun h1 Q hM1 hQ => sp_M_learn (d := 8) hM1 ar pr tr w0 (fun j hj => by have := (WM_of hW.1).2.2.2.2.2.2.2.2.2.2.2.2.2.2.2.2.2.2.2.2.1 j hj; exact (by unfold rI; omega)) (WM_of hW.1).2.2.2.2.2.2.2.2.2.2.2.2.2.2.2.2.2.2.2.2.2.1 hQ)
    rfl (WF_learn hW hn.2) (fun _ _ _ => rfl) (fun _ _ _ _ _ _ _ => rfl) (by rw [T]; omega)
theorem st_credit {x n c : Nat} {h : am_H} {s : sg} (hJ : J h x n s c) (hW : WF n s) (p : Int32) (r : Int32) (a : Int64) (b : Int64) : ST 10 x n c h s mi_X_credit mi_M_credit [.inl p, .inl r, .inr (.inl a), .inr (.inl b)] := by
  obtain ⟨α0, e0, hX0, hM0⟩ := id hJ
  have hn := X_n hX0
  obtain ⟨p, pr, rfl⟩ : ∃ z : Int, rI z ∧ iI z = p := ⟨p.toInt, rI_self p, iI_self p⟩
  obtain ⟨r, rr, rfl⟩ : ∃ z : Int, rI z ∧ iI z = r := ⟨r.toInt, rI_self r, iI_self r⟩
  obtain ⟨a, ar, rfl⟩ : ∃ z : Int, rJ z ∧ jJ z = a := ⟨a.toInt, rJ_self a, jJ_self a⟩
  obtain ⟨b, br, rfl⟩ : ∃ z : Int, rJ z ∧ jJ z = b := ⟨b.toInt, rJ_self b, jJ_self b⟩
  have w0 := hW.1.1
  have w1 := hW.1.2.1
  have w2 := hW.1.2.2.1
  have T : (f_credit n s p r a b).2 0 0 = s 0 0 := by
    unfold f_credit
    split
    · rfl
    · split
      · rfl
      · dsimp only
        rw [u2_ne (by decide), u2_ne (by decide), u2_ne (by decide)]
  exact ST_of (c' := c) (sX := (f_credit n s p r a b).2) (sM := (f_credit n s p r a b).2) (s' := (f_credit n s p r a b).2) (vX := (f_credit n s p r a b).1) (vM := (f_credit n s p r a b).1) hJ (Or.inl rfl)
    (fun Q hQ => sp_X_credit (d := 8) hX0 pr rr ar br (fun h1 g1 => hQ h1 α0 e0 g1))
    (fun h1 Q hM1 hQ => sp_M_credit (d := 7) hM1 pr rr ar br hQ)
    rfl (WF_credit hW) (fun _ _ _ => rfl) (fun _ _ _ _ _ _ _ => rfl) (by rw [T]; omega)
theorem st_filter {x n c : Nat} {h : am_H} {s : sg} (hJ : J h x n s c) (hW : WF n s) (q : Int32) (v : Int64) : ST 10 x n c h s mi_X_filter mi_M_filter [.inl q, .inr (.inl v)] := by
  obtain ⟨α0, e0, hX0, hM0⟩ := id hJ
  have hn := X_n hX0
  obtain ⟨q, qr, rfl⟩ : ∃ z : Int, rI z ∧ iI z = q := ⟨q.toInt, rI_self q, iI_self q⟩
  obtain ⟨v, vr, rfl⟩ : ∃ z : Int, rJ z ∧ jJ z = v := ⟨v.toInt, rJ_self v, jJ_self v⟩
  have w0 := hW.1.1
  have w1 := hW.1.2.1
  have w2 := hW.1.2.2.1
  have W := WF_filter (q := q) hW vr
  have T : h_filter s q v 0 0 = s 0 0 := by
    unfold h_filter
    split
    · rfl
    · split
      · rfl
      · rw [u2_ne (by decide), u2_ne (by decide), f_look_ne (by decide)]
  exact ST_of (c' := c + 1) (sX := (g_filter s q v).2) (sM := (f_filter s q v).2) (s' := (h_filter s q v)) (vX := (g_filter s q v).1) (vM := (f_filter s q v).1) hJ (Or.inr rfl)
    (fun Q hQ => sp_X_filter (d := 6) hX0 qr vr w0 (fun j hj => by have := (hW.2.2.2.2.1 j hj).1; omega) (fun h1 α1 g1 => hQ h1 α1 e0 g1))
    (fun h1 Q hM1 hQ => sp_M_filter (d := 8) hM1 qr vr w0 (fun j hj => by have := (WM_of hW.1).2.2.2.2.2.2.2.2.2.2.2.2.2.2.2.2.2.2.2.2.2.2.2.1 j hj; exact (by unfold rJ; omega)) hQ)
    W.2.1 W.1 W.2.2.1 W.2.2.2 (by rw [T]; omega)
theorem st_clock {x n c : Nat} {h : am_H} {s : sg} (hJ : J h x n s c) (hW : WF n s) (p : Int32) (v : Int64) : ST 10 x n c h s mi_X_clock mi_M_clock [.inl p, .inr (.inl v)] := by
  obtain ⟨α0, e0, hX0, hM0⟩ := id hJ
  have hn := X_n hX0
  obtain ⟨p, pr, rfl⟩ : ∃ z : Int, rI z ∧ iI z = p := ⟨p.toInt, rI_self p, iI_self p⟩
  obtain ⟨v, vr, rfl⟩ : ∃ z : Int, rJ z ∧ jJ z = v := ⟨v.toInt, rJ_self v, jJ_self v⟩
  have w0 := hW.1.1
  have w1 := hW.1.2.1
  have w2 := hW.1.2.2.1
  have T : (f_clock n s p v).2 0 0 = s 0 0 := by
    unfold f_clock
    split
    · rfl
    · split
      · rfl
      · dsimp only; rw [u2_ne (by decide)]
  exact ST_of (c' := c) (sX := (f_clock n s p v).2) (sM := (f_clock n s p v).2) (s' := (f_clock n s p v).2) (vX := (f_clock n s p v).1) (vM := (f_clock n s p v).1) hJ (Or.inl rfl)
    (fun Q hQ => sp_X_clock (d := 8) hX0 pr vr (WM_of hW.1).2.2.2.2.2.2.1 (fun h1 g1 => hQ h1 α0 e0 g1))
    (fun h1 Q hM1 hQ => sp_M_clock (d := 8) hM1 pr vr (WM_of hW.1).2.2.2.2.2.2.1 hQ)
    rfl (WF_clock hW hn.2) (fun _ _ _ => rfl) (fun _ _ _ _ _ _ _ => rfl) (by rw [T]; omega)
theorem st_dropped {x n c : Nat} {h : am_H} {s : sg} (hJ : J h x n s c) (hW : WF n s) (w : Int32) : ST 10 x n c h s mi_X_dropped mi_M_dropped [.inl w] := by
  obtain ⟨α0, e0, hX0, hM0⟩ := id hJ
  have hn := X_n hX0
  obtain ⟨w, wr, rfl⟩ : ∃ z : Int, rI z ∧ iI z = w := ⟨w.toInt, rI_self w, iI_self w⟩
  have w0 := hW.1.1
  have w1 := hW.1.2.1
  have w2 := hW.1.2.2.1
  exact ST_of (c' := c) (sX := s) (sM := s) (s' := s) (vX := (f_dropped s w)) (vM := (f_dropped s w)) hJ (Or.inl rfl)
    (fun Q hQ => sp_X_dropped (d := 9) hX0 wr (fun h1 g1 => hQ h1 α0 e0 g1))
    (fun h1 Q hM1 hQ => sp_M_dropped (d := 9) hM1 wr hQ)
    rfl hW (fun _ _ _ => rfl) (fun _ _ _ _ _ _ _ => rfl) (by omega)
theorem st_service {x n c : Nat} {h : am_H} {s : sg} (hJ : J h x n s c) (hW : WF n s) (o : Int32) (f : Int32) : ST 10 x n c h s mi_X_service mi_M_service [.inl o, .inl f] := by
  obtain ⟨α0, e0, hX0, hM0⟩ := id hJ
  have hn := X_n hX0
  obtain ⟨o, or, rfl⟩ : ∃ z : Int, rI z ∧ iI z = o := ⟨o.toInt, rI_self o, iI_self o⟩
  obtain ⟨f, fr, rfl⟩ : ∃ z : Int, rI z ∧ iI z = f := ⟨f.toInt, rI_self f, iI_self f⟩
  have w0 := hW.1.1
  have w1 := hW.1.2.1
  have w2 := hW.1.2.2.1
  have T : (f_service n s o f).2 0 0 = s 0 0 := by
    unfold f_service
    split
    · rfl
    · split
      · rfl
      · split
        · dsimp only
          rw [u2_ne (by decide), u2_ne (by decide)]
        · rfl
  exact ST_of (c' := c) (sX := (f_service n s o f).2) (sM := (f_service n s o f).2) (s' := (f_service n s o f).2) (vX := (f_service n s o f).1) (vM := (f_service n s o f).1) hJ (Or.inl rfl)
    (fun Q hQ => sp_X_service (d := 7) hX0 or fr w0 (WM_of hW.1).2.2.2.2.2.2.2.2.2.2.2.2.2.2.2.2.2.2.2.2.2.2.2.2.2.1 (WM_of hW.1).2.2.2.2.2.2.2.2.2.2.2.2.2.2.2.2.2.2.2.2.2.2.2.2.2.2 (fun h1 g1 => hQ h1 α0 e0 g1))
    (fun h1 Q hM1 hQ => sp_M_service (d := 8) hM1 or fr w0 (fun j hj => by have := (WM_of hW.1).2.2.2.2.2.2.2.2.2.2.2.2.2.2.2.2.2.2.2.2.2.2.2.2.2.1 j hj; exact (by unfold rI; omega)) (fun j hj => by have := (WM_of hW.1).2.2.2.2.2.2.2.2.2.2.2.2.2.2.2.2.2.2.2.2.2.2.2.2.2.2 j hj; exact (by unfold rJ; omega)) hQ)
    rfl (WF_service hW hn.2) (fun _ _ _ => rfl) (fun _ _ _ _ _ _ _ => rfl) (by rw [T]; omega)
