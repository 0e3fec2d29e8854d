/-! THE CLASS: its cells, tied to the same state. Kinds of its own: 30 the last window's end, 31 a port's waiting, 32 a ring's first, 33 a ring's frames, 34 a ring's lengths, 35 36 37 a stream's rate, thousand, taken -/
def SI (x n k j f a : Nat) : Prop := (k = 0 ∧ j = 2 ∧ f = 9 ∧ a = x) ∨ (k = 0 ∧ j = 3 ∧ f = 10 ∧ a = x) ∨ (∃ i, i < n ∧ j = i + 1 ∧ a = px x i ∧ ((k = 31 ∧ f = 36) ∨ (k = 3 ∧ f = 37) ∨ (k = 4 ∧ f = 38))) ∨ (∃ i r, i < n ∧ r < 8 ∧ j = 8 * (i + 1) + r ∧ a = kx x i r ∧ ((k = 32 ∧ f = 66) ∨ (k = 7 ∧ f = 67) ∨ (k = 9 ∧ f = 70)))
def SJ (x n k j f a : Nat) : Prop := (a = x ∧ ((k = 0 ∧ j = 0 ∧ f = 6) ∨ (k = 0 ∧ j = 1 ∧ f = 7) ∨ (k = 30 ∧ j = 0 ∧ f = 8))) ∨ (∃ i, i < n ∧ j = i + 1 ∧ a = px x i ∧ ((k = 1 ∧ f = 34) ∨ (k = 2 ∧ f = 35) ∨ (k = 5 ∧ f = 39) ∨ (k = 6 ∧ f = 40))) ∨ (∃ i r, i < n ∧ r < 8 ∧ j = 8 * (i + 1) + r ∧ a = kx x i r ∧ ((k = 12 ∧ f = 71) ∨ (k = 13 ∧ f = 72) ∨ (k = 14 ∧ f = 73)))
def TI (x n k j a t : Nat) : Prop := (k = 24 ∧ a = ax x n + 2 ∧ t = j ∧ j < 4) ∨ (k = 21 ∧ a = ax x n + 3 ∧ t = j ∧ j < 101) ∨ (∃ i r, i < n ∧ r < 8 ∧ t < 16 ∧ j = 16 * (8 * (i + 1) + r) + t ∧ ((k = 33 ∧ a = kx x i r + 1) ∨ (k = 34 ∧ a = kx x i r + 2)))
def TJ (x n k j a t : Nat) : Prop := (k = 22 ∧ a = ax x n + 4 ∧ t = j ∧ j < 101) ∨ (∃ i r, i < n ∧ r < 8 ∧ t < 8 ∧ j = 8 * (8 * (i + 1) + r) + t ∧ ((k = 10 ∧ a = kx x i r + 3) ∨ (k = 11 ∧ a = kx x i r + 4)))
theorem SI_u {x n k j f a k' j' f' a' : Nat} (h : SI x n k j f a) (h' : SI x n k' j' f' a') : (f' = f ∧ a' = a) ↔ (k' = k ∧ j' = j) := by
  unfold SI px kx at h h'
  rcases h with h | h | ⟨i, h⟩ | ⟨i, r, h⟩ <;> rcases h' with h' | h' | ⟨i', h'⟩ | ⟨i', r', h'⟩ <;> omega
theorem SJ_u {x n k j f a k' j' f' a' : Nat} (h : SJ x n k j f a) (h' : SJ x n k' j' f' a') : (f' = f ∧ a' = a) ↔ (k' = k ∧ j' = j) := by
  unfold SJ px kx at h h'
  rcases h with h | ⟨i, h⟩ | ⟨i, r, h⟩ <;> rcases h' with h' | ⟨i', h'⟩ | ⟨i', r', h'⟩ <;> omega
theorem TI_u {x n k j a t k' j' a' t' : Nat} (h : TI x n k j a t) (h' : TI x n k' j' a' t') : (a' = a ∧ t' = t) ↔ (k' = k ∧ j' = j) := by
  unfold TI ax kx at h h'
  rcases h with h | h | ⟨i, r, h⟩ <;> rcases h' with h' | h' | ⟨i', r', h'⟩ <;> omega
theorem TJ_u {x n k j a t k' j' a' t' : Nat} (h : TJ x n k j a t) (h' : TJ x n k' j' a' t') : (a' = a ∧ t' = t) ↔ (k' = k ∧ j' = j) := by
  unfold TJ ax kx at h h'
  rcases h with h | ⟨i, r, h⟩ <;> rcases h' with h' | ⟨i', r', h'⟩ <;> omega
/-- cells that are not the class's: ahead of it, the reference's, the law's array -/
def OX (x n a : Nat) : Prop := a < x ∨ (ax x n + 5 ≤ a ∧ a ≤ ax x n + 30)
theorem SI_in {x n k j f a : Nat} (h : SI x n k j f a) : ¬ OX x n a ∧ a < ax x n + 5 ∧ ¬ f = 32 ∧ ¬ f = 193 ∧ ¬ f = 97 ∧ ¬ f = 130 ∧ ¬ f = 160 ∧ ¬ f = 161 ∧ ¬ k = 16 ∧ ¬ k = 37 ∧ ¬ k = 23 ∧ ¬ (k = 0 ∧ j = 4) ∧ ¬ k = 17 ∧ ¬ k = 35 ∧ ¬ k = 36 := by
  unfold SI px kx at h
  unfold OX ax
  rcases h with h | h | ⟨i, h⟩ | ⟨i, r, h⟩ <;> omega
theorem SJ_in {x n k j f a : Nat} (h : SJ x n k j f a) : ¬ OX x n a ∧ a < ax x n + 5 ∧ ¬ f = 98 ∧ ¬ f = 128 ∧ ¬ f = 129 ∧ ¬ f = 162 ∧ ¬ f = 163 ∧ ¬ k = 16 ∧ ¬ k = 37 ∧ ¬ k = 23 ∧ ¬ (k = 0 ∧ j = 4) ∧ ¬ k = 17 ∧ ¬ k = 35 ∧ ¬ k = 36 := by
  unfold SJ px kx at h
  unfold OX ax
  rcases h with h | ⟨i, h⟩ | ⟨i, r, h⟩ <;> omega
theorem TI_in {x n k j a t : Nat} (h : TI x n k j a t) : ¬ OX x n a ∧ a < ax x n + 5 ∧ ¬ k = 16 ∧ ¬ k = 37 ∧ ¬ k = 23 ∧ ¬ (k = 0 ∧ j = 4) ∧ ¬ k = 17 ∧ ¬ k = 35 ∧ ¬ k = 36 := by
  unfold TI kx ax at h
  unfold OX ax
  rcases h with h | h | ⟨i, r, h⟩ <;> omega
theorem TJ_in {x n k j a t : Nat} (h : TJ x n k j a t) : ¬ OX x n a ∧ a < ax x n + 5 ∧ ¬ k = 16 ∧ ¬ k = 37 ∧ ¬ k = 23 ∧ ¬ (k = 0 ∧ j = 4) ∧ ¬ k = 17 ∧ ¬ k = 35 ∧ ¬ k = 36 := by
  unfold TJ kx ax at h
  unfold OX ax
  rcases h with h | ⟨i, r, h⟩ <;> omega
/-- fixed cells -/
def RXs (h : am_H) (x n : Nat) (s : sg) : Prop := SX h x n ∧ (∀ k j f a, SI x n k j f a → am_I h f a = iI (s k j)) ∧ (∀ k j f a, SJ x n k j f a → am_J h f a = jJ (s k j)) ∧ (∀ k j a t, TI x n k j a t → am_aI h a t = iI (s k j)) ∧ (∀ k j a t, TJ x n k j a t → am_aJ h a t = jJ (s k j))
/-- an address's cells at v -/
def RA (h : am_H) (s : sg) (a v : Nat) : Prop := am_T h v = 13 ∧ am_R h 96 v = v + 1 ∧ am_T h (v + 1) = 103 ∧ am_N h (v + 1) = 8 ∧ am_I h 97 v = iI (s 16 a) ∧ am_J h 98 v = jJ (s 17 a) ∧ ∀ r, r < 8 → am_aR h (v + 1) r = v + 2 + r ∧ am_T h (v + 2 + r) = 14 ∧ am_J h 128 (v + 2 + r) = jJ (s 35 (8 * a + r)) ∧ am_J h 129 (v + 2 + r) = jJ (s 36 (8 * a + r)) ∧ am_I h 130 (v + 2 + r) = iI (s 37 (8 * a + r))
def RXa (h : am_H) (x n : Nat) (s : sg) (α : Nat → Nat) : Prop := (∀ a, a ≤ 1000 → am_aR h (ax x n) a = α a) ∧ (∀ a, a ≤ 1000 → ¬ α a = 0 → ax x n + 30 < α a ∧ α a + 9 ≤ am_Z h ∧ RA h s a (α a)) ∧ (∀ a, a ≤ 1000 → α a = 0 → s 16 a = 0 ∧ s 17 a = 0 ∧ ∀ r, r < 8 → s 35 (8 * a + r) = -1 ∧ s 36 (8 * a + r) = 0 ∧ s 37 (8 * a + r) = 0) ∧ (∀ a b, a ≤ 1000 → b ≤ 1000 → ¬ a = b → ¬ α a = 0 → ¬ α b = 0 → α a + 10 ≤ α b ∨ α b + 10 ≤ α a)
/-- the list: its array e, its departures -/
def RD (h : am_H) (x n : Nat) (s : sg) (i v : Nat) : Prop := ax x n + 30 < v ∧ v ≤ am_Z h ∧ am_T h v = 15 ∧ am_I h 160 v = iI (s 23 (4 * i)) ∧ am_I h 161 v = iI (s 23 (4 * i + 1)) ∧ am_J h 162 v = jJ (s 23 (4 * i + 2)) ∧ am_J h 163 v = jJ (s 23 (4 * i + 3))
def RXd (h : am_H) (x n : Nat) (s : sg) (e : Nat) : Prop := am_I h 193 (ax x n + 1) = iI (s 0 4) ∧ am_R h 192 (ax x n + 1) = e ∧ (0 ≤ s 0 4 ∧ s 0 4 ≤ 5000) ∧ ((s 0 4 = 0 ∧ e = am_R h 9000 0 ∧ e < x ∧ am_T h e = 4 ∧ am_N h e = 0) ∨ (ax x n + 30 < e ∧ e ≤ am_Z h ∧ am_T h e = 104 ∧ s 0 4 ≤ am_N h e ∧ 10 ≤ am_N h e ∧ am_N h e ≤ 7500)) ∧ (∀ i : Nat, (i : Int) < s 0 4 → RD h x n s i (am_aR h e i))
/-- the room that is used -/
def RO (h : am_H) (s : sg) (e c : Nat) : Prop := am_C h ≤ 2000 + 20 * c + 21 * (s 0 4).toNat + am_N h e ∧ am_S h ≤ 200000 + 100 * c + 104 * (s 0 4).toNat + 4 * am_N h e
def RX (h : am_H) (x n : Nat) (s : sg) (α : Nat → Nat) (e c : Nat) : Prop := RXs h x n s ∧ RXa h x n s α ∧ RXd h x n s e ∧ RO h s e c ∧ ax x n + 30 ≤ am_Z h
theorem SX_sI {h : am_H} {x n f a : Nat} {v : Int32} (hS : SX h x n) (hf : ¬ f = 32) : SX (am_sI h f a v) x n := by
  obtain ⟨s1, s2, s3, s4, s5⟩ := hS
  refine ⟨s1, s2, s3, fun i hi => ?_, s5⟩
  obtain ⟨t1, t2, t3⟩ := s4 i hi
  exact ⟨t1, by rw [hp_I_sI, if_neg (fun z => hf z.1.symm)]; exact t2, t3⟩
/-- what RA says of the state -/
theorem RA_s {h : am_H} {s s' : sg} {a v : Nat} (hR : RA h s a v) (h16 : s' 16 a = s 16 a) (h17 : s' 17 a = s 17 a) (h3 : ∀ r, r < 8 → s' 35 (8 * a + r) = s 35 (8 * a + r) ∧ s' 36 (8 * a + r) = s 36 (8 * a + r) ∧ s' 37 (8 * a + r) = s 37 (8 * a + r)) : RA h s' a v := by
  obtain ⟨t1, t2, t3, t4, t5, t6, t7⟩ := hR
  refine ⟨t1, t2, t3, t4, by rw [h16]; exact t5, by rw [h17]; exact t6, fun r hr => ?_⟩
  obtain ⟨u1, u2, u3, u4, u5⟩ := t7 r hr
  obtain ⟨v1, v2, v3⟩ := h3 r hr
  exact ⟨u1, u2, by rw [v1]; exact u3, by rw [v2]; exact u4, by rw [v3]; exact u5⟩
theorem RX_sI {h : am_H} {x n k j f a e c : Nat} {s : sg} {α : Nat → Nat} {v : Int} (hX : RX h x n s α e c) (hs : SI x n k j f a) : RX (am_sI h f a (iI v)) x n (am_u2 s k j v) α e c := by
  obtain ⟨⟨b1, b2, b3, b4, b5⟩, ⟨a1, a2, a3, a4⟩, ⟨d1, d2, d3, d4, d5⟩, ⟨o1, o2⟩, hz⟩ := hX
  obtain ⟨n1, n2, n3, n4, n5, n6, n7, n8, n9, n10, n11, n12, n13, n14, n15⟩ := SI_in hs
  have e04 : am_u2 s k j v 0 4 = s 0 4 := by rw [am_u2, if_neg (fun z => n12 ⟨z.1.symm, z.2.symm⟩)]
  have ek : ∀ k', ¬ k = k' → ∀ j', am_u2 s k j v k' j' = s k' j' := fun k' hk j' => u2_ne (fun z => hk z.symm)
  have gI : ∀ f' b, ¬ f = f' → am_I (am_sI h f a (iI v)) f' b = am_I h f' b := fun f' b hf => by rw [hp_I_sI, if_neg (fun z => hf z.1.symm)]
  refine ⟨⟨SX_sI b1 n3, fun k' j' f' a' hs' => ?_, fun k' j' f' a' hs' => ?_, fun k' j' a' t' hs' => ?_, fun k' j' a' t' hs' => ?_⟩, ⟨a1, fun b hb hb0 => ?_, fun b hb hb0 => ?_, a4⟩, ⟨?_, d2, by rw [e04]; exact d3, by rw [e04]; exact d4, fun i hi => ?_⟩, ⟨by rw [e04]; exact o1, by rw [e04]; exact o2⟩, hz⟩
  · rw [hp_I_sI, am_u2]
    by_cases hc : f' = f ∧ a' = a
    · rw [if_pos hc, if_pos ((SI_u hs hs').mp hc)]
    · rw [if_neg hc, if_neg (fun z => hc ((SI_u hs hs').mpr z))]
      exact b2 k' j' f' a' hs'
  · rw [hp_J_sI, am_u2, if_neg (fun z => ?_)]
    · exact b3 k' j' f' a' hs'
    · rw [z.1, z.2] at hs'
      unfold SI at hs
      unfold SJ at hs'
      rcases hs with hs | hs | ⟨i, hs⟩ | ⟨i, r, hs⟩ <;> rcases hs' with hs' | ⟨i', hs'⟩ | ⟨i', r', hs'⟩ <;> omega
  · rw [hp_aI_sI, am_u2, if_neg (fun z => ?_)]
    · exact b4 k' j' a' t' hs'
    · rw [z.1, z.2] at hs'
      unfold SI at hs
      unfold TI at hs'
      rcases hs with hs | hs | ⟨i, hs⟩ | ⟨i, r, hs⟩ <;> rcases hs' with hs' | hs' | ⟨i', r', hs'⟩ <;> omega
  · rw [hp_aJ_sI, am_u2, if_neg (fun z => ?_)]
    · exact b5 k' j' a' t' hs'
    · rw [z.1, z.2] at hs'
      unfold SI at hs
      unfold TJ at hs'
      rcases hs with hs | hs | ⟨i, hs⟩ | ⟨i, r, hs⟩ <;> rcases hs' with hs' | ⟨i', r', hs'⟩ <;> omega
  · obtain ⟨z1, z2, z3⟩ := a2 b hb hb0
    obtain ⟨t1, t2, t3, t4, t5, t6, t7⟩ := RA_s (s' := am_u2 s k j v) z3 (ek 16 n9 _) (ek 17 n13 _) (fun r hr => ⟨ek 35 n14 _, ek 36 n15 _, ek 37 n10 _⟩)
    refine ⟨z1, z2, t1, t2, t3, t4, by rw [gI 97 _ n5]; exact t5, t6, fun r hr => ?_⟩
    obtain ⟨u1, u2, u3, u4, u5⟩ := t7 r hr
    exact ⟨u1, u2, u3, u4, by rw [gI 130 _ n6]; exact u5⟩
  · obtain ⟨z1, z2, z3⟩ := a3 b hb hb0
    rw [ek 16 n9, ek 17 n13]
    refine ⟨z1, z2, fun r hr => ?_⟩
    rw [ek 35 n14, ek 36 n15, ek 37 n10]
    exact z3 r hr
  · rw [e04, gI 193 _ n4]; exact d1
  · rw [e04] at hi
    obtain ⟨q0, q1, q2, q3, q4, q5, q6⟩ := d5 i hi
    exact ⟨q0, q1, q2, by rw [gI 160 _ n7, ek 23 n11]; exact q3, by rw [gI 161 _ n8, ek 23 n11]; exact q4, by rw [ek 23 n11]; exact q5, by rw [ek 23 n11]; exact q6⟩
theorem RX_sJ {h : am_H} {x n k j f a e c : Nat} {s : sg} {α : Nat → Nat} {v : Int} (hX : RX h x n s α e c) (hs : SJ x n k j f a) : RX (am_sJ h f a (jJ v)) x n (am_u2 s k j v) α e c := by
  obtain ⟨⟨b1, b2, b3, b4, b5⟩, ⟨a1, a2, a3, a4⟩, ⟨d1, d2, d3, d4, d5⟩, ⟨o1, o2⟩, hz⟩ := hX
  obtain ⟨n1, n2, n5, n6, n4, n7, n8, n9, n10, n11, n12, n13, n14, n15⟩ := SJ_in hs
  have e04 : am_u2 s k j v 0 4 = s 0 4 := by rw [am_u2, if_neg (fun z => n12 ⟨z.1.symm, z.2.symm⟩)]
  have ek : ∀ k', ¬ k = k' → ∀ j', am_u2 s k j v k' j' = s k' j' := fun k' hk j' => u2_ne (fun z => hk z.symm)
  have gJ : ∀ f' b, ¬ f = f' → am_J (am_sJ h f a (jJ v)) f' b = am_J h f' b := fun f' b hf => by rw [hp_J_sJ, if_neg (fun z => hf z.1.symm)]
  refine ⟨⟨b1, fun k' j' f' a' hs' => ?_, fun k' j' f' a' hs' => ?_, fun k' j' a' t' hs' => ?_, fun k' j' a' t' hs' => ?_⟩, ⟨a1, fun b hb hb0 => ?_, fun b hb hb0 => ?_, a4⟩, ⟨by rw [e04]; exact d1, d2, by rw [e04]; exact d3, by rw [e04]; exact d4, fun i hi => ?_⟩, ⟨by rw [e04]; exact o1, by rw [e04]; exact o2⟩, hz⟩
  · rw [hp_I_sJ, am_u2, if_neg (fun z => ?_)]
    · exact b2 k' j' f' a' hs'
    · rw [z.1, z.2] at hs'
      unfold SJ at hs
      unfold SI at hs'
      rcases hs with hs | ⟨i, hs⟩ | ⟨i, r, hs⟩ <;> rcases hs' with hs' | hs' | ⟨i', hs'⟩ | ⟨i', r', hs'⟩ <;> omega
  · rw [hp_J_sJ, am_u2]
    by_cases hc : f' = f ∧ a' = a
    · rw [if_pos hc, if_pos ((SJ_u hs hs').mp hc)]
    · rw [if_neg hc, if_neg (fun z => hc ((SJ_u hs hs').mpr z))]
      exact b3 k' j' f' a' hs'
  · rw [hp_aI_sJ, am_u2, if_neg (fun z => ?_)]
    · exact b4 k' j' a' t' hs'
    · rw [z.1, z.2] at hs'
      unfold SJ at hs
      unfold TI at hs'
      rcases hs with hs | ⟨i, hs⟩ | ⟨i, r, hs⟩ <;> rcases hs' with hs' | hs' | ⟨i', r', hs'⟩ <;> omega
  · rw [hp_aJ_sJ, am_u2, if_neg (fun z => ?_)]
    · exact b5 k' j' a' t' hs'
    · rw [z.1, z.2] at hs'
      unfold SJ at hs
      unfold TJ at hs'
      rcases hs with hs | ⟨i, hs⟩ | ⟨i, r, hs⟩ <;> rcases hs' with hs' | ⟨i', r', hs'⟩ <;> omega
  · obtain ⟨z1, z2, z3⟩ := a2 b hb hb0
    obtain ⟨t1, t2, t3, t4, t5, t6, t7⟩ := RA_s (s' := am_u2 s k j v) z3 (ek 16 n9 _) (ek 17 n13 _) (fun r hr => ⟨ek 35 n14 _, ek 36 n15 _, ek 37 n10 _⟩)
    refine ⟨z1, z2, t1, t2, t3, t4, t5, by rw [gJ 98 _ n5]; exact t6, fun r hr => ?_⟩
    obtain ⟨u1, u2, u3, u4, u5⟩ := t7 r hr
    exact ⟨u1, u2, by rw [gJ 128 _ n6]; exact u3, by rw [gJ 129 _ n4]; exact u4, u5⟩
  · obtain ⟨z1, z2, z3⟩ := a3 b hb hb0
    rw [ek 16 n9, ek 17 n13]
    refine ⟨z1, z2, fun r hr => ?_⟩
    rw [ek 35 n14, ek 36 n15, ek 37 n10]
    exact z3 r hr
  · rw [e04] at hi
    obtain ⟨q0, q1, q2, q3, q4, q5, q6⟩ := d5 i hi
    exact ⟨q0, q1, q2, by rw [ek 23 n11]; exact q3, by rw [ek 23 n11]; exact q4, by rw [gJ 162 _ n7, ek 23 n11]; exact q5, by rw [gJ 163 _ n8, ek 23 n11]; exact q6⟩
theorem RX_xI {h : am_H} {x n k j a t e c : Nat} {s : sg} {α : Nat → Nat} {v : Int} (hX : RX h x n s α e c) (hs : TI x n k j a t) : RX (am_xI h a t (iI v)) x n (am_u2 s k j v) α e c := by
  obtain ⟨⟨b1, b2, b3, b4, b5⟩, ⟨a1, a2, a3, a4⟩, ⟨d1, d2, d3, d4, d5⟩, ⟨o1, o2⟩, hz⟩ := hX
  obtain ⟨n1, n2, n9, n10, n11, n12, n13, n14, n15⟩ := TI_in hs
  have e04 : am_u2 s k j v 0 4 = s 0 4 := by rw [am_u2, if_neg (fun z => n12 ⟨z.1.symm, z.2.symm⟩)]
  have ek : ∀ k', ¬ k = k' → ∀ j', am_u2 s k j v k' j' = s k' j' := fun k' hk j' => u2_ne (fun z => hk z.symm)
  refine ⟨⟨b1, fun k' j' f' a' hs' => ?_, fun k' j' f' a' hs' => ?_, fun k' j' a' t' hs' => ?_, fun k' j' a' t' hs' => ?_⟩, ⟨a1, fun b hb hb0 => ?_, fun b hb hb0 => ?_, a4⟩, ⟨by rw [e04]; exact d1, d2, by rw [e04]; exact d3, by rw [e04]; exact d4, fun i hi => ?_⟩, ⟨by rw [e04]; exact o1, by rw [e04]; exact o2⟩, hz⟩
  · rw [hp_I_xI, am_u2, if_neg (fun z => ?_)]
    · exact b2 k' j' f' a' hs'
    · rw [z.1, z.2] at hs'
      unfold TI at hs
      unfold SI at hs'
      rcases hs with hs | hs | ⟨i, r, hs⟩ <;> rcases hs' with hs' | hs' | ⟨i', hs'⟩ | ⟨i', r', hs'⟩ <;> omega
  · rw [hp_J_xI, am_u2, if_neg (fun z => ?_)]
    · exact b3 k' j' f' a' hs'
    · rw [z.1, z.2] at hs'
      unfold TI at hs
      unfold SJ at hs'
      rcases hs with hs | hs | ⟨i, r, hs⟩ <;> rcases hs' with hs' | ⟨i', hs'⟩ | ⟨i', r', hs'⟩ <;> omega
  · rw [hp_aI_xI, am_u2]
    by_cases hc : a' = a ∧ t' = t
    · rw [if_pos hc, if_pos ((TI_u hs hs').mp hc)]
    · rw [if_neg hc, if_neg (fun z => hc ((TI_u hs hs').mpr z))]
      exact b4 k' j' a' t' hs'
  · rw [hp_aJ_xI, am_u2, if_neg (fun z => ?_)]
    · exact b5 k' j' a' t' hs'
    · rw [z.1, z.2] at hs'
      unfold TI at hs
      unfold TJ at hs'
      rcases hs with hs | hs | ⟨i, r, hs⟩ <;> rcases hs' with hs' | ⟨i', r', hs'⟩ <;> omega
  · obtain ⟨z1, z2, z3⟩ := a2 b hb hb0
    exact ⟨z1, z2, RA_s (s' := am_u2 s k j v) z3 (ek 16 n9 _) (ek 17 n13 _) (fun r hr => ⟨ek 35 n14 _, ek 36 n15 _, ek 37 n10 _⟩)⟩
  · obtain ⟨z1, z2, z3⟩ := a3 b hb hb0
    rw [ek 16 n9, ek 17 n13]
    refine ⟨z1, z2, fun r hr => ?_⟩
    rw [ek 35 n14, ek 36 n15, ek 37 n10]
    exact z3 r hr
  · rw [e04] at hi
    obtain ⟨q0, q1, q2, q3, q4, q5, q6⟩ := d5 i hi
    exact ⟨q0, q1, q2, by rw [ek 23 n11]; exact q3, by rw [ek 23 n11]; exact q4, by rw [ek 23 n11]; exact q5, by rw [ek 23 n11]; exact q6⟩
theorem RX_xJ {h : am_H} {x n k j a t e c : Nat} {s : sg} {α : Nat → Nat} {v : Int} (hX : RX h x n s α e c) (hs : TJ x n k j a t) : RX (am_xJ h a t (jJ v)) x n (am_u2 s k j v) α e c := by
  obtain ⟨⟨b1, b2, b3, b4, b5⟩, ⟨a1, a2, a3, a4⟩, ⟨d1, d2, d3, d4, d5⟩, ⟨o1, o2⟩, hz⟩ := hX
  obtain ⟨n1, n2, n9, n10, n11, n12, n13, n14, n15⟩ := TJ_in hs
  have e04 : am_u2 s k j v 0 4 = s 0 4 := by rw [am_u2, if_neg (fun z => n12 ⟨z.1.symm, z.2.symm⟩)]
  have ek : ∀ k', ¬ k = k' → ∀ j', am_u2 s k j v k' j' = s k' j' := fun k' hk j' => u2_ne (fun z => hk z.symm)
  refine ⟨⟨b1, fun k' j' f' a' hs' => ?_, fun k' j' f' a' hs' => ?_, fun k' j' a' t' hs' => ?_, fun k' j' a' t' hs' => ?_⟩, ⟨a1, fun b hb hb0 => ?_, fun b hb hb0 => ?_, a4⟩, ⟨by rw [e04]; exact d1, d2, by rw [e04]; exact d3, by rw [e04]; exact d4, fun i hi => ?_⟩, ⟨by rw [e04]; exact o1, by rw [e04]; exact o2⟩, hz⟩
  · rw [hp_I_xJ, am_u2, if_neg (fun z => ?_)]
    · exact b2 k' j' f' a' hs'
    · rw [z.1, z.2] at hs'
      unfold TJ at hs
      unfold SI at hs'
      rcases hs with hs | ⟨i, r, hs⟩ <;> rcases hs' with hs' | hs' | ⟨i', hs'⟩ | ⟨i', r', hs'⟩ <;> omega
  · rw [hp_J_xJ, am_u2, if_neg (fun z => ?_)]
    · exact b3 k' j' f' a' hs'
    · rw [z.1, z.2] at hs'
      unfold TJ at hs
      unfold SJ at hs'
      rcases hs with hs | ⟨i, r, hs⟩ <;> rcases hs' with hs' | ⟨i', hs'⟩ | ⟨i', r', hs'⟩ <;> omega
  · rw [hp_aI_xJ, am_u2, if_neg (fun z => ?_)]
    · exact b4 k' j' a' t' hs'
    · rw [z.1, z.2] at hs'
      unfold TJ at hs
      unfold TI at hs'
      rcases hs with hs | ⟨i, r, hs⟩ <;> rcases hs' with hs' | hs' | ⟨i', r', hs'⟩ <;> omega
  · rw [hp_aJ_xJ, am_u2]
    by_cases hc : a' = a ∧ t' = t
    · rw [if_pos hc, if_pos ((TJ_u hs hs').mp hc)]
    · rw [if_neg hc, if_neg (fun z => hc ((TJ_u hs hs').mpr z))]
      exact b5 k' j' a' t' hs'
  · obtain ⟨z1, z2, z3⟩ := a2 b hb hb0
    exact ⟨z1, z2, RA_s (s' := am_u2 s k j v) z3 (ek 16 n9 _) (ek 17 n13 _) (fun r hr => ⟨ek 35 n14 _, ek 36 n15 _, ek 37 n10 _⟩)⟩
  · obtain ⟨z1, z2, z3⟩ := a3 b hb hb0
    rw [ek 16 n9, ek 17 n13]
    refine ⟨z1, z2, fun r hr => ?_⟩
    rw [ek 35 n14, ek 36 n15, ek 37 n10]
    exact z3 r hr
  · rw [e04] at hi
    obtain ⟨q0, q1, q2, q3, q4, q5, q6⟩ := d5 i hi
    exact ⟨q0, q1, q2, by rw [ek 23 n11]; exact q3, by rw [ek 23 n11]; exact q4, by rw [ek 23 n11]; exact q5, by rw [ek 23 n11]; exact q6⟩
