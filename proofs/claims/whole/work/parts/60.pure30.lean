/-! THE START: the class -/
/-- an object without numbers; an array without numbers -/
def Zo (h : am_H) (a : Nat) : Prop := ∀ f, am_I h f a = 0 ∧ am_J h f a = 0
def Za (h : am_H) (a t n : Nat) : Prop := am_T h a = t ∧ am_N h a = n ∧ ∀ j, am_aI h a j = 0 ∧ am_aJ h a j = 0
def KK (h : am_H) (k : Nat) : Prop := am_T h k = 12 ∧ Zo h k ∧ (am_R h 64 k = k + 1 ∧ am_R h 65 k = k + 2 ∧ am_R h 68 k = k + 3 ∧ am_R h 69 k = k + 4) ∧ Za h (k + 1) 1 16 ∧ Za h (k + 2) 1 16 ∧ Za h (k + 3) 2 8 ∧ Za h (k + 4) 2 8
theorem Zo_eq {S : Nat → Prop} {h h' : am_H} {a : Nat} (he : eqon S h h') (ha : S a) (g : Zo h a) : Zo h' a := fun f => by
  obtain ⟨e1, e2, e3, e4, e5, e6, e7, e8⟩ := he a ha
  rw [e3, e4]; exact g f
theorem Za_eq {S : Nat → Prop} {h h' : am_H} {a t n : Nat} (he : eqon S h h') (ha : S a) (g : Za h a t n) : Za h' a t n := by
  obtain ⟨e1, e2, e3, e4, e5, e6, e7, e8⟩ := he a ha
  obtain ⟨g1, g2, g3⟩ := g
  exact ⟨by rw [e1]; exact g1, by rw [e2]; exact g2, fun j => by rw [e6, e7]; exact g3 j⟩
theorem KK_eq {S : Nat → Prop} {h h' : am_H} {k : Nat} (he : eqon S h h') (ha : ∀ q, q ≤ 4 → S (k + q)) (g : KK h k) : KK h' k := by
  obtain ⟨g1, g2, g3, g4, g5, g6, g7⟩ := g
  have h0 : S k := ha 0 (by omega)
  obtain ⟨e1, e2, e3, e4, e5, e6, e7, e8⟩ := he k h0
  exact ⟨by rw [e1]; exact g1, Zo_eq he h0 g2, by rw [e5, e5, e5, e5]; exact g3, Za_eq he (ha 1 (by omega)) g4, Za_eq he (ha 2 (by omega)) g5, Za_eq he (ha 3 (by omega)) g6, Za_eq he (ha 4 (by omega)) g7⟩
theorem Za_nA {h : am_H} {t n a : Nat} (ha : a = am_Z h + 1) : Za (am_nA h t n) a t n := by
  subst ha
  refine ⟨by rw [hp_T_nA, if_pos rfl], by rw [hp_N_nA, if_pos rfl], fun j => ⟨by rw [hp_aI_nA, if_pos rfl], by rw [hp_aJ_nA, if_pos rfl]⟩⟩
theorem Zo_sR {h : am_H} {f a v b : Nat} (g : Zo h b) : Zo (am_sR h f a v) b := g
theorem Zo_xR {h : am_H} {f a v b : Nat} (g : Zo h b) : Zo (am_xR h f a v) b := g
theorem Za_sR {h : am_H} {f a v b t n : Nat} (g : Za h b t n) : Za (am_sR h f a v) b t n := g
theorem Za_xR {h : am_H} {f a v b t n : Nat} (g : Za h b t n) : Za (am_xR h f a v) b t n := g
theorem sp_K_init {d k : Nat} {h : am_H} {Q : Option am_V → am_H → Prop} (hk : am_Z h = k) (h1k : 1 ≤ k) (hT : am_T h k = 12) (hz : Zo h k) (hQ : ∀ h', KK h' k → am_Z h' = k + 4 → eqon (fun a => a < k) h h' → am_C h' = am_C h + 4 → am_S h' = am_S h + 48 → Q none h') : am_PC (d + 1) mi_K_init [.inr (.inr k)] h Q := by
  have stp : ∀ (h h1 h2 : am_H) (q t n f : Nat), am_Z h = k + q → h1 = am_nA h t n → h2 = am_sR h1 f k (am_Z h + 1) → am_T h1 k = am_T h k ∧ am_T h2 k = am_T h k ∧ am_Z h2 = k + q + 1 ∧ eqon (fun a => a < k) h h2 ∧ am_C h2 = am_C h + 1 ∧ am_S h2 = am_S h + n ∧ Za h2 (k + q + 1) t n ∧ (∀ b t' n', b ≤ k + q → Za h b t' n' → Za h2 b t' n') ∧ (Zo h k → Zo h2 k) ∧ am_R h2 f k = k + q + 1 ∧ (∀ f', ¬ f' = f → am_R h2 f' k = am_R h f' k) := by
    intro h h1 h2 q t n f hz e1 e2
    have n1 : ¬ k = am_Z h + 1 := by omega
    have eA : eqon (fun a => a ≤ k + q) h h1 := by subst e1; exact eqon_nA (by omega)
    subst e2
    refine ⟨by subst e1; rw [hp_T_nA, if_neg n1], by subst e1; rw [hp_T_sR, hp_T_nA, if_neg n1], by subst e1; show am_Z h + 1 = _; omega, eqon_tr (eqon_mono (fun a ha => by show a ≤ k + q; have : a < k := ha; omega) eA) (eqon_sR (by omega)), by subst e1; rfl, by subst e1; rfl, by subst e1; exact Za_sR (Za_nA (by omega)), fun b t' n' hb g => Za_sR (Za_eq eA hb g), fun g => Zo_sR (Zo_eq eA (by show k ≤ k + q; omega) g), by rw [hp_R_sR, if_pos ⟨rfl, rfl⟩]; omega, fun f' hf => by subst e1; rw [hp_R_sR, if_neg (fun z => hf z.1), hp_R_nA]⟩
  refine bk_K_init ⟨by omega, by decide, by decide, fun h1 e1 => ?_⟩
  refine ⟨by rw [(stp h h1 _ 0 _ _ 0 hk e1 rfl).1]; exact hT, fun h2 e2 => ?_⟩
  obtain ⟨a1, a2, a3, a4, a5, a6, a7, a8, a9, a10, a11⟩ := stp h h1 h2 0 _ _ _ hk e1 e2
  refine ⟨by decide, by decide, fun h3 e3 => ?_⟩
  obtain ⟨b1, -⟩ := stp h2 h3 _ 1 _ _ 0 a3 e3 rfl
  refine ⟨by rw [b1, a2]; exact hT, fun h4 e4 => ?_⟩
  obtain ⟨b1, b2, b3, b4, b5, b6, b7, b8, b9, b10, b11⟩ := stp h2 h3 h4 1 _ _ _ a3 e3 e4
  refine ⟨by decide, by decide, fun h5 e5 => ?_⟩
  obtain ⟨c1, -⟩ := stp h4 h5 _ 2 _ _ 0 b3 e5 rfl
  refine ⟨by rw [c1, b2, a2]; exact hT, fun h6 e6 => ?_⟩
  obtain ⟨c1, c2, c3, c4, c5, c6, c7, c8, c9, c10, c11⟩ := stp h4 h5 h6 2 _ _ _ b3 e5 e6
  refine ⟨by decide, by decide, fun h7 e7 => ?_⟩
  obtain ⟨d1, -⟩ := stp h6 h7 _ 3 _ _ 0 c3 e7 rfl
  refine ⟨by rw [d1, c2, b2, a2]; exact hT, fun h8 e8 => ?_⟩
  obtain ⟨d1, d2, d3, d4, d5, d6, d7, d8, d9, d10, d11⟩ := stp h6 h7 h8 3 _ _ _ c3 e7 e8
  refine hQ h8 ⟨by rw [d2, c2, b2, a2]; exact hT, d9 (c9 (b9 (a9 hz))), ⟨?_, ?_, ?_, d10⟩, d8 _ _ _ (by omega) (c8 _ _ _ (by omega) (b8 _ _ _ (by omega) a7)), d8 _ _ _ (by omega) (c8 _ _ _ (by omega) b7), d8 _ _ _ (by omega) c7, d7⟩ d3 (eqon_tr (eqon_tr (eqon_tr a4 b4) c4) d4) ?_ ?_
  · rw [d11 64 (by decide), c11 64 (by decide), b11 64 (by decide)]; exact a10
  · rw [d11 65 (by decide), c11 65 (by decide)]; exact b10
  · rw [d11 68 (by decide)]; exact c10
  · omega
  · have e16 : (16 : Int32).toNatClampNeg = 16 := rfl
    have e8' : (8 : Int32).toNatClampNeg = 8 := rfl
    rw [e16] at a6 b6
    rw [e8'] at c6 d6
    omega
/-- a port -/
def PP (h : am_H) (p i : Nat) : Prop := am_T h p = 11 ∧ am_I h 32 p = nI (i + 1) ∧ (∀ f, ¬ f = 32 → am_I h f p = 0) ∧ (∀ f, am_J h f p = 0) ∧ am_R h 33 p = p + 1 ∧ am_T h (p + 1) = 101 ∧ am_N h (p + 1) = 8 ∧ ∀ r, r < 8 → am_aR h (p + 1) r = p + 2 + 5 * r ∧ KK h (p + 2 + 5 * r)
theorem PP_eq {S : Nat → Prop} {h h' : am_H} {p i : Nat} (he : eqon S h h') (ha : ∀ q, q ≤ 41 → S (p + q)) (g : PP h p i) : PP h' p i := by
  obtain ⟨g1, g2, g3, g4, g5, g6, g7, g8⟩ := g
  have h0 : S p := ha 0 (by omega)
  have h1 : S (p + 1) := ha 1 (by omega)
  obtain ⟨e1, e2, e3, e4, e5, e6, e7, e8⟩ := he p h0
  obtain ⟨f1, f2, f3, f4, f5, f6, f7, f8⟩ := he (p + 1) h1
  refine ⟨by rw [e1]; exact g1, by rw [e3]; exact g2, fun f hf => by rw [e3]; exact g3 f hf, fun f => by rw [e4]; exact g4 f, by rw [e5]; exact g5, by rw [f1]; exact g6, by rw [f2]; exact g7, fun r hr => ?_⟩
  obtain ⟨q1, q2⟩ := g8 r hr
  refine ⟨by rw [f8]; exact q1, KK_eq he (fun q hq => ?_) q2⟩
  have := ha (2 + 5 * r + q) (by omega)
  rw [show p + 2 + 5 * r + q = p + (2 + 5 * r + q) by omega]
  exact this
/-- a port under way: r of its ranks are made -/
def PI (h0 : am_H) (p i r : Nat) (h : am_H) : Prop := am_T h p = 11 ∧ am_I h 32 p = nI (i + 1) ∧ (∀ f, ¬ f = 32 → am_I h f p = 0) ∧ (∀ f, am_J h f p = 0) ∧ am_R h 33 p = p + 1 ∧ am_T h (p + 1) = 101 ∧ am_N h (p + 1) = 8 ∧ (∀ q, q < r → am_aR h (p + 1) q = p + 2 + 5 * q ∧ KK h (p + 2 + 5 * q)) ∧ am_Z h = p + 1 + 5 * r ∧ eqon (fun a => a < p) h0 h ∧ am_C h = am_C h0 + 1 + 5 * r ∧ am_S h = am_S h0 + 8 + 58 * r
theorem lp_P_init {d p i : Nat} {h0 : am_H} {Q : Option am_V → am_H → Prop} (hQ : ∀ h', PI h0 p i 8 h' → Q none h') : ∀ (j r : Nat) (h : am_H) (y1 : Option am_V), r + j = 8 → PI h0 p i r h → am_P (d + 1) mi_P_init 20 [some (.inr (.inr p)), y1, some (.inl (nI r))] [] h Q := by
  intro j
  induction j with
  | zero =>
    intro r h y1 hr g
    have hr : r = 8 := by omega
    subst hr
    exact bk_P_init_20 ⟨fun _ => hQ h g, fun z => absurd (Int32.le_refl 8) z⟩
  | succ j ih =>
    intro r h y1 hr g
    obtain ⟨g1, g2, g3, g4, g5, g6, g7, g8, g9, g10, g11, g12⟩ := g
    refine bk_P_init_20 ⟨fun z => absurd z (nI_ge (a := r) (b := 8) (by omega) (by omega)), fun _ => ⟨g1, fun h1 e1 => ?_⟩⟩
    have eA : eqon (fun a => a ≤ p + 1 + 5 * r) h h1 := by subst e1; exact eqon_nO (by omega)
    have hZ1 : am_Z h1 = p + 1 + 5 * r + 1 := by subst e1; show am_Z h + 1 = _; omega
    have hk : am_Z h + 1 = p + 2 + 5 * r := by omega
    rw [hk, g5, nI_clamp (by omega), nI_1]
    refine ⟨rfl, by omega, sp_K_init (by omega) (by omega) (by subst e1; rw [hp_T_nO, if_pos hk.symm]) (fun f => by subst e1; rw [hp_I_nO, hp_J_nO, if_pos hk.symm, if_pos hk.symm]; exact ⟨rfl, rfl⟩) (fun h3 k1 k2 k3 k4 k5 => ⟨rfl, ?_⟩)⟩
    have eB : eqon (fun a => a ≤ p + 1 + 5 * r) h h3 := eqon_tr eA (eqon_mono (fun a ha => by show a < p + 2 + 5 * r; have : a ≤ p + 1 + 5 * r := ha; omega) k3)
    obtain ⟨e1', e2', e3', e4', e5', e6', e7', e8'⟩ := eB p (by show p ≤ p + 1 + 5 * r; omega)
    obtain ⟨f1, f2, f3, f4, f5, f6, f7, f8⟩ := eB (p + 1) (by show p + 1 ≤ p + 1 + 5 * r; omega)
    rw [f1, f2, g6, g7]
    refine ⟨by decide, vp_in_nI (by omega) (by omega), Or.inr ⟨by rw [k1.1]; decide, by rw [k1.1]; decide⟩, fun h4 e4 => ih (r + 1) h4 _ (by omega) ?_⟩
    have hC1 : am_C h1 = am_C h + 1 := by subst e1; rfl
    have hS1 : am_S h1 = am_S h + 10 := by subst e1; rfl
    subst e4
    have eX : eqon (fun a => ¬ a = p + 1) h3 (am_xR h3 (p + 1) r (p + 2 + 5 * r)) := eqon_xR (fun z => z rfl)
    refine ⟨by show am_T h3 p = _; rw [e1']; exact g1, by show am_I h3 32 p = _; rw [e3']; exact g2, fun f hf => by show am_I h3 f p = _; rw [e3']; exact g3 f hf, fun f => by show am_J h3 f p = _; rw [e4']; exact g4 f, by show am_R h3 33 p = _; rw [e5']; exact g5, by show am_T h3 (p + 1) = _; rw [f1]; exact g6, by show am_N h3 (p + 1) = _; rw [f2]; exact g7, fun q hq => ?_, by show am_Z h3 = _; omega, eqon_tr (eqon_tr g10 (eqon_mono (fun a ha => by show a ≤ p + 1 + 5 * r; have : a < p := ha; omega) eB)) (eqon_xR (by omega)), by show am_C h3 = _; omega, by show am_S h3 = _; omega⟩
    rw [hp_aR_xR]
    by_cases hc : q = r
    · subst hc
      rw [if_pos ⟨rfl, rfl⟩]
      exact ⟨rfl, KK_eq eX (fun w hw => by omega) k1⟩
    · rw [if_neg (fun z => hc z.2), f8]
      obtain ⟨w1, w2⟩ := g8 q (by omega)
      exact ⟨w1, KK_eq eX (fun w hw => by omega) (KK_eq eB (fun w hw => by show p + 2 + 5 * q + w ≤ p + 1 + 5 * r; omega) w2)⟩
theorem sp_P_init {d p i : Nat} {h : am_H} {Q : Option am_V → am_H → Prop} (hp : am_Z h = p) (h1p : 1 ≤ p) (hT : am_T h p = 11) (hz : Zo h p) (hQ : ∀ h', PP h' p i → am_Z h' = p + 41 → eqon (fun a => a < p) h h' → am_C h' = am_C h + 41 → am_S h' = am_S h + 472 → Q none h') : am_PC (d + 2) mi_P_init [.inr (.inr p), .inl (nI (i + 1))] h Q := by
  refine bk_P_init ⟨by omega, hT, fun h1 e1 => ⟨by decide, by decide, fun h2 e2 => ?_⟩⟩
  have hZ1 : am_Z h1 = p := by subst e1; exact hp
  have n1 : ¬ p = am_Z h1 + 1 := by omega
  refine ⟨by subst e2; rw [hp_T_nA, if_neg n1]; subst e1; exact hT, fun h3 e3 => ?_⟩
  rw [hZ1] at e3
  refine lp_P_init (h0 := h) (p := p) (i := i) (fun h' g => ?_) 8 0 h3 _ rfl ?_
  · obtain ⟨g1, g2, g3, g4, g5, g6, g7, g8, g9, g10, g11, g12⟩ := g
    exact hQ h' ⟨g1, g2, g3, g4, g5, g6, g7, g8⟩ (by omega) g10 (by omega) (by omega)
  · subst e3
    subst e2
    have q1 : ¬ p = am_Z h1 + 1 := n1
    have q2 : p + 1 = am_Z h1 + 1 := by omega
    refine ⟨by rw [hp_T_sR, hp_T_nA, if_neg q1]; subst e1; exact hT, ?_, fun f hf => ?_, fun f => ?_, by rw [hp_R_sR, if_pos ⟨rfl, rfl⟩], by rw [hp_T_sR, hp_T_nA, if_pos q2], by rw [hp_N_sR, hp_N_nA, if_pos q2]; rfl, fun q hq => absurd hq (by omega), by show am_Z h1 + 1 = _; omega, ?_, ?_, ?_⟩
    · rw [hp_I_sR, hp_I_nA]; subst e1; rw [hp_I_sI, if_pos ⟨rfl, rfl⟩]
    · rw [hp_I_sR, hp_I_nA]; subst e1; rw [hp_I_sI, if_neg (fun z => hf z.1)]; exact (hz f).1
    · rw [hp_J_sR, hp_J_nA]; subst e1; exact (hz f).2
    · refine eqon_tr (eqon_tr (h2 := h1) ?_ (eqon_nA (by omega))) (eqon_sR (by omega))
      subst e1; exact eqon_sI (by omega)
    · subst e1; rfl
    · subst e1; rfl
