/-! THE STATE, as whole numbers: sg k j. k = 0: j 0 the time, 1 the cycle, 2 the frames, 3 all that left, 4 those told. k from 1 on: the reference's arrays, in the order in which it makes them: 1 speed, 2 offset, 3 sends, 4 sentRank, 5 began, 6 ends, 7 size, 8 queue, 9 windows, 10 from, 11 to, 12 up, 13 down, 14 credit, 15 length, 16 place, 17 since, 18 rate, 19 thousand, 20 taken, 21 offered, 22 until, 23 left, 24 dropped -/
abbrev sg : Type := Nat → Nat → Int
/-- equal on the cells of S -/
def eqon (S : Nat → Prop) (h h' : am_H) : Prop := ∀ a, S a → am_T h' a = am_T h a ∧ am_N h' a = am_N h a ∧ (∀ f, am_I h' f a = am_I h f a) ∧ (∀ f, am_J h' f a = am_J h f a) ∧ (∀ f, am_R h' f a = am_R h f a) ∧ (∀ j, am_aI h' a j = am_aI h a j) ∧ (∀ j, am_aJ h' a j = am_aJ h a j) ∧ (∀ j, am_aR h' a j = am_aR h a j)
theorem eqon_rf (S : Nat → Prop) (h : am_H) : eqon S h h := fun _ _ => ⟨rfl, rfl, fun _ => rfl, fun _ => rfl, fun _ => rfl, fun _ => rfl, fun _ => rfl, fun _ => rfl⟩
theorem eqon_tr {S : Nat → Prop} {h1 h2 h3 : am_H} (a : eqon S h1 h2) (b : eqon S h2 h3) : eqon S h1 h3 := fun q hq => by
  obtain ⟨a1, a2, a3, a4, a5, a6, a7, a8⟩ := a q hq
  obtain ⟨b1, b2, b3, b4, b5, b6, b7, b8⟩ := b q hq
  exact ⟨b1.trans a1, b2.trans a2, fun f => (b3 f).trans (a3 f), fun f => (b4 f).trans (a4 f), fun f => (b5 f).trans (a5 f), fun f => (b6 f).trans (a6 f), fun f => (b7 f).trans (a7 f), fun f => (b8 f).trans (a8 f)⟩
theorem eqon_mono {S S' : Nat → Prop} {h h' : am_H} (hs : ∀ a, S' a → S a) (a : eqon S h h') : eqon S' h h' := fun q hq => a q (hs q hq)
theorem eqon_sI {S : Nat → Prop} {h : am_H} {f a : Nat} {v : Int32} (ha : ¬ S a) : eqon S h (am_sI h f a v) := fun q hq => ⟨rfl, rfl, fun g => by rw [hp_I_sI, if_neg]; rintro ⟨-, rfl⟩; exact ha hq, fun _ => rfl, fun _ => rfl, fun _ => rfl, fun _ => rfl, fun _ => rfl⟩
theorem eqon_sJ {S : Nat → Prop} {h : am_H} {f a : Nat} {v : Int64} (ha : ¬ S a) : eqon S h (am_sJ h f a v) := fun q hq => ⟨rfl, rfl, fun _ => rfl, fun g => by rw [hp_J_sJ, if_neg]; rintro ⟨-, rfl⟩; exact ha hq, fun _ => rfl, fun _ => rfl, fun _ => rfl, fun _ => rfl⟩
theorem eqon_sR {S : Nat → Prop} {h : am_H} {f a v : Nat} (ha : ¬ S a) : eqon S h (am_sR h f a v) := fun q hq => ⟨rfl, rfl, fun _ => rfl, fun _ => rfl, fun g => by rw [hp_R_sR, if_neg]; rintro ⟨-, rfl⟩; exact ha hq, fun _ => rfl, fun _ => rfl, fun _ => rfl⟩
theorem eqon_xI {S : Nat → Prop} {h : am_H} {a j : Nat} {v : Int32} (ha : ¬ S a) : eqon S h (am_xI h a j v) := fun q hq => ⟨rfl, rfl, fun _ => rfl, fun _ => rfl, fun _ => rfl, fun g => by rw [hp_aI_xI, if_neg]; rintro ⟨rfl, -⟩; exact ha hq, fun _ => rfl, fun _ => rfl⟩
theorem eqon_xJ {S : Nat → Prop} {h : am_H} {a j : Nat} {v : Int64} (ha : ¬ S a) : eqon S h (am_xJ h a j v) := fun q hq => ⟨rfl, rfl, fun _ => rfl, fun _ => rfl, fun _ => rfl, fun _ => rfl, fun g => by rw [hp_aJ_xJ, if_neg]; rintro ⟨rfl, -⟩; exact ha hq, fun _ => rfl⟩
theorem eqon_xR {S : Nat → Prop} {h : am_H} {a j v : Nat} (ha : ¬ S a) : eqon S h (am_xR h a j v) := fun q hq => ⟨rfl, rfl, fun _ => rfl, fun _ => rfl, fun _ => rfl, fun _ => rfl, fun _ => rfl, fun g => by rw [hp_aR_xR, if_neg]; rintro ⟨rfl, -⟩; exact ha hq⟩
theorem eqon_nO {S : Nat → Prop} {h : am_H} {c n : Nat} (ha : ¬ S (am_Z h + 1)) : eqon S h (am_nO h c n) := fun q hq => by
  have hne : ¬ q = am_Z h + 1 := fun z => ha (z ▸ hq)
  exact ⟨by rw [hp_T_nO, if_neg hne], rfl, fun g => by rw [hp_I_nO, if_neg hne], fun g => by rw [hp_J_nO, if_neg hne], fun g => by rw [hp_R_nO, if_neg hne], fun _ => rfl, fun _ => rfl, fun _ => rfl⟩
theorem eqon_nA {S : Nat → Prop} {h : am_H} {c n : Nat} (ha : ¬ S (am_Z h + 1)) : eqon S h (am_nA h c n) := fun q hq => by
  have hne : ¬ q = am_Z h + 1 := fun z => ha (z ▸ hq)
  exact ⟨by rw [hp_T_nA, if_neg hne], by rw [hp_N_nA, if_neg hne], fun _ => rfl, fun _ => rfl, fun _ => rfl, fun g => by rw [hp_aI_nA, if_neg hne], fun g => by rw [hp_aJ_nA, if_neg hne], fun g => by rw [hp_aR_nA, if_neg hne]⟩
/-! THE REFERENCE: its object m, its arrays behind it -/
def fM (k : Nat) : Nat := if k ≤ 14 then 227 + k else if k ≤ 22 then 228 + k else 230 + k
def tM (k : Nat) : Nat := [0, 2, 2, 1, 1, 2, 2, 1, 1, 1, 2, 2, 2, 2, 2, 1, 1, 2, 2, 2, 1, 1, 2, 1, 1].getD k 0
def nM (k : Nat) : Nat := [0, 17, 17, 17, 17, 17, 17, 136, 2176, 136, 1088, 1088, 136, 136, 136, 5001, 1001, 1001, 8008, 8008, 8008, 101, 101, 20000, 4].getD k 0
def RM (h : am_H) (m n : Nat) (σ : sg) : Prop := (1 ≤ n ∧ n ≤ 16) ∧ am_T h m = 17 ∧ am_I h 225 m = nI n ∧ (∀ k, 1 ≤ k → k ≤ 24 → am_R h (fM k) m = m + k ∧ am_T h (m + k) = tM k ∧ am_N h (m + k) = nM k ∧ (tM k = 1 → ∀ j, am_aI h (m + k) j = iI (σ k j)) ∧ (tM k = 2 → ∀ j, am_aJ h (m + k) j = jJ (σ k j))) ∧
  am_J h 227 m = jJ (σ 0 0) ∧ am_J h 226 m = jJ (σ 0 1) ∧ am_I h 242 m = iI (σ 0 2) ∧ am_I h 251 m = iI (σ 0 3) ∧ am_I h 252 m = iI (σ 0 4)
/-- its cells -/
def CM (m : Nat) (a : Nat) : Prop := m ≤ a ∧ a ≤ m + 24
theorem RM_eqon {h h' : am_H} {m n : Nat} {σ : sg} (hM : RM h m n σ) (he : eqon (CM m) h h') : RM h' m n σ := by
  obtain ⟨hn, hT, hP, hA, s1, s2, s3, s4, s5⟩ := hM
  obtain ⟨e1, e2, e3, e4, e5, e6, e7, e8⟩ := he m ⟨Nat.le_refl _, by omega⟩
  refine ⟨hn, by rw [e1]; exact hT, by rw [e3]; exact hP, fun k k1 k2 => ?_, by rw [e4]; exact s1, by rw [e4]; exact s2, by rw [e3]; exact s3, by rw [e3]; exact s4, by rw [e3]; exact s5⟩
  obtain ⟨a1, a2, a3, a4, a5⟩ := hA k k1 k2
  obtain ⟨g1, g2, g3, g4, g5, g6, g7, g8⟩ := he (m + k) ⟨by omega, by omega⟩
  exact ⟨by rw [e5]; exact a1, by rw [g1]; exact a2, by rw [g2]; exact a3, fun t j => by rw [g6]; exact a4 t j, fun t j => by rw [g7]; exact a5 t j⟩
/-- a place of one of its arrays is written -/
theorem RM_xI {h : am_H} {m n k j : Nat} {σ : sg} {v : Int} (hM : RM h m n σ) (hk : 1 ≤ k ∧ k ≤ 24) (ht : tM k = 1) : RM (am_xI h (m + k) j (iI v)) m n (am_u2 σ k j v) := by
  obtain ⟨hn, hT, hP, hA, s1, s2, s3, s4, s5⟩ := hM
  have hz : ∀ j', am_u2 σ k j v 0 j' = σ 0 j' := fun j' => by rw [am_u2, if_neg (fun q => by omega)]
  refine ⟨hn, hT, hP, fun k' k1 k2 => ?_, by rw [hz]; exact s1, by rw [hz]; exact s2, by rw [hz]; exact s3, by rw [hz]; exact s4, by rw [hz]; exact s5⟩
  obtain ⟨a1, a2, a3, a4, a5⟩ := hA k' k1 k2
  refine ⟨a1, a2, a3, fun t j' => ?_, fun t j' => ?_⟩
  · rw [hp_aI_xI, am_u2]
    by_cases hq : k' = k ∧ j' = j
    · rw [if_pos hq, if_pos ⟨by omega, hq.2⟩]
    · rw [if_neg hq, if_neg (fun z => hq ⟨by omega, z.2⟩)]
      exact a4 t j'
  · rw [hp_aJ_xI, am_u2, if_neg (fun q => by rw [q.1, ht] at t; cases t)]
    exact a5 t j'
theorem RM_xJ {h : am_H} {m n k j : Nat} {σ : sg} {v : Int} (hM : RM h m n σ) (hk : 1 ≤ k ∧ k ≤ 24) (ht : tM k = 2) : RM (am_xJ h (m + k) j (jJ v)) m n (am_u2 σ k j v) := by
  obtain ⟨hn, hT, hP, hA, s1, s2, s3, s4, s5⟩ := hM
  have hz : ∀ j', am_u2 σ k j v 0 j' = σ 0 j' := fun j' => by rw [am_u2, if_neg (fun q => by omega)]
  refine ⟨hn, hT, hP, fun k' k1 k2 => ?_, by rw [hz]; exact s1, by rw [hz]; exact s2, by rw [hz]; exact s3, by rw [hz]; exact s4, by rw [hz]; exact s5⟩
  obtain ⟨a1, a2, a3, a4, a5⟩ := hA k' k1 k2
  refine ⟨a1, a2, a3, fun t j' => ?_, fun t j' => ?_⟩
  · rw [hp_aI_xJ, am_u2, if_neg (fun q => by rw [q.1, ht] at t; cases t)]
    exact a4 t j'
  · rw [hp_aJ_xJ, am_u2]
    by_cases hq : k' = k ∧ j' = j
    · rw [if_pos hq, if_pos ⟨by omega, hq.2⟩]
    · rw [if_neg hq, if_neg (fun z => hq ⟨by omega, z.2⟩)]
      exact a5 t j'
theorem RM_u0 {σ : sg} {j : Nat} {v : Int} {k : Nat} (hk : 1 ≤ k) (j' : Nat) : am_u2 σ 0 j v k j' = σ k j' := by rw [am_u2, if_neg (fun q => by omega)]
theorem RM_code {h : am_H} {m n : Nat} {σ : sg} {v : Int32} (hM : RM h m n σ) : RM (am_sI h 224 m v) m n σ := by
  obtain ⟨hn, hT, hP, hA, s1, s2, s3, s4, s5⟩ := hM
  exact ⟨hn, hT, hP, hA, s1, s2, s3, s4, s5⟩
theorem RM_now {h : am_H} {m n : Nat} {σ : sg} {v : Int} (hM : RM h m n σ) : RM (am_sJ h 227 m (jJ v)) m n (am_u2 σ 0 0 v) := by
  obtain ⟨hn, hT, hP, hA, s1, s2, s3, s4, s5⟩ := hM
  exact ⟨hn, hT, hP, fun k k1 k2 => by simp only [RM_u0 k1]; exact hA k k1 k2, by simp [hp_J_sJ, am_u2], s2, s3, s4, s5⟩
theorem RM_cyc {h : am_H} {m n : Nat} {σ : sg} {v : Int} (hM : RM h m n σ) : RM (am_sJ h 226 m (jJ v)) m n (am_u2 σ 0 1 v) := by
  obtain ⟨hn, hT, hP, hA, s1, s2, s3, s4, s5⟩ := hM
  exact ⟨hn, hT, hP, fun k k1 k2 => by simp only [RM_u0 k1]; exact hA k k1 k2, s1, by simp [hp_J_sJ, am_u2], s3, s4, s5⟩
theorem RM_frames {h : am_H} {m n : Nat} {σ : sg} {v : Int} (hM : RM h m n σ) : RM (am_sI h 242 m (iI v)) m n (am_u2 σ 0 2 v) := by
  obtain ⟨hn, hT, hP, hA, s1, s2, s3, s4, s5⟩ := hM
  exact ⟨hn, hT, hP, fun k k1 k2 => by simp only [RM_u0 k1]; exact hA k k1 k2, s1, s2, by simp [hp_I_sI, am_u2], s4, s5⟩
theorem RM_all {h : am_H} {m n : Nat} {σ : sg} {v : Int} (hM : RM h m n σ) : RM (am_sI h 251 m (iI v)) m n (am_u2 σ 0 3 v) := by
  obtain ⟨hn, hT, hP, hA, s1, s2, s3, s4, s5⟩ := hM
  exact ⟨hn, hT, hP, fun k k1 k2 => by simp only [RM_u0 k1]; exact hA k k1 k2, s1, s2, s3, by simp [hp_I_sI, am_u2], s5⟩
theorem RM_kept {h : am_H} {m n : Nat} {σ : sg} {v : Int} (hM : RM h m n σ) : RM (am_sI h 252 m (iI v)) m n (am_u2 σ 0 4 v) := by
  obtain ⟨hn, hT, hP, hA, s1, s2, s3, s4, s5⟩ := hM
  exact ⟨hn, hT, hP, fun k k1 k2 => by simp only [RM_u0 k1]; exact hA k k1 k2, s1, s2, s3, s4, by simp [hp_I_sI, am_u2]⟩
theorem RM_T {h : am_H} {m n : Nat} {σ : sg} (hM : RM h m n σ) : am_T h m = 17 := hM.2.1
theorem RM_n {h : am_H} {m n : Nat} {σ : sg} (hM : RM h m n σ) : am_I h 225 m = nI n := hM.2.2.1
theorem RM_J227 {h : am_H} {m n : Nat} {σ : sg} (hM : RM h m n σ) : am_J h 227 m = jJ (σ 0 0) := hM.2.2.2.2.1
theorem RM_J226 {h : am_H} {m n : Nat} {σ : sg} (hM : RM h m n σ) : am_J h 226 m = jJ (σ 0 1) := hM.2.2.2.2.2.1
theorem RM_I242 {h : am_H} {m n : Nat} {σ : sg} (hM : RM h m n σ) : am_I h 242 m = iI (σ 0 2) := hM.2.2.2.2.2.2.1
theorem RM_I251 {h : am_H} {m n : Nat} {σ : sg} (hM : RM h m n σ) : am_I h 251 m = iI (σ 0 3) := hM.2.2.2.2.2.2.2.1
theorem RM_I252 {h : am_H} {m n : Nat} {σ : sg} (hM : RM h m n σ) : am_I h 252 m = iI (σ 0 4) := hM.2.2.2.2.2.2.2.2
theorem RM_R228 {h : am_H} {m n : Nat} {σ : sg} (hM : RM h m n σ) : am_R h 228 m = m + 1 := (hM.2.2.2.1 1 (by decide) (by decide)).1
theorem RM_T1 {h : am_H} {m n : Nat} {σ : sg} (hM : RM h m n σ) : am_T h (m + 1) = 2 := (hM.2.2.2.1 1 (by decide) (by decide)).2.1
theorem RM_N1 {h : am_H} {m n : Nat} {σ : sg} (hM : RM h m n σ) : am_N h (m + 1) = 17 := (hM.2.2.2.1 1 (by decide) (by decide)).2.2.1
theorem RM_a1 {h : am_H} {m n : Nat} {σ : sg} (hM : RM h m n σ) (j : Nat) : am_aJ h (m + 1) j = jJ (σ 1 j) := (hM.2.2.2.1 1 (by decide) (by decide)).2.2.2.2 rfl j
theorem RM_R229 {h : am_H} {m n : Nat} {σ : sg} (hM : RM h m n σ) : am_R h 229 m = m + 2 := (hM.2.2.2.1 2 (by decide) (by decide)).1
theorem RM_T2 {h : am_H} {m n : Nat} {σ : sg} (hM : RM h m n σ) : am_T h (m + 2) = 2 := (hM.2.2.2.1 2 (by decide) (by decide)).2.1
theorem RM_N2 {h : am_H} {m n : Nat} {σ : sg} (hM : RM h m n σ) : am_N h (m + 2) = 17 := (hM.2.2.2.1 2 (by decide) (by decide)).2.2.1
theorem RM_a2 {h : am_H} {m n : Nat} {σ : sg} (hM : RM h m n σ) (j : Nat) : am_aJ h (m + 2) j = jJ (σ 2 j) := (hM.2.2.2.1 2 (by decide) (by decide)).2.2.2.2 rfl j
theorem RM_R230 {h : am_H} {m n : Nat} {σ : sg} (hM : RM h m n σ) : am_R h 230 m = m + 3 := (hM.2.2.2.1 3 (by decide) (by decide)).1
theorem RM_T3 {h : am_H} {m n : Nat} {σ : sg} (hM : RM h m n σ) : am_T h (m + 3) = 1 := (hM.2.2.2.1 3 (by decide) (by decide)).2.1
theorem RM_N3 {h : am_H} {m n : Nat} {σ : sg} (hM : RM h m n σ) : am_N h (m + 3) = 17 := (hM.2.2.2.1 3 (by decide) (by decide)).2.2.1
theorem RM_a3 {h : am_H} {m n : Nat} {σ : sg} (hM : RM h m n σ) (j : Nat) : am_aI h (m + 3) j = iI (σ 3 j) := (hM.2.2.2.1 3 (by decide) (by decide)).2.2.2.1 rfl j
theorem RM_R231 {h : am_H} {m n : Nat} {σ : sg} (hM : RM h m n σ) : am_R h 231 m = m + 4 := (hM.2.2.2.1 4 (by decide) (by decide)).1
theorem RM_T4 {h : am_H} {m n : Nat} {σ : sg} (hM : RM h m n σ) : am_T h (m + 4) = 1 := (hM.2.2.2.1 4 (by decide) (by decide)).2.1
theorem RM_N4 {h : am_H} {m n : Nat} {σ : sg} (hM : RM h m n σ) : am_N h (m + 4) = 17 := (hM.2.2.2.1 4 (by decide) (by decide)).2.2.1
theorem RM_a4 {h : am_H} {m n : Nat} {σ : sg} (hM : RM h m n σ) (j : Nat) : am_aI h (m + 4) j = iI (σ 4 j) := (hM.2.2.2.1 4 (by decide) (by decide)).2.2.2.1 rfl j
theorem RM_R232 {h : am_H} {m n : Nat} {σ : sg} (hM : RM h m n σ) : am_R h 232 m = m + 5 := (hM.2.2.2.1 5 (by decide) (by decide)).1
theorem RM_T5 {h : am_H} {m n : Nat} {σ : sg} (hM : RM h m n σ) : am_T h (m + 5) = 2 := (hM.2.2.2.1 5 (by decide) (by decide)).2.1
theorem RM_N5 {h : am_H} {m n : Nat} {σ : sg} (hM : RM h m n σ) : am_N h (m + 5) = 17 := (hM.2.2.2.1 5 (by decide) (by decide)).2.2.1
theorem RM_a5 {h : am_H} {m n : Nat} {σ : sg} (hM : RM h m n σ) (j : Nat) : am_aJ h (m + 5) j = jJ (σ 5 j) := (hM.2.2.2.1 5 (by decide) (by decide)).2.2.2.2 rfl j
theorem RM_R233 {h : am_H} {m n : Nat} {σ : sg} (hM : RM h m n σ) : am_R h 233 m = m + 6 := (hM.2.2.2.1 6 (by decide) (by decide)).1
theorem RM_T6 {h : am_H} {m n : Nat} {σ : sg} (hM : RM h m n σ) : am_T h (m + 6) = 2 := (hM.2.2.2.1 6 (by decide) (by decide)).2.1
theorem RM_N6 {h : am_H} {m n : Nat} {σ : sg} (hM : RM h m n σ) : am_N h (m + 6) = 17 := (hM.2.2.2.1 6 (by decide) (by decide)).2.2.1
theorem RM_a6 {h : am_H} {m n : Nat} {σ : sg} (hM : RM h m n σ) (j : Nat) : am_aJ h (m + 6) j = jJ (σ 6 j) := (hM.2.2.2.1 6 (by decide) (by decide)).2.2.2.2 rfl j
theorem RM_R234 {h : am_H} {m n : Nat} {σ : sg} (hM : RM h m n σ) : am_R h 234 m = m + 7 := (hM.2.2.2.1 7 (by decide) (by decide)).1
theorem RM_T7 {h : am_H} {m n : Nat} {σ : sg} (hM : RM h m n σ) : am_T h (m + 7) = 1 := (hM.2.2.2.1 7 (by decide) (by decide)).2.1
theorem RM_N7 {h : am_H} {m n : Nat} {σ : sg} (hM : RM h m n σ) : am_N h (m + 7) = 136 := (hM.2.2.2.1 7 (by decide) (by decide)).2.2.1
theorem RM_a7 {h : am_H} {m n : Nat} {σ : sg} (hM : RM h m n σ) (j : Nat) : am_aI h (m + 7) j = iI (σ 7 j) := (hM.2.2.2.1 7 (by decide) (by decide)).2.2.2.1 rfl j
theorem RM_R235 {h : am_H} {m n : Nat} {σ : sg} (hM : RM h m n σ) : am_R h 235 m = m + 8 := (hM.2.2.2.1 8 (by decide) (by decide)).1
theorem RM_T8 {h : am_H} {m n : Nat} {σ : sg} (hM : RM h m n σ) : am_T h (m + 8) = 1 := (hM.2.2.2.1 8 (by decide) (by decide)).2.1
theorem RM_N8 {h : am_H} {m n : Nat} {σ : sg} (hM : RM h m n σ) : am_N h (m + 8) = 2176 := (hM.2.2.2.1 8 (by decide) (by decide)).2.2.1
theorem RM_a8 {h : am_H} {m n : Nat} {σ : sg} (hM : RM h m n σ) (j : Nat) : am_aI h (m + 8) j = iI (σ 8 j) := (hM.2.2.2.1 8 (by decide) (by decide)).2.2.2.1 rfl j
theorem RM_R236 {h : am_H} {m n : Nat} {σ : sg} (hM : RM h m n σ) : am_R h 236 m = m + 9 := (hM.2.2.2.1 9 (by decide) (by decide)).1
theorem RM_T9 {h : am_H} {m n : Nat} {σ : sg} (hM : RM h m n σ) : am_T h (m + 9) = 1 := (hM.2.2.2.1 9 (by decide) (by decide)).2.1
theorem RM_N9 {h : am_H} {m n : Nat} {σ : sg} (hM : RM h m n σ) : am_N h (m + 9) = 136 := (hM.2.2.2.1 9 (by decide) (by decide)).2.2.1
theorem RM_a9 {h : am_H} {m n : Nat} {σ : sg} (hM : RM h m n σ) (j : Nat) : am_aI h (m + 9) j = iI (σ 9 j) := (hM.2.2.2.1 9 (by decide) (by decide)).2.2.2.1 rfl j
theorem RM_R237 {h : am_H} {m n : Nat} {σ : sg} (hM : RM h m n σ) : am_R h 237 m = m + 10 := (hM.2.2.2.1 10 (by decide) (by decide)).1
theorem RM_T10 {h : am_H} {m n : Nat} {σ : sg} (hM : RM h m n σ) : am_T h (m + 10) = 2 := (hM.2.2.2.1 10 (by decide) (by decide)).2.1
theorem RM_N10 {h : am_H} {m n : Nat} {σ : sg} (hM : RM h m n σ) : am_N h (m + 10) = 1088 := (hM.2.2.2.1 10 (by decide) (by decide)).2.2.1
theorem RM_a10 {h : am_H} {m n : Nat} {σ : sg} (hM : RM h m n σ) (j : Nat) : am_aJ h (m + 10) j = jJ (σ 10 j) := (hM.2.2.2.1 10 (by decide) (by decide)).2.2.2.2 rfl j
theorem RM_R238 {h : am_H} {m n : Nat} {σ : sg} (hM : RM h m n σ) : am_R h 238 m = m + 11 := (hM.2.2.2.1 11 (by decide) (by decide)).1
theorem RM_T11 {h : am_H} {m n : Nat} {σ : sg} (hM : RM h m n σ) : am_T h (m + 11) = 2 := (hM.2.2.2.1 11 (by decide) (by decide)).2.1
theorem RM_N11 {h : am_H} {m n : Nat} {σ : sg} (hM : RM h m n σ) : am_N h (m + 11) = 1088 := (hM.2.2.2.1 11 (by decide) (by decide)).2.2.1
theorem RM_a11 {h : am_H} {m n : Nat} {σ : sg} (hM : RM h m n σ) (j : Nat) : am_aJ h (m + 11) j = jJ (σ 11 j) := (hM.2.2.2.1 11 (by decide) (by decide)).2.2.2.2 rfl j
theorem RM_R239 {h : am_H} {m n : Nat} {σ : sg} (hM : RM h m n σ) : am_R h 239 m = m + 12 := (hM.2.2.2.1 12 (by decide) (by decide)).1
theorem RM_T12 {h : am_H} {m n : Nat} {σ : sg} (hM : RM h m n σ) : am_T h (m + 12) = 2 := (hM.2.2.2.1 12 (by decide) (by decide)).2.1
theorem RM_N12 {h : am_H} {m n : Nat} {σ : sg} (hM : RM h m n σ) : am_N h (m + 12) = 136 := (hM.2.2.2.1 12 (by decide) (by decide)).2.2.1
theorem RM_a12 {h : am_H} {m n : Nat} {σ : sg} (hM : RM h m n σ) (j : Nat) : am_aJ h (m + 12) j = jJ (σ 12 j) := (hM.2.2.2.1 12 (by decide) (by decide)).2.2.2.2 rfl j
theorem RM_R240 {h : am_H} {m n : Nat} {σ : sg} (hM : RM h m n σ) : am_R h 240 m = m + 13 := (hM.2.2.2.1 13 (by decide) (by decide)).1
theorem RM_T13 {h : am_H} {m n : Nat} {σ : sg} (hM : RM h m n σ) : am_T h (m + 13) = 2 := (hM.2.2.2.1 13 (by decide) (by decide)).2.1
theorem RM_N13 {h : am_H} {m n : Nat} {σ : sg} (hM : RM h m n σ) : am_N h (m + 13) = 136 := (hM.2.2.2.1 13 (by decide) (by decide)).2.2.1
theorem RM_a13 {h : am_H} {m n : Nat} {σ : sg} (hM : RM h m n σ) (j : Nat) : am_aJ h (m + 13) j = jJ (σ 13 j) := (hM.2.2.2.1 13 (by decide) (by decide)).2.2.2.2 rfl j
theorem RM_R241 {h : am_H} {m n : Nat} {σ : sg} (hM : RM h m n σ) : am_R h 241 m = m + 14 := (hM.2.2.2.1 14 (by decide) (by decide)).1
theorem RM_T14 {h : am_H} {m n : Nat} {σ : sg} (hM : RM h m n σ) : am_T h (m + 14) = 2 := (hM.2.2.2.1 14 (by decide) (by decide)).2.1
theorem RM_N14 {h : am_H} {m n : Nat} {σ : sg} (hM : RM h m n σ) : am_N h (m + 14) = 136 := (hM.2.2.2.1 14 (by decide) (by decide)).2.2.1
theorem RM_a14 {h : am_H} {m n : Nat} {σ : sg} (hM : RM h m n σ) (j : Nat) : am_aJ h (m + 14) j = jJ (σ 14 j) := (hM.2.2.2.1 14 (by decide) (by decide)).2.2.2.2 rfl j
theorem RM_R243 {h : am_H} {m n : Nat} {σ : sg} (hM : RM h m n σ) : am_R h 243 m = m + 15 := (hM.2.2.2.1 15 (by decide) (by decide)).1
theorem RM_T15 {h : am_H} {m n : Nat} {σ : sg} (hM : RM h m n σ) : am_T h (m + 15) = 1 := (hM.2.2.2.1 15 (by decide) (by decide)).2.1
theorem RM_N15 {h : am_H} {m n : Nat} {σ : sg} (hM : RM h m n σ) : am_N h (m + 15) = 5001 := (hM.2.2.2.1 15 (by decide) (by decide)).2.2.1
theorem RM_a15 {h : am_H} {m n : Nat} {σ : sg} (hM : RM h m n σ) (j : Nat) : am_aI h (m + 15) j = iI (σ 15 j) := (hM.2.2.2.1 15 (by decide) (by decide)).2.2.2.1 rfl j
theorem RM_R244 {h : am_H} {m n : Nat} {σ : sg} (hM : RM h m n σ) : am_R h 244 m = m + 16 := (hM.2.2.2.1 16 (by decide) (by decide)).1
theorem RM_T16 {h : am_H} {m n : Nat} {σ : sg} (hM : RM h m n σ) : am_T h (m + 16) = 1 := (hM.2.2.2.1 16 (by decide) (by decide)).2.1
theorem RM_N16 {h : am_H} {m n : Nat} {σ : sg} (hM : RM h m n σ) : am_N h (m + 16) = 1001 := (hM.2.2.2.1 16 (by decide) (by decide)).2.2.1
theorem RM_a16 {h : am_H} {m n : Nat} {σ : sg} (hM : RM h m n σ) (j : Nat) : am_aI h (m + 16) j = iI (σ 16 j) := (hM.2.2.2.1 16 (by decide) (by decide)).2.2.2.1 rfl j
theorem RM_R245 {h : am_H} {m n : Nat} {σ : sg} (hM : RM h m n σ) : am_R h 245 m = m + 17 := (hM.2.2.2.1 17 (by decide) (by decide)).1
theorem RM_T17 {h : am_H} {m n : Nat} {σ : sg} (hM : RM h m n σ) : am_T h (m + 17) = 2 := (hM.2.2.2.1 17 (by decide) (by decide)).2.1
theorem RM_N17 {h : am_H} {m n : Nat} {σ : sg} (hM : RM h m n σ) : am_N h (m + 17) = 1001 := (hM.2.2.2.1 17 (by decide) (by decide)).2.2.1
theorem RM_a17 {h : am_H} {m n : Nat} {σ : sg} (hM : RM h m n σ) (j : Nat) : am_aJ h (m + 17) j = jJ (σ 17 j) := (hM.2.2.2.1 17 (by decide) (by decide)).2.2.2.2 rfl j
theorem RM_R246 {h : am_H} {m n : Nat} {σ : sg} (hM : RM h m n σ) : am_R h 246 m = m + 18 := (hM.2.2.2.1 18 (by decide) (by decide)).1
theorem RM_T18 {h : am_H} {m n : Nat} {σ : sg} (hM : RM h m n σ) : am_T h (m + 18) = 2 := (hM.2.2.2.1 18 (by decide) (by decide)).2.1
theorem RM_N18 {h : am_H} {m n : Nat} {σ : sg} (hM : RM h m n σ) : am_N h (m + 18) = 8008 := (hM.2.2.2.1 18 (by decide) (by decide)).2.2.1
theorem RM_a18 {h : am_H} {m n : Nat} {σ : sg} (hM : RM h m n σ) (j : Nat) : am_aJ h (m + 18) j = jJ (σ 18 j) := (hM.2.2.2.1 18 (by decide) (by decide)).2.2.2.2 rfl j
theorem RM_R247 {h : am_H} {m n : Nat} {σ : sg} (hM : RM h m n σ) : am_R h 247 m = m + 19 := (hM.2.2.2.1 19 (by decide) (by decide)).1
theorem RM_T19 {h : am_H} {m n : Nat} {σ : sg} (hM : RM h m n σ) : am_T h (m + 19) = 2 := (hM.2.2.2.1 19 (by decide) (by decide)).2.1
theorem RM_N19 {h : am_H} {m n : Nat} {σ : sg} (hM : RM h m n σ) : am_N h (m + 19) = 8008 := (hM.2.2.2.1 19 (by decide) (by decide)).2.2.1
theorem RM_a19 {h : am_H} {m n : Nat} {σ : sg} (hM : RM h m n σ) (j : Nat) : am_aJ h (m + 19) j = jJ (σ 19 j) := (hM.2.2.2.1 19 (by decide) (by decide)).2.2.2.2 rfl j
theorem RM_R248 {h : am_H} {m n : Nat} {σ : sg} (hM : RM h m n σ) : am_R h 248 m = m + 20 := (hM.2.2.2.1 20 (by decide) (by decide)).1
theorem RM_T20 {h : am_H} {m n : Nat} {σ : sg} (hM : RM h m n σ) : am_T h (m + 20) = 1 := (hM.2.2.2.1 20 (by decide) (by decide)).2.1
theorem RM_N20 {h : am_H} {m n : Nat} {σ : sg} (hM : RM h m n σ) : am_N h (m + 20) = 8008 := (hM.2.2.2.1 20 (by decide) (by decide)).2.2.1
theorem RM_a20 {h : am_H} {m n : Nat} {σ : sg} (hM : RM h m n σ) (j : Nat) : am_aI h (m + 20) j = iI (σ 20 j) := (hM.2.2.2.1 20 (by decide) (by decide)).2.2.2.1 rfl j
theorem RM_R249 {h : am_H} {m n : Nat} {σ : sg} (hM : RM h m n σ) : am_R h 249 m = m + 21 := (hM.2.2.2.1 21 (by decide) (by decide)).1
theorem RM_T21 {h : am_H} {m n : Nat} {σ : sg} (hM : RM h m n σ) : am_T h (m + 21) = 1 := (hM.2.2.2.1 21 (by decide) (by decide)).2.1
theorem RM_N21 {h : am_H} {m n : Nat} {σ : sg} (hM : RM h m n σ) : am_N h (m + 21) = 101 := (hM.2.2.2.1 21 (by decide) (by decide)).2.2.1
theorem RM_a21 {h : am_H} {m n : Nat} {σ : sg} (hM : RM h m n σ) (j : Nat) : am_aI h (m + 21) j = iI (σ 21 j) := (hM.2.2.2.1 21 (by decide) (by decide)).2.2.2.1 rfl j
theorem RM_R250 {h : am_H} {m n : Nat} {σ : sg} (hM : RM h m n σ) : am_R h 250 m = m + 22 := (hM.2.2.2.1 22 (by decide) (by decide)).1
theorem RM_T22 {h : am_H} {m n : Nat} {σ : sg} (hM : RM h m n σ) : am_T h (m + 22) = 2 := (hM.2.2.2.1 22 (by decide) (by decide)).2.1
theorem RM_N22 {h : am_H} {m n : Nat} {σ : sg} (hM : RM h m n σ) : am_N h (m + 22) = 101 := (hM.2.2.2.1 22 (by decide) (by decide)).2.2.1
theorem RM_a22 {h : am_H} {m n : Nat} {σ : sg} (hM : RM h m n σ) (j : Nat) : am_aJ h (m + 22) j = jJ (σ 22 j) := (hM.2.2.2.1 22 (by decide) (by decide)).2.2.2.2 rfl j
theorem RM_R253 {h : am_H} {m n : Nat} {σ : sg} (hM : RM h m n σ) : am_R h 253 m = m + 23 := (hM.2.2.2.1 23 (by decide) (by decide)).1
theorem RM_T23 {h : am_H} {m n : Nat} {σ : sg} (hM : RM h m n σ) : am_T h (m + 23) = 1 := (hM.2.2.2.1 23 (by decide) (by decide)).2.1
theorem RM_N23 {h : am_H} {m n : Nat} {σ : sg} (hM : RM h m n σ) : am_N h (m + 23) = 20000 := (hM.2.2.2.1 23 (by decide) (by decide)).2.2.1
theorem RM_a23 {h : am_H} {m n : Nat} {σ : sg} (hM : RM h m n σ) (j : Nat) : am_aI h (m + 23) j = iI (σ 23 j) := (hM.2.2.2.1 23 (by decide) (by decide)).2.2.2.1 rfl j
theorem RM_R254 {h : am_H} {m n : Nat} {σ : sg} (hM : RM h m n σ) : am_R h 254 m = m + 24 := (hM.2.2.2.1 24 (by decide) (by decide)).1
theorem RM_T24 {h : am_H} {m n : Nat} {σ : sg} (hM : RM h m n σ) : am_T h (m + 24) = 1 := (hM.2.2.2.1 24 (by decide) (by decide)).2.1
theorem RM_N24 {h : am_H} {m n : Nat} {σ : sg} (hM : RM h m n σ) : am_N h (m + 24) = 4 := (hM.2.2.2.1 24 (by decide) (by decide)).2.2.1
theorem RM_a24 {h : am_H} {m n : Nat} {σ : sg} (hM : RM h m n σ) (j : Nat) : am_aI h (m + 24) j = iI (σ 24 j) := (hM.2.2.2.1 24 (by decide) (by decide)).2.2.2.1 rfl j
