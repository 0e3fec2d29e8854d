/-! THE REFERENCE: time, open, may, begin -/
def f_time (σ : sg) (p f : Nat) : Int := if (8 * σ 15 f + 160) % σ 1 p = 0 then (8 * σ 15 f + 160) / σ 1 p else (8 * σ 15 f + 160) / σ 1 p + 1
theorem f_time_le {σ : sg} {p f : Nat} (h1 : 0 < σ 1 p ∧ σ 1 p ≤ 10000) (h15 : 64 ≤ σ 15 f ∧ σ 15 f ≤ 1522) : 1 ≤ f_time σ p f ∧ f_time σ p f ≤ 12337 := by
  have a1 : (8 * σ 15 f + 160) / σ 1 p ≤ 8 * σ 15 f + 160 := Int.ediv_le_self _ (by omega)
  have a2 : 0 ≤ (8 * σ 15 f + 160) / σ 1 p := Int.ediv_nonneg (by omega) (by omega)
  unfold f_time
  split
  · rename_i q
    refine ⟨?_, by omega⟩
    have a3 := Int.mul_ediv_add_emod (8 * σ 15 f + 160) (σ 1 p)
    rcases Int.lt_or_eq_of_le a2 with z | z
    · omega
    · rw [← z, q] at a3
      omega
  · omega
theorem sp_M_time {d m n p : Nat} {f : Int} {h : am_H} {σ : sg} {Q : Option am_V → am_H → Prop} (hM : RM h m n σ) (hp : p < 17) (hf : 0 ≤ f ∧ f ≤ 5000) (h1 : 0 < σ 1 p ∧ σ 1 p ≤ 10000) (h15 : 64 ≤ σ 15 f.toNat ∧ σ 15 f.toNat ≤ 1522) (hQ : Q (some (.inr (.inl (jJ (f_time σ p f.toNat))))) h) : am_PC (d + 1) mi_M_time [.inr (.inr m), .inl (nI p), .inl (iI f)] h Q := by
  refine bk_M_time ?_
  have hin : vp_in (nI p) 17 := vp_in_nI hp (by omega)
  rw [RM_R243 hM, RM_T15 hM, RM_N15 hM, iI_clamp hf.1 (by unfold rI; omega), RM_a15 hM, RM_R228 hM, RM_T1 hM, RM_N1 hM, nI_clamp (by omega), RM_a1 hM, iI_l (by unfold rI; omega), show (8 : Int64) = jJ 8 from rfl, jJ_mul, show (160 : Int64) = jJ 160 from rfl, jJ_add, jJ_mod (by omega) h1.1 (by unfold rJ; omega) (by unfold rJ; omega), jJ_div (by omega) h1.1 (by unfold rJ; omega) (by unfold rJ; omega), show (1 : Int64) = jJ 1 from rfl, jJ_add]
  have hne : ¬ jJ (σ 1 p) = 0 := fun z => by
    have := (jJ_eq (b := 0) (a := σ 1 p) (by unfold rJ; omega) (by unfold rJ; omega)).mp z
    omega
  have b1 : 0 ≤ (8 * σ 15 f.toNat + 160) % σ 1 p := Int.emod_nonneg _ (by omega)
  have b2 : (8 * σ 15 f.toNat + 160) % σ 1 p < σ 1 p := Int.emod_lt_of_pos _ h1.1
  refine ⟨RM_T hM, Or.inl rfl, iI_in hf.1 (by omega) (by omega), RM_T hM, rfl, hin, hne, ek_if (cmp_eq (b := 0) (by unfold rJ; omega) (by unfold rJ; omega)) (fun q => ⟨RM_T hM, rfl, hin, hne, ?_⟩) (fun q => ⟨RM_T hM, rfl, hin, hne, ?_⟩)⟩
  · unfold f_time at hQ
    rw [if_pos q] at hQ
    exact hQ
  · unfold f_time at hQ
    rw [if_neg q] at hQ
    exact hQ
/-- truth as the machine has it -/
def bI (b : Bool) : Int32 := if b then 1 else 0
theorem bI_or (b : Bool) : bI b = 0 ∨ bI b = 1 := by cases b <;> decide
theorem bI_t {b : Bool} : ¬ bI b = 0 ↔ b = true := by cases b <;> decide
theorem bI_f {b : Bool} : bI b = 0 ↔ b = false := by cases b <;> decide
/-- one of the first k windows has the time -/
def opw (σ : sg) (q : Nat) (t c : Int) : Nat → Bool
  | 0 => false
  | k + 1 => opw σ q t c k || (decide (σ 10 (8 * q + k) ≤ t) && decide (t + c ≤ σ 11 (8 * q + k)) && decide (t < σ 11 (8 * q + k)))
def f_open (σ : sg) (q : Nat) (t c : Int) : Bool := decide (σ 9 q = 0) || opw σ q t c (σ 9 q).toNat
theorem lp_M_open {d m n q : Nat} {t c : Int} {h : am_H} {σ : sg} {Q : Option am_V → am_H → Prop} (hM : RM h m n σ) (hq : q < 136) (h9 : 0 ≤ σ 9 q ∧ σ 9 q ≤ 8) (h10 : ∀ j, j < 1088 → rJ (σ 10 j)) (h11 : ∀ j, j < 1088 → rJ (σ 11 j)) (ht : 0 ≤ t ∧ t ≤ 1000000) (hc : 0 ≤ c ∧ c ≤ 20000)
    (hQ : Q (some (.inl (bI (f_open σ q t c)))) h) : ∀ (j k : Nat) (y3 y5 : Option am_V) (b : Bool), (k : Int) + j = σ 9 q → b = (decide (σ 9 q = 0) || opw σ q t c k) → am_P d mi_M_open 19 [some (.inr (.inr m)), some (.inl (nI q)), some (.inr (.inl (jJ t))), y3, some (.inr (.inl (jJ c))), y5, some (.inl (bI b)), some (.inl (nI k))] [] h Q := by
  intro j
  have hin : vp_in (nI q) 136 := vp_in_nI hq (by omega)
  induction j with
  | zero =>
    intro k y3 y5 b hk hb
    refine bk_M_open_19 ?_
    rw [RM_R236 hM, RM_T9 hM, RM_N9 hM, nI_clamp (by omega), RM_a9 hM]
    refine ⟨RM_T hM, Or.inl rfl, hin, fun _ => ⟨bI_or b, ?_⟩, fun z => absurd ?_ z⟩
    · rw [hb]
      unfold f_open at hQ
      rw [show (σ 9 q).toNat = k by omega] at hQ
      exact hQ
    · rw [← iI_nat k]
      exact (iI_le (by unfold rI; omega) (by unfold rI; omega)).mpr (by omega)
  | succ j ih =>
    intro k y3 y5 b hk hb
    have hin2 : vp_in (nI (8 * q + k)) 1088 := vp_in_nI (by omega) (by omega)
    have nz : ∀ x : Bool, (decide (σ 9 q = 0) || x) = x := fun x => by rw [decide_eq_false (by omega)]; rfl
    rw [nz] at hb
    refine bk_M_open_19 ?_
    rw [RM_R236 hM, RM_T9 hM, RM_N9 hM, nI_clamp (by omega), RM_a9 hM, nI_1 k, nI_q, RM_R237 hM, RM_T10 hM, RM_N10 hM, nI_clamp (by omega), RM_a10 hM, RM_R238 hM, RM_T11 hM, RM_N11 hM, RM_a11 hM, jJ_add]
    refine ⟨RM_T hM, Or.inl rfl, hin, fun z => ?_, fun _ => ⟨fun z => ?_, fun z => ?_⟩⟩
    · rw [← iI_nat k, iI_le (by unfold rI; omega) (by unfold rI; omega)] at z
      omega
    · have hbf := bI_f.mp z
      rw [hbf] at hb
      have nx : ∀ x : Bool, x = (decide (σ 10 (8 * q + k) ≤ t) && decide (t + c ≤ σ 11 (8 * q + k)) && decide (t < σ 11 (8 * q + k))) → am_P d mi_M_open 19 [some (.inr (.inr m)), some (.inl (nI q)), some (.inr (.inl (jJ t))), none, some (.inr (.inl (jJ c))), none, some (.inl (bI x)), some (.inl (nI (k + 1)))] [] h Q := fun x hx => ih (k + 1) _ _ x (by omega) (by rw [nz, opw, ← hb, Bool.false_or, hx])
      have b10 := h10 (8 * q + k) (by omega)
      have b11 := h11 (8 * q + k) (by omega)
      refine ⟨RM_T hM, rfl, hin2, ek_if (cmp_gt b10 (by unfold rJ; omega)) (fun c1 => nx false (by rw [decide_eq_false (by omega)]; rfl)) (fun c1 => ⟨RM_T hM, rfl, hin2, ek_if (cmp_lt b11 (by unfold rJ; omega)) (fun c2 => nx false (by rw [decide_eq_false (p := t + c ≤ σ 11 (8 * q + k)) (by omega), Bool.and_false, Bool.false_and])) (fun c2 => ⟨RM_T hM, rfl, hin2, ek_if (cmp_le b11 (by unfold rJ; omega)) (fun c3 => nx false (by rw [decide_eq_false (p := t < σ 11 (8 * q + k)) (by omega), Bool.and_false])) (fun c3 => nx true (by rw [decide_eq_true (by omega), decide_eq_true (by omega), decide_eq_true (by omega)]; rfl))⟩)⟩)⟩
    · have hbt := bI_t.mp z
      rw [hbt] at hb
      exact ih (k + 1) _ _ true (by omega) (by rw [nz, opw, ← hb, Bool.true_or])
theorem sp_M_open {d m n q : Nat} {t c : Int} {h : am_H} {σ : sg} {Q : Option am_V → am_H → Prop} (hM : RM h m n σ) (hq : q < 136) (h9 : 0 ≤ σ 9 q ∧ σ 9 q ≤ 8) (h10 : ∀ j, j < 1088 → rJ (σ 10 j)) (h11 : ∀ j, j < 1088 → rJ (σ 11 j)) (ht : 0 ≤ t ∧ t ≤ 1000000) (hc : 0 ≤ c ∧ c ≤ 20000)
    (hQ : Q (some (.inl (bI (f_open σ q t c)))) h) : am_PC (d + 1) mi_M_open [.inr (.inr m), .inl (nI q), .inr (.inl (jJ t)), .inr (.inl (jJ c))] h Q := by
  refine bk_M_open ?_
  rw [RM_R236 hM, RM_T9 hM, RM_N9 hM, nI_clamp (by omega), RM_a9 hM]
  have lp := lp_M_open (d := d) hM hq h9 h10 h11 ht hc hQ (σ 9 q).toNat 0 none none
  exact ⟨RM_T hM, Or.inl rfl, vp_in_nI hq (by omega), ek_if (iI_eq (b := 0) (by unfold rI; omega) (by unfold rI; omega)) (fun z => lp true (by omega) (by rw [decide_eq_true z]; rfl)) (fun z => lp false (by omega) (by rw [decide_eq_false z]; rfl))⟩
def f_may (σ : sg) (p r : Nat) : Bool := decide (¬ σ 7 (8 * p + r) = 0) && (decide (σ 12 (8 * p + r) = 0) || decide (0 ≤ σ 14 (8 * p + r))) && f_open σ (8 * p + r) ((σ 0 0 + σ 2 p) % σ 0 1) (f_time σ p (σ 8 (16 * (8 * p + r))).toNat)
/-- what the reference's cells keep to -/
def WM (σ : sg) : Prop := (0 ≤ σ 0 0 ∧ σ 0 0 ≤ 2000000) ∧ (1 ≤ σ 0 1 ∧ σ 0 1 ≤ 1000000) ∧ (0 ≤ σ 0 2 ∧ σ 0 2 ≤ 5000) ∧ (0 ≤ σ 0 3) ∧ (0 ≤ σ 0 4 ∧ σ 0 4 ≤ 5000) ∧
  (∀ j, j < 17 → 0 ≤ σ 1 j ∧ σ 1 j ≤ 10000) ∧ (∀ j, j < 17 → 0 ≤ σ 2 j ∧ σ 2 j ≤ 1000000) ∧ (∀ j, j < 17 → 0 ≤ σ 3 j ∧ σ 3 j ≤ 5000) ∧ (∀ j, j < 17 → 0 ≤ σ 4 j ∧ σ 4 j ≤ 7) ∧ (∀ j, j < 17 → 0 ≤ σ 5 j ∧ σ 5 j ≤ 2000000) ∧ (∀ j, j < 17 → 0 ≤ σ 6 j ∧ σ 6 j ≤ 3000000) ∧
  (∀ j, j < 136 → 0 ≤ σ 7 j ∧ σ 7 j ≤ 16) ∧ (∀ q k : Nat, q < 136 → (k : Int) < σ 7 q → 1 ≤ σ 8 (16 * q + k) ∧ σ 8 (16 * q + k) ≤ σ 0 2) ∧ (∀ j, j < 136 → 0 ≤ σ 9 j ∧ σ 9 j ≤ 8) ∧ (∀ j, j < 1088 → 0 ≤ σ 10 j ∧ σ 10 j ≤ 1000000) ∧ (∀ j, j < 1088 → 0 ≤ σ 11 j ∧ σ 11 j ≤ 1000000) ∧
  (∀ j, j < 136 → 0 ≤ σ 12 j ∧ σ 12 j ≤ 10000000) ∧ (∀ j, j < 136 → 0 ≤ σ 13 j ∧ σ 13 j ≤ 1000) ∧ (∀ j, j < 136 → -(10000000 * σ 0 0) ≤ σ 14 j ∧ σ 14 j ≤ 10000000 * σ 0 0) ∧ (∀ j : Nat, 1 ≤ j → (j : Int) ≤ σ 0 2 → 64 ≤ σ 15 j ∧ σ 15 j ≤ 1522) ∧
  (∀ j, j ≤ 1000 → 0 ≤ σ 16 j ∧ σ 16 j ≤ 16) ∧ (∀ j, j ≤ 1000 → -1 ≤ σ 17 j ∧ σ 17 j ≤ 2000000) ∧ (∀ j, j < 8008 → 0 ≤ σ 18 j ∧ σ 18 j ≤ 5001) ∧ (∀ j, j < 8008 → 0 ≤ σ 19 j ∧ σ 19 j ≤ 2000) ∧ (∀ j, j < 8008 → 0 ≤ σ 20 j ∧ σ 20 j ≤ 5000) ∧ (∀ j, j ≤ 100 → 0 ≤ σ 21 j ∧ σ 21 j ≤ 16) ∧ (∀ j, j ≤ 100 → 0 ≤ σ 22 j ∧ σ 22 j ≤ 3000000)
theorem sp_M_may {d m n p r : Nat} {h : am_H} {σ : sg} {Q : Option am_V → am_H → Prop} (hM : RM h m n σ) (hw : WM σ) (hp : 1 ≤ p ∧ p ≤ 16) (hr : r < 8) (hs : 0 < σ 1 p)
    (hQ : Q (some (.inl (bI (f_may σ p r)))) h) : am_PC (d + 2) mi_M_may [.inr (.inr m), .inl (nI p), .inl (nI r)] h Q := by
  obtain ⟨w0, w1, w2, w3, w4, a1, a2, a3, a4, a5, a6, a7, a8, a9, a10, a11, a12, a13, a14, a15, a16, a17, a18, a19, a20, a21, a22⟩ := hw
  have hin : vp_in (nI (8 * p + r)) 136 := vp_in_nI (by omega) (by omega)
  have hin1 : vp_in (nI p) 17 := vp_in_nI (by omega) (by omega)
  have b1 := a1 p (by omega)
  have b2 := a2 p (by omega)
  have b7 := a7 (8 * p + r) (by omega)
  have b12 := a12 (8 * p + r) (by omega)
  have b14 := a14 (8 * p + r) (by omega)
  have hq : ∀ b : Bool, b = f_may σ p r → Q (some (.inl (bI b))) h := fun b e => by rw [e]; exact hQ
  refine bk_M_may ?_
  rw [nI_q, nI_clamp (by omega), RM_R234 hM, RM_T7 hM, RM_N7 hM, RM_a7 hM, RM_R239 hM, RM_T12 hM, RM_N12 hM, RM_a12 hM, RM_R241 hM, RM_T14 hM, RM_N14 hM, RM_a14 hM]
  refine ⟨RM_T hM, Or.inl rfl, hin, ek_if (iI_eq (b := 0) (by unfold rI; omega) (by unfold rI; omega)) (fun c => ⟨Or.inl rfl, hq false (by unfold f_may; rw [decide_eq_false (p := ¬ σ 7 (8 * p + r) = 0) (by omega)]; rfl)⟩) (fun c => ⟨RM_T hM, rfl, hin, ?_⟩)⟩
  have b8 := a8 (8 * p + r) 0 (by omega) (by omega)
  rw [Nat.add_zero] at b8
  have rest : ∀ b : Bool, b = (decide (σ 12 (8 * p + r) = 0) || decide (0 ≤ σ 14 (8 * p + r))) → am_P (d + 1) mi_M_may 45 [some (.inr (.inr m)), some (.inl (nI p)), some (.inl (nI r)), some (.inl (nI (8 * p + r))), none] [.inl (bI b)] h Q := by
    intro b hb
    refine bk_M_may_45 ⟨fun z => ⟨Or.inl rfl, hq false ?_⟩, fun z => ?_⟩
    · unfold f_may
      rw [← hb, bI_f.mp z, Bool.and_false, Bool.false_and]
    · have hbt := bI_t.mp z
      have hne : ¬ jJ (σ 0 1) = 0 := fun z => by
        have := (jJ_eq (b := 0) (a := σ 0 1) (by unfold rJ; omega) (by unfold rJ; omega)).mp z
        omega
      have e16 : (16 : Int32) * nI (8 * p + r) = nI (16 * (8 * p + r)) := pk_mul 16 _
      rw [RM_R229 hM, RM_T2 hM, RM_N2 hM, RM_J226 hM, RM_R235 hM, RM_T8 hM, RM_N8 hM, e16, nI_clamp (by omega), nI_clamp (by omega), RM_a8 hM, RM_J227 hM, RM_a2 hM, jJ_add, jJ_mod (by omega) (by omega) (by unfold rJ; omega) (by unfold rJ; omega)]
      refine ⟨RM_T hM, RM_T hM, rfl, hin1, RM_T hM, hne, RM_T hM, Or.inl rfl, vp_in_nI (by omega) (by omega), RM_T hM, ?_⟩
      have e15 : ((σ 8 (16 * (8 * p + r))).toNat : Int) = σ 8 (16 * (8 * p + r)) := by omega
      have b15 := a15 (σ 8 (16 * (8 * p + r))).toNat (by omega) (by omega)
      have m1 : 0 ≤ (σ 0 0 + σ 2 p) % σ 0 1 := Int.emod_nonneg _ (by omega)
      have m2 : (σ 0 0 + σ 2 p) % σ 0 1 < σ 0 1 := Int.emod_lt_of_pos _ (by omega)
      have ft := f_time_le (σ := σ) (p := p) (f := (σ 8 (16 * (8 * p + r))).toNat) ⟨hs, b1.2⟩ b15
      refine sp_M_time hM (by omega) (by omega) ⟨hs, b1.2⟩ b15 ⟨_, rfl, RM_T hM, sp_M_open hM (by omega) (a9 _ (by omega)) (fun j hj => by have := a10 j hj; unfold rJ; omega) (fun j hj => by have := a11 j hj; unfold rJ; omega) ⟨m1, by omega⟩ (by omega) ⟨_, rfl, fun z2 => ⟨Or.inl rfl, hq false ?_⟩, fun z2 => ⟨Or.inr rfl, hq true ?_⟩⟩⟩
      · unfold f_may
        rw [bI_f.mp z2, Bool.and_false]
      · unfold f_may
        rw [bI_t.mp z2, ← hb, hbt, decide_eq_true c]
        rfl
  exact ek_if (cmp_eq (b := 0) (by unfold rJ; omega) (by unfold rJ; omega)) (fun c1 => rest true (by rw [decide_eq_true c1]; rfl)) (fun c1 => ⟨RM_T hM, rfl, hin, ek_if (cmp_lt (b := 0) (by unfold rJ; omega) (by unfold rJ; omega)) (fun c2 => rest false (by rw [decide_eq_false c1, decide_eq_false (by omega)]; rfl)) (fun c2 => rest true (by rw [decide_eq_true (p := 0 ≤ σ 14 (8 * p + r)) (by omega), Bool.or_true]))⟩)
/-- a queue's first is taken: the first k of the rest have moved -/
def bshift (σ : sg) (q : Nat) : Nat → sg
  | 0 => σ
  | k + 1 => am_u2 (bshift σ q k) 8 (16 * q + k) (σ 8 (16 * q + k + 1))
theorem bshift_ne {σ : sg} {q k j j' : Nat} (h : ¬ j = 8) : bshift σ q k j j' = σ j j' := by
  induction k with
  | zero => rfl
  | succ k ih => rw [bshift, u2_ne h, ih]
theorem bshift_ge {σ : sg} {q k j : Nat} (h : 16 * q + k ≤ j ∨ j < 16 * q) : bshift σ q k 8 j = σ 8 j := by
  induction k with
  | zero => rfl
  | succ k ih => rw [bshift, u2_nj (by omega), ih (by omega)]
theorem bshift_lt {σ : sg} {q k j : Nat} (h : j < k) : bshift σ q k 8 (16 * q + j) = σ 8 (16 * q + j + 1) := by
  induction k with
  | zero => omega
  | succ k ih =>
    rw [bshift]
    by_cases hj : j = k
    · subst hj; rw [u2_eq]
    · rw [u2_nj (by omega), ih (by omega)]
def f_beg0 (σ : sg) (p r : Nat) : sg := am_u2 (am_u2 (am_u2 (am_u2 (am_u2 σ 3 p (σ 8 (16 * (8 * p + r)))) 4 p r) 5 p (σ 0 0)) 6 p (σ 0 0 + f_time σ p (σ 8 (16 * (8 * p + r))).toNat)) 7 (8 * p + r) (σ 7 (8 * p + r) - 1)
def f_begin (σ : sg) (p r : Nat) : sg := am_u2 (am_u2 (bshift (f_beg0 σ p r) (8 * p + r) (σ 7 (8 * p + r) - 1).toNat) 32 (8 * p + r) ((σ 32 (8 * p + r) + 1) % 16)) 31 p (σ 31 p - 1)
/-- the class's own kinds are nothing to the reference -/
theorem RM_un {h : am_H} {m n k j : Nat} {σ : sg} {v : Int} (hM : RM h m n σ) (hk : 24 < k) : RM h m n (am_u2 σ k j v) := by
  obtain ⟨hn, hT, hP, hA, s1, s2, s3, s4, s5⟩ := hM
  refine ⟨hn, hT, hP, fun k' k1 k2 => ?_, by rw [u2_ne (by omega)]; exact s1, by rw [u2_ne (by omega)]; exact s2, by rw [u2_ne (by omega)]; exact s3, by rw [u2_ne (by omega)]; exact s4, by rw [u2_ne (by omega)]; exact s5⟩
  obtain ⟨a1, a2, a3, a4, a5⟩ := hA k' k1 k2
  exact ⟨a1, a2, a3, fun t j' => by rw [u2_ne (by omega)]; exact a4 t j', fun t j' => by rw [u2_ne (by omega)]; exact a5 t j'⟩
theorem gM_un {h h' : am_H} {m n k j : Nat} {σ : sg} {v : Int} (g : gM m n h σ h') (hk : 24 < k) : gM m n h (am_u2 σ k j v) h' := ⟨RM_un g.1 hk, g.2⟩
theorem lp_M_begin {d m n q : Nat} {h0 : am_H} {σ : sg} {Q : Option am_V → am_H → Prop} (hq : q < 136) (h7 : 0 ≤ σ 7 q ∧ σ 7 q ≤ 15) (hQ : ∀ h', gM m n h0 (bshift σ q (σ 7 q).toNat) h' → Q none h') : ∀ (j k : Nat) (h : am_H) (y1 y2 : Option am_V), (k : Int) + j = σ 7 q → gM m n h0 (bshift σ q k) h → am_P d mi_M_begin 74 [some (.inr (.inr m)), y1, y2, some (.inl (nI q)), some (.inl (nI k))] [] h Q := by
  intro j
  have hin : vp_in (nI q) 136 := vp_in_nI hq (by omega)
  induction j with
  | zero =>
    intro k h y1 y2 hk g
    have hM := g.1
    refine bk_M_begin_74 ?_
    rw [RM_R234 hM, RM_T7 hM, RM_N7 hM, nI_clamp (by omega), RM_a7 hM, bshift_ne (by decide)]
    refine ⟨RM_T hM, Or.inl rfl, hin, fun _ => hQ h (by rw [show (σ 7 q).toNat = k by omega]; exact g), fun z => absurd ?_ z⟩
    rw [← iI_nat k]
    exact (iI_le (by unfold rI; omega) (by unfold rI; omega)).mpr (by omega)
  | succ j ih =>
    intro k h y1 y2 hk g
    have hM := g.1
    refine bk_M_begin_74 ?_
    rw [RM_R234 hM, RM_T7 hM, RM_N7 hM, nI_clamp (by omega), RM_a7 hM, bshift_ne (by decide), nI_q16, nI_1 k, nI_1, RM_R235 hM, RM_T8 hM, RM_N8 hM, nI_clamp (by omega), nI_clamp (by omega), RM_a8 hM, bshift_ge (Or.inl (by omega))]
    refine ⟨RM_T hM, Or.inl rfl, hin, fun z => ?_, fun _ => ⟨RM_T hM, RM_T hM, Or.inl rfl, vp_in_nI (by omega) (by omega), rfl, vp_in_nI (by omega) (by omega), fun h1 e1 => ?_⟩⟩
    · rw [← iI_nat k, iI_le (by unfold rI; omega) (by unfold rI; omega)] at z
      omega
    · have g1 : gM m n h (bshift σ q (k + 1)) h1 := by subst e1; exact gM_xI hM (by decide) rfl
      exact ih (k + 1) h1 _ _ (by omega) (gM_tr g g1)
theorem sp_M_begin {d m n p r : Nat} {h : am_H} {σ : sg} {Q : Option am_V → am_H → Prop} (hM : RM h m n σ) (hw : WM σ) (hp : 1 ≤ p ∧ p ≤ 16) (hr : r < 8) (hs : 0 < σ 1 p) (h7 : 0 < σ 7 (8 * p + r))
    (hQ : ∀ h', gM m n h (f_begin σ p r) h' → Q none h') : am_PC (d + 2) mi_M_begin [.inr (.inr m), .inl (nI p), .inl (nI r)] h Q := by
  obtain ⟨w0, w1, w2, w3, w4, a1, a2, a3, a4, a5, a6, a7, a8, a9, a10, a11, a12, a13, a14, a15, a16, a17, a18, a19, a20, a21, a22⟩ := hw
  have hin : vp_in (nI (8 * p + r)) 136 := vp_in_nI (by omega) (by omega)
  have hin1 : vp_in (nI p) 17 := vp_in_nI (by omega) (by omega)
  have b1 := a1 p (by omega)
  have b7 := a7 (8 * p + r) (by omega)
  have b8 := a8 (8 * p + r) 0 (by omega) (by omega)
  rw [Nat.add_zero] at b8
  have b15 := a15 (σ 8 (16 * (8 * p + r))).toNat (by omega) (by omega)
  have ft := f_time_le (σ := σ) (p := p) (f := (σ 8 (16 * (8 * p + r))).toNat) ⟨hs, b1.2⟩ b15
  have e16 : (16 : Int32) * nI (8 * p + r) = nI (16 * (8 * p + r)) := pk_mul 16 _
  refine bk_M_begin ?_
  rw [nI_q, e16, nI_clamp (by omega), nI_clamp (by omega), nI_clamp (by omega), RM_R235 hM, RM_T8 hM, RM_N8 hM, RM_a8 hM, RM_R230 hM, RM_T3 hM, RM_N3 hM]
  refine ⟨RM_T hM, RM_T hM, Or.inl rfl, vp_in_nI (by omega) (by omega), rfl, hin1, fun h1 e1 => ?_⟩
  have g1 : gM m n h (am_u2 σ 3 p (σ 8 (16 * (8 * p + r)))) h1 := by subst e1; exact gM_xI hM (by decide) rfl
  have hM1 := g1.1
  rw [RM_R231 hM1, RM_T4 hM1, RM_N4 hM1]
  refine ⟨RM_T hM1, rfl, hin1, fun h2 e2 => ?_⟩
  have g2 : gM m n h1 (am_u2 (am_u2 σ 3 p (σ 8 (16 * (8 * p + r)))) 4 p r) h2 := by subst e2; rw [← iI_nat]; exact gM_xI hM1 (by decide) rfl
  have hM2 := g2.1
  rw [RM_R232 hM2, RM_T5 hM2, RM_N5 hM2, RM_J227 hM2, u2_ne (by decide), u2_ne (by decide)]
  refine ⟨RM_T hM2, RM_T hM2, rfl, hin1, fun h3 e3 => ?_⟩
  have g3 : gM m n h2 (am_u2 (am_u2 (am_u2 σ 3 p (σ 8 (16 * (8 * p + r)))) 4 p r) 5 p (σ 0 0)) h3 := by subst e3; exact gM_xJ hM2 (by decide) rfl
  have hM3 := g3.1
  rw [RM_R230 hM3, RM_T3 hM3, RM_N3 hM3, RM_a3 hM3, u2_ne (by decide), u2_ne (by decide), u2_eq, RM_J227 hM3, u2_ne (by decide), u2_ne (by decide), u2_ne (by decide), RM_R233 hM3]
  have et : f_time (am_u2 (am_u2 (am_u2 σ 3 p (σ 8 (16 * (8 * p + r)))) 4 p r) 5 p (σ 0 0)) p (σ 8 (16 * (8 * p + r))).toNat = f_time σ p (σ 8 (16 * (8 * p + r))).toNat := by
    unfold f_time
    simp only [u2_ne (show ¬ 15 = 3 by decide), u2_ne (show ¬ 15 = 4 by decide), u2_ne (show ¬ 15 = 5 by decide), u2_ne (show ¬ 1 = 3 by decide), u2_ne (show ¬ 1 = 4 by decide), u2_ne (show ¬ 1 = 5 by decide)]
  have s1 : ∀ j, am_u2 (am_u2 (am_u2 σ 3 p (σ 8 (16 * (8 * p + r)))) 4 p r) 5 p (σ 0 0) 1 j = σ 1 j := fun j => by rw [u2_ne (by decide), u2_ne (by decide), u2_ne (by decide)]
  have s15 : ∀ j, am_u2 (am_u2 (am_u2 σ 3 p (σ 8 (16 * (8 * p + r)))) 4 p r) 5 p (σ 0 0) 15 j = σ 15 j := fun j => by rw [u2_ne (by decide), u2_ne (by decide), u2_ne (by decide)]
  refine ⟨RM_T hM3, RM_T hM3, RM_T hM3, Or.inl rfl, hin1, RM_T hM3, sp_M_time hM3 (by omega) (by omega) (by rw [s1]; omega) (by rw [s15]; exact b15) ⟨_, rfl, ?_⟩⟩
  rw [RM_T6 hM3, RM_N6 hM3, et, jJ_add]
  refine ⟨rfl, hin1, fun h7' e7 => ?_⟩
  have g7 : gM m n h3 (am_u2 (am_u2 (am_u2 (am_u2 σ 3 p (σ 8 (16 * (8 * p + r)))) 4 p r) 5 p (σ 0 0)) 6 p (σ 0 0 + f_time σ p (σ 8 (16 * (8 * p + r))).toNat)) h7' := by subst e7; exact gM_xJ hM3 (by decide) rfl
  have hM7 := g7.1
  rw [RM_R234 hM7, RM_T7 hM7, RM_N7 hM7, RM_a7 hM7, u2_ne (by decide), u2_ne (by decide), u2_ne (by decide), u2_ne (by decide), show (1 : Int32) = iI 1 from rfl, iI_sub]
  refine ⟨RM_T hM7, rfl, rfl, Or.inl rfl, hin, rfl, hin, fun h8 e8 => ?_⟩
  have g8 : gM m n h7' (f_beg0 σ p r) h8 := by subst e8; exact gM_xI (k := 7) hM7 (by decide) rfl
  have e78 : f_beg0 σ p r 7 (8 * p + r) = σ 7 (8 * p + r) - 1 := u2_eq
  refine lp_M_begin (σ := f_beg0 σ p r) (h0 := h8) (by omega) (by rw [e78]; omega) (fun h9 g9 => ?_) (σ 7 (8 * p + r) - 1).toNat 0 h8 _ _ (by rw [e78]; omega) (gM_rf g8.1)
  rw [e78] at g9
  exact hQ h9 (gM_un (gM_un (gM_tr (gM_tr (gM_tr (gM_tr (gM_tr g1 g2) g3) g7) g8) g9) (by decide)) (by decide))
