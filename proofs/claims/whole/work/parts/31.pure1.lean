/-! PLACES of the class's cells: x the object (n ports), then its ports' array, its ports (42 cells each), addresses, list, drops, offerers, times -/
def px (x i : Nat) : Nat := x + 2 + 42 * i
def kx (x i r : Nat) : Nat := x + 4 + 42 * i + 5 * r
def ax (x n : Nat) : Nat := x + 2 + 42 * n
/-- the class's cells are where they are -/
def SX (h : am_H) (x n : Nat) : Prop := (1 ≤ n ∧ n ≤ 16) ∧ am_T h x = 10 ∧ (am_R h 0 x = x + 1 ∧ am_T h (x + 1) = 100 ∧ am_N h (x + 1) = n ∧ ∀ i, i < n → am_aR h (x + 1) i = px x i) ∧
  (∀ i, i < n → am_T h (px x i) = 11 ∧ am_I h 32 (px x i) = nI (i + 1) ∧ am_R h 33 (px x i) = px x i + 1 ∧ am_T h (px x i + 1) = 101 ∧ am_N h (px x i + 1) = 8 ∧ ∀ r, r < 8 → am_aR h (px x i + 1) r = kx x i r) ∧
  (∀ i r, i < n → r < 8 → am_T h (kx x i r) = 12 ∧ am_R h 64 (kx x i r) = kx x i r + 1 ∧ am_R h 65 (kx x i r) = kx x i r + 2 ∧ am_R h 68 (kx x i r) = kx x i r + 3 ∧ am_R h 69 (kx x i r) = kx x i r + 4 ∧
    am_T h (kx x i r + 1) = 1 ∧ am_T h (kx x i r + 2) = 1 ∧ am_T h (kx x i r + 3) = 2 ∧ am_T h (kx x i r + 4) = 2 ∧ am_N h (kx x i r + 1) = 16 ∧ am_N h (kx x i r + 2) = 16 ∧ am_N h (kx x i r + 3) = 8 ∧ am_N h (kx x i r + 4) = 8) ∧
  (am_R h 1 x = ax x n ∧ am_T h (ax x n) = 102 ∧ am_N h (ax x n) = 1001) ∧ (am_R h 2 x = ax x n + 1 ∧ am_T h (ax x n + 1) = 16) ∧ (am_R h 3 x = ax x n + 2 ∧ am_T h (ax x n + 2) = 1 ∧ am_N h (ax x n + 2) = 4) ∧
  (am_R h 4 x = ax x n + 3 ∧ am_T h (ax x n + 3) = 1 ∧ am_N h (ax x n + 3) = 101) ∧ (am_R h 5 x = ax x n + 4 ∧ am_T h (ax x n + 4) = 2 ∧ am_N h (ax x n + 4) = 101)
/-- an int is below 1, above n, or one of 1 .. n -/
theorem ix1 (p : Int32) {n : Nat} (hn : n < 2 ^ 31) : p < 1 ∨ (¬ p < 1 ∧ nI n < p) ∨ ∃ i, i < n ∧ p = nI (i + 1) ∧ ¬ p < 1 ∧ ¬ nI n < p := by
  by_cases h1 : p < 1
  · exact Or.inl h1
  · by_cases h2 : nI n < p
    · exact Or.inr (Or.inl ⟨h1, h2⟩)
    · refine Or.inr (Or.inr ?_)
      have a1 : (1 : Int32).toInt ≤ p.toInt := Int32.le_iff_toInt_le.mp (Int32.not_lt.mp h1)
      have a2 : p.toInt ≤ (nI n).toInt := Int32.le_iff_toInt_le.mp (Int32.not_lt.mp h2)
      rw [nI_toInt hn] at a2
      have e1 : (1 : Int32).toInt = 1 := rfl
      rw [e1] at a1
      refine ⟨p.toInt.toNat - 1, by omega, ?_, h1, h2⟩
      apply Int32.toInt_inj.mp
      rw [nI_toInt (by omega)]
      omega
/-- an int is below 0, at n or above, or one of 0 .. n - 1 -/
theorem ix0 (p : Int32) {n : Nat} (hn : n < 2 ^ 31) : p < 0 ∨ (¬ p < 0 ∧ nI n ≤ p) ∨ ∃ i, i < n ∧ p = nI i ∧ ¬ p < 0 ∧ ¬ nI n ≤ p := by
  rcases pk_ix p hn with h | h | ⟨j, h1, h2⟩
  · exact Or.inl h
  · by_cases h0 : p < 0
    · exact Or.inl h0
    · exact Or.inr (Or.inl ⟨h0, h⟩)
  · refine Or.inr (Or.inr ⟨j, h1, h2, ?_, ?_⟩)
    · rw [h2]; exact nI_pos (by omega)
    · rw [h2]; exact nI_ge h1 hn
theorem sp_isRank_t {d : Nat} {r : Int32} {h : am_H} {Q : Option am_V → am_H → Prop} (h1 : ¬ r < 0) (h2 : ¬ nI 8 ≤ r) (hQ : Q (some (.inl 1)) h) : am_PC (d + 1) mi_X_isRank [.inl r] h Q :=
  bk_X_isRank ⟨fun q => absurd q h1, fun _ => ⟨fun q => absurd q h2, fun _ => ⟨Or.inr rfl, hQ⟩⟩⟩
theorem sp_isRank_f {d : Nat} {r : Int32} {h : am_H} {Q : Option am_V → am_H → Prop} (h1 : r < 0 ∨ (¬ r < 0 ∧ nI 8 ≤ r)) (hQ : Q (some (.inl 0)) h) : am_PC (d + 1) mi_X_isRank [.inl r] h Q :=
  bk_X_isRank ⟨fun _ => ⟨Or.inl rfl, hQ⟩, fun q => ⟨fun _ => ⟨Or.inl rfl, hQ⟩, fun q2 => by rcases h1 with z | z; exact absurd z q; exact absurd z.2 q2⟩⟩
theorem sp_isAddress_t {d : Nat} {r : Int32} {h : am_H} {Q : Option am_V → am_H → Prop} (h1 : ¬ r < 1) (h2 : ¬ nI 1000 < r) (hQ : Q (some (.inl 1)) h) : am_PC (d + 1) mi_X_isAddress [.inl r] h Q :=
  bk_X_isAddress ⟨fun q => absurd q h1, fun _ => ⟨fun q => absurd q h2, fun _ => ⟨Or.inr rfl, hQ⟩⟩⟩
theorem sp_isAddress_f {d : Nat} {r : Int32} {h : am_H} {Q : Option am_V → am_H → Prop} (h1 : r < 1 ∨ (¬ r < 1 ∧ nI 1000 < r)) (hQ : Q (some (.inl 0)) h) : am_PC (d + 1) mi_X_isAddress [.inl r] h Q :=
  bk_X_isAddress ⟨fun _ => ⟨Or.inl rfl, hQ⟩, fun q => ⟨fun _ => ⟨Or.inl rfl, hQ⟩, fun q2 => by rcases h1 with z | z; exact absurd z q; exact absurd z.2 q2⟩⟩
theorem sp_isService_t {d : Nat} {r : Int32} {h : am_H} {Q : Option am_V → am_H → Prop} (h1 : ¬ r < 1) (h2 : ¬ nI 100 < r) (hQ : Q (some (.inl 1)) h) : am_PC (d + 1) mi_X_isService [.inl r] h Q :=
  bk_X_isService ⟨fun q => absurd q h1, fun _ => ⟨fun q => absurd q h2, fun _ => ⟨Or.inr rfl, hQ⟩⟩⟩
theorem sp_isService_f {d : Nat} {r : Int32} {h : am_H} {Q : Option am_V → am_H → Prop} (h1 : r < 1 ∨ (¬ r < 1 ∧ nI 100 < r)) (hQ : Q (some (.inl 0)) h) : am_PC (d + 1) mi_X_isService [.inl r] h Q :=
  bk_X_isService ⟨fun _ => ⟨Or.inl rfl, hQ⟩, fun q => ⟨fun _ => ⟨Or.inl rfl, hQ⟩, fun q2 => by rcases h1 with z | z; exact absurd z q; exact absurd z.2 q2⟩⟩
theorem sp_findPort_f {d : Nat} {x n : Nat} {p : Int32} {h : am_H} {Q : Option am_V → am_H → Prop} (hS : SX h x n) (h1 : p < 1 ∨ (¬ p < 1 ∧ nI n < p)) (hQ : Q (some (.inr (.inr 0))) h) : am_PC (d + 1) mi_X_findPort [.inr (.inr x), .inl p] h Q := by
  obtain ⟨hn, hT, ⟨hR, hT1, hN, hA⟩, -⟩ := hS
  refine bk_X_findPort ⟨fun _ => hQ, fun q => ⟨hT, ?_⟩⟩
  rw [hR, hT1, hN]
  exact ⟨by omega, fun _ => hQ, fun q2 => by rcases h1 with z | z; exact absurd z q; exact absurd z.2 q2⟩
theorem sp_findPort_t {d : Nat} {x n i : Nat} {p : Int32} {h : am_H} {Q : Option am_V → am_H → Prop} (hS : SX h x n) (hi : i < n) (hp : p = nI (i + 1)) (h1 : ¬ p < 1) (h2 : ¬ nI n < p) (hQ : Q (some (.inr (.inr (px x i)))) h) : am_PC (d + 1) mi_X_findPort [.inr (.inr x), .inl p] h Q := by
  obtain ⟨hn, hT, ⟨hR, hT1, hN, hA⟩, -⟩ := hS
  refine bk_X_findPort ⟨fun q => absurd q h1, fun q => ⟨hT, ?_⟩⟩
  rw [hR, hT1, hN]
  have e : p - 1 = nI i := by rw [hp]; exact nI_pred i
  refine ⟨by omega, fun q => absurd q h2, fun _ => ⟨hT, by omega, ?_⟩⟩
  rw [e, nI_clamp (by omega), hA i hi]
  exact ⟨vp_in_nI hi (by omega), hQ⟩
