/-! NUMBERS: the machine's ints and longs as whole numbers -/
def jJ (z : Int) : Int64 := Int64.ofInt z
def iI (z : Int) : Int32 := Int32.ofInt z
theorem jJ_add (a b : Int) : jJ a + jJ b = jJ (a + b) := (Int64.ofInt_add a b).symm
theorem jJ_sub (a b : Int) : jJ a - jJ b = jJ (a - b) := (Int64.ofInt_sub a b).symm
theorem jJ_mul (a b : Int) : jJ a * jJ b = jJ (a * b) := (Int64.ofInt_mul a b).symm
theorem jJ_neg (a : Int) : -jJ a = jJ (-a) := (Int64.ofInt_neg a).symm
theorem iI_add (a b : Int) : iI a + iI b = iI (a + b) := (Int32.ofInt_add a b).symm
theorem iI_sub (a b : Int) : iI a - iI b = iI (a - b) := (Int32.ofInt_sub a b).symm
theorem iI_mul (a b : Int) : iI a * iI b = iI (a * b) := (Int32.ofInt_mul a b).symm
theorem jJ_toInt {a : Int} (h1 : -9223372036854775808 ≤ a) (h2 : a < 9223372036854775808) : (jJ a).toInt = a := Int64.toInt_ofInt_of_le h1 h2
theorem iI_toInt {a : Int} (h1 : -2147483648 ≤ a) (h2 : a < 2147483648) : (iI a).toInt = a := Int32.toInt_ofInt_of_le h1 h2
/-- a long's whole number lies in the longs' range; an int's likewise -/
def rJ (a : Int) : Prop := -9223372036854775808 ≤ a ∧ a < 9223372036854775808
def rI (a : Int) : Prop := -2147483648 ≤ a ∧ a < 2147483648
theorem jJ_lt {a b : Int} (ha : rJ a) (hb : rJ b) : jJ a < jJ b ↔ a < b := by
  rw [Int64.lt_iff_toInt_lt, jJ_toInt ha.1 ha.2, jJ_toInt hb.1 hb.2]
theorem jJ_le {a b : Int} (ha : rJ a) (hb : rJ b) : jJ a ≤ jJ b ↔ a ≤ b := by
  rw [Int64.le_iff_toInt_le, jJ_toInt ha.1 ha.2, jJ_toInt hb.1 hb.2]
theorem jJ_eq {a b : Int} (ha : rJ a) (hb : rJ b) : jJ a = jJ b ↔ a = b := by
  rw [← Int64.toInt_inj, jJ_toInt ha.1 ha.2, jJ_toInt hb.1 hb.2]
theorem iI_lt {a b : Int} (ha : rI a) (hb : rI b) : iI a < iI b ↔ a < b := by
  rw [Int32.lt_iff_toInt_lt, iI_toInt ha.1 ha.2, iI_toInt hb.1 hb.2]
theorem iI_le {a b : Int} (ha : rI a) (hb : rI b) : iI a ≤ iI b ↔ a ≤ b := by
  rw [Int32.le_iff_toInt_le, iI_toInt ha.1 ha.2, iI_toInt hb.1 hb.2]
theorem iI_eq {a b : Int} (ha : rI a) (hb : rI b) : iI a = iI b ↔ a = b := by
  rw [← Int32.toInt_inj, iI_toInt ha.1 ha.2, iI_toInt hb.1 hb.2]
theorem jJ_self (x : Int64) : jJ x.toInt = x := Int64.ofInt_toInt x
theorem iI_self (x : Int32) : iI x.toInt = x := Int32.ofInt_toInt x
theorem rJ_self (x : Int64) : rJ x.toInt := ⟨Int64.le_toInt x, Int64.toInt_lt x⟩
theorem rI_self (x : Int32) : rI x.toInt := ⟨Int32.le_toInt x, Int32.toInt_lt x⟩
theorem jJ_nat (n : Nat) : jJ n = lN n := by rw [jJ, lN, Int64.ofInt_eq_ofNat]
theorem iI_nat (n : Nat) : iI n = nI n := by rw [iI, nI, Int32.ofInt_eq_ofNat]
theorem jJ_div {a b : Int} (ha : 0 ≤ a) (hb : 0 < b) (ha2 : rJ a) (hb2 : rJ b) : jJ a / jJ b = jJ (a / b) := by
  obtain ⟨n, rfl⟩ := Int.eq_ofNat_of_zero_le ha
  obtain ⟨m, rfl⟩ := Int.eq_ofNat_of_zero_le (Int.le_of_lt hb)
  unfold rJ at ha2 hb2
  rw [jJ_nat, jJ_nat, pk_lDiv (by omega) (by omega) (by omega), ← Int.natCast_ediv, jJ_nat]
theorem jJ_mod {a b : Int} (ha : 0 ≤ a) (hb : 0 < b) (ha2 : rJ a) (hb2 : rJ b) : jJ a - jJ a / jJ b * jJ b = jJ (a % b) := by
  rw [jJ_div ha hb ha2 hb2, jJ_mul, jJ_sub]
  congr 1
  have := Int.mul_ediv_add_emod a b
  rw [Int.mul_comm] at this
  omega
theorem iI_div {a b : Int} (ha : 0 ≤ a) (hb : 0 < b) (ha2 : rI a) (hb2 : rI b) : iI a / iI b = iI (a / b) := by
  obtain ⟨n, rfl⟩ := Int.eq_ofNat_of_zero_le ha
  obtain ⟨m, rfl⟩ := Int.eq_ofNat_of_zero_le (Int.le_of_lt hb)
  unfold rI at ha2 hb2
  rw [iI_nat, iI_nat, pk_div (by omega) (by omega) (by omega), ← Int.natCast_ediv, iI_nat]
theorem iI_mod {a b : Int} (ha : 0 ≤ a) (hb : 0 < b) (ha2 : rI a) (hb2 : rI b) : iI a - iI a / iI b * iI b = iI (a % b) := by
  rw [iI_div ha hb ha2 hb2, iI_mul, iI_sub]
  congr 1
  have := Int.mul_ediv_add_emod a b
  rw [Int.mul_comm] at this
  omega
theorem iI_l {a : Int} (h : rI a) : (iI a).toInt64 = jJ a := by
  rw [← jJ_self (iI a).toInt64]
  congr 1
  rw [Int32.toInt_toInt64, iI_toInt h.1 h.2]
theorem jJ_i {a : Int} (h : rI a) : (jJ a).toInt32 = iI a := by
  rw [← iI_l h, Int32.toInt32_toInt64]
theorem iI_clamp {a : Int} (h0 : 0 ≤ a) (h : rI a) : (iI a).toNatClampNeg = a.toNat := by
  obtain ⟨n, rfl⟩ := Int.eq_ofNat_of_zero_le h0
  unfold rI at h
  rw [iI_nat, nI_clamp (by omega)]
  rfl
theorem iI_in {a : Int} {n : Nat} (h0 : 0 ≤ a) (h1 : a < n) (hn : n < 2 ^ 31) : vp_in (iI a) n := by
  obtain ⟨k, rfl⟩ := Int.eq_ofNat_of_zero_le h0
  rw [iI_nat]
  exact vp_in_nI (by omega) hn
/-- comparisons of longs, through lcmp -/
theorem cmp_lt {a b : Int} (ha : rJ a) (hb : rJ b) : lg_cmp (jJ a) (jJ b) < 0 ↔ a < b := by
  unfold lg_cmp
  simp only [GT.gt, jJ_lt hb ha, jJ_eq ha hb]
  by_cases h1 : b < a
  · simp only [if_pos h1]; constructor
    · intro h; exact absurd h (by decide)
    · intro h; omega
  · by_cases h2 : a = b
    · simp only [if_neg h1, if_pos h2]; constructor
      · intro h; exact absurd h (by decide)
      · intro h; omega
    · simp only [if_neg h1, if_neg h2]; constructor
      · intro _; omega
      · intro _; decide
theorem cmp_gt {a b : Int} (ha : rJ a) (hb : rJ b) : 0 < lg_cmp (jJ a) (jJ b) ↔ b < a := by
  unfold lg_cmp
  simp only [GT.gt, jJ_lt hb ha, jJ_eq ha hb]
  by_cases h1 : b < a
  · simp only [if_pos h1]; constructor
    · intro _; exact h1
    · intro _; decide
  · by_cases h2 : a = b
    · simp only [if_neg h1, if_pos h2]; constructor
      · intro h; exact absurd h (by decide)
      · intro h; omega
    · simp only [if_neg h1, if_neg h2]; constructor
      · intro h; exact absurd h (by decide)
      · intro h; omega
theorem cmp_le {a b : Int} (ha : rJ a) (hb : rJ b) : lg_cmp (jJ a) (jJ b) ≤ 0 ↔ a ≤ b := by
  rw [← Int32.not_lt, cmp_gt ha hb]; omega
theorem cmp_ge {a b : Int} (ha : rJ a) (hb : rJ b) : 0 ≤ lg_cmp (jJ a) (jJ b) ↔ b ≤ a := by
  rw [← Int32.not_lt, cmp_lt ha hb]; omega
theorem cmp_eq {a b : Int} (ha : rJ a) (hb : rJ b) : lg_cmp (jJ a) (jJ b) = 0 ↔ a = b := by
  unfold lg_cmp
  simp only [GT.gt, jJ_lt hb ha, jJ_eq ha hb]
  by_cases h1 : b < a
  · simp only [if_pos h1]; constructor
    · intro h; exact absurd h (by decide)
    · intro h; omega
  · by_cases h2 : a = b
    · simp only [if_neg h1, if_pos h2]; exact ⟨fun _ => h2, fun _ => trivial⟩
    · simp only [if_neg h1, if_neg h2]; constructor
      · intro h; exact absurd h (by decide)
      · intro h; exact absurd h h2
