/-! ===== numbers: an int is iZ z ===== -/
theorem iZ_toInt {z : Int} (h : -2147483648 ≤ z ∧ z < 2147483648) : (iZ z).toInt = z := by
  unfold iZ
  rw [Int32.toInt_ofInt]
  simp only [Int.bmod_def, Int32.size]
  omega
theorem iZ_of (x : Int32) : x = iZ x.toInt := by unfold iZ; rw [Int32.ofInt_toInt]
theorem i32_lo (x : Int32) : -2147483648 ≤ x.toInt ∧ x.toInt < 2147483648 := by
  have h1 := Int32.minValue_le_toInt x
  have h2 := Int32.toInt_le x
  have e1 : Int32.minValue.toInt = -2147483648 := by decide
  have e2 : Int32.maxValue.toInt = 2147483647 := by decide
  omega
theorem iZ_all (x : Int32) : ∃ z : Int, x = iZ z ∧ -2147483648 ≤ z ∧ z < 2147483648 := ⟨x.toInt, iZ_of x, i32_lo x⟩
theorem iZ_add (a b : Int) : iZ a + iZ b = iZ (a + b) := by unfold iZ; rw [Int32.ofInt_add]
theorem iZ_sub (a b : Int) : iZ a - iZ b = iZ (a - b) := by unfold iZ; rw [Int32.ofInt_sub]
theorem iZ_mul (a b : Int) : iZ a * iZ b = iZ (a * b) := by unfold iZ; rw [Int32.ofInt_mul]
theorem iZ_neg (a : Int) : -iZ a = iZ (-a) := by unfold iZ; rw [Int32.ofInt_neg]
theorem iZ_lt {a b : Int} (ha : -2147483648 ≤ a ∧ a < 2147483648) (hb : -2147483648 ≤ b ∧ b < 2147483648) : iZ a < iZ b ↔ a < b := by
  rw [Int32.lt_iff_toInt_lt, iZ_toInt ha, iZ_toInt hb]
theorem iZ_le {a b : Int} (ha : -2147483648 ≤ a ∧ a < 2147483648) (hb : -2147483648 ≤ b ∧ b < 2147483648) : iZ a ≤ iZ b ↔ a ≤ b := by
  rw [Int32.le_iff_toInt_le, iZ_toInt ha, iZ_toInt hb]
theorem iZ_eq {a b : Int} (ha : -2147483648 ≤ a ∧ a < 2147483648) (hb : -2147483648 ≤ b ∧ b < 2147483648) : iZ a = iZ b ↔ a = b := by
  rw [← Int32.toInt_inj, iZ_toInt ha, iZ_toInt hb]
theorem iZ_0 : (0 : Int32) = iZ 0 := by decide
theorem iZ_1 : (1 : Int32) = iZ 1 := by decide
theorem iZ_2 : (2 : Int32) = iZ 2 := by decide
theorem iZ_lt0 {a : Int} (ha : -2147483648 ≤ a ∧ a < 2147483648) : iZ a < 0 ↔ a < 0 := by rw [iZ_0, iZ_lt ha (by omega)]
theorem iZ_le0 {a : Int} (ha : -2147483648 ≤ a ∧ a < 2147483648) : iZ a ≤ 0 ↔ a ≤ 0 := by rw [iZ_0, iZ_le ha (by omega)]
theorem iZ_0le {a : Int} (ha : -2147483648 ≤ a ∧ a < 2147483648) : 0 ≤ iZ a ↔ 0 ≤ a := by rw [iZ_0, iZ_le (by omega) ha]
theorem iZ_0lt {a : Int} (ha : -2147483648 ≤ a ∧ a < 2147483648) : 0 < iZ a ↔ 0 < a := by rw [iZ_0, iZ_lt (by omega) ha]
theorem iZ_eq0 {a : Int} (ha : -2147483648 ≤ a ∧ a < 2147483648) : iZ a = 0 ↔ a = 0 := by rw [iZ_0, iZ_eq ha (by omega)]
theorem ix_iZ {z : Int} (h : 0 ≤ z ∧ z < 2147483648) : ix (iZ z) = z.toNat := by
  unfold ix
  rw [Int32.toNatClampNeg, iZ_toInt (by omega)]
theorem ix_N {k : Nat} (h : k < 2147483648) : ix (iZ (k : Int)) = k := by rw [ix_iZ (by omega)]; rfl
theorem in_iZ {z : Int} {n : Nat} (h : 0 ≤ z ∧ z < n) (hn : n < 2147483648) : vp_in (iZ z) n := by
  rw [vp_in_iff, iZ_toInt (by omega)]
  omega
theorem in_N {k n : Nat} (h : k < n) (hn : n < 2147483648) : vp_in (iZ (k : Int)) n := in_iZ (by omega) hn
theorem iZ_pat {a b : Int} (h : a = b) : iZ a = iZ b := by rw [h]
theorem lZ_toInt {z : Int} (h : -9223372036854775808 ≤ z ∧ z < 9223372036854775808) : (lZ z).toInt = z := by
  unfold lZ
  rw [Int64.toInt_ofInt]
  simp only [Int.bmod_def, Int64.size]
  omega
theorem lZ_add (a b : Int) : lZ a + lZ b = lZ (a + b) := by unfold lZ; rw [Int64.ofInt_add]
theorem lZ_mul (a b : Int) : lZ a * lZ b = lZ (a * b) := by unfold lZ; rw [Int64.ofInt_mul]
theorem lZ_sub (a b : Int) : lZ a - lZ b = lZ (a - b) := by unfold lZ; rw [Int64.ofInt_sub]
theorem lZ_lt {a b : Int} (ha : -9223372036854775808 ≤ a ∧ a < 9223372036854775808) (hb : -9223372036854775808 ≤ b ∧ b < 9223372036854775808) : lZ a < lZ b ↔ a < b := by
  rw [Int64.lt_iff_toInt_lt, lZ_toInt ha, lZ_toInt hb]
theorem lZ_le {a b : Int} (ha : -9223372036854775808 ≤ a ∧ a < 9223372036854775808) (hb : -9223372036854775808 ≤ b ∧ b < 9223372036854775808) : lZ a ≤ lZ b ↔ a ≤ b := by
  rw [Int64.le_iff_toInt_le, lZ_toInt ha, lZ_toInt hb]
theorem iZ_long {z : Int} (h : -2147483648 ≤ z ∧ z < 2147483648) : (iZ z).toInt64 = lZ z := by
  apply Int64.toInt.inj
  rw [Int32.toInt_toInt64, iZ_toInt h, lZ_toInt (by omega)]
theorem lZ_int {z : Int} (h : -9223372036854775808 ≤ z ∧ z < 9223372036854775808) : (lZ z).toInt32 = iZ z := by
  apply Int32.toInt.inj
  unfold iZ
  rw [Int64.toInt_toInt32, lZ_toInt h, Int32.toInt_ofInt]
theorem lcmp_lt (x y : Int64) : lg_cmp x y < 0 ↔ x < y := by
  unfold lg_cmp
  simp only [gt_iff_lt, Int64.lt_iff_toInt_lt, ← Int64.toInt_inj]
  split
  · constructor
    · intro h; exact absurd h (by decide)
    · intro h; omega
  · split
    · constructor
      · intro h; exact absurd h (by decide)
      · intro h; omega
    · constructor
      · intro h; omega
      · intro h; decide
theorem lcmp_gt (x y : Int64) : 0 < lg_cmp x y ↔ y < x := by
  unfold lg_cmp
  simp only [gt_iff_lt, Int64.lt_iff_toInt_lt, ← Int64.toInt_inj]
  split
  · constructor
    · intro h; omega
    · intro h; decide
  · split
    · constructor
      · intro h; exact absurd h (by decide)
      · intro h; omega
    · constructor
      · intro h; exact absurd h (by decide)
      · intro h; omega
theorem iZ_div {a b : Int} (ha : 0 ≤ a ∧ a < 2147483648) (hb : 0 < b ∧ b < 2147483648) : iZ a / iZ b = iZ (a / b) := by
  apply Int32.toInt.inj
  have h1 : 0 ≤ a / b := Int.ediv_nonneg ha.1 (by omega)
  have h2 : a / b ≤ a := Int.ediv_le_self b ha.1
  rw [Int32.toInt_div, iZ_toInt (by omega), iZ_toInt (by omega), iZ_toInt (by omega), Int.tdiv_eq_ediv_of_nonneg ha.1, Int.bmod_def]
  omega
theorem iZ_rem {a b : Int} (ha : 0 ≤ a ∧ a < 2147483648) (hb : 0 < b ∧ b < 2147483648) : iRem (iZ a) (iZ b) = iZ (a % b) := by
  unfold iRem
  rw [iZ_div ha hb, iZ_mul, iZ_sub, Int.emod_def, Int.mul_comm]
theorem iZ_shl {a : Int} {k : Nat} (hk : k < 32) : iZ a <<< (iZ k &&& 31) = iZ (a * 2 ^ k) := by
  have e : (iZ (k : Int) &&& 31) = iZ k := by
    have h : ∀ k : Nat, k < 32 → (iZ (k : Int) &&& 31) = iZ k := by decide
    exact h k hk
  rw [e]
  apply Int32.toBitVec.inj
  rw [Int32.toBitVec_shiftLeft]
  have e2 : ((iZ (k : Int)).toBitVec.smod 32).toNat = k := by
    have h : ∀ k : Nat, k < 32 → ((iZ (k : Int)).toBitVec.smod 32).toNat = k := by decide
    exact h k hk
  apply BitVec.eq_of_toNat_eq
  have e3 : ∀ z : Int, (iZ z).toBitVec = BitVec.ofInt 32 z := fun z => rfl
  simp only [BitVec.shiftLeft_eq', BitVec.toNat_shiftLeft, e2, e3, BitVec.toNat_ofInt]
  rw [Nat.shiftLeft_eq]
  have h2 : ((2:Nat) ^ 32 : Nat) = 4294967296 := by decide
  rw [h2]
  have hp : (0 : Int) < 2 ^ k := Int.pow_pos (by decide)
  apply Int.ofNat.inj
  simp only [Int.ofNat_eq_natCast]
  rw [Int.natCast_emod, Int.natCast_mul, Int.natCast_pow]
  have g1 := Int.emod_nonneg a (show ((4294967296:Nat) : Int) ≠ 0 by decide)
  have g2 := Int.emod_nonneg (a * 2 ^ k) (show ((4294967296:Nat) : Int) ≠ 0 by decide)
  rw [Int.toNat_of_nonneg g1, Int.toNat_of_nonneg g2, Int.mul_emod, Int.emod_emod_of_dvd _ (Int.dvd_refl _), ← Int.mul_emod]
  have e4 : ((BitVec.ofInt 32 (k : Int)).smod 32).toNat = k := e2
  rw [e4]
  rfl
theorem iZ_shr {a : Int} {k : Nat} (ha : 0 ≤ a ∧ a < 2147483648) (hk : k < 32) : iZ a >>> (iZ k &&& 31) = iZ (a / 2 ^ k) := by
  have e : (iZ (k : Int) &&& 31) = iZ k := by
    have h : ∀ k : Nat, k < 32 → (iZ (k : Int) &&& 31) = iZ k := by decide
    exact h k hk
  rw [e]
  have e2 : ((iZ (k : Int)).toBitVec.smod 32).toNat = k := by
    have h : ∀ k : Nat, k < 32 → ((iZ (k : Int)).toBitVec.smod 32).toNat = k := by decide
    exact h k hk
  apply Int32.toInt.inj
  have hp : (0 : Int) < 2 ^ k := Int.pow_pos (by decide)
  have h1 : 0 ≤ a / 2 ^ k := Int.ediv_nonneg ha.1 (by omega)
  have h2 : a / 2 ^ k ≤ a := Int.ediv_le_self _ ha.1
  rw [pk_shr (iZ a) (iZ k) k e2, iZ_toInt (by omega), iZ_toInt (by omega), Int.shiftRight_eq_div_pow]
  simp
