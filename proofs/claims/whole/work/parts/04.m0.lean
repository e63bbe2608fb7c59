/-! ===== MATH: words as numbers ===== -/
/-- a long as a row of bits -/
abbrev un (x : Int64) : Nat := x.toBitVec.toNat
theorem un_lt (x : Int64) : un x < 18446744073709551616 := x.toBitVec.isLt
theorem un_inj {x y : Int64} (h : un x = un y) : x = y := Int64.toBitVec_inj.mp (BitVec.eq_of_toNat_eq h)
theorem un_iff {x y : Int64} : x = y ↔ un x = un y := ⟨fun h => h ▸ rfl, un_inj⟩
theorem un_toInt (x : Int64) : x.toInt = if un x < 9223372036854775808 then (un x : Int) else (un x : Int) - 18446744073709551616 := by
  have h : x.toInt = if 2 * x.toBitVec.toNat < 18446744073709551616 then (x.toBitVec.toNat : Int) else (x.toBitVec.toNat : Int) - 18446744073709551616 := BitVec.toInt_eq_toNat_cond x.toBitVec
  rw [h]
  unfold un
  split <;> split <;> omega
theorem un_pos {x : Int64} (h : un x < 9223372036854775808) : x.toInt = (un x : Int) := by rw [un_toInt, if_pos h]
theorem un_lt_iff {x y : Int64} : x < y ↔ x.toInt < y.toInt := Int64.lt_iff_toInt_lt
theorem un_le_iff {x y : Int64} : x ≤ y ↔ x.toInt ≤ y.toInt := Int64.le_iff_toInt_le
theorem un_lt' {x y : Int64} (hx : un x < 9223372036854775808) (hy : un y < 9223372036854775808) : x < y ↔ un x < un y := by
  rw [un_lt_iff, un_pos hx, un_pos hy]; omega
theorem un_le' {x y : Int64} (hx : un x < 9223372036854775808) (hy : un y < 9223372036854775808) : x ≤ y ↔ un x ≤ un y := by
  rw [un_le_iff, un_pos hx, un_pos hy]; omega
theorem un_add (x y : Int64) : un (x + y) = (un x + un y) % 18446744073709551616 := by
  show (x + y).toBitVec.toNat = _
  rw [Int64.toBitVec_add, BitVec.toNat_add]
theorem un_sub (x y : Int64) : un (x - y) = (un x + (18446744073709551616 - un y)) % 18446744073709551616 := by
  show (x - y).toBitVec.toNat = _
  rw [Int64.toBitVec_sub, BitVec.toNat_sub]
  unfold un
  omega
theorem un_sub_le {x y : Int64} (h : un y ≤ un x) : un (x - y) = un x - un y := by
  have := un_lt x
  have := un_lt y
  rw [un_sub]; omega
theorem un_neg (x : Int64) : un (-x) = (18446744073709551616 - un x) % 18446744073709551616 := by
  show (-x).toBitVec.toNat = _
  rw [Int64.toBitVec_neg, BitVec.toNat_neg]
theorem un_mul (x y : Int64) : un (x * y) = un x * un y % 18446744073709551616 := by
  show (x * y).toBitVec.toNat = _
  rw [Int64.toBitVec_mul, BitVec.toNat_mul]
theorem un_and (x y : Int64) : un (x &&& y) = un x &&& un y := by
  show (x &&& y).toBitVec.toNat = _
  rw [Int64.toBitVec_and, BitVec.toNat_and]
theorem un_or (x y : Int64) : un (x ||| y) = un x ||| un y := by
  show (x ||| y).toBitVec.toNat = _
  rw [Int64.toBitVec_or, BitVec.toNat_or]
theorem un_xor (x y : Int64) : un (x ^^^ y) = un x ^^^ un y := by
  show (x ^^^ y).toBitVec.toNat = _
  rw [Int64.toBitVec_xor, BitVec.toNat_xor]
/-- a shift's amount -/
theorem sh_amt (y : Int32) (h0 : 0 ≤ y.toInt) (h1 : y.toInt < 64) : (y.toInt64 &&& 63).toBitVec.toNat = y.toInt.toNat := by
  have h2 : un y.toInt64 = y.toInt.toNat := by
    have h3 : y.toInt64.toInt = y.toInt := Int32.toInt_toInt64 y
    have h4 := un_toInt y.toInt64
    have := un_lt y.toInt64
    split at h4 <;> omega
  show un (y.toInt64 &&& 63) = _
  rw [un_and, h2]
  have h5 : un (63 : Int64) = 2 ^ 6 - 1 := by decide
  rw [h5, Nat.and_two_pow_sub_one_eq_mod]
  omega
theorem un_shl (x : Int64) (y : Int32) (h0 : 0 ≤ y.toInt) (h1 : y.toInt < 64) : un (jl_shl x y) = un x * 2 ^ y.toInt.toNat % 18446744073709551616 := by
  have h2 := sh_amt y h0 h1
  have h3 : ((y.toInt64 &&& 63).toBitVec.smod 64).toNat = y.toInt.toNat := by
    rw [BitVec.smod_eq]
    have h4 : (y.toInt64 &&& 63).toBitVec.msb = false := by
      rw [BitVec.msb_eq_false_iff_two_mul_lt]
      omega
    have h5 : (64 : BitVec 64).msb = false := by decide
    rw [h4, h5]
    show ((y.toInt64 &&& 63).toBitVec.umod 64).toNat = _
    rw [BitVec.umod_eq, BitVec.toNat_umod, h2]
    show y.toInt.toNat % 64 = _
    omega
  show (x <<< (y.toInt64 &&& 63)).toBitVec.toNat = _
  rw [Int64.toBitVec_shiftLeft, BitVec.shiftLeft_eq', BitVec.toNat_shiftLeft, h3, Nat.shiftLeft_eq]
theorem un_ushr (x : Int64) (y : Int32) (h0 : 0 ≤ y.toInt) (h1 : y.toInt < 64) : un (jl_ushr x y) = un x / 2 ^ y.toInt.toNat := by
  have h2 := sh_amt y h0 h1
  show (x.toUInt64 >>> (y.toInt64.toUInt64 &&& Int64.toUInt64 63)).toBitVec.toNat = _
  rw [UInt64.toBitVec_shiftRight]
  show (x.toBitVec >>> ((y.toInt64 &&& 63).toBitVec % 64)).toNat = _
  rw [BitVec.ushiftRight_eq', BitVec.toNat_ushiftRight, BitVec.toNat_umod, h2, Nat.shiftRight_eq_div_pow]
  have h3 : (64 : BitVec 64).toNat = 64 := by decide
  rw [h3, Nat.mod_eq_of_lt (by omega)]
theorem mi_add {x y : Int32} (h1 : -2147483648 ≤ x.toInt + y.toInt) (h2 : x.toInt + y.toInt < 2147483648) : (x + y).toInt = x.toInt + y.toInt := by
  rw [Int32.toInt_add, Int.bmod_eq_of_le] <;> omega
theorem mi_sub {x y : Int32} (h1 : -2147483648 ≤ x.toInt - y.toInt) (h2 : x.toInt - y.toInt < 2147483648) : (x - y).toInt = x.toInt - y.toInt := by
  rw [Int32.toInt_sub, Int.bmod_eq_of_le] <;> omega
theorem mi_neg {x : Int32} (h1 : -2147483648 < x.toInt) : (-x).toInt = -x.toInt := by
  have := Int32.toInt_lt x
  rw [Int32.toInt_neg, Int.bmod_eq_of_le] <;> omega
theorem mi_mul {x y : Int32} (h1 : -2147483648 ≤ x.toInt * y.toInt) (h2 : x.toInt * y.toInt < 2147483648) : (x * y).toInt = x.toInt * y.toInt := by
  rw [Int32.toInt_mul, Int.bmod_eq_of_le] <;> omega
theorem mi_lt {x y : Int32} : x < y ↔ x.toInt < y.toInt := Int32.lt_iff_toInt_lt
theorem mi_le {x y : Int32} : x ≤ y ↔ x.toInt ≤ y.toInt := Int32.le_iff_toInt_le
theorem mi_eq {x y : Int32} : x = y ↔ x.toInt = y.toInt := ⟨fun h => h ▸ rfl, fun h => Int32.toInt_inj.mp h⟩
theorem mi_max (x y : Int32) : (ji_max x y).toInt = max x.toInt y.toInt := by
  unfold ji_max
  split
  · rename_i h; rw [mi_lt] at h; omega
  · rename_i h; rw [mi_lt] at h; omega
theorem mi_min (x y : Int32) : (ji_min x y).toInt = min x.toInt y.toInt := by
  unfold ji_min
  split
  · rename_i h; rw [mi_lt] at h; omega
  · rename_i h; rw [mi_lt] at h; omega
theorem mi_lo (x : Int32) : -2147483648 ≤ x.toInt := Int32.le_toInt x
theorem mi_hi (x : Int32) : x.toInt < 2147483648 := Int32.toInt_lt x
theorem ml_add {x y : Int64} (h1 : -9223372036854775808 ≤ x.toInt + y.toInt) (h2 : x.toInt + y.toInt < 9223372036854775808) : (x + y).toInt = x.toInt + y.toInt := by
  rw [Int64.toInt_add, Int.bmod_eq_of_le] <;> omega
theorem ml_sub {x y : Int64} (h1 : -9223372036854775808 ≤ x.toInt - y.toInt) (h2 : x.toInt - y.toInt < 9223372036854775808) : (x - y).toInt = x.toInt - y.toInt := by
  rw [Int64.toInt_sub, Int.bmod_eq_of_le] <;> omega
theorem ml_neg {x : Int64} (h1 : -9223372036854775808 < x.toInt) : (-x).toInt = -x.toInt := by
  have := Int64.toInt_lt x
  rw [Int64.toInt_neg, Int.bmod_eq_of_le] <;> omega
theorem ml_mul {x y : Int64} (h1 : -9223372036854775808 ≤ x.toInt * y.toInt) (h2 : x.toInt * y.toInt < 9223372036854775808) : (x * y).toInt = x.toInt * y.toInt := by
  rw [Int64.toInt_mul, Int.bmod_eq_of_le] <;> omega
theorem ml_eq {x y : Int64} : x = y ↔ x.toInt = y.toInt := ⟨fun h => h ▸ rfl, fun h => Int64.toInt_inj.mp h⟩
theorem ml_lo (x : Int64) : -9223372036854775808 ≤ x.toInt := Int64.le_toInt x
theorem ml_hi (x : Int64) : x.toInt < 9223372036854775808 := Int64.toInt_lt x
theorem un_of_int {x : Int64} {n : Nat} (h : x.toInt = (n : Int)) : un x = n := by
  have h1 := un_toInt x
  have h2 := un_lt x
  split at h1 <;> omega
theorem un_i64 {k : Int32} (h : 0 ≤ k.toInt) : un k.toInt64 = k.toInt.toNat := by
  apply un_of_int
  rw [Int32.toInt_toInt64]
  omega
theorem mi_of_un {x : Int64} (h : un x < 2147483648) : (x.toInt32).toInt = (un x : Int) := by
  rw [Int64.toInt_toInt32, un_pos (by omega), Int.bmod_eq_of_le] <;> omega
/-- a number as a long -/
def ow (n : Nat) : Int64 := Int64.ofNat n
theorem un_ow {n : Nat} (h : n < 18446744073709551616) : un (ow n) = n := by
  show (Int64.ofNat n).toBitVec.toNat = n
  rw [Int64.toBitVec_ofNat', BitVec.toNat_ofNat, Nat.mod_eq_of_lt h]
theorem eq_ow {x : Int64} {n : Nat} (h : un x = n) : x = ow n := by
  apply un_inj
  have := un_lt x
  rw [un_ow (by omega), h]
theorem or_add {a b k : Nat} (ha : a % 2 ^ k = 0) (hb : b < 2 ^ k) : a ||| b = a + b := by
  have h1 : a = 2 ^ k * (a / 2 ^ k) := by
    have := Nat.div_add_mod a (2 ^ k)
    omega
  rw [h1]
  exact (Nat.two_pow_add_eq_or_of_lt hb _).symm
theorem un_shl' {x : Int64} {y : Int32} {k : Nat} (hk : y.toInt = k) (h1 : k < 64) (h : un x * 2 ^ k < 18446744073709551616) : un (jl_shl x y) = un x * 2 ^ k := by
  rw [un_shl x y (by omega) (by omega), hk, Int.toNat_natCast, Nat.mod_eq_of_lt h]
theorem un_ushr' {x : Int64} {y : Int32} {k : Nat} (hk : y.toInt = k) (h1 : k < 64) : un (jl_ushr x y) = un x / 2 ^ k := by
  rw [un_ushr x y (by omega) (by omega), hk, Int.toNat_natCast]
theorem un_one {y : Int32} {k : Nat} (hk : y.toInt = k) (h1 : k < 64) : un (jl_shl (1 : Int64) y) = 2 ^ k := by
  have h2 : un (1 : Int64) = 1 := by decide
  have h3 : 2 ^ k < 2 ^ 64 := Nat.pow_lt_pow_right (by decide) h1
  rw [un_shl' hk h1 (by rw [h2]; omega), h2, Nat.one_mul]
/-- the lowest k bits -/
theorem un_mask {x : Int64} {y : Int32} {k : Nat} (hk : y.toInt = k) (h1 : k < 64) : un (x &&& (jl_shl (1 : Int64) y - (1 : Int64))) = un x % 2 ^ k := by
  have h2 : un (1 : Int64) = 1 := by decide
  have h3 := un_one hk h1
  have h4 : 0 < 2 ^ k := Nat.two_pow_pos k
  rw [un_and, un_sub_le (by omega), h3, h2, Nat.and_two_pow_sub_one_eq_mod]
theorem un_odd (x : Int64) : un (x &&& (1 : Int64)) = un x % 2 := by
  have h2 : un (1 : Int64) = 2 ^ 1 - 1 := by decide
  rw [un_and, h2, Nat.and_two_pow_sub_one_eq_mod]
