/-! ===== MATH: what a word's bits say ===== -/
def wi (w : Bool) : Int32 := if w then 1 else 0
def mt (w : Bool) : Nat := if w then 52 else 23
def SG (w : Bool) : Nat := if w then 9223372036854775808 else 2147483648
def IN (w : Bool) : Nat := if w then 9218868437227405312 else 2139095040
def E0 (w : Bool) : Int := if w then -1074 else -149
/-- the word fits the form -/
def ok (w : Bool) (x : Int64) : Prop := w = false → un x < 4294967296
/-- the exponent's bits -/
def exN (w : Bool) (x : Int64) : Nat := un x % SG w / 2 ^ mt w
theorem dq_size {w : Bool} {x : Int64} (h : ok w x) : fX5_size x (wi w) = fX2_size w x := by
  unfold fX5_size fX2_size
  cases w
  · have h1 := h rfl
    apply un_inj
    rw [un_and, un_and]
    have e1 : un ((fX5_signBit (wi false)) ^^^ (-1 : Int64)) = 18446744071562067967 := by decide
    have e2 : un ((fo_sign false) - (1 : Int64)) = 2147483647 := by decide
    have e3 : un x = un x &&& (2 ^ 32 - 1) := by rw [Nat.and_two_pow_sub_one_eq_mod]; omega
    rw [e1, e2, e3, Nat.and_assoc, Nat.and_assoc]
    congr 1
  · exact congrArg (x &&& ·) (by decide)
theorem un_size {w : Bool} {x : Int64} (h : ok w x) : un (fX2_size w x) = un x % SG w := by
  unfold fX2_size
  rw [un_and]
  cases w
  · have e2 : un ((fo_sign false) - (1 : Int64)) = 2 ^ 31 - 1 := by decide
    rw [e2, Nat.and_two_pow_sub_one_eq_mod]
    rfl
  · have e2 : un ((fo_sign true) - (1 : Int64)) = 2 ^ 63 - 1 := by decide
    rw [e2, Nat.and_two_pow_sub_one_eq_mod]
    rfl
theorem SG_le (w : Bool) : SG w ≤ 9223372036854775808 := by cases w <;> decide
theorem size_lt {w : Bool} {x : Int64} (h : ok w x) : un (fX2_size w x) < 9223372036854775808 := by
  rw [un_size h]
  have := SG_le w
  have : 0 < SG w := by cases w <;> decide
  have := Nat.mod_lt (un x) this
  omega
theorem dq_inf0 (w : Bool) : fX5_infinite (0 : Int32) (wi w) = fo_infinity w := by cases w <;> decide
theorem dq_sign (w : Bool) : fX5_signBit (wi w) = fo_sign w := by cases w <;> decide
theorem dq_nan0 (w : Bool) : fX5_nan (wi w) = fo_nan w := by cases w <;> decide
theorem dq_inf1 (w : Bool) : fX5_infinite (1 : Int32) (wi w) = (fo_sign w ||| fo_infinity w) := by cases w <;> decide
theorem dq_isNan {w : Bool} {x : Int64} (h : ok w x) : fX5_isNan x (wi w) = fX2_isNan w x := by
  unfold fX5_isNan fX2_isNan
  rw [dq_size h, dq_inf0]
theorem dq_isInf {w : Bool} {x : Int64} (h : ok w x) : fX5_isInfinite x (wi w) = fX2_isInfinite w x := by
  unfold fX5_isInfinite fX2_isInfinite
  rw [dq_size h, dq_inf0]
theorem dq_isZero {w : Bool} {x : Int64} (h : ok w x) : fX5_isZero x (wi w) = fX2_isZero w x := by
  unfold fX5_isZero fX2_isZero
  rw [dq_size h]
theorem dq_isNeg (w : Bool) (x : Int64) : fX5_isNegative x (wi w) = fX2_isNegative w x := by
  unfold fX5_isNegative fX2_isNegative
  rw [dq_sign]
theorem un_infinity (w : Bool) : un (fo_infinity w) = IN w := by cases w <;> decide
theorem nan0 {w : Bool} {x : Int64} (h : ok w x) : fX2_isNan w x = 0 ↔ un x % SG w ≤ IN w := by
  unfold fX2_isNan
  have h1 : un (fo_infinity w) < 9223372036854775808 := by cases w <;> decide
  have h4 : fX2_size w x ≤ fo_infinity w ↔ un x % SG w ≤ IN w := by rw [un_le' (size_lt h) h1, un_size h, un_infinity]
  rw [← h4]
  split
  · rename_i h2; exact ⟨fun _ => h2, fun _ => rfl⟩
  · rename_i h2; exact ⟨fun h3 => absurd h3 (by decide), fun h3 => absurd h3 h2⟩
theorem inf0 {w : Bool} {x : Int64} (h : ok w x) : fX2_isInfinite w x = 0 ↔ un x % SG w ≠ IN w := by
  unfold fX2_isInfinite
  have h4 : fX2_size w x = fo_infinity w ↔ un x % SG w = IN w := by rw [un_iff, un_size h, un_infinity]
  rw [Ne, ← h4]
  split
  · rename_i h2; exact ⟨fun h3 => absurd h3 (by decide), fun h3 => absurd h2 h3⟩
  · rename_i h2; exact ⟨fun _ => h2, fun _ => rfl⟩
theorem zero0 {w : Bool} {x : Int64} (h : ok w x) : fX2_isZero w x = 0 ↔ un x % SG w ≠ 0 := by
  unfold fX2_isZero
  have h1 : un (0 : Int64) = 0 := by decide
  have h4 : fX2_size w x = 0 ↔ un x % SG w = 0 := by rw [un_iff, un_size h, h1]
  rw [Ne, ← h4]
  split
  · rename_i h2; exact ⟨fun h3 => absurd h3 (by decide), fun h3 => absurd h2 h3⟩
  · rename_i h2; exact ⟨fun _ => h2, fun _ => rfl⟩
theorem mt_lt (w : Bool) : mt w < 64 := by cases w <;> decide
theorem fr_mt (w : Bool) : (fo_fraction w).toInt = mt w := by cases w <;> decide
theorem exN_lt (w : Bool) (x : Int64) : exN w x < 2048 := by
  unfold exN
  cases w
  · show un x % 2147483648 / 2 ^ 23 < 2048
    omega
  · show un x % 9223372036854775808 / 2 ^ 52 < 2048
    omega
theorem mi_and {y c : Int32} {k : Nat} (h0 : 0 ≤ y.toInt) (hc : c.toBitVec.toNat = 2 ^ k - 1) (hk : k < 31) : (y &&& c).toInt = (y.toInt.toNat % 2 ^ k : Nat) := by
  have h1 : y.toBitVec.toNat = y.toInt.toNat := by
    have h2 : y.toInt = if 2 * y.toBitVec.toNat < 4294967296 then (y.toBitVec.toNat : Int) else (y.toBitVec.toNat : Int) - 4294967296 := BitVec.toInt_eq_toNat_cond y.toBitVec
    have h3 : y.toBitVec.toNat < 4294967296 := y.toBitVec.isLt
    split at h2 <;> omega
  have h4 : (y &&& c).toBitVec.toNat = y.toInt.toNat % 2 ^ k := by
    rw [Int32.toBitVec_and, BitVec.toNat_and, hc, Nat.and_two_pow_sub_one_eq_mod, h1]
  have h5 : (y &&& c).toInt = if 2 * (y &&& c).toBitVec.toNat < 4294967296 then ((y &&& c).toBitVec.toNat : Int) else ((y &&& c).toBitVec.toNat : Int) - 4294967296 := BitVec.toInt_eq_toNat_cond (y &&& c).toBitVec
  have h6 : y.toInt.toNat % 2 ^ k < 2 ^ k := Nat.mod_lt _ (Nat.two_pow_pos k)
  have h7 : 2 ^ k < 2 ^ 31 := Nat.pow_lt_pow_right (by decide) hk
  rw [h5, h4, if_pos (by omega)]
theorem biased_v {w : Bool} {x : Int64} (h : ok w x) : (fX2_biased w x).toInt = exN w x := by
  unfold fX2_biased exN
  have h1 := un_lt x
  have h2 : un (jl_ushr x (fo_fraction w)) = un x / 2 ^ mt w := un_ushr' (fr_mt w) (mt_lt w)
  cases w
  · have h3 := h rfl
    have h4 : un (jl_ushr x (fo_fraction false)) = un x / 2 ^ 23 := h2
    have h5 := mi_of_un (x := jl_ushr x (fo_fraction false)) (by omega)
    rw [mi_and (k := 8) (by omega) (by decide) (by decide), h5, h4]
    show ((_ : Nat) : Int) = (un x % 2147483648 / 2 ^ 23 : Nat)
    omega
  · have h4 : un (jl_ushr x (fo_fraction true)) = un x / 2 ^ 52 := h2
    have h5 := mi_of_un (x := jl_ushr x (fo_fraction true)) (by omega)
    rw [mi_and (k := 11) (by omega) (by decide) (by decide), h5, h4]
    show ((_ : Nat) : Int) = (un x % 9223372036854775808 / 2 ^ 52 : Nat)
    omega
theorem wi_mt (w : Bool) : fX5_mantissa (wi w) = fo_fraction w := by cases w <;> decide
theorem wi_bias (w : Bool) : fX5_bias (wi w) = fo_bias w := by cases w <;> decide
theorem wi_top (w : Bool) : fX5_top (wi w) = fo_top w := by cases w <;> decide
theorem expBits_v {w : Bool} {x : Int64} (h : ok w x) : (fX5_exponentBits x (wi w)).toInt = exN w x := by
  unfold fX5_exponentBits
  have h2 : un (jl_ushr (fX5_size x (wi w)) (fX5_mantissa (wi w))) = exN w x := by
    rw [wi_mt, un_ushr' (fr_mt w) (mt_lt w), dq_size h, un_size h]
    rfl
  have h3 := exN_lt w x
  rw [mi_of_un (by omega), h2]
theorem dq_exp {w : Bool} {x : Int64} (h : ok w x) : fX5_exponentBits x (wi w) = fX2_biased w x := by
  rw [mi_eq, expBits_v h, biased_v h]
theorem mt_div (w : Bool) : SG w % 2 ^ mt w = 0 := by cases w <;> decide
theorem dq_dig {w : Bool} {x : Int64} (h : ok w x) : fX5_digitsOf x (wi w) = fX2_plain w x := by
  unfold fX5_digitsOf fX5_digitsOf_14 fX2_plain
  have e : fX5_size x (wi w) &&& (jl_shl (1 : Int64) (fX5_mantissa (wi w)) - (1 : Int64)) = (x &&& (jl_shl (1 : Int64) (fo_fraction w) - (1 : Int64))) := by
    apply un_inj
    rw [wi_mt, un_mask (fr_mt w) (mt_lt w), un_mask (fr_mt w) (mt_lt w), dq_size h, un_size h]
    exact Nat.mod_mod_of_dvd _ (Nat.dvd_of_mod_eq_zero (mt_div w))
  rw [dq_exp h, e, wi_mt]
theorem bias_v (w : Bool) : (fo_bias w).toInt = 1 - E0 w - mt w := by cases w <;> decide
theorem top_v (w : Bool) : (fo_top w).toInt = (IN w / 2 ^ mt w : Nat) := by cases w <;> decide
theorem scale_v {w : Bool} {x : Int64} (h : ok w x) : (fX2_scale w x).toInt = E0 w - 1 + max (exN w x : Int) 1 := by
  unfold fX2_scale
  have h1 := exN_lt w x
  have h2 : (ji_max (fX2_biased w x) (1 : Int32)).toInt = max (exN w x : Int) 1 := by
    rw [mi_max, biased_v h]
    rfl
  have h3 := bias_v w
  have h4 := fr_mt w
  have h5 : mt w ≤ 52 := by cases w <;> decide
  have h6 : -1074 ≤ E0 w ∧ E0 w ≤ 0 := by cases w <;> decide
  have h7 : (ji_max (fX2_biased w x) (1 : Int32) - fo_bias w).toInt = max (exN w x : Int) 1 - (1 - E0 w - mt w) := by
    rw [mi_sub (by omega) (by omega), h2, h3]
  rw [mi_sub (by omega) (by omega), h7, h4]
  omega
theorem dq_scale {w : Bool} {x : Int64} (h : ok w x) : fX5_exponentOf x (wi w) = fX2_scale w x := by
  unfold fX5_exponentOf fX5_exponentOf_15 fX2_scale
  have h1 := biased_v h
  rw [dq_exp h, wi_bias, wi_mt]
  have h3 : ji_max (fX2_biased w x) (1 : Int32) = if fX2_biased w x = 0 then 1 else fX2_biased w x := by
    rw [mi_eq, mi_max]
    have e1 : (1 : Int32).toInt = 1 := by decide
    have e0 : (0 : Int32).toInt = 0 := by decide
    split
    · rename_i h4
      rw [h4, e1, e0]
      omega
    · rename_i h4
      rw [mi_eq, e0] at h4
      rw [e1]
      omega
  rw [h3]
  split <;> rfl
theorem plain_v {w : Bool} {x : Int64} (h : ok w x) : un (fX2_plain w x) = if exN w x = 0 then un x % 2 ^ mt w else un x % 2 ^ mt w + 2 ^ mt w := by
  unfold fX2_plain
  have h1 := biased_v h
  have h2 : fX2_biased w x = 0 ↔ exN w x = 0 := by
    rw [mi_eq, h1]
    have e0 : (0 : Int32).toInt = 0 := by decide
    rw [e0]
    omega
  have h3 := un_mask (x := x) (fr_mt w) (mt_lt w)
  have h4 := un_one (fr_mt w) (mt_lt w)
  by_cases c : exN w x = 0
  · rw [if_pos c, if_pos (h2.mpr c), h3]
  · rw [if_neg c, if_neg (fun q => c (h2.mp q)), un_or, h3, h4, Nat.or_comm, or_add (k := mt w) (Nat.mod_self _) (Nat.mod_lt _ (Nat.two_pow_pos _))]
    omega
/-- a finite word: its size is below the infinite one's -/
def fin (w : Bool) (x : Int64) : Prop := ok w x ∧ un x % SG w < IN w
theorem fin_of {w : Bool} {x : Int64} (h : ok w x) (h1 : fX2_isNan w x = 0) (h2 : fX2_isInfinite w x = 0) : fin w x := by
  have := (nan0 h).mp h1
  have := (inf0 h).mp h2
  exact ⟨h, by omega⟩
theorem pl_lt {w : Bool} {x : Int64} (h : ok w x) : un (fX2_plain w x) < 2 ^ (mt w + 1) := by
  rw [plain_v h]
  have h1 := Nat.mod_lt (un x) (Nat.two_pow_pos (mt w))
  rw [Nat.pow_succ]
  split <;> omega
theorem pl_norm {w : Bool} {x : Int64} (h : ok w x) (hs : E0 w < (fX2_scale w x).toInt) : 2 ^ mt w ≤ un (fX2_plain w x) := by
  rw [scale_v h] at hs
  rw [plain_v h, if_neg (by omega)]
  omega
theorem sc_lo {w : Bool} {x : Int64} (h : ok w x) : E0 w ≤ (fX2_scale w x).toInt := by
  rw [scale_v h]; omega
theorem sc_hi {w : Bool} {x : Int64} (h : fin w x) : (fX2_scale w x).toInt ≤ if w then 971 else 104 := by
  rw [scale_v h.1]
  have h1 := h.2
  unfold exN
  cases w
  · have h2 : un x % 2147483648 < 2139095040 := h1
    show -149 - 1 + max ((un x % 2147483648 / 2 ^ 23 : Nat) : Int) 1 ≤ 104
    omega
  · have h2 : un x % 9223372036854775808 < 9218868437227405312 := h1
    show -1074 - 1 + max ((un x % 9223372036854775808 / 2 ^ 52 : Nat) : Int) 1 ≤ 971
    omega
theorem pl_zero {w : Bool} {x : Int64} (h : ok w x) : un (fX2_plain w x) = 0 ↔ un x % SG w = 0 := by
  rw [plain_v h]
  unfold exN
  cases w
  · show (if un x % 2147483648 / 2 ^ 23 = 0 then un x % 2 ^ 23 else un x % 2 ^ 23 + 2 ^ 23) = 0 ↔ un x % 2147483648 = 0
    split <;> omega
  · show (if un x % 9223372036854775808 / 2 ^ 52 = 0 then un x % 2 ^ 52 else un x % 2 ^ 52 + 2 ^ 52) = 0 ↔ un x % 9223372036854775808 = 0
    split <;> omega
theorem pl_pos {w : Bool} {x : Int64} (h : ok w x) (hz : fX2_isZero w x = 0) : 0 < un (fX2_plain w x) := by
  have h1 := (zero0 h).mp hz
  rcases Nat.eq_zero_or_pos (un (fX2_plain w x)) with q | q
  · exact absurd ((pl_zero h).mp q) h1
  · exact q
