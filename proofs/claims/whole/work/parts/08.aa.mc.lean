/-! ===== MATH: whole numbers ===== -/
theorem rn_norm {w : Bool} {Q : Nat} {u : Int} (h1 : 2 ^ mt w ≤ Q) (h2 : Q ≤ 2 ^ (mt w + 1)) (hu : E0 w ≤ u) (hI : (u - E0 w).toNat * 2 ^ mt w + Q ≤ IN w) : rw_ w Q u = (u - E0 w).toNat * 2 ^ mt w + Q := by
  have hp := Nat.two_pow_pos (mt w)
  have hp2 : 2 ^ (mt w + 1) = 2 * 2 ^ mt w := by rw [Nat.pow_succ, Nat.mul_comm]
  unfold rw_ rn
  by_cases c : Q = 2 ^ (mt w + 1)
  · have hn : nb Q = mt w + 1 + 1 := nb_eq (by omega) (by rw [c]; exact Nat.pow_lt_pow_right (by decide) (by omega))
    have hul : ulp (mt w) (E0 w) Q u = u + 1 := by
      unfold ulp
      rw [hn]
      omega
    rw [hul]
    have hh : hv Q (u + 1 - u) = 2 ^ mt w := by
      unfold hv
      rw [if_neg (by omega), show (u + 1 - u).toNat = 1 from by omega]
      have := rq_exact (2 ^ mt w) 1 1 (Nat.le_refl _)
      rw [c, hp2, show 2 * 2 ^ mt w = 2 ^ mt w * 2 ^ 1 from by omega, this]
      simp
    rw [hh, show (u + 1 - E0 w).toNat = (u - E0 w).toNat + 1 from by omega, Nat.add_mul]
    omega
  · have hn : nb Q = mt w + 1 := nb_eq h1 (by omega)
    have hul : ulp (mt w) (E0 w) Q u = u := by
      unfold ulp
      rw [hn]
      omega
    rw [hul]
    have hh : hv Q (u - u) = Q := by
      unfold hv
      rw [if_pos (by omega), show (-(u - u)).toNat = 0 from by omega, Nat.pow_zero, Nat.mul_one]
    rw [hh]
    omega
theorem rn_sub {w : Bool} {Q : Nat} (h2 : Q < 2 ^ mt w) (h0 : 0 < Q) : rw_ w Q (E0 w) = Q := by
  have hI : 2 ^ mt w ≤ IN w := by cases w <;> decide
  unfold rw_ rn
  have hn : nb Q ≤ mt w := nb_le.mpr h2
  have hul : ulp (mt w) (E0 w) Q (E0 w) = E0 w := by
    unfold ulp
    omega
  rw [hul]
  have hh : hv Q (E0 w - E0 w) = Q := by
    unfold hv
    rw [if_pos (by omega), show (-(E0 w - E0 w)).toNat = 0 from by omega, Nat.pow_zero, Nat.mul_one]
  rw [hh]
  simp only [Int.sub_self, Int.toNat_zero, Nat.zero_mul, Nat.zero_add]
  omega
/-- size, exponent and digits -/
theorem size_pl {w : Bool} {x : Int64} (h : ok w x) : un x % SG w + (if exN w x = 0 then 0 else 2 ^ mt w) = exN w x * 2 ^ mt w + un (fX2_plain w x) := by
  rw [plain_v h]
  unfold exN
  cases w
  · show un x % 2147483648 + (if un x % 2147483648 / 2 ^ 23 = 0 then 0 else 2 ^ 23) = un x % 2147483648 / 2 ^ 23 * 2 ^ 23 + (if un x % 2147483648 / 2 ^ 23 = 0 then un x % 2 ^ 23 else un x % 2 ^ 23 + 2 ^ 23)
    split <;> omega
  · show un x % 9223372036854775808 + (if un x % 9223372036854775808 / 2 ^ 52 = 0 then 0 else 2 ^ 52) = un x % 9223372036854775808 / 2 ^ 52 * 2 ^ 52 + (if un x % 9223372036854775808 / 2 ^ 52 = 0 then un x % 2 ^ 52 else un x % 2 ^ 52 + 2 ^ 52)
    split <;> omega
/-- a number rounds to itself -/
theorem rn_own {w : Bool} {x : Int64} (h : fin w x) (hz : fX2_isZero w x = 0) : rw_ w (un (fX2_plain w x)) (fX2_scale w x).toInt = un x % SG w := by
  have hp := pl_pos h.1 hz
  have hl := pl_lt h.1
  have hs := scale_v h.1
  have hsz := size_pl h.1
  by_cases c : exN w x = 0
  · rw [if_pos c, c, Nat.zero_mul] at hsz
    rw [c] at hs
    have hl2 : un (fX2_plain w x) < 2 ^ mt w := by
      rw [plain_v h.1, if_pos c]
      exact Nat.mod_lt _ (Nat.two_pow_pos _)
    rw [show (fX2_scale w x).toInt = E0 w from by omega, rn_sub hl2 hp]
    omega
  · rw [if_neg c] at hsz
    have hlo : 2 ^ mt w ≤ un (fX2_plain w x) := by
      rw [plain_v h.1, if_neg c]
      omega
    have he : ((fX2_scale w x).toInt - E0 w).toNat = exN w x - 1 := by omega
    have hm : (exN w x - 1) * 2 ^ mt w + 2 ^ mt w = exN w x * 2 ^ mt w := by
      rw [← Nat.succ_mul]
      congr 1
      omega
    have hf := h.2
    rw [rn_norm hlo (by omega) (by omega) (by rw [he]; omega), he]
    omega
theorem sg_un (w : Bool) (x : Int64) (h : ok w x) : un x = un (sg w (fX2_isNegative w x)) + un x % SG w := by
  have h1 := ng_sg w x
  rw [← h1, un_and, sign_bits, and_pow]
  have h2 := un_lt x
  cases w
  · have h3 := h rfl
    show un x = (if un x / 2 ^ 31 % 2 = 1 then 2 ^ 31 else 0) + un x % 2147483648
    split <;> omega
  · show un x = (if un x / 2 ^ 63 % 2 = 1 then 2 ^ 63 else 0) + un x % 9223372036854775808
    split <;> omega
theorem sg_or {w : Bool} {n : Int32} {N : Nat} (hn : n = 0 ∨ n = 1) (hN : N < SG w) : un (sg w n ||| ow N) = un (sg w n) + N := by
  have hS := SG_le w
  rw [un_or, un_ow (by omega)]
  rcases hn with h | h <;> subst h
  · have u0 : un (0 : Int64) = 0 := by decide
    rw [sg0, u0, Nat.zero_or, Nat.zero_add]
  · rw [sg1]
    apply or_add (k := sgb w)
    · rw [sign_bits]; exact Nat.mod_self _
    · have : SG w = 2 ^ sgb w := by cases w <;> decide
      omega
theorem own_word {w : Bool} {x : Int64} (h : fin w x) (hz : fX2_isZero w x = 0) : (sg w (fX2_isNegative w x) ||| ow (rw_ w (un (fX2_plain w x)) (fX2_scale w x).toInt)) = x := by
  apply un_inj
  have hS : 0 < SG w := by cases w <;> decide
  rw [rn_own h hz, sg_or (z_neg w x) (Nat.mod_lt _ hS)]
  exact (sg_un w x h.1).symm
theorem and_hi {x k : Nat} (hx : x < 2 ^ 64) (hk : k ≤ 64) : x &&& (2 ^ 64 - 2 ^ k) = x - x % 2 ^ k := by
  have e1 : 2 ^ 64 - 2 ^ k = 2 ^ k * (2 ^ (64 - k) - 1) := by
    rw [Nat.mul_sub, ← Nat.pow_add, show k + (64 - k) = 64 from by omega, Nat.mul_one]
  have e2 : x - x % 2 ^ k = 2 ^ k * (x / 2 ^ k) := by
    have := Nat.div_add_mod x (2 ^ k)
    omega
  rw [e1, e2]
  apply Nat.eq_of_testBit_eq
  intro j
  rw [Nat.testBit_and, Nat.testBit_two_pow_mul, Nat.testBit_two_pow_mul, Nat.testBit_two_pow_sub_one]
  by_cases c : k ≤ j
  · rw [Nat.testBit_div_two_pow, show j - k + k = j from by omega, decide_eq_true c]
    by_cases d : j < 64
    · rw [decide_eq_true (show j - k < 64 - k from by omega)]
      simp
    · have h3 : x.testBit j = false := Nat.testBit_lt_two_pow (Nat.lt_of_lt_of_le hx (Nat.pow_le_pow_right (by decide) (by omega)))
      rw [h3]
      simp
  · rw [decide_eq_false c]
    simp
theorem un_hi {x : Int64} {y : Int32} {k : Nat} (hk : y.toInt = k) (h1 : k < 64) : un (x &&& (-(jl_shl (1 : Int64) y))) = un x - un x % 2 ^ k := by
  have h2 := un_one hk h1
  have h3 : 2 ^ k < 2 ^ 64 := Nat.pow_lt_pow_right (by decide) h1
  have h4 := Nat.two_pow_pos k
  have h5 : un (-(jl_shl (1 : Int64) y)) = 2 ^ 64 - 2 ^ k := by
    rw [un_neg, h2, Nat.mod_eq_of_lt (by omega)]
  rw [un_and, h5, and_hi (un_lt x) (by omega)]
