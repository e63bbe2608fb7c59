/-! ===== MATH: the easier acts ===== -/
theorem and_pow (n i : Nat) : n &&& 2 ^ i = if n / 2 ^ i % 2 = 1 then 2 ^ i else 0 := by
  apply Nat.eq_of_testBit_eq
  intro j
  rw [Nat.testBit_and, Nat.testBit_two_pow]
  by_cases h : i = j
  · subst h
    by_cases g : n / 2 ^ i % 2 = 1
    · rw [if_pos g, Nat.testBit_two_pow, Nat.testBit_eq_decide_div_mod_eq, decide_eq_true g]
      rfl
    · rw [if_neg g, Nat.testBit_eq_decide_div_mod_eq, decide_eq_false g, Nat.zero_testBit]
      rfl
  · rw [decide_eq_false h, Bool.and_false]
    split
    · rw [Nat.testBit_two_pow, decide_eq_false h]
    · rw [Nat.zero_testBit]
def sgb (w : Bool) : Nat := if w then 63 else 31
theorem sign_bits (w : Bool) : un (fo_sign w) = 2 ^ sgb w := by cases w <;> decide
theorem ng_sg (w : Bool) (x : Int64) : (x &&& fo_sign w) = sg w (fX2_isNegative w x) := by
  unfold sg fX2_isNegative
  by_cases h : (x &&& fo_sign w) = (0 : Int64)
  · rw [if_pos h, if_pos rfl, h]
  · rw [if_neg h, if_neg (by decide)]
    apply un_inj
    have u0 : un (0 : Int64) = 0 := by decide
    rw [un_iff, un_and, sign_bits, u0, and_pow] at h
    rw [un_and, sign_bits, and_pow]
    split
    · rfl
    · rename_i g
      rw [if_neg g] at h
      exact absurd rfl h
theorem z_neg (w : Bool) (x : Int64) : fX2_isNegative w x = 0 ∨ fX2_isNegative w x = 1 := zX2_isNegative w x
theorem sx (w : Bool) (a b : Int64) : ((a ^^^ b) &&& fo_sign w) = sg w (if fX2_isNegative w a = fX2_isNegative w b then 0 else 1) := by
  have h : ((a ^^^ b) &&& fo_sign w) = ((a &&& fo_sign w) ^^^ (b &&& fo_sign w)) := by
    apply un_inj
    rw [un_and, un_xor, un_xor, un_and, un_and, Nat.and_xor_distrib_right]
  rw [h, ng_sg, ng_sg]
  rcases z_neg w a with ha | ha <;> rcases z_neg w b with hb | hb <;> rw [ha, hb] <;> cases w <;> decide
theorem sg0 (w : Bool) : sg w 0 = 0 := rfl
theorem sg1 (w : Bool) : sg w 1 = fo_sign w := by cases w <;> decide
theorem ok_true (x : Int64) : ok true x := fun h => absurd h (by decide)
theorem bits_ok (x : Int32) : ok false (fX5_bits x) := by
  intro _
  unfold fX5_bits
  have h : un (4294967295 : Int64) = 2 ^ 32 - 1 := by decide
  rw [un_and, h, Nat.and_two_pow_sub_one_eq_mod]
  exact Nat.mod_lt _ (by decide)
theorem sc_rg {w : Bool} {x : Int64} (h : ok w x) : -1074 ≤ (fX2_scale w x).toInt ∧ (fX2_scale w x).toInt ≤ 2047 := by
  have h1 := scale_v h
  have h2 := exN_lt w x
  have hE : -1074 ≤ E0 w ∧ E0 w ≤ -149 := by cases w <;> decide
  omega
theorem pl_62 {w : Bool} {x : Int64} (h : ok w x) : un (fX2_plain w x) < 2 ^ 53 := by
  have h1 := pl_lt h
  have h2 : 2 ^ (mt w + 1) ≤ 2 ^ 53 := Nat.pow_le_pow_right (by decide) (by cases w <;> decide)
  omega
/-- the number itself, rounded to a form -/
theorem own_round {w w1 : Bool} {x : Int64} {n s : Int32} (h : ok w1 x) (hz : fX2_isZero w1 x = 0) (hs : -20000 ≤ s.toInt ∧ s.toInt ≤ 20000) : fX2_rounded w n s (fX2_plain w1 x) = fX5_rounded n (fX2_plain w1 x) s 0 (wi w) :=
  roundAB (pl_pos h hz) (Nat.lt_trans (pl_62 h) (by decide)) hs
theorem zero_pl {w : Bool} {x : Int64} (h : ok w x) (hz : ¬ fX2_isZero w x = 0) : un (fX2_plain w x) = 0 := by
  rw [pl_zero h]
  rcases Nat.eq_zero_or_pos (un x % SG w) with q | q
  · exact q
  · exact absurd ((zero0 h).mpr (by omega)) hz
theorem or_comm64 (x y : Int64) : (x ||| y) = (y ||| x) := by
  apply un_inj
  rw [un_or, un_or, Nat.or_comm]
theorem inf_sg {w : Bool} {n : Int32} (hn : n = 0 ∨ n = 1) : fX5_infinite n (wi w) = (sg w n ||| fo_infinity w) := by
  rcases hn with h | h <;> subst h <;> cases w <;> decide
theorem e_conv {w w1 : Bool} {x : Int64} (h : ok w1 x) : fX2_converted w w1 x = if fX5_isNan x (wi w1) = 0 then if fX5_isInfinite x (wi w1) = 0 then fX5_rounded (fX5_isNegative x (wi w1)) (fX5_digitsOf x (wi w1)) (fX5_exponentOf x (wi w1)) 0 (wi w) else fX5_infinite (fX5_isNegative x (wi w1)) (wi w) else fX5_nan (wi w) := by
  rw [dq_isNan h, dq_isInf h, dq_isNeg, dq_dig h, dq_scale h, dq_nan0]
  have hs := sc_rg h
  unfold fX2_converted
  by_cases c1 : fX2_isNan w1 x = 0
  · rw [if_pos c1, if_pos c1]
    have k : ∀ s : Int64, s = sg w (fX2_isNegative w1 x) → fX2_converted_29 w w1 x s = if fX2_isInfinite w1 x = 0 then fX5_rounded (fX2_isNegative w1 x) (fX2_plain w1 x) (fX2_scale w1 x) 0 (wi w) else fX5_infinite (fX2_isNegative w1 x) (wi w) := by
      intro s hs2
      unfold fX2_converted_29
      by_cases c2 : fX2_isInfinite w1 x = 0
      · rw [if_pos c2, if_pos c2]
        by_cases c3 : fX2_isZero w1 x = 0
        · rw [if_pos c3]
          exact own_round h c3 (by omega)
        · rw [if_neg c3, roundBz (zero_pl h c3), hs2]
      · rw [if_neg c2, if_neg c2, inf_sg (z_neg w1 x), hs2]
    rcases z_neg w1 x with c4 | c4
    · rw [if_pos c4]
      exact k _ (by rw [c4]; rfl)
    · rw [if_neg (by rw [c4]; decide)]
      exact k _ (by rw [c4, sg1])
  · rw [if_neg c1, if_neg c1]
theorem e_scaled {w : Bool} {x : Int64} (h : ok w x) (y : Int64) : fX2_scaled w x y = fX5_scaled x y (wi w) := by
  unfold fX2_scaled fX5_scaled fX5_scaled_64
  rw [dq_isNan h, dq_isInf h, dq_isZero h, dq_isNeg, dq_dig h, dq_scale h, dq_nan0]
  have hs := sc_rg h
  by_cases c1 : fX2_isNan w x = 0
  · rw [if_pos c1, if_pos c1]
    by_cases c2 : fX2_isInfinite w x = 0
    · rw [if_pos c2, if_pos c2]
      by_cases c3 : fX2_isZero w x = 0
      · rw [if_pos c3, if_pos c3]
        have e5 : (5000 : Int64).toInt = 5000 := by decide
        have e6 : (-5000 : Int64).toInt = -5000 := by decide
        have key : ∀ z : Int64, -5000 ≤ z.toInt → z.toInt ≤ 5000 → fX2_rounded w (fX2_isNegative w x) (fX2_scale w x + z.toInt32) (fX2_plain w x) = fX5_rounded (fX2_isNegative w x) (fX2_plain w x) (fX2_scale w x + z.toInt32) 0 (wi w) := by
          intro z h1 h2
          have h3 : z.toInt32.toInt = z.toInt := by
            rw [Int64.toInt_toInt32, Int.bmod_eq_of_le] <;> omega
          apply own_round h c3
          rw [mi_add (by omega) (by omega)]
          omega
        have hv : jl_max (-5000 : Int64) (jl_min (5000 : Int64) y) = if y ≤ (5000 : Int64) then if (-5000 : Int64) ≤ y then y else (-5000 : Int64) else (5000 : Int64) := by
          unfold jl_max jl_min
          by_cases g1 : y ≤ (5000 : Int64)
          · by_cases g2 : (-5000 : Int64) ≤ y
            · rw [if_pos g1, if_pos g2]
              rw [un_le_iff] at g1 g2
              by_cases g3 : y < (5000 : Int64)
              · rw [if_pos g3]
                by_cases g4 : y < (-5000 : Int64)
                · rw [un_lt_iff] at g4; omega
                · rw [if_neg g4]
              · rw [if_neg g3]
                rw [un_lt_iff] at g3
                rw [if_neg (by decide)]
                rw [ml_eq]; omega
            · rw [if_pos g1, if_neg g2]
              rw [un_le_iff] at g1 g2
              have g3 : y < (5000 : Int64) := by rw [un_lt_iff]; omega
              have g4 : y < (-5000 : Int64) := by rw [un_lt_iff]; omega
              rw [if_pos g3, if_pos g4]
          · rw [if_neg g1]
            rw [un_le_iff] at g1
            have g3 : ¬ y < (5000 : Int64) := by rw [un_lt_iff]; omega
            rw [if_neg g3, if_neg (by decide)]
        rw [hv]
        by_cases g1 : y ≤ (5000 : Int64)
        · rw [if_pos g1, if_pos g1]
          by_cases g2 : (-5000 : Int64) ≤ y
          · rw [if_pos g2, if_pos g2]
            rw [un_le_iff] at g1 g2
            exact key y (by omega) (by omega)
          · rw [if_neg g2, if_neg g2]
            exact key _ (by omega) (by omega)
        · rw [if_neg g1, if_neg g1]
          exact key _ (by omega) (by omega)
      · rw [if_neg c3, if_neg c3]
    · rw [if_neg c2, if_neg c2]
  · rw [if_neg c1, if_neg c1]
theorem e_gap {w : Bool} {x : Int64} (h : ok w x) : fX2_gap w x = fX5_stepOf x (wi w) := by
  unfold fX2_gap fX5_stepOf
  rw [dq_isNan h, dq_isInf h, dq_scale h, dq_nan0, dq_inf0]
  have hs := sc_rg h
  rw [roundAB (m := (1 : Int64)) (by decide) (by decide) (by omega)]
theorem e_order {w : Bool} {a b : Int64} (ha : ok w a) (hb : ok w b) : fX5_order a b (wi w) = if fX2_rank w b ≤ fX2_rank w a then if fX2_rank w a = fX2_rank w b then 0 else 1 else -1 := by
  unfold fX5_order fX5_order_25 fX5_order_52 fX2_rank
  rw [dq_isNeg, dq_isNeg, dq_size ha, dq_size hb]
  split <;> split <;> rfl
theorem ord_tot {a b : Int64} (h : ¬ a ≤ b) : b < a := by
  rw [un_le_iff] at h
  rw [un_lt_iff]
  omega
theorem e_lesser {w : Bool} {a b : Int64} (ha : ok w a) (hb : ok w b) : fX2_lesser w a b = fX5_lesser a b 0 (wi w) := by
  unfold fX2_lesser fX5_lesser fX5_lesser_18 fX5_lesser_58
  rw [dq_isNan ha, dq_isNan hb, dq_nan0, e_order ha hb, dq_isNeg]
  by_cases c1 : fX2_isNan w a = 0
  · rw [if_pos c1, if_pos c1]
    by_cases c2 : fX2_isNan w b = 0
    · rw [if_pos c2, if_pos c2]
      by_cases c3 : fX2_rank w b ≤ fX2_rank w a
      · have c5 : ¬ fX2_rank w a < fX2_rank w b := by rw [un_lt_iff]; rw [un_le_iff] at c3; omega
        rw [if_pos c3, if_neg c5]
        by_cases c4 : fX2_rank w a = fX2_rank w b
        · rw [if_pos c4, if_pos c4, if_pos rfl]
        · rw [if_neg c4, if_neg c4]
          rw [if_neg (by decide), if_pos (by decide), if_pos rfl]
      · rw [if_neg c3, if_pos (ord_tot c3)]
        rw [if_neg (by decide), if_neg (by decide), if_neg (by decide)]
    · rw [if_neg c2, if_neg c2]
  · rw [if_neg c1, if_neg c1]
theorem e_greater {w : Bool} {a b : Int64} (ha : ok w a) (hb : ok w b) : fX2_greater w a b = fX5_lesser a b 1 (wi w) := by
  unfold fX2_greater fX5_lesser fX5_lesser_18 fX5_lesser_58
  rw [dq_isNan ha, dq_isNan hb, dq_nan0, e_order ha hb, dq_isNeg]
  by_cases c1 : fX2_isNan w a = 0
  · rw [if_pos c1, if_pos c1]
    by_cases c2 : fX2_isNan w b = 0
    · rw [if_pos c2, if_pos c2]
      by_cases c3 : fX2_rank w b ≤ fX2_rank w a
      · rw [if_pos c3]
        by_cases c4 : fX2_rank w a = fX2_rank w b
        · have c5 : ¬ fX2_rank w b < fX2_rank w a := by rw [c4, un_lt_iff]; omega
          rw [if_neg c5, if_pos c4, if_pos c4, if_pos rfl]
          rcases z_neg w a with c6 | c6
          · rw [if_pos c6, c6, if_neg (by decide)]
          · rw [if_neg (by rw [c6]; decide), c6, if_pos rfl]
        · have c5 : fX2_rank w b < fX2_rank w a := by
            rw [un_le_iff] at c3
            rw [ml_eq] at c4
            rw [un_lt_iff]
            omega
          rw [if_pos c5, if_neg c4]
          rw [if_neg (by decide), if_pos (by decide), if_neg (by decide)]
      · have c5 : ¬ fX2_rank w b < fX2_rank w a := by
          rw [un_le_iff] at c3
          rw [un_lt_iff]
          omega
        have c4 : ¬ fX2_rank w a = fX2_rank w b := by
          rw [un_le_iff] at c3
          rw [ml_eq]
          omega
        rw [if_neg c3, if_neg c5, if_neg c4]
        rw [if_neg (by decide), if_neg (by decide), if_pos rfl]
    · rw [if_neg c2, if_neg c2]
  · rw [if_neg c1, if_neg c1]
/-- a word that is not negative is its size -/
theorem pos_size {w : Bool} {x : Int64} (h : ok w x) (hn : fX2_isNegative w x = 0) : un x < SG w := by
  have h1 := ng_sg w x
  have u0 : un (0 : Int64) = 0 := by decide
  rw [hn, sg0, un_iff, un_and, sign_bits, and_pow, u0] at h1
  have h2 := un_lt x
  cases w
  · have h3 := h rfl
    have h5 : ¬ un x / 2 ^ 31 % 2 = 1 := by
      intro q
      rw [show sgb false = 31 from rfl, if_pos q] at h1
      exact absurd h1 (by decide)
    show un x < 2147483648
    omega
  · have h5 : ¬ un x / 2 ^ 63 % 2 = 1 := by
      intro q
      rw [show sgb true = 63 from rfl, if_pos q] at h1
      exact absurd h1 (by decide)
    show un x < 9223372036854775808
    omega
theorem e_above {w : Bool} {x : Int64} (h : ok w x) : fX2_above w x = fX5_nextUp x (wi w) := by
  unfold fX2_above fX5_nextUp
  rw [dq_isNan h, dq_isZero h, dq_isNeg, dq_isInf h, dq_nan0]
  by_cases c1 : fX2_isNan w x = 0
  · rw [if_pos c1, if_pos c1]
    by_cases c2 : fX2_isZero w x = 0
    · rw [if_pos c2, if_pos c2]
      rcases z_neg w x with c3 | c3
      · rw [if_pos c3, if_pos c3]
        have h1 := pos_size h c3
        by_cases c4 : x = fo_infinity w
        · rw [if_pos c4]
          have c5 : ¬ fX2_isInfinite w x = 0 := by
            rw [inf0 h, Nat.mod_eq_of_lt h1, c4, un_infinity]
            exact fun q => q rfl
          rw [if_neg c5]
        · rw [if_neg c4]
          have c5 : fX2_isInfinite w x = 0 := by
            rw [inf0 h, Nat.mod_eq_of_lt h1]
            intro q
            exact c4 (un_inj (by rw [q, un_infinity]))
          rw [if_pos c5]
      · have n3 : ¬ fX2_isNegative w x = 0 := by rw [c3]; decide
        rw [if_neg n3, if_neg n3]
        have c4 : ¬ x = fo_infinity w := by
          intro q
          rw [q] at n3
          revert n3
          cases w <;> decide
        rw [if_neg c4]
    · rw [if_neg c2, if_neg c2]
  · rw [if_neg c1, if_neg c1]
