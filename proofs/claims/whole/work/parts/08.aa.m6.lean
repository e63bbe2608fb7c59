/-! ===== MATH: rests ===== -/
theorem un_div {x y : Int64} (hx : un x < 9223372036854775808) (hy : un y < 9223372036854775808) : un (x / y) = un x / un y := by
  apply un_of_int
  rw [Int64.toInt_div, un_pos hx, un_pos hy, Int.tdiv_eq_ediv_of_nonneg (by omega), Int.bmod_eq_of_le]
  · exact (Int.natCast_ediv (un x) (un y)).symm
  · have : 0 ≤ (un x : Int) / (un y : Int) := Int.ediv_nonneg (by omega) (by omega)
    omega
  · rw [← Int.natCast_ediv]
    have := Nat.div_le_self (un x) (un y)
    omega
theorem un_rem {x y : Int64} (hx : un x < 9223372036854775808) (hy : un y < 9223372036854775808) : un (jl_rem x y) = un x % un y := by
  unfold jl_rem
  have h1 := Nat.div_add_mod (un x) (un y)
  have h2 : un x / un y * un y ≤ un x := Nat.div_mul_le_self _ _
  have h3 : un (x / y * y) = un x / un y * un y := by rw [un_mul, un_div hx hy, Nat.mod_eq_of_lt (by omega)]
  rw [un_sub_le (by rw [h3]; exact h2), h3, Nat.mul_comm]
  omega
theorem rA_loop {w : Bool} {n : Int64} {ch : Int32} (hn : 0 < un n) (hn2 : un n < 2 ^ (mt w + 1)) (hc : ch.toInt = 62 - mt w) : ∀ (k : Nat) (r : Int64) (L : Int32), L.toInt.toNat < k → un r < un n → un (gX2_rest_112 w n ch k r L).1 = un r * 2 ^ L.toInt.toNat % un n := by
  have hmt : 23 ≤ mt w ∧ mt w ≤ 52 := by cases w <;> decide
  have e0 : (0 : Int32).toInt = 0 := by decide
  have h53 : 2 ^ (mt w + 1) ≤ 2 ^ 53 := Nat.pow_le_pow_right (by decide) (by omega)
  intro k
  induction k with
  | zero => intro r L h; omega
  | succ k ih =>
    intro r L hk hr
    have hl := mi_lo L
    have hh := mi_hi L
    rw [gX2_rest_112]
    by_cases c : L ≤ 0
    · rw [if_pos c]
      rw [mi_le, e0] at c
      have h0 : L.toInt.toNat = 0 := by omega
      rw [h0, Nat.pow_zero, Nat.mul_one, Nat.mod_eq_of_lt hr]
    · rw [if_neg c]
      rw [mi_le, e0] at c
      have hmin : (ji_min L ch).toInt = (min L.toInt (62 - mt w)).toNat := by
        rw [mi_min, hc]
        omega
      have hb : un r * 2 ^ (min L.toInt (62 - mt w)).toNat < 2 ^ 63 := by
        have g1 : un r * 2 ^ (min L.toInt (62 - mt w)).toNat ≤ un r * 2 ^ (62 - mt w) := Nat.mul_le_mul_left _ (Nat.pow_le_pow_right (by decide) (by omega))
        have g2 : un r * 2 ^ (62 - mt w) < 2 ^ (mt w + 1) * 2 ^ (62 - mt w) := Nat.mul_lt_mul_of_pos_right (by omega) (Nat.two_pow_pos _)
        rw [← Nat.pow_add, show mt w + 1 + (62 - mt w) = 63 from by omega] at g2
        omega
      have hs : un (jl_shl r (ji_min L ch)) = un r * 2 ^ (min L.toInt (62 - mt w)).toNat := un_shl' hmin (by omega) (by omega)
      have hrem : un (jl_rem (jl_shl r (ji_min L ch)) n) = un r * 2 ^ (min L.toInt (62 - mt w)).toNat % un n := by
        rw [un_rem (by rw [hs]; exact hb) (by omega), hs]
      have hL2 : (L - ch).toInt = L.toInt - (62 - mt w) := by rw [mi_sub (by omega) (by omega), hc]
      rw [ih _ _ (by omega) (by rw [hrem]; exact Nat.mod_lt _ hn), hrem, hL2, Nat.mod_mul_mod]
      rw [Nat.mul_assoc, ← Nat.pow_add]
      congr 3
      omega
theorem rB_loop {n : Int64} {d : Int32} (hn : 0 < un n) (hn2 : un n < 2 ^ 62) : ∀ (k : Nat) (r : Int64) (i : Int32), (d.toInt - i.toInt).toNat < k → 0 ≤ i.toInt → un r < un n → un (gX5_rest_139 n d k r i).1 = un r * 2 ^ (d.toInt - i.toInt).toNat % un n := by
  have e1 : (1 : Int32).toInt = 1 := by decide
  have u0 : un (0 : Int64) = 0 := by decide
  intro k
  induction k with
  | zero => intro r i h; omega
  | succ k ih =>
    intro r i hk hi hr
    have hh := mi_hi d
    rw [gX5_rest_139]
    by_cases c : d ≤ i
    · rw [if_pos c]
      rw [mi_le] at c
      have h0 : (d.toInt - i.toInt).toNat = 0 := by omega
      rw [h0, Nat.pow_zero, Nat.mul_one, Nat.mod_eq_of_lt hr]
    · rw [if_neg c]
      rw [mi_le] at c
      have hs : un (jl_shl r (1 : Int32)) = un r * 2 := un_shl' (k := 1) e1 (by decide) (by omega)
      have hi2 : (i + 1).toInt = i.toInt + 1 := by rw [mi_add (by omega) (by omega), e1]
      have hp : un r * 2 ^ (d.toInt - i.toInt).toNat = un r * 2 * 2 ^ (d.toInt - (i.toInt + 1)).toNat := by
        rw [Nat.mul_assoc, ← Nat.pow_succ']
        congr 2
        omega
      by_cases c2 : jl_shl r (1 : Int32) < n
      · rw [if_pos c2]
        rw [un_lt' (by omega) (by omega), hs] at c2
        have h3 : un (jl_shl r (1 : Int32) - (0 : Int64)) = un r * 2 := by rw [un_sub_le (by omega), hs, u0]; omega
        rw [ih _ _ (by omega) (by omega) (by omega), h3, hi2, hp]
      · rw [if_neg c2]
        rw [un_lt' (by omega) (by omega), hs] at c2
        have h3 : un (jl_shl r (1 : Int32) - n) = un r * 2 - un n := by rw [un_sub_le (by omega), hs]
        rw [ih _ _ (by omega) (by omega) (by omega), h3, hi2, hp]
        have h4 : un r * 2 = (un r * 2 - un n) + un n := by omega
        generalize un r * 2 - un n = q at *
        rw [h4, Nat.add_mul, Nat.add_mul_mod_self_left]
theorem sz_sc {w : Bool} {a b : Int64} (ha : ok w a) (hb : ok w b) (h : fX2_size w b ≤ fX2_size w a) : (fX2_scale w b).toInt ≤ (fX2_scale w a).toInt := by
  rw [un_le' (size_lt hb) (size_lt ha), un_size ha, un_size hb] at h
  rw [scale_v ha, scale_v hb]
  unfold exN
  have := Nat.div_le_div_right (c := 2 ^ mt w) h
  omega
theorem e_rest {w : Bool} {a b : Int64} (ha : ok w a) (hb : ok w b) : fX2_rest w a b = fX5_rest a b (wi w) := by
  have hsa := sc_rg ha
  have hsb := sc_rg hb
  have hmt : 23 ≤ mt w ∧ mt w ≤ 52 := by cases w <;> decide
  have e0 : (0 : Int32).toInt = 0 := by decide
  have e62 : (62 : Int32).toInt = 62 := by decide
  have u0 : un (0 : Int64) = 0 := by decide
  have hla := pl_62 ha
  have hlb := pl_62 hb
  unfold fX2_rest fX5_rest fX5_rest_36
  rw [dq_isNan ha, dq_isNan hb, dq_isInf ha, dq_isZero hb, dq_isInf hb, dq_size ha, dq_size hb, dq_scale ha, dq_scale hb, dq_dig ha, dq_dig hb, dq_nan0]
  by_cases c1 : fX2_isNan w a = 0
  · rw [if_pos c1, if_pos c1]
    by_cases c2 : fX2_isNan w b = 0
    · rw [if_pos c2, if_pos c2]
      by_cases c3 : fX2_isInfinite w a = 0
      · rw [if_pos c3, if_pos c3]
        by_cases c4 : fX2_isZero w b = 0
        · rw [if_pos c4, if_pos c4]
          by_cases c5 : fX2_isInfinite w b = 0
          · rw [if_pos c5, if_pos c5]
            by_cases c6 : fX2_size w b ≤ fX2_size w a
            · rw [if_pos c6, if_pos c6]
              have hd := sz_sc ha hb c6
              have hpb := pl_pos hb c4
              have hdd : (fX2_scale w a - fX2_scale w b).toInt = (fX2_scale w a).toInt - (fX2_scale w b).toInt := mi_sub (by omega) (by omega)
              rw [if_neg (by rw [un_iff, u0]; omega), if_pos (by rw [mi_le, e0]; omega)]
              unfold fX2_rest_142 fX5_rest_129 fX5_rest_177
              have hch : ((62 : Int32) - fo_fraction w).toInt = 62 - mt w := by
                have := fr_mt w
                rw [mi_sub (by omega) (by omega), e62, fr_mt]
              have hm0 : un (jl_rem (fX2_plain w a) (fX2_plain w b)) = un (fX2_plain w a) % un (fX2_plain w b) := un_rem (by omega) (by omega)
              have hA := rA_loop (w := w) (n := fX2_plain w b) hpb (pl_lt hb) hch (Nat.succ ((fX2_scale w a - fX2_scale w b).toInt.toNat)) (jl_rem (fX2_plain w a) (fX2_plain w b)) (fX2_scale w a - fX2_scale w b) (by omega) (by rw [hm0]; exact Nat.mod_lt _ hpb)
              have hB := rB_loop (n := fX2_plain w b) (d := fX2_scale w a - fX2_scale w b) hpb (by omega) (Nat.succ (((fX2_scale w a - fX2_scale w b).toInt - (0 : Int32).toInt).toNat)) (jl_rem (fX2_plain w a) (fX2_plain w b)) (0 : Int32) (by omega) (by decide) (by rw [hm0]; exact Nat.mod_lt _ hpb)
              have hAB : (gX2_rest_112 w (fX2_plain w b) ((62 : Int32) - fo_fraction w) (Nat.succ ((fX2_scale w a - fX2_scale w b).toInt.toNat)) (jl_rem (fX2_plain w a) (fX2_plain w b)) (fX2_scale w a - fX2_scale w b)).1 = (gX5_rest_139 (fX2_plain w b) (fX2_scale w a - fX2_scale w b) (Nat.succ (((fX2_scale w a - fX2_scale w b).toInt - (0 : Int32).toInt).toNat)) (jl_rem (fX2_plain w a) (fX2_plain w b)) (0 : Int32)).1 := by
                apply un_inj
                rw [hA, hB, e0]
                congr 3
                omega
              rw [← hAB]
              have hlt : un (gX2_rest_112 w (fX2_plain w b) ((62 : Int32) - fo_fraction w) (Nat.succ ((fX2_scale w a - fX2_scale w b).toInt.toNat)) (jl_rem (fX2_plain w a) (fX2_plain w b)) (fX2_scale w a - fX2_scale w b)).1 < un (fX2_plain w b) := by
                rw [hA]
                exact Nat.mod_lt _ hpb
              generalize (gX2_rest_112 w (fX2_plain w b) ((62 : Int32) - fo_fraction w) (Nat.succ ((fX2_scale w a - fX2_scale w b).toInt.toNat)) (jl_rem (fX2_plain w a) (fX2_plain w b)) (fX2_scale w a - fX2_scale w b)).1 = R at *
              rw [dq_isNeg]
              by_cases c7 : R = (0 : Int64)
              · rw [if_pos c7, ng_sg, c7, roundBz u0]
              · rw [if_neg c7]
                apply roundAB
                · rw [un_iff, u0] at c7
                  omega
                · omega
                · omega
            · rw [if_neg c6, if_neg c6]
          · rw [if_neg c5, if_neg c5]
        · rw [if_neg c4, if_neg c4]
      · rw [if_neg c3, if_neg c3]
    · rw [if_neg c2, if_neg c2]
  · rw [if_neg c1, if_neg c1]
