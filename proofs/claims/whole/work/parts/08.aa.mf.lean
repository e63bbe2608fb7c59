theorem dec_size {w : Bool} {n : Int32} {R : Nat} (hn : n = 0 ∨ n = 1) (hR : R < SG w) : ok w (sg w n ||| ow R) ∧ un (sg w n ||| ow R) % SG w = R ∧ fX2_isNegative w (sg w n ||| ow R) = n := by
  have hv := sg_or (w := w) hn hR
  have hs : un (sg w n) = 0 ∨ un (sg w n) = SG w := by
    rcases hn with h | h <;> subst h <;> cases w <;> decide
  have hSp : 0 < SG w := by cases w <;> decide
  have hok : ok w (sg w n ||| ow R) := by
    intro h
    subst h
    have : SG false = 2147483648 := rfl
    rw [hv]
    omega
  have hmod : un (sg w n ||| ow R) % SG w = R := by
    rw [hv]
    rcases hs with h | h
    · rw [h, Nat.zero_add, Nat.mod_eq_of_lt hR]
    · rw [h, Nat.add_mod_left, Nat.mod_eq_of_lt hR]
  refine ⟨hok, hmod, ?_⟩
  have h2 := sg_un w _ hok
  rw [hmod, hv] at h2
  have h3 : un (sg w n) = un (sg w (fX2_isNegative w (sg w n ||| ow R))) := by omega
  rcases z_neg w (sg w n ||| ow R) with q | q <;> rw [q] at h3 ⊢ <;> rcases hn with h | h <;> subst h
  · rfl
  · exfalso; revert h3; cases w <;> decide
  · exfalso; revert h3; cases w <;> decide
  · rfl
theorem dec_int {w : Bool} {n : Int32} {V E : Nat} (hn : n = 0 ∨ n = 1) (hE : E ≤ mt w) (h1 : 2 ^ E ≤ V) (h2 : V < 2 ^ (E + 1)) :
    fin w (wres w n V) ∧ fX2_isNegative w (wres w n V) = n ∧ (exN w (wres w n V) : Int) = E + (1 - E0 w - mt w) ∧ un (fX2_plain w (wres w n V)) = V * 2 ^ (mt w - E) ∧ fX2_isZero w (wres w n V) = 0 := by
  have hmt : 23 ≤ mt w ∧ mt w ≤ 52 := by cases w <;> decide
  have hE0 : -1074 ≤ E0 w ∧ E0 w ≤ -149 := by cases w <;> decide
  have hb : 1 ≤ 1 - E0 w - mt w := by cases w <;> decide
  obtain ⟨g1, g2⟩ := rn_int hE h1 (by omega)
  have hIS := IN_lt w
  obtain ⟨d1, d2, d3⟩ := dec_size (w := w) (n := n) (R := rw_ w V 0) hn (by omega)
  have hV : 0 < V := Nat.lt_of_lt_of_le (Nat.two_pow_pos E) h1
  have hw : wres w n V = (sg w n ||| ow (rw_ w V 0)) := by
    unfold wres
    rw [if_neg (by omega)]
  rw [hw]
  have hq1 : 2 ^ mt w ≤ V * 2 ^ (mt w - E) := by
    have g : 2 ^ E * 2 ^ (mt w - E) ≤ V * 2 ^ (mt w - E) := Nat.mul_le_mul_right _ h1
    rw [← Nat.pow_add, show E + (mt w - E) = mt w from by omega] at g
    exact g
  have hq2 : V * 2 ^ (mt w - E) < 2 ^ mt w * 2 := by
    have g : V * 2 ^ (mt w - E) < 2 ^ (E + 1) * 2 ^ (mt w - E) := Nat.mul_lt_mul_of_pos_right h2 (Nat.two_pow_pos _)
    rw [← Nat.pow_add, show E + 1 + (mt w - E) = mt w + 1 from by omega, Nat.pow_succ] at g
    exact g
  have hp := Nat.two_pow_pos (mt w)
  generalize sg w n ||| ow (rw_ w V 0) = y at *
  have hdm : rw_ w V 0 / 2 ^ mt w = ((E : Int) - mt w - E0 w).toNat + 1 ∧ rw_ w V 0 % 2 ^ mt w = V * 2 ^ (mt w - E) - 2 ^ mt w := by
    apply dm_uniq
    · rw [g1, Nat.add_mul, Nat.one_mul]
      omega
    · omega
  have hex : exN w y = ((E : Int) - mt w - E0 w).toNat + 1 := by
    unfold exN
    rw [d2, hdm.1]
  refine ⟨⟨d1, by omega⟩, d3, by omega, ?_, ?_⟩
  · rw [plain_v d1, if_neg (by omega)]
    have : un y % 2 ^ mt w = rw_ w V 0 % 2 ^ mt w := by
      rw [← d2]
      exact (Nat.mod_mod_of_dvd _ (Nat.dvd_of_mod_eq_zero (mt_div w))).symm
    rw [this, hdm.2]
    omega
  · rw [zero0 d1, d2, g1]
    omega
def tailW (w : Bool) (y : Int64) (n none : Int32) : Int32 :=
  if fX5_digitsOf y (wi w) = (0 : Int64) then (0 : Int32)
  else if (fX5_bitsOf (fX5_digitsOf y (wi w)) + fX5_exponentOf y (wi w)) ≤ (32 : Int32) then if fX5_exponentOf y (wi w) < 0 then fX5_toWhole_115 n none (jl_ushr (fX5_digitsOf y (wi w)) (-(fX5_exponentOf y (wi w)))) else fX5_toWhole_115 n none (jl_shl (fX5_digitsOf y (wi w)) (fX5_exponentOf y (wi w)))
  else none
theorem i64_back {x : Int64} (h1 : -2147483648 ≤ x.toInt) (h2 : x.toInt < 2147483648) : x.toInt32.toInt64 = x := by
  rw [ml_eq, Int32.toInt_toInt64, Int64.toInt_toInt32, Int.bmod_eq_of_le] <;> omega
theorem e_tail {w : Bool} {y : Int64} {n none : Int32} (hy : fin w y) (hn : n = fX2_isNegative w y) (hno : none = if n = 0 then 2147483647 else -2147483648) (hE : fX2_isZero w y = 0 → (1 - E0 w - mt w) ≤ exN w y) : (tailW w y n none).toInt64 = fX2_cut w y := by
  have hmt : 23 ≤ mt w ∧ mt w ≤ 52 := by cases w <;> decide
  have hE0 : -1074 ≤ E0 w ∧ E0 w ≤ -149 := by cases w <;> decide
  have hb : 1 ≤ 1 - E0 w - mt w := by cases w <;> decide
  have hbv := bias_v w
  have hfr := fr_mt w
  have hbi := biased_v hy.1
  have hsv := scale_v hy.1
  have hex := exN_lt w y
  have hsa := sc_rg hy.1
  have e0 : (0 : Int32).toInt = 0 := by decide
  have e31 : (31 : Int32).toInt = 31 := by decide
  have e32 : (32 : Int32).toInt = 32 := by decide
  have u0 : un (0 : Int64) = 0 := by decide
  have eM : (2147483647 : Int64).toInt = 2147483647 := by decide
  have hEx : (fX2_biased w y - fo_bias w).toInt = exN w y - (1 - E0 w - mt w) := by rw [mi_sub (by omega) (by omega), hbi, hbv]
  unfold tailW fX2_cut fX2_cut_76
  rw [dq_dig hy.1, dq_scale hy.1]
  by_cases c1 : fX2_isZero w y = 0
  · have hp := pl_pos hy.1 c1
    have hE1 := hE c1
    have hx0 : exN w y ≠ 0 := by omega
    have hlo : 2 ^ mt w ≤ un (fX2_plain w y) := by rw [plain_v hy.1, if_neg hx0]; omega
    have hhi := pl_lt hy.1
    have h62 := pl_62 hy.1
    have hnb : nb (un (fX2_plain w y)) = mt w + 1 := nb_eq hlo hhi
    have hbits := bits_v (x := fX2_plain w y) (by omega)
    rw [if_neg (by rw [un_iff, u0]; omega)]
    have hsum : (fX5_bitsOf (fX2_plain w y) + fX2_scale w y).toInt = exN w y - (1 - E0 w - mt w) + 1 := by rw [mi_add (by omega) (by omega), hbits, hnb]; omega
    rw [if_pos (show 0 ≤ fX2_biased w y - fo_bias w from by rw [mi_le, e0, hEx]; omega)]
    have hnone : none.toInt64 = if fX2_isNegative w y = 0 then (2147483647 : Int64) else (-2147483648 : Int64) := by
      rw [hno, hn]
      split <;> decide
    -- the number of which both speak
    have key : ∀ v : Int64, un v < 2 ^ 62 → un v = un (fX2_plain w y) * 2 ^ (exN w y - (1 - E0 w - mt w) : Int).toNat / 2 ^ mt w → (exN w y : Int) - (1 - E0 w - mt w) ≤ 31 → (fX5_toWhole_115 n none v).toInt64 = if (fX2_biased w y - fo_bias w) < (31 : Int32) then (if fX2_isNegative w y = 0 then v else -v) else if fX2_isNegative w y = 0 then (2147483647 : Int64) else (-2147483648 : Int64) := by
      intro v hv hvv hle
      unfold fX5_toWhole_115
      by_cases c3 : (fX2_biased w y - fo_bias w) < (31 : Int32)
      · rw [if_pos c3]
        rw [mi_lt, hEx, e31] at c3
        have hv31 : un v < 2 ^ 31 := by
          rw [hvv, Nat.div_lt_iff_lt_mul (Nat.two_pow_pos _)]
          have g : un (fX2_plain w y) * 2 ^ (exN w y - (1 - E0 w - mt w) : Int).toNat < 2 ^ (mt w + 1) * 2 ^ (exN w y - (1 - E0 w - mt w) : Int).toNat := Nat.mul_lt_mul_of_pos_right hhi (Nat.two_pow_pos _)
          rw [← Nat.pow_add] at g ⊢
          exact Nat.lt_of_lt_of_le g (Nat.pow_le_pow_right (by decide) (by omega))
        have hvi : v.toInt = un v := un_pos (by omega)
        rw [if_pos (by rw [un_le_iff, eM, hvi]; omega), hn]
        split
        · exact i64_back (by omega) (by omega)
        · have : (-v).toInt = -v.toInt := ml_neg (by omega)
          exact i64_back (by omega) (by omega)
      · rw [if_neg c3]
        rw [mi_lt, hEx, e31] at c3
        have hv31 : 2 ^ 31 ≤ un v := by
          rw [hvv, Nat.le_div_iff_mul_le (Nat.two_pow_pos _)]
          have g : 2 ^ mt w * 2 ^ (exN w y - (1 - E0 w - mt w) : Int).toNat ≤ un (fX2_plain w y) * 2 ^ (exN w y - (1 - E0 w - mt w) : Int).toNat := Nat.mul_le_mul_right _ hlo
          rw [← Nat.pow_add] at g ⊢
          exact Nat.le_trans (Nat.pow_le_pow_right (by decide) (by omega)) g
        have hvi : v.toInt = un v := un_pos (by omega)
        rw [if_neg (by rw [un_le_iff, eM, hvi]; omega), hnone]
    by_cases c2 : (fX5_bitsOf (fX2_plain w y) + fX2_scale w y) ≤ (32 : Int32)
    · rw [if_pos c2]
      rw [mi_le, hsum, e32] at c2
      by_cases c4 : fX2_scale w y < 0
      · rw [if_pos c4]
        rw [mi_lt, e0] at c4
        rw [if_neg (show ¬ fo_fraction w ≤ fX2_biased w y - fo_bias w from by rw [mi_le, hfr, hEx]; omega)]
        have hsh : -(fX2_scale w y) = fo_fraction w - (fX2_biased w y - fo_bias w) := by
          rw [mi_eq, mi_neg (by omega), mi_sub (by omega) (by omega), hfr, hEx]
          omega
        rw [hsh]
        have hk : (fo_fraction w - (fX2_biased w y - fo_bias w)).toInt = ((mt w : Int) - (exN w y - (1 - E0 w - mt w))).toNat := by
          rw [mi_sub (by omega) (by omega), hfr, hEx]
          omega
        have hv := un_ushr' (x := fX2_plain w y) hk (by omega)
        rw [key _ ?_ ?_ (by omega)]
        · rw [hv]
          have := Nat.div_le_self (un (fX2_plain w y)) (2 ^ ((mt w : Int) - (exN w y - (1 - E0 w - mt w))).toNat)
          omega
        · rw [hv]
          have : 2 ^ mt w = 2 ^ ((mt w : Int) - (exN w y - (1 - E0 w - mt w))).toNat * 2 ^ (exN w y - (1 - E0 w - mt w) : Int).toNat := by
            rw [← Nat.pow_add]
            congr 1
            omega
          rw [this, Nat.mul_div_mul_right _ _ (Nat.two_pow_pos _)]
      · rw [if_neg c4]
        rw [mi_lt, e0] at c4
        rw [if_pos (show fo_fraction w ≤ fX2_biased w y - fo_bias w from by rw [mi_le, hfr, hEx]; omega)]
        have hsh : fX2_scale w y = (fX2_biased w y - fo_bias w) - fo_fraction w := by
          rw [mi_eq, mi_sub (by omega) (by omega), hfr, hEx]
          omega
        rw [← hsh]
        have hk : (fX2_scale w y).toInt = ((fX2_scale w y).toInt.toNat : Nat) := by omega
        have hlt : un (fX2_plain w y) * 2 ^ (fX2_scale w y).toInt.toNat < 2 ^ 61 := by
          have g : un (fX2_plain w y) * 2 ^ (fX2_scale w y).toInt.toNat < 2 ^ (mt w + 1) * 2 ^ (fX2_scale w y).toInt.toNat := Nat.mul_lt_mul_of_pos_right hhi (Nat.two_pow_pos _)
          rw [← Nat.pow_add] at g
          exact Nat.lt_of_lt_of_le g (Nat.pow_le_pow_right (by decide) (by omega))
        have hv := un_shl' (x := fX2_plain w y) hk (by omega) (by omega)
        rw [key _ ?_ ?_ (by omega)]
        · rw [hv]; omega
        · rw [hv]
          have : 2 ^ (exN w y - (1 - E0 w - mt w) : Int).toNat = 2 ^ (fX2_scale w y).toInt.toNat * 2 ^ mt w := by
            rw [← Nat.pow_add]
            congr 1
            omega
          rw [this, ← Nat.mul_assoc, Nat.mul_div_cancel _ (Nat.two_pow_pos _)]
    · rw [if_neg c2]
      rw [mi_le, hsum, e32] at c2
      rw [if_neg (show ¬ (fX2_biased w y - fo_bias w) < (31 : Int32) from by rw [mi_lt, hEx, e31]; omega), hnone]
  · have hp := zero_pl hy.1 c1
    rw [if_pos (by rw [un_iff, u0]; exact hp)]
    have hx0 : exN w y = 0 := by
      rcases Nat.eq_zero_or_pos (exN w y) with q | q
      · exact q
      · rw [plain_v hy.1, if_neg (by omega)] at hp
        have := Nat.two_pow_pos (mt w)
        omega
    rw [if_neg (by rw [mi_le, e0, hEx]; omega)]
    decide
theorem toWhole_v {w : Bool} {a : Int64} {way : Int32} (ha : fin w a) : fX5_toWhole a way (wi w) = tailW w (fX5_whole a way (wi w)) (fX2_isNegative w a) (if fX2_isNegative w a = 0 then 2147483647 else -2147483648) := by
  have hf := ha.2
  have hnan : fX2_isNan w a = 0 := (nan0 ha.1).mpr (by omega)
  have hinf : fX2_isInfinite w a = 0 := (inf0 ha.1).mpr (by omega)
  unfold fX5_toWhole fX5_toWhole_20
  rw [dq_isNan ha.1, dq_isInf ha.1, dq_isNeg, if_pos hnan, if_pos hinf]
  split <;> rfl
theorem toWhole_big {w : Bool} {a : Int64} {way : Int32} (ha : ok w a) (h : IN w ≤ un a % SG w) : (fX5_toWhole a way (wi w)).toInt64 = fX2_cut w a := by
  have hmt : 23 ≤ mt w ∧ mt w ≤ 52 := by cases w <;> decide
  have hE0 : -1074 ≤ E0 w ∧ E0 w ≤ -149 := by cases w <;> decide
  have hbv := bias_v w
  have hbi := biased_v ha
  have hex := exN_lt w a
  have e0 : (0 : Int32).toInt = 0 := by decide
  have e31 : (31 : Int32).toInt = 31 := by decide
  have hEx : (fX2_biased w a - fo_bias w).toInt = exN w a - (1 - E0 w - mt w) := by rw [mi_sub (by omega) (by omega), hbi, hbv]
  have hx : IN w / 2 ^ mt w ≤ exN w a := Nat.div_le_div_right h
  have hI : (31 : Int) ≤ (IN w / 2 ^ mt w : Nat) - (1 - E0 w - mt w) := by cases w <;> decide
  have hcut : fX2_cut w a = if fX2_isNegative w a = 0 then (2147483647 : Int64) else (-2147483648 : Int64) := by
    unfold fX2_cut
    rw [if_pos (by rw [mi_le, e0, hEx]; omega), if_neg (by rw [mi_lt, e31, hEx]; omega)]
  have hni : ¬ (fX2_isNan w a = 0 ∧ fX2_isInfinite w a = 0) := by
    rintro ⟨h1, h2⟩
    have := (fin_of ha h1 h2).2
    omega
  rw [hcut]
  unfold fX5_toWhole fX5_toWhole_20
  rw [dq_isNan ha, dq_isInf ha, dq_isNeg]
  by_cases c1 : fX2_isNan w a = 0
  · have c2 : ¬ fX2_isInfinite w a = 0 := fun q => hni ⟨c1, q⟩
    simp only [if_pos c1, if_neg c2]
    split <;> decide
  · simp only [if_neg c1]
    split <;> decide
