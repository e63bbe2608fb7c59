/-! ===== MATH: both roundings are one ===== -/
theorem ushr0 {x : Int64} {y : Int32} {k : Nat} (hk : y.toInt = k) (h1 : k < 64) : jl_ushr x y = (0 : Int64) ↔ un x < 2 ^ k := by
  have h0 : un (0 : Int64) = 0 := by decide
  rw [un_iff, un_ushr' hk h1, h0, Nat.div_eq_zero_iff]
  have := Nat.two_pow_pos k
  omega
theorem zr_step {x2 : Int32} {x3 : Int64} {lo k : Nat} {c : Int32} (hc : c.toInt = k) (hk : k < 64) (h3 : un x3 < 2 ^ (64 - k)) : un (jl_shl x3 c) = un x3 * 2 ^ k := by
  apply un_shl' hc hk
  have h4 : un x3 * 2 ^ k < 2 ^ (64 - k) * 2 ^ k := Nat.mul_lt_mul_of_pos_right h3 (Nat.two_pow_pos k)
  rw [← Nat.pow_add, show 64 - k + k = 64 from by omega] at h4
  omega
theorem zr_87 {x2 : Int32} {x3 : Int64} (h2 : 0 ≤ x2.toInt ∧ x2.toInt ≤ 100) (h3 : 2 ^ 62 ≤ un x3) : (fX0_zeros_87 x2 x3).toInt = x2.toInt + 64 - nb (un x3) := by
  unfold fX0_zeros_87
  have h4 := un_toInt x3
  have h5 := un_lt x3
  have e1 : (1 : Int32).toInt = 1 := by decide
  have e0 : (0 : Int64).toInt = 0 := by decide
  split
  · rename_i h
    rw [un_le_iff, e0] at h
    have h6 : un x3 < 2 ^ 63 := by split at h4 <;> omega
    rw [nb_eq (k := 62) h3 h6, mi_add (by omega) (by omega)]
    omega
  · rename_i h
    rw [un_le_iff, e0] at h
    have h6 : 2 ^ 63 ≤ un x3 := by split at h4 <;> omega
    rw [nb_eq (k := 63) h6 (by omega)]
    omega
theorem zr_any {x2 c k2 : Int32} {x3 : Int64} {lo k : Nat} {f : Int32 → Int64 → Int32} (hf : ∀ (y2 : Int32) (y3 : Int64), (0 ≤ y2.toInt ∧ y2.toInt ≤ x2.toInt + k) → 2 ^ (64 - k) ≤ un y3 → (f y2 y3).toInt = y2.toInt + 64 - nb (un y3)) (hc : c.toInt = (64 - k : Nat)) (hk2 : k2.toInt = k) (hk : 0 < k ∧ k < 64) (hlo : lo + k = 64 - k) (h2 : 0 ≤ x2.toInt ∧ x2.toInt ≤ 100) (h3 : 2 ^ lo ≤ un x3) : (if jl_ushr x3 c = (0 : Int64) then f (x2 + k2) (jl_shl x3 k2) else f x2 x3).toInt = x2.toInt + 64 - nb (un x3) := by
  split
  · rename_i h
    rw [ushr0 hc (by omega)] at h
    have h4 := zr_step (x2 := x2) (lo := lo) hk2 hk.2 h
    have h6 : (x2 + k2).toInt = x2.toInt + k := by rw [mi_add (by omega) (by omega), hk2]
    have h7 : 0 < un x3 := Nat.lt_of_lt_of_le (Nat.two_pow_pos lo) h3
    rw [hf _ _ (by omega) ?_, h4, nb_shift h7, h6]
    · omega
    · rw [h4, ← hlo, Nat.pow_add]
      exact Nat.mul_le_mul_right _ h3
  · rename_i h
    rw [ushr0 hc (by omega)] at h
    exact hf _ _ (by omega) (by omega)
theorem zr_71 (y2 : Int32) (y3 : Int64) (h2 : 0 ≤ y2.toInt ∧ y2.toInt ≤ 98) (h3 : 2 ^ 60 ≤ un y3) : (fX0_zeros_71 y2 y3).toInt = y2.toInt + 64 - nb (un y3) := by
  unfold fX0_zeros_71
  exact zr_any (k := 2) (lo := 60) (fun z2 z3 q2 q3 => zr_87 (by omega) q3) (by decide) (by decide) (by decide) (by decide) (by omega) h3
theorem zr_55 (y2 : Int32) (y3 : Int64) (h2 : 0 ≤ y2.toInt ∧ y2.toInt ≤ 94) (h3 : 2 ^ 56 ≤ un y3) : (fX0_zeros_55 y2 y3).toInt = y2.toInt + 64 - nb (un y3) := by
  unfold fX0_zeros_55
  exact zr_any (k := 4) (lo := 56) (fun z2 z3 q2 q3 => zr_71 _ _ (by omega) q3) (by decide) (by decide) (by decide) (by decide) (by omega) h3
theorem zr_38 (y2 : Int32) (y3 : Int64) (h2 : 0 ≤ y2.toInt ∧ y2.toInt ≤ 86) (h3 : 2 ^ 48 ≤ un y3) : (fX0_zeros_38 y2 y3).toInt = y2.toInt + 64 - nb (un y3) := by
  unfold fX0_zeros_38
  exact zr_any (k := 8) (lo := 48) (fun z2 z3 q2 q3 => zr_55 _ _ (by omega) q3) (by decide) (by decide) (by decide) (by decide) (by omega) h3
theorem zr_21 (y2 : Int32) (y3 : Int64) (h2 : 0 ≤ y2.toInt ∧ y2.toInt ≤ 70) (h3 : 2 ^ 32 ≤ un y3) : (fX0_zeros_21 y2 y3).toInt = y2.toInt + 64 - nb (un y3) := by
  unfold fX0_zeros_21
  exact zr_any (k := 16) (lo := 32) (fun z2 z3 q2 q3 => zr_38 _ _ (by omega) q3) (by decide) (by decide) (by decide) (by decide) (by omega) h3
theorem zeros_v {x : Int64} (h : 0 < un x) : (fX0_zeros x).toInt = 64 - nb (un x) := by
  unfold fX0_zeros
  have e0 : (0 : Int32).toInt = 0 := by decide
  have h1 := zr_any (x2 := 0) (x3 := x) (k := 32) (lo := 0) (k2 := 32) (c := 32) (fun z2 z3 q2 q3 => zr_21 z2 z3 (by omega) q3) (by decide) (by decide) (by decide) (by decide) (by omega) (by omega)
  rw [h1, e0]
  omega
/-- a sign -/
def sg (w : Bool) (n : Int32) : Int64 := if n = 0 then 0 else fo_sign w
def rw_ (w : Bool) (N : Nat) (e : Int) : Nat := rn (mt w) (E0 w) (IN w) N e
theorem rw_le (w : Bool) (N : Nat) (e : Int) : rw_ w N e ≤ IN w := Nat.min_le_left _ _
theorem IN_lt (w : Bool) : IN w < SG w := by cases w <;> decide
theorem rq_le {N d p : Nat} (h : N < 2 ^ (d + p)) : rq N d ≤ 2 ^ p := by
  unfold rq
  have h1 : N / 2 ^ d < 2 ^ p := by
    rw [Nat.div_lt_iff_lt_mul (Nat.two_pow_pos d), ← Nat.pow_add, Nat.add_comm p d]
    exact h
  split <;> omega
theorem rq_ge (N d : Nat) : N / 2 ^ d ≤ rq N d := by
  unfold rq
  split <;> omega
theorem rq_small {N d : Nat} (h : 2 * N < 2 ^ d) : rq N d = 0 := by
  unfold rq
  rw [Nat.mod_eq_of_lt (by omega), Nat.div_eq_of_lt (by omega), if_neg (by omega)]
theorem or_zero64 (x : Int64) : (0 : Int64) ||| x = x := by
  apply un_inj
  have h0 : un (0 : Int64) = 0 := by decide
  rw [un_or, h0, Nat.zero_or]
theorem or_one (n : Nat) : n ||| 1 = if n % 2 = 0 then n + 1 else n := by
  split
  · rename_i g
    exact or_add (k := 1) g (by decide)
  · rename_i g
    have g1 : n = (n - 1) ||| 1 := by
      rw [or_add (k := 1) (by omega) (by decide)]
      omega
    rw [g1, Nat.or_assoc, Nat.or_self]
/-- the class's own tail, of digits D that have 63 bits -/
theorem rA_90 {w : Bool} {D : Int64} {X c : Int32} {s : Int64} {cut : Nat} (hD : un D < 2 ^ 63) (hD2 : 2 ^ 62 ≤ un D) (hX : -30000 ≤ X.toInt) (hXt : X.toInt < (fo_top w).toInt) (hc : c.toInt = cut) (hcut : (cut : Int) = 62 - mt w + max (1 - X.toInt) 0) : fX2_rounded_90 w D X s c = (s ||| ow ((max X.toInt 1 - 1).toNat * 2 ^ mt w + rq (un D) cut)) := by
  have hmt : 23 ≤ mt w ∧ mt w ≤ 52 := by cases w <;> decide
  have hK := Nat.two_pow_pos cut
  unfold fX2_rounded_90
  have e63 : (63 : Int32).toInt = 63 := by decide
  by_cases h : c ≤ (63 : Int32)
  · rw [if_pos h]
    rw [mi_le, e63] at h
    have hk : un (jl_ushr D c) = un D / 2 ^ cut := un_ushr' hc (by omega)
    have hdm := Nat.div_add_mod (un D) (2 ^ cut)
    have hml : un (jl_shl (jl_ushr D c) c) = un D / 2 ^ cut * 2 ^ cut := by
      have h1 : un D / 2 ^ cut * 2 ^ cut ≤ un D := Nat.div_mul_le_self _ _
      rw [un_shl' hc (by omega) (by rw [hk]; omega), hk]
    have hrest : un (D - jl_shl (jl_ushr D c) c) = un D % 2 ^ cut := by
      have h1 : un D / 2 ^ cut * 2 ^ cut ≤ un D := Nat.div_mul_le_self _ _
      rw [un_sub_le (by rw [hml]; exact h1), hml, Nat.mul_comm]
      omega
    obtain ⟨j, hj⟩ : ∃ j : Nat, cut = j + 1 := ⟨cut - 1, by omega⟩
    have e1 : (1 : Int32).toInt = 1 := by decide
    have htie : un (jl_shl (1 : Int64) (c - (1 : Int32))) = 2 ^ j := by
      apply un_one
      · rw [mi_sub (by omega) (by omega), e1]
        omega
      · omega
    have hj63 : 2 ^ j ≤ 2 ^ 62 := Nat.pow_le_pow_right (by decide) (by omega)
    have hr63 := Nat.mod_lt (un D) hK
    have hc63 : 2 ^ cut ≤ 2 ^ 63 := Nat.pow_le_pow_right (by decide) (by omega)
    have hpj : 2 ^ cut = 2 * 2 ^ j := by rw [hj, Nat.pow_succ]; omega
    have u1 : un (1 : Int64) = 1 := by decide
    have u0 : un (0 : Int64) = 0 := by decide
    have hq : un D / 2 ^ cut < 2 ^ 54 := by
      rw [Nat.div_lt_iff_lt_mul hK]
      have : 2 ^ 9 ≤ 2 ^ cut := Nat.pow_le_pow_right (by decide) (by omega)
      omega
    have fin158 : ∀ (k : Int64) (n : Nat), un k = n → n ≤ 2 ^ 54 → fX2_rounded_158 w X s k = (s ||| ow ((max X.toInt 1 - 1).toNat * 2 ^ mt w + n)) := by
      intro k n hk hn
      unfold fX2_rounded_158
      congr 1
      apply eq_ow
      have e2 : (ji_max X (1 : Int32)).toInt = max X.toInt 1 := by rw [mi_max, e1]
      have htop : (fo_top w).toInt ≤ 2047 := by cases w <;> decide
      have e3 : (ji_max X (1 : Int32) - (1 : Int32)).toInt = max X.toInt 1 - 1 := by
        rw [mi_sub (by omega) (by omega), e2, e1]
      have e4 : un (ji_max X (1 : Int32) - (1 : Int32)).toInt64 = (max X.toInt 1 - 1).toNat := by
        rw [un_i64 (by omega), e3]
      have hb : (max X.toInt 1 - 1).toNat * 2 ^ mt w < 2 ^ 63 := by
        have h1 : 2 ^ mt w ≤ 2 ^ 52 := Nat.pow_le_pow_right (by decide) hmt.2
        have h2 : (max X.toInt 1 - 1).toNat * 2 ^ mt w ≤ 2047 * 2 ^ 52 := Nat.mul_le_mul (by omega) h1
        omega
      rw [un_add, un_shl' (fr_mt w) (mt_lt w) (by rw [e4]; omega), e4, hk, Nat.mod_eq_of_lt (by omega)]
    have hodd : (jl_ushr D c &&& (1 : Int64)) = (0 : Int64) ↔ un D / 2 ^ cut % 2 = 0 := by
      rw [un_iff, un_odd, hk, u0]
    unfold rq
    by_cases g1 : jl_shl (1 : Int64) (c - (1 : Int32)) < D - jl_shl (jl_ushr D c) c
    · rw [if_pos g1]
      rw [un_lt' (by omega) (by omega), htie, hrest] at g1
      rw [if_pos (Or.inl (by omega))]
      unfold fX2_rounded_152
      apply fin158
      · rw [un_add, hk, u1, Nat.mod_eq_of_lt (by omega)]
      · omega
    · rw [if_neg g1]
      rw [un_lt' (by omega) (by omega), htie, hrest] at g1
      by_cases g2 : D - jl_shl (jl_ushr D c) c = jl_shl (1 : Int64) (c - (1 : Int32))
      · rw [if_pos g2]
        rw [un_iff, htie, hrest] at g2
        by_cases g3 : (jl_ushr D c &&& (1 : Int64)) = (0 : Int64)
        · rw [if_pos g3]
          rw [hodd] at g3
          rw [if_neg (by omega)]
          exact fin158 _ _ hk (by omega)
        · rw [if_neg g3]
          rw [hodd] at g3
          rw [if_pos (Or.inr (by omega))]
          unfold fX2_rounded_152
          apply fin158
          · rw [un_add, hk, u1, Nat.mod_eq_of_lt (by omega)]
          · omega
      · rw [if_neg g2]
        rw [un_iff, htie, hrest] at g2
        rw [if_neg (by omega)]
        exact fin158 _ _ hk (by omega)
  · rw [if_neg h]
    rw [mi_le, e63] at h
    have h1 : 2 ^ 64 ≤ 2 ^ cut := Nat.pow_le_pow_right (by decide) (by omega)
    rw [rq_small (by omega)]
    have h2 : (max X.toInt 1 - 1).toNat = 0 := by omega
    rw [h2, Nat.zero_mul]
    apply un_inj
    rw [un_or, un_ow (by decide), Nat.or_zero]
theorem rA_55 {w : Bool} {D : Int64} {X : Int32} {s : Int64} (hD : un D < 2 ^ 63) (hD2 : 2 ^ 62 ≤ un D) (hX : -30000 ≤ X.toInt ∧ X.toInt ≤ 30000) : fX2_rounded_55 w D X s = (s ||| ow (rw_ w (un D) (X.toInt - 62 - (fo_bias w).toInt))) := by
  have hmt : 23 ≤ mt w ∧ mt w ≤ 52 := by cases w <;> decide
  have hbv := bias_v w
  have hfv := fr_mt w
  have htop := top_v w
  have hIN : IN w = IN w / 2 ^ mt w * 2 ^ mt w := by cases w <;> decide
  have hnb : nb (un D) = 63 := nb_eq hD2 hD
  have e1 : (1 : Int32).toInt = 1 := by decide
  have e0 : (0 : Int32).toInt = 0 := by decide
  have e62 : (62 : Int32).toInt = 62 := by decide
  have hE : -1074 ≤ E0 w ∧ E0 w ≤ -149 := by cases w <;> decide
  have hu : ulp (mt w) (E0 w) (un D) (X.toInt - 62 - (fo_bias w).toInt) = max X.toInt 1 - 1 + E0 w := by
    unfold ulp
    rw [hnb, hbv]
    omega
  have hrn : rw_ w (un D) (X.toInt - 62 - (fo_bias w).toInt) = min (IN w) ((max X.toInt 1 - 1).toNat * 2 ^ mt w + rq (un D) (62 - mt w + max (1 - X.toInt) 0).toNat) := by
    unfold rw_ rn
    rw [hu]
    unfold hv
    rw [if_neg (by omega)]
    congr 3
    · omega
    · omega
  rw [hrn]
  unfold fX2_rounded_55
  by_cases h : X < fo_top w
  · rw [if_pos h]
    rw [mi_lt] at h
    have hcc : ((62 : Int32) - fo_fraction w + ji_max ((1 : Int32) - X) (0 : Int32)).toInt = 62 - mt w + max (1 - X.toInt) 0 := by
      have h1 : ((1 : Int32) - X).toInt = 1 - X.toInt := by rw [mi_sub (by omega) (by omega), e1]
      have h2 : (ji_max ((1 : Int32) - X) (0 : Int32)).toInt = max (1 - X.toInt) 0 := by rw [mi_max, h1, e0]
      have h3 : ((62 : Int32) - fo_fraction w).toInt = 62 - mt w := by rw [mi_sub (by omega) (by omega), e62, hfv]
      rw [mi_add (by omega) (by omega), h2, h3]
    rw [rA_90 (cut := (62 - mt w + max (1 - X.toInt) 0).toNat) hD hD2 (by omega) h (by omega) (by omega)]
    congr 2
    have h4 : rq (un D) (62 - mt w + max (1 - X.toInt) 0).toNat ≤ 2 ^ (mt w + 1) := by
      apply rq_le
      apply Nat.lt_of_lt_of_le hD
      exact Nat.pow_le_pow_right (by decide) (by omega)
    have h6 : (max X.toInt 1 - 1).toNat * 2 ^ mt w + 2 ^ (mt w + 1) ≤ IN w ∨ X.toInt ≤ 0 := by
      by_cases g : X.toInt ≤ 0
      · exact Or.inr g
      · left
        rw [hIN, Nat.pow_succ, Nat.mul_comm (2 ^ mt w) 2, ← Nat.add_mul]
        apply Nat.mul_le_mul_right
        omega
    rcases h6 with h6 | h6
    · omega
    · have h7 : (max X.toInt 1 - 1).toNat = 0 := by omega
      have h8 : 2 ^ (mt w + 1) ≤ IN w := by cases w <;> decide
      rw [h7]
      omega
  · rw [if_neg h]
    rw [mi_lt] at h
    congr 1
    apply eq_ow
    rw [un_infinity]
    have h1 : (62 - mt w + max (1 - X.toInt) 0).toNat = 62 - mt w := by
      have : 0 ≤ (fo_top w).toInt - 1 := by cases w <;> decide
      omega
    rw [h1]
    have h2 := rq_ge (un D) (62 - mt w)
    have h3 : 2 ^ mt w ≤ un D / 2 ^ (62 - mt w) := by
      rw [Nat.le_div_iff_mul_le (Nat.two_pow_pos _), ← Nat.pow_add, show mt w + (62 - mt w) = 62 from by omega]
      exact hD2
    have h4 : IN w ≤ (max X.toInt 1 - 1).toNat * 2 ^ mt w + 2 ^ mt w := by
      rw [hIN]
      have : (max X.toInt 1 - 1).toNat * 2 ^ mt w + 2 ^ mt w = ((max X.toInt 1 - 1).toNat + 1) * 2 ^ mt w := by rw [Nat.add_mul, Nat.one_mul]
      rw [this]
      apply Nat.mul_le_mul_right
      have : 0 ≤ (fo_top w).toInt - 1 := by cases w <;> decide
      omega
    omega
theorem roundA {w : Bool} {n s : Int32} {m : Int64} (hm : 0 < un m) (hs : -20000 ≤ s.toInt ∧ s.toInt ≤ 20000) : fX2_rounded w n s m = (sg w n ||| ow (rw_ w (un m) s.toInt)) := by
  have hz := zeros_v hm
  have hl := un_lt m
  have hnb1 := nb_pos hm
  have hnb2 : nb (un m) ≤ 64 := nb_le.mpr hl
  have hbv := bias_v w
  have hE : -1074 ≤ E0 w ∧ E0 w ≤ -149 := by cases w <;> decide
  have hmt : 23 ≤ mt w ∧ mt w ≤ 52 := by cases w <;> decide
  have e1 : (1 : Int32).toInt = 1 := by decide
  have e0 : (0 : Int32).toInt = 0 := by decide
  have e63 : (63 : Int32).toInt = 63 := by decide
  have h27 : ∀ D : Int64, un D < 2 ^ 63 → 2 ^ 62 ≤ un D → rw_ w (un m) s.toInt = rw_ w (un D) (s.toInt + 1 - (fX0_zeros m).toInt) → fX2_rounded_27 w n s (fX0_zeros m) D = (sg w n ||| ow (rw_ w (un m) s.toInt)) := by
    intro D hD hD2 hr
    have hX : (s + (63 : Int32) - fX0_zeros m + fo_bias w).toInt = s.toInt + 63 - (fX0_zeros m).toInt + (fo_bias w).toInt := by
      have h1 : (s + (63 : Int32)).toInt = s.toInt + 63 := by rw [mi_add (by omega) (by omega), e63]
      have h2 : (s + (63 : Int32) - fX0_zeros m).toInt = s.toInt + 63 - (fX0_zeros m).toInt := by rw [mi_sub (by omega) (by omega), h1]
      rw [mi_add (by omega) (by omega), h2]
    have key : ∀ t : Int64, fX2_rounded_55 w D (s + (63 : Int32) - fX0_zeros m + fo_bias w) t = (t ||| ow (rw_ w (un m) s.toInt)) := by
      intro t
      rw [rA_55 hD hD2 (by omega), hX, hr]
      congr 3
      omega
    unfold fX2_rounded_27 sg
    by_cases h : n = 0
    · rw [if_pos h, if_pos h, key]
    · rw [if_neg h, if_neg h, key]
  unfold fX2_rounded
  by_cases h : fX0_zeros m = 0
  · rw [if_pos h]
    have h0 : (fX0_zeros m).toInt = 0 := by rw [h, e0]
    have hL : nb (un m) = 64 := by omega
    have hlo := nb_lo hm
    rw [hL] at hlo
    have u1 : un (jl_ushr m (1 : Int32)) = un m / 2 := by
      rw [un_ushr' (k := 1) e1 (by decide)]
    have hDv : un (jl_ushr m (1 : Int32) ||| (m &&& (1 : Int64))) = un m / 2 ||| un m % 2 := by
      rw [un_or, u1, un_odd]
    have hc : (un m % 2 = 0 ∧ (un m / 2 ||| un m % 2) = un m / 2) ∨ (un m % 2 = 1 ∧ (un m / 2 ||| un m % 2) = if un m / 2 % 2 = 0 then un m / 2 + 1 else un m / 2) := by
      rcases Nat.mod_two_eq_zero_or_one (un m) with g | g
      · exact Or.inl ⟨g, by rw [g, Nat.or_zero]⟩
      · exact Or.inr ⟨g, by rw [g, or_one]⟩
    generalize hDg : un m / 2 ||| un m % 2 = D at *
    have hjam : jam (un m) 1 D := by
      rcases hc with ⟨g1, g2⟩ | ⟨g1, g2⟩
      · left
        omega
      · right
        split at g2 <;> omega
    have hD1 : D < 2 ^ 63 := by
      rcases hc with ⟨g1, g2⟩ | ⟨g1, g2⟩
      · omega
      · split at g2 <;> omega
    have hD2 : 2 ^ 62 ≤ D := by
      rcases hc with ⟨g1, g2⟩ | ⟨g1, g2⟩
      · omega
      · split at g2 <;> omega
    apply h27 _ (by rw [hDv]; exact hD1) (by rw [hDv]; exact hD2)
    rw [hDv, h0]
    unfold rw_
    have hj := rn_jam (mt := mt w) (E0 := E0 w) (IN w) (e := s.toInt) hjam (by omega) (Or.inr (by unfold ulp; rw [nb_eq (k := 62) hD2 hD1]; omega))
    rw [hj]
    congr 1
    omega
  · rw [if_neg h]
    have hne : (fX0_zeros m).toInt ≠ 0 := by
      intro q
      exact h (mi_eq.mpr (by rw [q, e0]))
    have hz1 : (fX0_zeros m - (1 : Int32)).toInt = (64 - nb (un m) - 1 : Nat) := by
      rw [mi_sub (by omega) (by omega), e1]
      omega
    have hhi := nb_hi (un m)
    have hlo := nb_lo hm
    have hp1 : 2 ^ nb (un m) * 2 ^ (64 - nb (un m) - 1) = 2 ^ 63 := by
      rw [← Nat.pow_add]
      congr 1
      omega
    have hp2 : 2 ^ (nb (un m) - 1) * 2 ^ (64 - nb (un m) - 1) = 2 ^ 62 := by
      rw [← Nat.pow_add]
      congr 1
      omega
    have hpp := Nat.two_pow_pos (64 - nb (un m) - 1)
    have hD1 : un m * 2 ^ (64 - nb (un m) - 1) < 2 ^ 63 := by
      rw [← hp1]
      exact Nat.mul_lt_mul_of_pos_right hhi hpp
    have hD2 : 2 ^ 62 ≤ un m * 2 ^ (64 - nb (un m) - 1) := by
      rw [← hp2]
      exact Nat.mul_le_mul_right _ hlo
    have hDv : un (jl_shl m (fX0_zeros m - (1 : Int32))) = un m * 2 ^ (64 - nb (un m) - 1) := un_shl' hz1 (by omega) (by omega)
    apply h27 _ (by rw [hDv]; exact hD1) (by rw [hDv]; exact hD2)
    rw [hDv]
    unfold rw_
    rw [rn_shift _ _ _ hm]
    congr 1
    omega
