/-- two words as one number -/
def v2 (h l : Int64) : Nat := un h * 2 ^ 64 + un l
theorem below_v (x y : Int64) : fX0_isBelow x y = if un y ≤ un x then 0 else 1 := by
  have h : ∀ z : Int64, (z + (-9223372036854775808 : Int64)).toInt = (un z : Int) - 9223372036854775808 := by
    intro z
    have hm : un (-9223372036854775808 : Int64) = 9223372036854775808 := by decide
    have hz := un_lt z
    rw [un_toInt, un_add, hm]
    split <;> omega
  unfold fX0_isBelow
  have hi : y + (-9223372036854775808 : Int64) ≤ x + (-9223372036854775808 : Int64) ↔ un y ≤ un x := by
    rw [un_le_iff, h, h]
    omega
  by_cases c : un y ≤ un x
  · rw [if_pos c, if_pos (hi.mpr c)]
  · rw [if_neg c, if_neg (fun q => c (hi.mp q))]
theorem add2 (hP lP hC lC : Int64) : v2 ((hP + hC) + (if un lP ≤ un (lP + lC) then (0 : Int32) else 1).toInt64) (lP + lC) = (v2 hP lP + v2 hC lC) % 2 ^ 128 := by
  have a := un_lt hP
  have b := un_lt lP
  have c := un_lt hC
  have d := un_lt lC
  unfold v2
  rw [un_add, un_add, un_add]
  have z0 : un ((0 : Int32).toInt64) = 0 := by decide
  have z1 : un ((1 : Int32).toInt64) = 1 := by decide
  by_cases q : un lP ≤ (un lP + un lC) % 18446744073709551616
  · rw [if_pos q, z0]
    omega
  · rw [if_neg q, z1]
    omega
theorem xor_all (x : Int64) : un (x ^^^ (-1 : Int64)) = 2 ^ 64 - 1 - un x := by
  have : (x ^^^ (-1 : Int64)) = ~~~ x := by
    apply Int64.toBitVec_inj.mp
    rw [Int64.toBitVec_xor, Int64.toBitVec_not]
    show x.toBitVec ^^^ BitVec.allOnes 64 = _
    rw [BitVec.xor_allOnes]
  rw [this]
  show (~~~ x).toBitVec.toNat = _
  rw [Int64.toBitVec_not, BitVec.toNat_not]
set_option maxRecDepth 8000 in
theorem neg2 (h l : Int64) : v2 (fX0_negatedHigh h l) (-l) = (2 ^ 128 - v2 h l) % 2 ^ 128 := by
  have a := un_lt h
  have b := un_lt l
  have z0 : un (0 : Int64) = 0 := by decide
  unfold v2 fX0_negatedHigh
  by_cases c : l = (0 : Int64)
  · rw [if_pos c, c, un_neg, un_neg, z0]
    omega
  · rw [if_neg c, un_neg, xor_all]
    have c' : un l ≠ 0 := fun q => c (un_inj (by rw [q, z0]))
    omega
theorem low2 {h l : Int64} {x : Int32} {k : Nat} (hk : x.toInt = k) : v2 (fX0_loweredHigh h x) (fX0_loweredLow h l x) = (v2 h l / 2 ^ k ||| stk (v2 h l) k) := by
  have hl : un l < 2 ^ 64 := un_lt l
  have h1 := low_v (hi := h) (lo := l) hk
  have h2 := high_v (hi := h) (un l) hl hk
  have h1' : un (fX0_loweredLow h l x) = (v2 h l / 2 ^ k % 2 ^ 64 ||| stk (v2 h l) k) := h1
  have h2' : un (fX0_loweredHigh h x) = v2 h l / 2 ^ k / 2 ^ 64 := h2
  clear h1 h2
  show un (fX0_loweredHigh h x) * 2 ^ 64 + un (fX0_loweredLow h l x) = _
  rw [h1', h2']
  generalize v2 h l = V
  unfold stk
  have hd := Nat.div_add_mod (V / 2 ^ k) (2 ^ 64)
  by_cases c : V % 2 ^ k = 0
  · rw [if_pos c, Nat.or_zero, Nat.or_zero]
    omega
  · rw [if_neg c, or_one, or_one]
    generalize V / 2 ^ k = Q at *
    by_cases q : Q % 2 = 0
    · rw [if_pos q, if_pos (by omega)]
      omega
    · rw [if_neg q, if_neg (by omega)]
      omega
theorem v2_lt (h l : Int64) : v2 h l < 2 ^ 128 := by
  have a := un_lt h
  have b := un_lt l
  unfold v2
  omega
/-- the class's end of a fused answer: a whole number of 128 bits is rounded -/
theorem fus300 {w : Bool} {x22 n : Int32} {h l : Int64} {V : Nat} (hV : v2 h l = V) (hx : -10000 ≤ x22.toInt ∧ x22.toInt ≤ 10000) (hn : n = 0 ∨ n = 1) : fX2_fusedFinite_300 w x22 n l h = if V = 0 then 0 else rv w (sn n * (V : Int)) x22.toInt := by
  have a := un_lt h
  have b := un_lt l
  have z0 : un (0 : Int64) = 0 := by decide
  have e64 : (64 : Int32).toInt = 64 := by decide
  have hmt : mt w ≤ 52 ∧ 23 ≤ mt w := by cases w <;> decide
  unfold fX2_fusedFinite_300
  have hz : (h ||| l) = (0 : Int64) ↔ V = 0 := by
    rw [or_zero_iff, ← hV]
    unfold v2
    omega
  by_cases c : V = 0
  · rw [if_pos (hz.mpr c), if_pos c]
  · rw [if_neg (fun q => c (hz.mp q)), if_neg c]
    unfold fX2_fusedFinite_331
    by_cases ch : h = (0 : Int64)
    · rw [if_pos ch]
      have hs : (x22 + (0 : Int32)).toInt = x22.toInt := by
        have : (0 : Int32).toInt = 0 := by decide
        rw [mi_add (by omega) (by omega), this]
        omega
      have hl : fX0_loweredLow h l (0 : Int32) = l := by
        unfold fX0_loweredLow
        rw [if_pos rfl]
      have hVl : un l = V := by
        rw [← hV, ch]
        unfold v2
        rw [z0]
        omega
      rw [hl, roundA (by omega) (by omega), hs, hVl, rv_sg hn (by omega)]
    · rw [if_neg ch]
      have hh : 0 < un h := by
        rcases Nat.eq_zero_or_pos (un h) with q | q
        · exact absurd (un_inj (by rw [q, z0])) ch
        · exact q
      have hzz := zeros_v hh
      have hnb : nb (un h) ≤ 64 := nb_le.mpr (un_lt h)
      have hnb1 := nb_pos hh
      have hs : ((64 : Int32) - fX0_zeros h).toInt = nb (un h) := by rw [mi_sub (by omega) (by omega), e64, hzz]; omega
      generalize (64 : Int32) - fX0_zeros h = S at *
      have hs2 : (x22 + S).toInt = x22.toInt + nb (un h) := by rw [mi_add (by omega) (by omega), hs]
      have hlo := low_v (hi := h) (lo := l) hs
      have hVV : un h * 2 ^ 64 + un l = V := hV
      rw [hVV] at hlo
      have hq1 : V / 2 ^ nb (un h) < 2 ^ 64 := by
        rw [Nat.div_lt_iff_lt_mul (Nat.two_pow_pos _), ← hVV]
        have h1 : un h + 1 ≤ 2 ^ nb (un h) := nb_hi (un h)
        have h2 := Nat.mul_le_mul_left (2 ^ 64) h1
        rw [Nat.mul_add, Nat.mul_one] at h2
        have h3 : un l < 2 ^ 64 := b
        rw [Nat.mul_comm (un h)]
        omega
      have hq2 : 2 ^ 63 ≤ V / 2 ^ nb (un h) := by
        rw [Nat.le_div_iff_mul_le (Nat.two_pow_pos _), ← hVV, show 2 ^ nb (un h) = 2 ^ (nb (un h) - 1) * 2 from by rw [← Nat.pow_succ, show (nb (un h) - 1).succ = nb (un h) from by omega], show 2 ^ 63 * (2 ^ (nb (un h) - 1) * 2) = 2 ^ 64 * 2 ^ (nb (un h) - 1) from by rw [Nat.mul_comm (2 ^ (nb (un h) - 1)), ← Nat.mul_assoc]]
        have h2 := Nat.mul_le_mul_left (2 ^ 64) (nb_lo hh)
        rw [Nat.mul_comm (un h)]
        omega
      rw [Nat.mod_eq_of_lt hq1] at hlo
      have hj := jam_or V (nb (un h))
      have hv : 2 ^ 63 ≤ un (fX0_loweredLow h l S) := by
        rw [hlo]
        exact Nat.le_trans hq2 Nat.left_le_or
      rw [← hlo] at hj
      generalize fX0_loweredLow h l S = v at *
      rw [roundA (by omega) (by omega), hs2, ← rv_sg hn (by omega)]
      refine (rv_jam (jz_sn n (jz_of hj)) (by rcases sn_or n with q | q <;> rw [q] <;> omega) (Or.inr ?_)).symm
      have h3 : 2 ^ (mt w + 2) ≤ 2 ^ 62 := Nat.pow_le_pow_right (by decide) (by omega)
      generalize 2 ^ (mt w + 2) = Y at *
      rcases sn_or n with q | q <;> rw [q] <;> omega
def fl1 (n : Int32) : Int32 := if n = 0 then 1 else 0
set_option maxRecDepth 8000 in
/-- the sum of two numbers of 126 bits, in two words, and its rounding -/
theorem fus209 {w : Bool} {x5 : Int64} {hP lP hC lC : Int64} {x22 n : Int32} {P C : Nat} (h1 : v2 hP lP = P) (h2 : v2 hC lC = C) (hPb : P < 2 ^ 126) (hCb : C < 2 ^ 126) (hx : -10000 ≤ x22.toInt ∧ x22.toInt ≤ 10000) (hn : n = 0 ∨ n = 1) :
    fX2_fusedFinite_209 w x5 hP lP hC x22 lC n = if sn n * (P : Int) + sn (fX2_isNegative w x5) * (C : Int) = 0 then 0 else rv w (sn n * (P : Int) + sn (fX2_isNegative w x5) * (C : Int)) x22.toInt := by
  have l0 : (0 : Int64).toInt = 0 := by decide
  have hc01 := z_neg w x5
  have core : ∀ (hD lD : Int64) (D : Nat) (T : Int), v2 hD lD = D → ((P + D) % 2 ^ 128 : Nat) = T % (2 ^ 128 : Int) → -(2 ^ 126) ≤ T → T < 2 ^ 127 → fX2_fusedFinite_236 w hP lP hD x22 lD n = if T = 0 then 0 else rv w (sn n * T) x22.toInt := by
    intro hD lD D T hDv hT hT1 hT2
    unfold fX2_fusedFinite_236
    have e236 : (if fX0_isBelow (lP + lD) lP = 0 then fX2_fusedFinite_263 w x22 n (lP + lD) (hP + hD) 0 else fX2_fusedFinite_263 w x22 n (lP + lD) (hP + hD) 1) = fX2_fusedFinite_263 w x22 n (lP + lD) (hP + hD) (if un lP ≤ un (lP + lD) then 0 else 1) := by
      rw [below_v]
      by_cases c : un lP ≤ un (lP + lD)
      · rw [if_pos c, if_pos rfl]
      · rw [if_neg c, if_neg (by decide)]
    rw [e236]
    unfold fX2_fusedFinite_263
    have hv := add2 hP lP hD lD
    rw [h1, hDv] at hv
    generalize (hP + hD) + (if un lP ≤ un (lP + lD) then (0 : Int32) else 1).toInt64 = H at *
    generalize lP + lD = L at *
    have hLb := un_lt L
    have hHb := un_lt H
    have hle : (0 : Int64) ≤ H ↔ un H < 9223372036854775808 := by
      rw [un_le_iff, l0, un_toInt]
      split <;> omega
    have hVH : v2 H L = un H * 2 ^ 64 + un L := rfl
    by_cases c : 0 ≤ T
    · have hval : v2 H L = T.toNat := by
        rw [hv]
        omega
      rw [if_pos (hle.mpr (by omega)), fus300 hval hx hn]
      by_cases cz : T = 0
      · rw [if_pos cz, if_pos (by omega)]
      · rw [if_neg cz, if_neg (by omega), show ((T.toNat : Nat) : Int) = T from by omega]
    · have hval : v2 H L = 2 ^ 128 - (-T).toNat := by
        rw [hv]
        omega
      rw [if_neg (fun q => by have := hle.mp q; omega)]
      unfold fX2_fusedFinite_284
      have e284 : (if n = 0 then fX2_fusedFinite_300 w x22 1 (-L) (fX0_negatedHigh H L) else fX2_fusedFinite_300 w x22 0 (-L) (fX0_negatedHigh H L)) = fX2_fusedFinite_300 w x22 (fl1 n) (-L) (fX0_negatedHigh H L) := by
        unfold fl1
        by_cases q : n = 0
        · rw [if_pos q, if_pos q]
        · rw [if_neg q, if_neg q]
      rw [e284]
      have hneg : v2 (fX0_negatedHigh H L) (-L) = (-T).toNat := by
        rw [neg2, hval]
        omega
      rw [fus300 hneg hx (by unfold fl1; rcases hn with q | q <;> rw [q]; exact Or.inr rfl; exact Or.inl rfl), if_neg (by omega), if_neg (by omega)]
      have e9 : sn (fl1 n) * (((-T).toNat : Nat) : Int) = sn n * T := by
        rw [show (((-T).toNat : Nat) : Int) = -T from by omega]
        rcases hn with q | q <;> rw [q]
        · show (-1 : Int) * -T = 1 * T
          omega
        · show (1 : Int) * -T = -1 * T
          omega
      rw [e9]
  unfold fX2_fusedFinite_209
  have hsn0 : sn 0 = 1 := rfl
  have hsn1 : sn 1 = -1 := rfl
  by_cases c : fX2_isNegative w x5 = n
  · rw [if_pos c, core hC lC C ((P : Int) + C) h2 (by omega) (by omega) (by omega), c]
    have e : sn n * (P : Int) + sn n * (C : Int) = sn n * ((P : Int) + C) := (Int.mul_add ..).symm
    rw [e]
    rcases sn_or n with q | q <;> rw [q]
    · by_cases cz : (P : Int) + C = 0
      · rw [if_pos cz, if_pos (by omega)]
      · rw [if_neg cz, if_neg (by omega)]
    · by_cases cz : (P : Int) + C = 0
      · rw [if_pos cz, if_pos (by omega)]
      · rw [if_neg cz, if_neg (by omega)]
  · have hneg := neg2 hC lC
    rw [h2] at hneg
    rw [if_neg c, core _ _ _ ((P : Int) - C) hneg (by omega) (by omega) (by omega)]
    have e : sn n * (P : Int) + sn (fX2_isNegative w x5) * (C : Int) = sn n * ((P : Int) - C) := by
      have : sn (fX2_isNegative w x5) = -sn n := by
        rcases hn with q | q <;> rcases hc01 with r | r <;> rw [q] at c ⊢ <;> rw [r] at c ⊢
        · exact absurd rfl c
        · rfl
        · rfl
        · exact absurd rfl c
      rw [this, Int.neg_mul, Int.mul_sub]
      omega
    rw [e]
    rcases sn_or n with q | q <;> rw [q]
    · by_cases cz : (P : Int) - C = 0
      · rw [if_pos cz, if_pos (by omega)]
      · rw [if_neg cz, if_neg (by omega)]
    · by_cases cz : (P : Int) - C = 0
      · rw [if_pos cz, if_pos (by omega)]
      · rw [if_neg cz, if_neg (by omega)]
