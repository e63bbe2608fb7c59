theorem half32 {x : Int32} {h : Int} (hx : x.toInt = 2 * h) : (x / (2 : Int32)).toInt = h := by
  have e2 : (2 : Int32).toInt = 2 := by decide
  have h1 := mi_lo x
  have h2 := mi_hi x
  rw [Int32.toInt_div, e2, hx, Int.mul_tdiv_cancel_left _ (by decide), Int.bmod_eq_of_le] <;> omega
theorem rem2 (x : Int32) : ji_rem x (2 : Int32) = 0 ↔ x.toInt % 2 = 0 := by
  have e2 : (2 : Int32).toInt = 2 := by decide
  have e0 : (0 : Int32).toInt = 0 := by decide
  have h1 := mi_lo x
  have h2 := mi_hi x
  unfold ji_rem
  constructor
  · intro h
    have h3 : x = x / (2 : Int32) * (2 : Int32) := by
      rw [mi_eq]
      rw [mi_eq, Int32.toInt_sub, e0] at h
      have h4 := mi_lo (x / (2 : Int32) * (2 : Int32))
      have h5 := mi_hi (x / (2 : Int32) * (2 : Int32))
      unfold Int.bmod at h
      simp only [] at h
      split at h <;> omega
    rw [h3, Int32.toInt_mul, e2]
    unfold Int.bmod
    simp only []
    split <;> omega
  · intro h
    have h3 : (x / (2 : Int32)).toInt = x.toInt / 2 := half32 (by omega)
    have h4 : (x / (2 : Int32) * (2 : Int32)).toInt = x.toInt := by
      rw [mi_mul (by rw [h3, e2]; omega) (by rw [h3, e2]; omega), h3, e2]
      omega
    rw [mi_eq, mi_sub (by omega) (by omega), h4, e0]
    omega
theorem and2 (x : Int32) : (x &&& (1 : Int32)) = 0 ↔ x.toInt % 2 = 0 := by
  have h2 : x.toInt = if 2 * x.toBitVec.toNat < 4294967296 then (x.toBitVec.toNat : Int) else (x.toBitVec.toNat : Int) - 4294967296 := BitVec.toInt_eq_toNat_cond x.toBitVec
  have h1 : (1 : Int32).toBitVec.toNat = 2 ^ 1 - 1 := by decide
  have h4 : (x &&& (1 : Int32)).toBitVec.toNat = x.toBitVec.toNat % 2 := by
    rw [Int32.toBitVec_and, BitVec.toNat_and, h1, Nat.and_two_pow_sub_one_eq_mod]
  have h5 : (x &&& (1 : Int32)) = 0 ↔ x.toBitVec.toNat % 2 = 0 := by
    rw [← h4]
    constructor
    · intro h
      rw [h]
      decide
    · intro h
      apply Int32.toBitVec_inj.mp
      apply BitVec.eq_of_toNat_eq
      rw [h]
      decide
  rw [h5]
  split at h2 <;> omega
theorem root_core {w : Bool} {a : Int64} {sh s0 s1 : Int32} {S U : Nat} (ha : ok w a) (za : fX2_isZero w a = 0) (hS : sh.toInt = S) (hS2 : S + nb (un (fX2_plain w a)) ≤ 64 ∧ 63 ≤ S + nb (un (fX2_plain w a))) (hSe : ((fX2_scale w a).toInt - S) % 2 = 0) (hU : (s0 + s1).toInt = U) (hU2 : U + nb (un (fX2_plain w a)) ≤ 55 ∧ 54 ≤ U + nb (un (fX2_plain w a))) (hUe : ((fX2_scale w a).toInt - U) % 2 = 0) :
    fX2_root_65 w a sh = fX5_root_88 (wi w) (fX2_plain w a) (fX2_scale w a) s0 s1 := by
  have hmt : 23 ≤ mt w ∧ mt w ≤ 52 := by cases w <;> decide
  have hsa := sc_rg ha
  have hpa := pl_pos ha za
  have hla := pl_lt ha
  have hna : nb (un (fX2_plain w a)) ≤ mt w + 1 := nb_le.mpr hla
  have hna1 := nb_pos hpa
  have hhi := nb_hi (un (fX2_plain w a))
  have hlo := nb_lo hpa
  have hfr := fr_mt w
  have e3 : (3 : Int32).toInt = 3 := by decide
  have e1 : (1 : Int32).toInt = 1 := by decide
  have e0 : (0 : Int32).toInt = 0 := by decide
  have e32 : (32 : Int32).toInt = 32 := by decide
  have e58 : (58 : Int32).toInt = 58 := by decide
  have u0 : un (0 : Int64) = 0 := by decide
  have hlim : (fo_fraction w + (3 : Int32)).toInt = mt w + 3 := by rw [mi_add (by omega) (by omega), hfr, e3]
  -- the class
  have hMb : un (fX2_plain w a) * 2 ^ S < 2 ^ 64 := by
    have g : un (fX2_plain w a) * 2 ^ S < 2 ^ nb (un (fX2_plain w a)) * 2 ^ S := Nat.mul_lt_mul_of_pos_right hhi (Nat.two_pow_pos S)
    rw [← Nat.pow_add] at g
    exact Nat.lt_of_lt_of_le g (Nat.pow_le_pow_right (by decide) (by omega))
  have hM : un (jl_shl (fX2_plain w a) sh) = un (fX2_plain w a) * 2 ^ S := un_shl' hS (by omega) (by omega)
  obtain ⟨x', q1, r1, i1, hG1, hx1, hinv1, hr1, hq1⟩ := rtA_loop (w := w) (P := fo_fraction w + (3 : Int32)) (M := un (fX2_plain w a) * 2 ^ S) hlim (Nat.succ (((fo_fraction w + (3 : Int32)).toInt - (0 : Int32).toInt).toNat)) (jl_shl (fX2_plain w a) sh) (0 : Int64) (0 : Int64) (0 : Int32) 0 (by omega) (by decide) (by omega) (by rw [hM]; omega) (by rw [u0, Nat.pow_zero, Nat.mul_one, Nat.div_eq_of_lt (by omega)]) (by omega) (by decide)
  have hp4 : un (fX2_plain w a) * 2 ^ S * 4 ^ (mt w + 3) = un (fX2_plain w a) * 2 ^ (S + 2 * mt w - 58) * 18446744073709551616 := by
    rw [show (18446744073709551616 : Nat) = 2 ^ 64 from by decide, show (4 : Nat) = 2 ^ 2 from rfl, ← Nat.pow_mul, Nat.mul_assoc, Nat.mul_assoc, ← Nat.pow_add, ← Nat.pow_add]
    congr 2
    omega
  rw [hp4, Nat.mul_mod_left] at hx1
  rw [hp4, Nat.mul_div_cancel _ (by decide)] at hinv1
  -- the reference
  have hXb : un (fX2_plain w a) * 2 ^ U < 2 ^ 55 := by
    have g : un (fX2_plain w a) * 2 ^ U < 2 ^ nb (un (fX2_plain w a)) * 2 ^ U := Nat.mul_lt_mul_of_pos_right hhi (Nat.two_pow_pos U)
    rw [← Nat.pow_add] at g
    exact Nat.lt_of_lt_of_le g (Nat.pow_le_pow_right (by decide) (by omega))
  have hX : un (jl_shl (fX2_plain w a) (s0 + s1)) = un (fX2_plain w a) * 2 ^ U := un_shl' hU (by omega) (by omega)
  obtain ⟨q2, r2, i2, hG2, hinv2, hr2, hq2⟩ := rtB_loop (X := jl_shl (fX2_plain w a) (s0 + s1)) (by omega) (Nat.succ (((57 : Int32).toInt - (0 : Int32).toInt).toNat)) (0 : Int64) (0 : Int64) (0 : Int32) 0 (by decide) (by decide) (by omega) (by rw [u0, Nat.pow_zero, Nat.mul_one, Nat.div_eq_of_lt (by omega)]) (by omega) (by decide)
  have hp5 : un (fX2_plain w a) * 2 ^ U * 4 ^ 57 = un (fX2_plain w a) * 2 ^ (S + 2 * mt w - 58) * 4 ^ ((U + 58 - (S + 2 * mt w - 58)) / 2) * 72057594037927936 := by
    rw [show (72057594037927936 : Nat) = 2 ^ 56 from by decide, show (4 : Nat) = 2 ^ 2 from rfl, ← Nat.pow_mul, ← Nat.pow_mul, Nat.mul_assoc, Nat.mul_assoc, Nat.mul_assoc, ← Nat.pow_add, ← Nat.pow_add, ← Nat.pow_add]
    congr 2
    omega
  rw [hX, hp5, Nat.mul_div_cancel _ (by decide)] at hinv2
  have hRt1 := rt_of hinv1 hr1
  have hRt2 := rt_of hinv2 hr2
  have hN1lo : 2 ^ (mt w + 2) * 2 ^ (mt w + 2) ≤ un (fX2_plain w a) * 2 ^ (S + 2 * mt w - 58) := by
    have g : 2 ^ (nb (un (fX2_plain w a)) - 1) * 2 ^ (S + 2 * mt w - 58) ≤ un (fX2_plain w a) * 2 ^ (S + 2 * mt w - 58) := Nat.mul_le_mul_right _ hlo
    rw [← Nat.pow_add] at g ⊢
    exact Nat.le_trans (Nat.pow_le_pow_right (by decide) (by omega)) g
  have hbig : 2 ^ (mt w + 2) ≤ un q1 := by
    have := sq_lt (Nat.lt_of_le_of_lt hN1lo hRt1.2)
    omega
  have hbig2 : 2 ^ 54 ≤ un q2 := by
    have g0 : 2 ^ 54 * 2 ^ 54 ≤ un (fX2_plain w a) * 2 ^ (S + 2 * mt w - 58) * 4 ^ ((U + 58 - (S + 2 * mt w - 58)) / 2) := by
      rw [show (4 : Nat) = 2 ^ 2 from rfl, ← Nat.pow_mul, Nat.mul_assoc, ← Nat.pow_add, ← Nat.pow_add]
      have g : 2 ^ (nb (un (fX2_plain w a)) - 1) * 2 ^ (S + 2 * mt w - 58 + 2 * ((U + 58 - (S + 2 * mt w - 58)) / 2)) ≤ un (fX2_plain w a) * 2 ^ (S + 2 * mt w - 58 + 2 * ((U + 58 - (S + 2 * mt w - 58)) / 2)) := Nat.mul_le_mul_right _ hlo
      rw [← Nat.pow_add] at g
      exact Nat.le_trans (Nat.pow_le_pow_right (by decide) (by omega)) g
    have := sq_lt (Nat.lt_of_le_of_lt g0 hRt2.2)
    omega
  have h0 := Nat.two_pow_pos (mt w + 2)
  have hq1b : 2 ^ (mt w + 3) ≤ 2 ^ 55 := Nat.pow_le_pow_right (by decide) (by omega)
  have hsc1 : ((((fX2_scale w a - sh) / (2 : Int32)) + (32 : Int32)) - (fo_fraction w + (3 : Int32)) - (1 : Int32)).toInt = ((fX2_scale w a).toInt - S) / 2 + 28 - mt w := by
    have g1 : (fX2_scale w a - sh).toInt = (fX2_scale w a).toInt - S := by rw [mi_sub (by omega) (by omega), hS]
    have g2 : ((fX2_scale w a - sh) / (2 : Int32)).toInt = ((fX2_scale w a).toInt - S) / 2 := half32 (by omega)
    have g3 : ((fX2_scale w a - sh) / (2 : Int32) + (32 : Int32)).toInt = ((fX2_scale w a).toInt - S) / 2 + 32 := by rw [mi_add (by omega) (by omega), g2, e32]
    have g4 : ((fX2_scale w a - sh) / (2 : Int32) + (32 : Int32) - (fo_fraction w + (3 : Int32))).toInt = ((fX2_scale w a).toInt - S) / 2 + 32 - (mt w + 3) := by rw [mi_sub (by omega) (by omega), g3, hlim]
    rw [mi_sub (by omega) (by omega), g4, e1]
    omega
  have hsc2 : (((fX2_scale w a - (s0 + s1)) - (58 : Int32)) / (2 : Int32)).toInt = ((fX2_scale w a).toInt - U) / 2 - 29 := by
    have g1 : (fX2_scale w a - (s0 + s1)).toInt = (fX2_scale w a).toInt - U := by rw [mi_sub (by omega) (by omega), hU]
    have g2 : (fX2_scale w a - (s0 + s1) - (58 : Int32)).toInt = (fX2_scale w a).toInt - U - 58 := by rw [mi_sub (by omega) (by omega), g1, e58]
    exact half32 (by omega)
  have hround := rs_round (w := w) (e := ((fX2_scale w a).toInt - S) / 2 + 28 - mt w) hRt1 hRt2 hbig
  have he2 : ((fX2_scale w a).toInt - S) / 2 + 28 - mt w - ((U + 58 - (S + 2 * mt w - 58)) / 2 : Nat) = ((fX2_scale w a).toInt - U) / 2 - 29 - 1 := by omega
  rw [he2] at hround
  generalize un (fX2_plain w a) * 2 ^ (S + 2 * mt w - 58) = N1 at *
  generalize N1 * 4 ^ ((U + 58 - (S + 2 * mt w - 58)) / 2) = N2 at *
  have finA : fX2_root_65 w a sh = (sg w 0 ||| ow (rw_ w (rs N1 (un q1)) (((fX2_scale w a).toInt - S) / 2 + 28 - mt w))) := by
    unfold fX2_root_65
    rw [hG1]
    show fX2_root_157 w a sh x' (fo_fraction w + (3 : Int32)) q1 r1 = _
    unfold fX2_root_157 fX2_root_172 fX2_root_199
    have fin : ∀ s : Int32, (s = 0 ∨ s = 1) → s.toInt.toNat = (if un q1 * un q1 = N1 then 0 else 1) → fX2_rounded w 0 ((((fX2_scale w a - sh) / (2 : Int32)) + (32 : Int32)) - (fo_fraction w + (3 : Int32)) - (1 : Int32)) (jl_shl q1 (1 : Int32) ||| s.toInt64) = (sg w 0 ||| ow (rw_ w (rs N1 (un q1)) (((fX2_scale w a).toInt - S) / 2 + 28 - mt w))) := by
      intro s h1 h2
      have h3 := st_bit (q := q1) (s := s) (by omega) h1
      rw [roundA (by omega) (by omega), h3, h2, hsc1]
      rfl
    have hz : (r1 ||| x') = (0 : Int64) ↔ un r1 = 0 := by rw [un_iff, un_or, hx1, Nat.or_zero, u0]
    by_cases c : (r1 ||| x') = (0 : Int64)
    · rw [if_pos c]
      rw [hz] at c
      exact fin 0 (Or.inl rfl) (by rw [if_pos (by omega), e0]; rfl)
    · rw [if_neg c]
      rw [hz] at c
      exact fin 1 (Or.inr rfl) (by rw [if_neg (by omega), e1]; rfl)
  have finB : fX5_root_88 (wi w) (fX2_plain w a) (fX2_scale w a) s0 s1 = (sg w 0 ||| ow (rw_ w (rs N2 (un q2)) (((fX2_scale w a).toInt - U) / 2 - 29 - 1))) := by
    unfold fX5_root_88
    rw [hG2]
    show fX5_root_200 (wi w) (fX2_scale w a - (s0 + s1)) q2 r2 = _
    unfold fX5_root_200 fX5_root_222
    have fin : ∀ s : Int32, (s = 0 ∨ s = 1) → s.toInt.toNat = (if un q2 * un q2 = N2 then 0 else 1) → fX5_rounded 0 q2 (((fX2_scale w a - (s0 + s1)) - (58 : Int32)) / (2 : Int32)) s (wi w) = (sg w 0 ||| ow (rw_ w (rs N2 (un q2)) (((fX2_scale w a).toInt - U) / 2 - 29 - 1))) := by
      intro s h1 h2
      have h53 : 2 ^ (mt w + 1) ≤ 2 ^ 53 := Nat.pow_le_pow_right (by decide) (by omega)
      rw [roundB (by omega) (by omega) (by omega) (h1.imp id (fun h => ⟨h, by omega⟩)), h2, hsc2]
      rfl
    by_cases c : r2 = (0 : Int64)
    · rw [if_pos c]
      rw [un_iff, u0] at c
      exact fin 0 (Or.inl rfl) (by rw [if_pos (by omega), e0]; rfl)
    · rw [if_neg c]
      rw [un_iff, u0] at c
      exact fin 1 (Or.inr rfl) (by rw [if_neg (by omega), e1]; rfl)
  rw [finA, finB, hround]
theorem e_root {w : Bool} {a : Int64} (ha : ok w a) : fX2_root w a = fX5_root a (wi w) := by
  unfold fX2_root fX5_root fX5_root_24 fX5_root_29
  rw [dq_isNan ha, dq_isInf ha, dq_isZero ha, dq_isNeg, dq_nan0, dq_scale ha, dq_dig ha]
  have hsa := sc_rg ha
  have e54 : (54 : Int32).toInt = 54 := by decide
  have e1 : (1 : Int32).toInt = 1 := by decide
  have e0 : (0 : Int32).toInt = 0 := by decide
  have em : (-1 : Int32).toInt = -1 := by decide
  have zn : ¬ fX2_isZero w a = 0 → fX2_isNan w a = 0 := by
    intro h
    have h1 : un a % SG w = 0 := by
      rcases Nat.eq_zero_or_pos (un a % SG w) with q | q
      · exact q
      · exact absurd ((zero0 ha).mpr (by omega)) h
    rw [nan0 ha]
    omega
  by_cases c1 : fX2_isZero w a = 0
  · by_cases c2 : fX2_isNan w a = 0 <;> by_cases c3 : fX2_isNegative w a = 0 <;> by_cases c4 : fX2_isInfinite w a = 0 <;> simp only [c1, c2, c3, c4, if_true, if_false]
    have hpa := pl_pos ha c1
    have hla := pl_62 ha
    have hz := zeros_v hpa
    have hb := bits_v (x := fX2_plain w a) (by omega)
    have hn : nb (un (fX2_plain w a)) ≤ 53 := nb_le.mpr hla
    have hn1 := nb_pos hpa
    have hd1 : (fX2_scale w a - fX0_zeros (fX2_plain w a)).toInt = (fX2_scale w a).toInt - (64 - nb (un (fX2_plain w a))) := by rw [mi_sub (by omega) (by omega), hz]
    have hup : ((54 : Int32) - fX5_bitsOf (fX2_plain w a)).toInt = 54 - nb (un (fX2_plain w a)) := by rw [mi_sub (by omega) (by omega), e54, hb]
    have hd2 : (fX2_scale w a - ((54 : Int32) - fX5_bitsOf (fX2_plain w a))).toInt = (fX2_scale w a).toInt - (54 - nb (un (fX2_plain w a))) := by rw [mi_sub (by omega) (by omega), hup]
    have q1 : (fX2_scale w a - fX0_zeros (fX2_plain w a) &&& (1 : Int32)) = 0 ↔ ((fX2_scale w a).toInt - nb (un (fX2_plain w a))) % 2 = 0 := by
      rw [and2, hd1]
      omega
    have q2 : ji_rem (fX2_scale w a - ((54 : Int32) - fX5_bitsOf (fX2_plain w a))) (2 : Int32) = 0 ↔ ((fX2_scale w a).toInt - nb (un (fX2_plain w a))) % 2 = 0 := by
      rw [rem2, hd2]
      omega
    by_cases c5 : ((fX2_scale w a).toInt - nb (un (fX2_plain w a))) % 2 = 0
    · rw [if_pos (q1.mpr c5), if_pos (q2.mpr c5)]
      apply root_core (S := 64 - nb (un (fX2_plain w a))) (U := 54 - nb (un (fX2_plain w a))) ha c1
      · omega
      · omega
      · omega
      · rw [mi_add (by omega) (by omega), hup, e0]; omega
      · omega
      · omega
    · rw [if_neg (fun h => c5 (q1.mp h)), if_neg (fun h => c5 (q2.mp h))]
      apply root_core (S := 63 - nb (un (fX2_plain w a))) (U := 55 - nb (un (fX2_plain w a))) ha c1
      · rw [mi_add (by omega) (by omega), hz, em]; omega
      · omega
      · omega
      · rw [mi_add (by omega) (by omega), hup, e1]; omega
      · omega
      · omega
  · have c2 := zn c1
    by_cases c3 : fX2_isNegative w a = 0 <;> simp only [c1, c2, c3, if_true, if_false]
