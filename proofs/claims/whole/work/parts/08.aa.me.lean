theorem un_shr1 {x : Int64} (h : un x < 9223372036854775808) : un (jl_shr x (1 : Int32)) = un x / 2 := by
  apply un_of_int
  show (x >>> ((1 : Int32).toInt64 &&& 63)).toInt = _
  have h1 : ((1 : Int32).toInt64 &&& 63 : Int64) = 1 := by decide
  rw [h1]
  have h2 : (x >>> (1 : Int64)).toBitVec = x.toBitVec.sshiftRight 1 := by
    rw [Int64.toBitVec_shiftRight]
    have h3 : (Int64.toBitVec 1).smod 64 = 1#64 := by decide
    rw [h3]
    rfl
  have h4 : (x >>> (1 : Int64)).toInt = (x.toBitVec.sshiftRight 1).toInt := by
    show (x >>> (1 : Int64)).toBitVec.toInt = _
    rw [h2]
  rw [h4, BitVec.toInt_sshiftRight]
  have h5 : x.toBitVec.toInt = (un x : Int) := un_pos h
  rw [h5, Int.shiftRight_eq_div_pow]
  omega
/-- does it grow -/
def grw (way neg : Int32) (K R H : Nat) : Prop := (way = 0 ∧ neg = 0) ∨ (way = 1 ∧ ¬ neg = 0) ∨ (way = 2 ∧ (H < R ∨ (R = H ∧ K % 2 = 1)))
theorem whole2_191 {w : Bool} {way n s0 : Int32} {unit kept rest : Int64} {K R H : Nat} (hw : way = 0 ∨ way = 1 ∨ way = 2) (hn : n = 0 ∨ n = 1) (hlt : jl_shr unit (1 : Int32) < rest ↔ H < R) (heq : rest = jl_shr unit (1 : Int32) ↔ R = H) (hodd : s0 = 0 ↔ ¬ K % 2 = 1) :
    (grw way n K R H → fX2_whole_191 w way (sg w n) unit kept rest s0 = kept + unit) ∧ (¬ grw way n K R H → fX2_whole_191 w way (sg w n) unit kept rest s0 = kept) := by
  have hs1 := sg_ne w
  have n10 : ¬ ((1 : Int32) = 0) := by decide
  have n01 : ¬ ((0 : Int32) = 1) := by decide
  have n02 : ¬ ((0 : Int32) = 2) := by decide
  have n12 : ¬ ((1 : Int32) = 2) := by decide
  have n20 : ¬ ((2 : Int32) = 0) := by decide
  have n21 : ¬ ((2 : Int32) = 1) := by decide
  unfold fX2_whole_191 fX2_whole_223 fX2_whole_227 fX2_whole_240 fX2_whole_252 fX2_whole_260 grw
  rcases hw with rfl | rfl | rfl
  · rcases hn with rfl | rfl
    · simp [n01, n02, n10, sg0]
    · simp [n01, n02, n10, hs1]
  · rcases hn with rfl | rfl
    · simp [n01, n12, n10, sg0]
    · simp [n01, n12, n10, hs1]
  · simp only [n20, n21, false_and, false_or, true_and, if_true, if_false, n10, hlt, heq, hodd]
    by_cases c1 : H < R
    · simp [c1]
    · by_cases c2 : R = H
      · by_cases c3 : K % 2 = 1
        · simp [c1, c2, c3]
        · simp [c1, c2, c3]
      · simp [c1, c2]
theorem wv_grow {way n : Int32} {K R H : Nat} (hR : R ≠ 0) : (grw way n K R H → wv way n K R H = K + 1) ∧ (¬ grw way n K R H → wv way n K R H = K) := by
  unfold wv grw
  constructor
  · intro h
    rw [if_pos ⟨hR, h⟩]
  · intro h
    rw [if_neg (fun q => h q.2)]
    rfl
theorem wv_zero {way n : Int32} {K H : Nat} : wv way n K 0 H = K := by
  unfold wv
  rw [if_neg (fun q => q.1 rfl)]
  rfl
theorem e_whole {w : Bool} {a : Int64} {way : Int32} (ha : ok w a) (hw : way = 0 ∨ way = 1 ∨ way = 2) : fX2_whole w a way = fX5_whole a way (wi w) := by
  have hmt : 23 ≤ mt w ∧ mt w ≤ 52 := by cases w <;> decide
  have hE0 : -1074 ≤ E0 w ∧ E0 w ≤ -149 := by cases w <;> decide
  have hbv := bias_v w
  have hfr := fr_mt w
  have hsa := sc_rg ha
  have hsv := scale_v ha
  have hex := exN_lt w a
  have hbi := biased_v ha
  have e0 : (0 : Int32).toInt = 0 := by decide
  have u0 : un (0 : Int64) = 0 := by decide
  have hEx : (fX2_biased w a - fo_bias w).toInt = exN w a - (1 - E0 w - mt w) := by rw [mi_sub (by omega) (by omega), hbi, hbv]
  by_cases c1 : fX2_isNan w a = 0
  · by_cases c2 : fX2_isInfinite w a = 0
    · have hfin := fin_of ha c1 c2
      by_cases c3 : 0 ≤ (fX2_scale w a).toInt
      · -- no digits behind the point
        unfold fX2_whole fX5_whole fX5_whole_34
        rw [dq_isNan ha, dq_isInf ha, dq_scale ha, if_pos c1, if_pos c1, if_pos c2, if_pos (by rw [mi_le, hfr, hEx]; omega), if_pos (by rw [mi_le, e0]; exact c3)]
      · by_cases c4 : fX2_isZero w a = 0
        · -- digits behind the point
          obtain ⟨D, hD⟩ : ∃ D : Nat, (fX2_scale w a).toInt = -(D : Int) := ⟨(-(fX2_scale w a).toInt).toNat, by omega⟩
          have hpl := pl_lt ha
          have hp0 := pl_pos ha c4
          have hp62 := pl_62 ha
          obtain ⟨V, hV, h5⟩ := whole5 (way := way) hfin c4 (by rcases hw with h | h | h <;> simp [h]) hD (by omega)
          have hK := Nat.div_le_self (un (fX2_plain w a)) (2 ^ D)
          have hV2 : un V < 2 ^ 62 := by
            rw [hV]
            unfold wv
            split <;> omega
          rw [h5, round0 hV2, hV]
          have hsz := size_pl ha
          have hpw : 2 ^ (mt w + 1) = 2 * 2 ^ mt w := by rw [Nat.pow_succ, Nat.mul_comm]
          unfold fX2_whole
          rw [if_pos c1, if_neg (by rw [mi_le, hfr, hEx]; omega), if_pos c4]
          by_cases c5 : 0 ≤ fX2_biased w a - fo_bias w
          · rw [if_pos c5]
            rw [mi_le, e0, hEx] at c5
            have hDle : D ≤ mt w := by omega
            have hex0 : exN w a ≠ 0 := by omega
            rw [if_neg hex0] at hsz
            have hnorm : 2 ^ mt w ≤ un (fX2_plain w a) := by rw [plain_v ha, if_neg hex0]; omega
            have hDp := Nat.two_pow_pos D
            have hy : (fo_fraction w - (fX2_biased w a - fo_bias w)).toInt = D := by rw [mi_sub (by omega) (by omega), hfr, hEx]; omega
            have hunit := un_one hy (by omega)
            have hkept := un_hi (x := a) hy (by omega)
            have hD52 : 2 ^ D ≤ 2 ^ 52 := Nat.pow_le_pow_right (by decide) (by omega)
            -- the digits of a word and of its number
            have hsp : 2 ^ mt w = 2 ^ D * 2 ^ (mt w - D) := by rw [← Nat.pow_add]; congr 1; omega
            have hsg : ∃ c : Nat, un (sg w (fX2_isNegative w a)) = 2 * c * 2 ^ mt w := by
              rcases z_neg w a with h | h
              · rw [h]; exact ⟨0, by rw [sg0, u0]; omega⟩
              · rw [h, sg1]
                cases w
                · exact ⟨128, by decide⟩
                · exact ⟨1024, by decide⟩
            obtain ⟨c, hc⟩ := hsg
            have hun := sg_un w a ha
            have hval : un a = (2 * c + (exN w a - 1)) * 2 ^ mt w + un (fX2_plain w a) := by
              have h1 : (exN w a - 1) * 2 ^ mt w + 2 ^ mt w = exN w a * 2 ^ mt w := by
                rw [← Nat.succ_mul]
                congr 1
                omega
              rw [Nat.add_mul, ← hc]
              omega
            have hval2 : un a = ((2 * c + (exN w a - 1)) * 2 ^ (mt w - D)) * 2 ^ D + un (fX2_plain w a) := by
              rw [Nat.mul_assoc, Nat.mul_comm (2 ^ (mt w - D)), ← hsp]
              exact hval
            have hmod : un a % 2 ^ D = un (fX2_plain w a) % 2 ^ D := by
              rw [hval2, Nat.mul_add_mod_self_right]
            have hdiv : un a / 2 ^ D = (2 * c + (exN w a - 1)) * 2 ^ (mt w - D) + un (fX2_plain w a) / 2 ^ D := by
              rw [hval2, Nat.add_comm, Nat.add_mul_div_right _ _ hDp, Nat.add_comm]
            have hpar : un a / 2 ^ D % 2 = un (fX2_plain w a) / 2 ^ D % 2 := by
              have h1 : ((2 * c + (exN w a - 1)) * 2 ^ (mt w - D)) % 2 = 0 := by
                by_cases q : D = mt w
                · have hb : ((1 - E0 w - mt w).toNat - 1) % 2 = 0 := by cases w <;> decide
                  have : (2 * c + (exN w a - 1)) % 2 = 0 := by omega
                  rw [Nat.mul_mod, this, Nat.zero_mul, Nat.zero_mod]
                · have : 2 ^ (mt w - D) = 2 * 2 ^ (mt w - D - 1) := by
                    rw [← Nat.pow_succ']
                    congr 1
                    omega
                  rw [this, Nat.mul_left_comm, Nat.mul_mod_right]
              rw [hdiv]
              omega
            have hdm := Nat.div_add_mod (un (fX2_plain w a)) (2 ^ D)
            have hdma := Nat.div_add_mod (un a) (2 ^ D)
            -- the target's word
            have hEq : ∀ X : Nat, (X = un (fX2_plain w a) / 2 ^ D ∨ X = un (fX2_plain w a) / 2 ^ D + 1) → un (wres w (fX2_isNegative w a) X) = un (sg w (fX2_isNegative w a)) + (exN w a - 1) * 2 ^ mt w + X * 2 ^ D := by
              intro X hX
              have hXlo : 2 ^ (mt w - D) ≤ un (fX2_plain w a) / 2 ^ D := by
                rw [Nat.le_div_iff_mul_le hDp, Nat.mul_comm, ← hsp]
                exact hnorm
              have hXhi : un (fX2_plain w a) / 2 ^ D < 2 ^ (mt w - D + 1) := by
                rw [Nat.div_lt_iff_lt_mul hDp, ← Nat.pow_add, show mt w - D + 1 + D = mt w + 1 from by omega]
                exact hpl
              have hpos := Nat.two_pow_pos (mt w - D)
              obtain ⟨g1, g2⟩ := rn_int (w := w) (V := X) (E := mt w - D) (by omega) (by omega) (by omega)
              have hIS := IN_lt w
              unfold wres
              rw [if_neg (by omega), sg_or (z_neg w a) (by omega), g1]
              have h3 : (((mt w - D : Nat) : Int) - mt w - E0 w).toNat = exN w a - 1 := by omega
              rw [h3, show mt w - (mt w - D) = D from by omega]
              omega
            have hkv : un (a &&& -(jl_shl (1 : Int64) (fo_fraction w - (fX2_biased w a - fo_bias w)))) = un (sg w (fX2_isNegative w a)) + (exN w a - 1) * 2 ^ mt w + un (fX2_plain w a) / 2 ^ D * 2 ^ D := by
              rw [hkept, hmod, hval, Nat.add_mul, ← hc, Nat.mul_comm (un (fX2_plain w a) / 2 ^ D)]
              omega
            have hmle := Nat.mod_le (un a) (2 ^ D)
            have hrv : un (a - (a &&& -(jl_shl (1 : Int64) (fo_fraction w - (fX2_biased w a - fo_bias w))))) = un (fX2_plain w a) % 2 ^ D := by
              rw [un_sub_le (by omega), hkept, ← hmod]
              omega
            unfold fX2_whole_159
            by_cases c6 : a - (a &&& -(jl_shl (1 : Int64) (fo_fraction w - (fX2_biased w a - fo_bias w)))) = (0 : Int64)
            · rw [if_pos c6]
              rw [un_iff, hrv, u0] at c6
              rw [c6, wv_zero]
              apply un_inj
              rw [hEq _ (Or.inl rfl), hval, Nat.add_mul, ← hc, Nat.mul_comm (un (fX2_plain w a) / 2 ^ D)]
              omega
            · rw [if_neg c6]
              rw [un_iff, hrv, u0] at c6
              have hrlt := Nat.mod_lt (un (fX2_plain w a)) hDp
              have hhalf : un (jl_shr (jl_shl (1 : Int64) (fo_fraction w - (fX2_biased w a - fo_bias w))) (1 : Int32)) = 2 ^ (D - 1) := by
                rw [un_shr1 (by omega), hunit]
                have : 2 ^ D = 2 * 2 ^ (D - 1) := by
                  rw [← Nat.pow_succ']
                  congr 1
                  omega
                omega
              have hh52 : 2 ^ (D - 1) ≤ 2 ^ 52 := Nat.pow_le_pow_right (by decide) (by omega)
              have hbit : ((a &&& -(jl_shl (1 : Int64) (fo_fraction w - (fX2_biased w a - fo_bias w)))) &&& jl_shl (1 : Int64) (fo_fraction w - (fX2_biased w a - fo_bias w))) = (0 : Int64) ↔ ¬ un (fX2_plain w a) / 2 ^ D % 2 = 1 := by
                rw [un_iff, un_and, hkept, hunit, u0, and_pow]
                have h1 : (un a - un a % 2 ^ D) / 2 ^ D = un a / 2 ^ D := by
                  rw [show un a - un a % 2 ^ D = 2 ^ D * (un a / 2 ^ D) from by omega, Nat.mul_div_cancel_left _ hDp]
                rw [h1, hpar]
                split
                · rename_i q; exact ⟨fun h => by omega, fun h => absurd q h⟩
                · rename_i q; exact ⟨fun _ => q, fun _ => rfl⟩
              have fin2 : ∀ s0 : Int32, (s0 = 0 ↔ ¬ un (fX2_plain w a) / 2 ^ D % 2 = 1) → fX2_whole_191 w way (a &&& fo_sign w) (jl_shl (1 : Int64) (fo_fraction w - (fX2_biased w a - fo_bias w))) (a &&& -(jl_shl (1 : Int64) (fo_fraction w - (fX2_biased w a - fo_bias w)))) (a - (a &&& -(jl_shl (1 : Int64) (fo_fraction w - (fX2_biased w a - fo_bias w))))) s0 = wres w (fX2_isNegative w a) (wv way (fX2_isNegative w a) (un (fX2_plain w a) / 2 ^ D) (un (fX2_plain w a) % 2 ^ D) (2 ^ (D - 1))) := by
                intro s0 hs0
                rw [ng_sg]
                obtain ⟨g1, g2⟩ := whole2_191 (w := w) (kept := a &&& -(jl_shl (1 : Int64) (fo_fraction w - (fX2_biased w a - fo_bias w)))) (unit := jl_shl (1 : Int64) (fo_fraction w - (fX2_biased w a - fo_bias w))) (rest := a - (a &&& -(jl_shl (1 : Int64) (fo_fraction w - (fX2_biased w a - fo_bias w))))) (K := un (fX2_plain w a) / 2 ^ D) (R := un (fX2_plain w a) % 2 ^ D) (H := 2 ^ (D - 1)) hw (z_neg w a) (by rw [un_lt' (by omega) (by omega), hhalf, hrv]) (by rw [un_iff, hhalf, hrv]) hs0
                obtain ⟨g3, g4⟩ := wv_grow (way := way) (n := fX2_isNegative w a) (K := un (fX2_plain w a) / 2 ^ D) (H := 2 ^ (D - 1)) c6
                by_cases c7 : grw way (fX2_isNegative w a) (un (fX2_plain w a) / 2 ^ D) (un (fX2_plain w a) % 2 ^ D) (2 ^ (D - 1))
                · rw [g1 c7, g3 c7]
                  apply un_inj
                  have hb := un_lt (wres w (fX2_isNegative w a) (un (fX2_plain w a) / 2 ^ D + 1))
                  have hq := hEq _ (Or.inr rfl)
                  rw [Nat.add_mul, Nat.one_mul] at hq
                  rw [un_add, hkv, hunit, hq, Nat.mod_eq_of_lt (by omega)]
                  omega
                · rw [g2 c7, g4 c7]
                  apply un_inj
                  rw [hkv, hEq _ (Or.inl rfl)]
              by_cases c7 : ((a &&& -(jl_shl (1 : Int64) (fo_fraction w - (fX2_biased w a - fo_bias w)))) &&& jl_shl (1 : Int64) (fo_fraction w - (fX2_biased w a - fo_bias w))) = (0 : Int64)
              · rw [if_pos c7]
                rw [hbit] at c7
                exact fin2 0 ⟨fun _ => c7, fun _ => rfl⟩
              · rw [if_neg c7]
                rw [hbit] at c7
                exact fin2 1 ⟨fun h => absurd h (by decide), fun h => absurd h c7⟩
          · -- below 1
            rw [if_neg c5]
            rw [mi_le, e0, hEx] at c5
            have hDgt : mt w + 1 ≤ D := by omega
            have hDp : 2 ^ (mt w + 1) ≤ 2 ^ D := Nat.pow_le_pow_right (by decide) hDgt
            have hK0 : un (fX2_plain w a) / 2 ^ D = 0 := Nat.div_eq_of_lt (by omega)
            have hR0 : un (fX2_plain w a) % 2 ^ D = un (fX2_plain w a) := Nat.mod_eq_of_lt (by omega)
            rw [hK0, hR0]
            obtain ⟨g3, g4⟩ := wv_grow (way := way) (n := fX2_isNegative w a) (K := 0) (R := un (fX2_plain w a)) (H := 2 ^ (D - 1)) (by omega)
            have hone : rw_ w 1 0 = un (fo_one w) := by cases w <;> decide
            have w1 : wres w (fX2_isNegative w a) (0 + 1) = (sg w (fX2_isNegative w a) ||| fo_one w) := by
              unfold wres
              rw [if_neg (by decide)]
              congr 1
              show ow (rw_ w 1 0) = _
              exact (eq_ow hone.symm).symm
            have w0 : wres w (fX2_isNegative w a) 0 = sg w (fX2_isNegative w a) := by
              unfold wres
              rw [if_pos rfl]
            have n10 : ¬ ((1 : Int32) = 0) := by decide
            have n01 : ¬ ((0 : Int32) = 1) := by decide
            have hnear : fX2_size w a ≤ fo_one w - jl_shl (1 : Int64) (fo_fraction w) ↔ un (fX2_plain w a) ≤ 2 ^ (D - 1) := by
              have h1 : un (fo_one w - jl_shl (1 : Int64) (fo_fraction w)) = ((1 - E0 w - mt w).toNat - 1) * 2 ^ mt w := by cases w <;> decide
              have h2 : un (fo_one w - jl_shl (1 : Int64) (fo_fraction w)) < 9223372036854775808 := by cases w <;> decide
              rw [un_le' (size_lt ha) h2, un_size ha, h1]
              have hpp := Nat.two_pow_pos (mt w)
              by_cases q : D = mt w + 1
              · have hx0 : exN w a ≠ 0 := by omega
                rw [if_neg hx0] at hsz
                have hx1 : exN w a = (1 - E0 w - mt w).toNat - 1 := by omega
                rw [hx1] at hsz
                rw [show D - 1 = mt w from by omega]
                omega
              · have h3 : 2 ^ (mt w + 1) ≤ 2 ^ (D - 1) := Nat.pow_le_pow_right (by decide) (by omega)
                have h4 : un a % SG w ≤ ((1 - E0 w - mt w).toNat - 1) * 2 ^ mt w := by
                  by_cases hx0 : exN w a = 0
                  · rw [if_pos hx0, hx0] at hsz
                    have h5 : 2 * 2 ^ mt w ≤ ((1 - E0 w - mt w).toNat - 1) * 2 ^ mt w := Nat.mul_le_mul_right _ (by omega)
                    omega
                  · rw [if_neg hx0] at hsz
                    have h5 : (exN w a + 1) * 2 ^ mt w ≤ ((1 - E0 w - mt w).toNat - 1) * 2 ^ mt w := Nat.mul_le_mul_right _ (by omega)
                    rw [Nat.add_mul, Nat.one_mul] at h5
                    omega
                exact ⟨fun _ => by omega, fun _ => h4⟩
            unfold fX2_whole_103 fX2_whole_115 fX2_whole_123
            rw [ng_sg]
            by_cases c7 : grw way (fX2_isNegative w a) 0 (un (fX2_plain w a)) (2 ^ (D - 1))
            · rw [g3 c7, w1]
              unfold grw at c7
              rcases c7 with ⟨q1, q2⟩ | ⟨q1, q2⟩ | ⟨q1, q2⟩
              · rw [q1, q2]
                simp [sg0]
              · have q3 := (z_neg w a).resolve_left q2
                rw [q1, q3]
                simp [sg_ne]
              · have q4 : ¬ fX2_size w a ≤ fo_one w - jl_shl (1 : Int64) (fo_fraction w) := by
                  rw [hnear]
                  omega
                rw [q1, if_pos rfl, if_neg q4, if_neg n10]
            · rw [g4 c7, w0]
              unfold grw at c7
              rcases hw with q1 | q1 | q1
              · have q2 : ¬ fX2_isNegative w a = 0 := fun h => c7 (Or.inl ⟨q1, h⟩)
                have q3 := (z_neg w a).resolve_left q2
                rw [q1, q3]
                simp [sg_ne]
              · have q2 : fX2_isNegative w a = 0 := by
                  rcases z_neg w a with h | h
                  · exact h
                  · exact absurd (Or.inr (Or.inl ⟨q1, by rw [h]; decide⟩)) c7
                rw [q1, q2]
                simp [sg0]
              · have q4 : fX2_size w a ≤ fo_one w - jl_shl (1 : Int64) (fo_fraction w) := by
                  rw [hnear]
                  rcases Nat.lt_or_ge (2 ^ (D - 1)) (un (fX2_plain w a)) with q | q
                  · exact absurd (Or.inr (Or.inr ⟨q1, Or.inl q⟩)) c7
                  · exact q
                rw [q1, if_pos rfl, if_pos q4, if_pos rfl]
        · -- zero
          unfold fX2_whole fX5_whole fX5_whole_34
          rw [dq_isNan ha, dq_isInf ha, dq_scale ha, dq_isZero ha, if_pos c1, if_pos c1, if_pos c2, if_neg (by rw [mi_le, hfr, hEx]; omega), if_neg c4, if_neg (by rw [mi_le, e0]; exact c3), if_neg c4]
    · -- infinite
      have hI : un a % SG w = IN w := by
        rcases Nat.lt_or_ge (un a % SG w) (IN w) with q | q
        · exact absurd ((inf0 ha).mpr (by omega)) c2
        · have := (nan0 ha).mp c1
          omega
      have hex2 : exN w a = IN w / 2 ^ mt w := by unfold exN; rw [hI]
      have hIv : (mt w : Int) ≤ (IN w / 2 ^ mt w : Nat) - (1 - E0 w - mt w) := by cases w <;> decide
      unfold fX2_whole fX5_whole fX5_whole_34
      rw [dq_isNan ha, dq_isInf ha, if_pos c1, if_pos c1, if_neg c2, if_pos (by rw [mi_le, hfr, hEx, hex2]; exact hIv), if_pos (by decide)]
  · unfold fX2_whole fX5_whole
    rw [dq_isNan ha, if_neg c1, if_neg c1, dq_nan0]
