theorem sum_push {w : Bool} {x5 x6 : Int32} {na : Int32} {A B : Int64} {x3 : Int64} : (if na = 0 then fX2_sum_164 w x3 x5 x6 B A else fX2_sum_164 w x3 x5 x6 B (-A)) = fX2_sum_180 w x5 x6 (if na = 0 then A else -A) (if fX2_isNegative w x3 = 0 then B else -B) := by
  unfold fX2_sum_164
  by_cases c : na = 0 <;> by_cases d : fX2_isNegative w x3 = 0 <;> simp only [c, d, if_true, if_false]
theorem sum82 {w : Bool} {a b : Int64} (ha : fin w a) (hb : fin w b) : fX2_sum_82 w a b = if ex w a + ex w b = 0 then 0 else rv w (ex w a + ex w b) (-2200) := by
  have ra := sc_rg ha.1
  have rb := sc_rg hb.1
  have hmt : mt w ≤ 52 ∧ 23 ≤ mt w := by cases w <;> decide
  have hsh := sh_v w
  unfold fX2_sum_82 fX2_sum_125 fX2_sum_146
  rw [sum_push]
  have pw : ∀ {x : Int64}, ok w x → un (jl_shl (fX2_plain w x) ((61 : Int32) - fo_fraction w)) = un (fX2_plain w x) * 2 ^ (61 - mt w) ∧ un (fX2_plain w x) * 2 ^ (61 - mt w) < 2 ^ 62 := by
    intro x hx
    have h3 : un (fX2_plain w x) * 2 ^ (61 - mt w) < 2 ^ 62 := by
      calc un (fX2_plain w x) * 2 ^ (61 - mt w) < 2 ^ (mt w + 1) * 2 ^ (61 - mt w) := Nat.mul_lt_mul_of_pos_right (pl_lt hx) (Nat.two_pow_pos _)
        _ = 2 ^ 62 := by rw [← Nat.pow_add, show mt w + 1 + (61 - mt w) = 62 from by omega]
    exact ⟨un_shl' hsh (by omega) (by omega), h3⟩
  obtain ⟨pa1, pa2⟩ := pw ha.1
  obtain ⟨pb1, pb2⟩ := pw hb.1
  have hM := mi_max (fX2_scale w a) (fX2_scale w b)
  generalize ji_max (fX2_scale w a) (fX2_scale w b) = M at *
  have hMs : (M - ((61 : Int32) - fo_fraction w)).toInt = M.toInt - (61 - mt w : Nat) := by rw [mi_sub (by omega) (by omega), hsh]
  rcases Int.le_total (fX2_scale w b).toInt (fX2_scale w a).toInt with c | c
  · have hk1 : (M - fX2_scale w a).toInt = (0 : Nat) := by rw [mi_sub (by omega) (by omega)]; omega
    obtain ⟨K, hK⟩ : ∃ K : Nat, (fX2_scale w a).toInt - (fX2_scale w b).toInt = K := ⟨((fX2_scale w a).toInt - (fX2_scale w b).toInt).toNat, by omega⟩
    have hk2 : (M - fX2_scale w b).toInt = K := by rw [mi_sub (by omega) (by omega)]; omega
    have lA := lowered_v (x := jl_shl (fX2_plain w a) ((61 : Int32) - fo_fraction w)) hk1
    have lB := lowered_v (x := jl_shl (fX2_plain w b) ((61 : Int32) - fo_fraction w)) hk2
    rw [pa1] at lA
    rw [pb1] at lB
    have hz : un (fX2_plain w a) * 2 ^ (61 - mt w) / 2 ^ 0 ||| stk (un (fX2_plain w a) * 2 ^ (61 - mt w)) 0 = un (fX2_plain w a) * 2 ^ (61 - mt w) := by
      unfold stk
      rw [Nat.pow_zero, Nat.div_one, Nat.mod_one, if_pos rfl, Nat.or_zero]
    rw [hz] at lA
    generalize fX0_lowered (jl_shl (fX2_plain w a) ((61 : Int32) - fo_fraction w)) (M - fX2_scale w a) = A at *
    generalize fX0_lowered (jl_shl (fX2_plain w b) ((61 : Int32) - fo_fraction w)) (M - fX2_scale w b) = B at *
    have hA : un A < 2 ^ 62 := by omega
    have hB : un B < 2 ^ 62 := by rw [lB]; exact low_lt pb2 (by decide)
    have tA := sgn_i (n := fX2_isNegative w a) hA
    have tB := sgn_i (n := fX2_isNegative w b) hB
    have tt : ((if fX2_isNegative w a = 0 then A else -A) + (if fX2_isNegative w b = 0 then B else -B)).toInt = sn (fX2_isNegative w a) * (un A : Int) + sn (fX2_isNegative w b) * (un B : Int) := by
      rw [ml_add _ _, tA, tB]
      · rw [tA, tB]
        rcases sn_or (fX2_isNegative w a) with s1 | s1 <;> rcases sn_or (fX2_isNegative w b) with s2 | s2 <;> rw [s1, s2] <;> omega
      · rw [tA, tB]
        rcases sn_or (fX2_isNegative w a) with s1 | s1 <;> rcases sn_or (fX2_isNegative w b) with s2 | s2 <;> rw [s1, s2] <;> omega
    rw [sum180 tt (by rcases sn_or (fX2_isNegative w a) with s1 | s1 <;> rcases sn_or (fX2_isNegative w b) with s2 | s2 <;> rw [s1, s2] <;> omega) hMs (by omega), lA, lB]
    obtain ⟨z, r⟩ := sum_core (na := fX2_isNegative w a) (nb' := fX2_isNegative w b) (pl_lt ha.1) (pl_lt hb.1) hK (sc_lo hb.1) (fun h => pl_norm ha.1 h) (by omega)
    rw [show M.toInt - (61 - mt w : Nat) = (fX2_scale w a).toInt - (61 - mt w : Nat) from by omega]
    by_cases cz : ex w a + ex w b = 0
    · rw [if_pos cz, if_pos (z.mp cz)]
    · rw [if_neg cz, if_neg (fun q => cz (z.mpr q))]
      exact r (fun q => cz (z.mpr q))
  · have hk1 : (M - fX2_scale w b).toInt = (0 : Nat) := by rw [mi_sub (by omega) (by omega)]; omega
    obtain ⟨K, hK⟩ : ∃ K : Nat, (fX2_scale w b).toInt - (fX2_scale w a).toInt = K := ⟨((fX2_scale w b).toInt - (fX2_scale w a).toInt).toNat, by omega⟩
    have hk2 : (M - fX2_scale w a).toInt = K := by rw [mi_sub (by omega) (by omega)]; omega
    have lA := lowered_v (x := jl_shl (fX2_plain w a) ((61 : Int32) - fo_fraction w)) hk2
    have lB := lowered_v (x := jl_shl (fX2_plain w b) ((61 : Int32) - fo_fraction w)) hk1
    rw [pa1] at lA
    rw [pb1] at lB
    have hz : un (fX2_plain w b) * 2 ^ (61 - mt w) / 2 ^ 0 ||| stk (un (fX2_plain w b) * 2 ^ (61 - mt w)) 0 = un (fX2_plain w b) * 2 ^ (61 - mt w) := by
      unfold stk
      rw [Nat.pow_zero, Nat.div_one, Nat.mod_one, if_pos rfl, Nat.or_zero]
    rw [hz] at lB
    generalize fX0_lowered (jl_shl (fX2_plain w a) ((61 : Int32) - fo_fraction w)) (M - fX2_scale w a) = A at *
    generalize fX0_lowered (jl_shl (fX2_plain w b) ((61 : Int32) - fo_fraction w)) (M - fX2_scale w b) = B at *
    have hA : un A < 2 ^ 62 := by rw [lA]; exact low_lt pa2 (by decide)
    have hB : un B < 2 ^ 62 := by omega
    have tA := sgn_i (n := fX2_isNegative w a) hA
    have tB := sgn_i (n := fX2_isNegative w b) hB
    have tt : ((if fX2_isNegative w a = 0 then A else -A) + (if fX2_isNegative w b = 0 then B else -B)).toInt = sn (fX2_isNegative w b) * (un B : Int) + sn (fX2_isNegative w a) * (un A : Int) := by
      rw [ml_add _ _, tA, tB, Int.add_comm]
      · rw [tA, tB]
        rcases sn_or (fX2_isNegative w a) with s1 | s1 <;> rcases sn_or (fX2_isNegative w b) with s2 | s2 <;> rw [s1, s2] <;> omega
      · rw [tA, tB]
        rcases sn_or (fX2_isNegative w a) with s1 | s1 <;> rcases sn_or (fX2_isNegative w b) with s2 | s2 <;> rw [s1, s2] <;> omega
    rw [sum180 tt (by rcases sn_or (fX2_isNegative w a) with s1 | s1 <;> rcases sn_or (fX2_isNegative w b) with s2 | s2 <;> rw [s1, s2] <;> omega) hMs (by omega), lA, lB]
    obtain ⟨z, r⟩ := sum_core (na := fX2_isNegative w b) (nb' := fX2_isNegative w a) (pl_lt hb.1) (pl_lt ha.1) hK (sc_lo ha.1) (fun h => pl_norm hb.1 h) (by omega)
    rw [show M.toInt - (61 - mt w : Nat) = (fX2_scale w b).toInt - (61 - mt w : Nat) from by omega, Int.add_comm (ex w a)]
    by_cases cz : ex w b + ex w a = 0
    · rw [if_pos cz, if_pos (z.mp cz)]
    · rw [if_neg cz, if_neg (fun q => cz (z.mpr q))]
      exact r (fun q => cz (z.mpr q))
theorem zero_word {w : Bool} {x : Int64} (h : ok w x) (hz : ¬ fX2_isZero w x = 0) : x = sg w (fX2_isNegative w x) := by
  have h0 : un x % SG w = 0 := by
    rcases Nat.eq_zero_or_pos (un x % SG w) with q | q
    · exact q
    · exact absurd ((zero0 h).mpr (by omega)) hz
  have := sg_un w x h
  rw [h0, Nat.add_zero] at this
  exact un_inj this
theorem inf_word {w : Bool} {x : Int64} (h : ok w x) (hi : ¬ fX2_isInfinite w x = 0) : x = (sg w (fX2_isNegative w x) ||| fo_infinity w) := by
  have h0 : un x % SG w = IN w := by
    rcases Nat.decEq (un x % SG w) (IN w) with q | q
    · exact absurd ((inf0 h).mpr q) hi
    · exact q
  have h1 := sg_un w x h
  rw [h0] at h1
  apply un_inj
  have := sg_or (w := w) (N := IN w) (z_neg w x) (IN_lt w)
  rw [h1, ← this]
  congr 2
  cases w <;> decide
theorem ex_zero {w : Bool} {x : Int64} (h : ok w x) (hz : ¬ fX2_isZero w x = 0) : ex w x = 0 := by
  unfold ex
  rw [zero_pl h hz, Nat.zero_mul]
  exact Int.mul_zero _
theorem ex_sign {w : Bool} {x : Int64} (h : ok w x) (hz : fX2_isZero w x = 0) : (fX2_isNegative w x = 0 → 0 < ex w x) ∧ (¬ fX2_isNegative w x = 0 → ex w x < 0) := by
  have hp := Nat.mul_pos (pl_pos h hz) (Nat.two_pow_pos ((fX2_scale w x).toInt + 2200).toNat)
  unfold ex sn
  generalize un (fX2_plain w x) * 2 ^ ((fX2_scale w x).toInt + 2200).toNat = V at *
  constructor
  · intro c
    rw [if_pos c]
    omega
  · intro c
    rw [if_neg c]
    omega
theorem add_v {w : Bool} {us : Nat → Int64} {a b : Int64} (ha : fin w a) (hb : fin w b) (na : fX2_isNan w a = 0) (nb' : fX2_isNan w b = 0) (ia : fX2_isInfinite w a = 0) (ib : fX2_isInfinite w b = 0) : (fX5_add us a b (wi w)).1 = if ex w a + ex w b = 0 then (if fX2_isNegative w a = 0 then 0 else if fX2_isNegative w b = 0 then 0 else fo_sign w) else rv w (ex w a + ex w b) (-2200) := by
  unfold fX5_add
  rw [dq_isNan ha.1, dq_isNan hb.1, if_pos na, if_pos nb']
  have key : ∀ s0 : Int32, (fX5_add_44 us a b (wi w) s0).1 = if ex w a + ex w b = 0 then (if fX2_isNegative w a = 0 then 0 else if fX2_isNegative w b = 0 then 0 else fo_sign w) else rv w (ex w a + ex w b) (-2200) := by
    intro s0
    unfold fX5_add_44 fX5_add_181 fX5_add_182
    rw [dq_isInf ha.1, dq_isInf hb.1, if_pos ia, if_pos ib, dq_isNeg, dq_isNeg, dq_dig ha.1, dq_dig hb.1, dq_scale ha.1, dq_scale hb.1]
    by_cases c : fX2_isNegative w a = 0
    · rw [if_pos c]
      dsimp only
      rw [add_fin ha.1 hb.1, if_pos c, if_pos rfl]
    · rw [if_neg c, if_neg c]
      by_cases d : fX2_isNegative w b = 0
      · rw [if_pos d, if_pos d]
        dsimp only
        rw [add_fin ha.1 hb.1, if_pos rfl]
      · rw [if_neg d, if_neg d]
        dsimp only
        rw [add_fin ha.1 hb.1, if_neg (show ¬ (1 : Int32) = 0 by decide)]
  by_cases c : fX5_isNegative a (wi w) = fX5_isNegative b (wi w)
  · rw [if_pos c]
    exact key 0
  · rw [if_neg c]
    exact key 1
theorem e_sum {w : Bool} {us : Nat → Int64} {a b : Int64} (ha : ok w a) (hb : ok w b) : fX2_sum w a b = (fX5_add us a b (wi w)).1 := by
  unfold fX2_sum
  by_cases na : fX2_isNan w a = 0
  · rw [if_pos na]
    by_cases nb' : fX2_isNan w b = 0
    · rw [if_pos nb']
      by_cases ia : fX2_isInfinite w a = 0
      · rw [if_pos ia]
        by_cases ib : fX2_isInfinite w b = 0
        · rw [if_pos ib]
          have fa := fin_of ha na ia
          have fb := fin_of hb nb' ib
          rw [add_v fa fb na nb' ia ib]
          by_cases za : fX2_isZero w a = 0
          · rw [if_pos za, sum82 fa fb]
            by_cases cz : ex w a + ex w b = 0
            · rw [if_pos cz, if_pos cz]
              by_cases c : fX2_isNegative w a = 0
              · rw [if_pos c]
              · rw [if_neg c]
                by_cases d : fX2_isNegative w b = 0
                · rw [if_pos d]
                · exfalso
                  have h1 := (ex_sign ha za).2 c
                  by_cases zb : fX2_isZero w b = 0
                  · have h2 := (ex_sign hb zb).2 d
                    omega
                  · rw [ex_zero hb zb] at cz
                    omega
            · rw [if_neg cz, if_neg cz]
          · rw [if_neg za]
            by_cases zb : fX2_isZero w b = 0
            · rw [if_pos zb, sum82 fa fb]
              rw [ex_zero ha za, Int.zero_add]
              have h1 := ex_sign hb zb
              have hne : ¬ ex w b = 0 := by
                by_cases d : fX2_isNegative w b = 0
                · have := h1.1 d
                  omega
                · have := h1.2 d
                  omega
              rw [if_neg hne, if_neg hne]
            · rw [if_neg zb, ex_zero ha za, ex_zero hb zb, if_pos (show (0 : Int) + 0 = 0 by decide)]
              have e1 := zero_word ha za
              have e2 := zero_word hb zb
              rcases z_neg w a with c | c <;> rcases z_neg w b with d | d <;> rw [c] at e1 <;> rw [d] at e2 <;> rw [c, d, e1, e2] <;> cases w <;> decide
        · rw [if_neg ib]
          unfold fX5_add
          rw [dq_isNan ha, dq_isNan hb, if_pos na, if_pos nb']
          have key : ∀ s0 : Int32, (fX5_add_44 us a b (wi w) s0).1 = b := by
            intro s0
            unfold fX5_add_44 fX5_add_64 fX5_add_95
            rw [dq_isInf ha, dq_isInf hb, if_pos ia, if_neg ib, if_pos ia, if_pos ia]
          by_cases c : fX5_isNegative a (wi w) = fX5_isNegative b (wi w)
          · rw [if_pos c, key]
          · rw [if_neg c, key]
      · rw [if_neg ia]
        unfold fX5_add
        rw [dq_isNan ha, dq_isNan hb, if_pos na, if_pos nb', dq_isNeg, dq_isNeg]
        by_cases ib : fX2_isInfinite w b = 0
        · rw [if_pos ib]
          have key : ∀ s0 : Int32, (fX5_add_44 us a b (wi w) s0).1 = a := by
            intro s0
            unfold fX5_add_44 fX5_add_64 fX5_add_95
            rw [dq_isInf ha, dq_isInf hb, if_neg ia, if_neg ia, if_pos ib, if_neg ia]
          by_cases c : fX2_isNegative w a = fX2_isNegative w b
          · rw [if_pos c, key]
          · rw [if_neg c, key]
        · rw [if_neg ib]
          have e1 := inf_word ha ia
          have e2 := inf_word hb ib
          unfold fX5_add_44 fX5_add_64 fX5_add_95
          rw [dq_isInf ha, dq_isInf hb, if_neg ia, if_neg ia, if_neg ib, if_neg ia]
          by_cases c : fX2_isNegative w a = fX2_isNegative w b
          · have : a = b := by rw [e1, e2, c]
            rw [if_pos this, if_pos c, if_pos rfl]
          · have : ¬ a = b := fun q => c (by rw [q])
            rw [if_neg this, if_neg c]
            simp only [ia, ib, if_false, if_neg (show ¬ (1 : Int32) = 0 by decide), dq_nan0]
    · rw [if_neg nb']
      unfold fX5_add fX5_add_18
      rw [dq_isNan ha, dq_isNan hb, if_pos na, if_neg nb', dq_nan0]
  · rw [if_neg na]
    unfold fX5_add fX5_add_18
    rw [dq_isNan ha, if_neg na, dq_nan0]
