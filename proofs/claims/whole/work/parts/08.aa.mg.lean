theorem whole_self {w : Bool} {a : Int64} {way : Int32} (ha : fin w a) (h : 0 ≤ (fX2_scale w a).toInt ∨ ¬ fX2_isZero w a = 0) : fX5_whole a way (wi w) = a := by
  have hf := ha.2
  have e0 : (0 : Int32).toInt = 0 := by decide
  have hnan : fX2_isNan w a = 0 := (nan0 ha.1).mpr (by omega)
  have hinf : fX2_isInfinite w a = 0 := (inf0 ha.1).mpr (by omega)
  unfold fX5_whole fX5_whole_34
  rw [dq_isNan ha.1, dq_isInf ha.1, dq_isZero ha.1, dq_scale ha.1, if_pos hnan, if_pos hinf]
  by_cases c : 0 ≤ fX2_scale w a
  · rw [if_pos c]
  · rw [if_neg c]
    rw [mi_le, e0] at c
    rcases h with h | h
    · exact absurd h c
    · rw [if_neg h]
theorem zero_fin {w : Bool} {n : Int32} (hn : n = 0 ∨ n = 1) : fin w (wres w n 0) ∧ fX2_isNegative w (wres w n 0) = n ∧ ¬ fX2_isZero w (wres w n 0) = 0 := by
  have h : wres w n 0 = sg w n := by unfold wres; rw [if_pos rfl]
  rw [h]
  rcases hn with h | h <;> subst h <;> cases w <;> refine ⟨⟨?_, by decide⟩, by decide, by decide⟩
  · intro _; decide
  · exact ok_true _
  · intro _; decide
  · exact ok_true _
theorem self_tail {w : Bool} {a : Int64} {way : Int32} (ha : fin w a) (h : 0 ≤ (fX2_scale w a).toInt ∨ ¬ fX2_isZero w a = 0) : (fX5_toWhole a way (wi w)).toInt64 = fX2_cut w a := by
  have hsv := scale_v ha.1
  have hmt : 23 ≤ mt w ∧ mt w ≤ 52 := by cases w <;> decide
  have hE0 : -1074 ≤ E0 w ∧ E0 w ≤ -149 := by cases w <;> decide
  rw [toWhole_v ha, whole_self ha h]
  apply e_tail ha rfl rfl
  intro hz
  rcases h with h | h
  · omega
  · exact absurd hz h
/-- what stands behind a whole number's word -/
theorem whole_dec {w : Bool} {a : Int64} {way : Int32} {D : Nat} (ha : fin w a) (hz : fX2_isZero w a = 0) (hw : way = 0 ∨ way = 1 ∨ way = 2 ∨ way = 3) (hD : (fX2_scale w a).toInt = -(D : Int)) (hD1 : 0 < D) :
    ∃ V : Nat, V = wv way (fX2_isNegative w a) (un (fX2_plain w a) / 2 ^ D) (un (fX2_plain w a) % 2 ^ D) (2 ^ (D - 1)) ∧ V ≤ 2 ^ mt w ∧ fX5_whole a way (wi w) = wres w (fX2_isNegative w a) V := by
  obtain ⟨V, hV, h5⟩ := whole5 ha hz hw hD hD1
  have hpl := pl_lt ha.1
  have hmt : 23 ≤ mt w ∧ mt w ≤ 52 := by cases w <;> decide
  have hK : un (fX2_plain w a) / 2 ^ D < 2 ^ mt w := by
    rw [Nat.div_lt_iff_lt_mul (Nat.two_pow_pos D), ← Nat.pow_add]
    exact Nat.lt_of_lt_of_le hpl (Nat.pow_le_pow_right (by decide) (by omega))
  have h52 : 2 ^ mt w ≤ 2 ^ 52 := Nat.pow_le_pow_right (by decide) (by omega)
  have hle : un V ≤ 2 ^ mt w := by
    rw [hV]
    unfold wv
    split <;> omega
  exact ⟨un V, hV, hle, by rw [h5, round0 (by omega)]⟩
theorem wres_tail {w : Bool} {n : Int32} {V : Nat} (hn : n = 0 ∨ n = 1) (hV : V ≤ 2 ^ mt w) : (tailW w (wres w n V) n (if n = 0 then 2147483647 else -2147483648)).toInt64 = fX2_cut w (wres w n V) := by
  rcases Nat.eq_zero_or_pos V with q | q
  · subst q
    obtain ⟨h1, h2, h3⟩ := zero_fin (w := w) hn
    exact e_tail h1 h2.symm rfl (fun h => absurd h h3)
  · have g1 := nb_pos q
    have g2 := nb_lo q
    have g3 := nb_hi V
    have g4 : nb V ≤ mt w + 1 := nb_le.mpr (Nat.lt_of_le_of_lt hV (Nat.pow_lt_pow_right (by decide) (by omega)))
    obtain ⟨h1, h2, h3, h4, h5⟩ := dec_int (w := w) (n := n) (V := V) (E := nb V - 1) hn (by omega) g2 (by rw [show nb V - 1 + 1 = nb V from by omega]; exact g3)
    exact e_tail h1 h2.symm rfl (fun _ => by omega)
theorem e_cut23 {w : Bool} {a : Int64} (ha : ok w a) : (fX5_toWhole a 2 (wi w)).toInt64 = if fX2_isNan w a = 0 then fX2_cut w (fX2_whole w a 2) else fX2_cut w a := by
  by_cases c1 : fX2_isNan w a = 0
  · rw [if_pos c1, e_whole ha (Or.inr (Or.inr rfl))]
    by_cases c2 : fX2_isInfinite w a = 0
    · have hf := fin_of ha c1 c2
      by_cases c3 : 0 ≤ (fX2_scale w a).toInt ∨ ¬ fX2_isZero w a = 0
      · rw [whole_self hf c3]
        exact self_tail hf c3
      · have c4 : fX2_isZero w a = 0 := by
          by_cases q : fX2_isZero w a = 0
          · exact q
          · exact absurd (Or.inr q) c3
        have c5 : ¬ 0 ≤ (fX2_scale w a).toInt := fun q => c3 (Or.inl q)
        obtain ⟨V, hV, hle, h5⟩ := whole_dec (way := 2) (D := (-(fX2_scale w a).toInt).toNat) hf c4 (Or.inr (Or.inr (Or.inl rfl))) (by omega) (by omega)
        rw [toWhole_v hf, h5]
        exact wres_tail (z_neg w a) hle
    · have h : fX5_whole a 2 (wi w) = a := by
        unfold fX5_whole fX5_whole_34
        rw [dq_isNan ha, dq_isInf ha, if_pos c1, if_neg c2, if_pos (by decide)]
      rw [h]
      apply toWhole_big ha
      rcases Nat.lt_or_ge (un a % SG w) (IN w) with q | q
      · exact absurd ((inf0 ha).mpr (by omega)) c2
      · exact q
  · rw [if_neg c1]
    apply toWhole_big ha
    rcases Nat.lt_or_ge (un a % SG w) (IN w) with q | q
    · exact absurd ((nan0 ha).mpr (by omega)) c1
    · exact q
theorem cut_alike {w : Bool} {x y : Int64} {k : Nat} (hx : ok w x) (hy : ok w y) (he : exN w x = exN w y) (hn : fX2_isNegative w x = fX2_isNegative w y) (hk : (exN w x : Int) = (1 - E0 w - mt w) + mt w - k) (hk1 : 0 < k ∧ k ≤ mt w) (hp : un (fX2_plain w x) / 2 ^ k = un (fX2_plain w y) / 2 ^ k) : fX2_cut w x = fX2_cut w y := by
  have hmt : 23 ≤ mt w ∧ mt w ≤ 52 := by cases w <;> decide
  have hE0 : -1074 ≤ E0 w ∧ E0 w ≤ -149 := by cases w <;> decide
  have hbx := biased_v hx
  have hby := biased_v hy
  have hbv := bias_v w
  have hfr := fr_mt w
  have hex := exN_lt w x
  have hb : fX2_biased w x = fX2_biased w y := by rw [mi_eq, hbx, hby, he]
  have hEx : (fX2_biased w x - fo_bias w).toInt = exN w x - (1 - E0 w - mt w) := by rw [mi_sub (by omega) (by omega), hbx, hbv]
  unfold fX2_cut fX2_cut_76
  rw [← hb, hn]
  have hne : ¬ fo_fraction w ≤ fX2_biased w x - fo_bias w := by rw [mi_le, hfr, hEx]; omega
  rw [if_neg hne, if_neg hne]
  have hsh : (fo_fraction w - (fX2_biased w x - fo_bias w)).toInt = k := by rw [mi_sub (by omega) (by omega), hfr, hEx]; omega
  have hv : jl_ushr (fX2_plain w x) (fo_fraction w - (fX2_biased w x - fo_bias w)) = jl_ushr (fX2_plain w y) (fo_fraction w - (fX2_biased w x - fo_bias w)) := by
    apply un_inj
    rw [un_ushr' hsh (by omega), un_ushr' hsh (by omega), hp]
  rw [hv]
theorem e_cut22 {w : Bool} {a : Int64} (ha : ok w a) : (fX5_toWhole a 3 (wi w)).toInt64 = fX2_cut w a := by
  have hmt : 23 ≤ mt w ∧ mt w ≤ 52 := by cases w <;> decide
  have hE0 : -1074 ≤ E0 w ∧ E0 w ≤ -149 := by cases w <;> decide
  have hb1 : 1 ≤ 1 - E0 w - mt w := by cases w <;> decide
  have hbig : (mt w : Int) + 1 < -E0 w := by cases w <;> decide
  by_cases c0 : un a % SG w < IN w
  · have hf : fin w a := ⟨ha, c0⟩
    by_cases c3 : 0 ≤ (fX2_scale w a).toInt ∨ ¬ fX2_isZero w a = 0
    · exact self_tail hf c3
    · have c4 : fX2_isZero w a = 0 := by
        by_cases q : fX2_isZero w a = 0
        · exact q
        · exact absurd (Or.inr q) c3
      have c5 : ¬ 0 ≤ (fX2_scale w a).toInt := fun q => c3 (Or.inl q)
      obtain ⟨D, hD⟩ : ∃ D : Nat, (fX2_scale w a).toInt = -(D : Int) := ⟨(-(fX2_scale w a).toInt).toNat, by omega⟩
      obtain ⟨V, hV, hle, h5⟩ := whole_dec (way := 3) (D := D) hf c4 (Or.inr (Or.inr (Or.inr rfl))) hD (by omega)
      have hVK : V = un (fX2_plain w a) / 2 ^ D := by
        rw [hV]
        unfold wv
        rw [if_neg]
        · rfl
        · rintro ⟨-, h | h | h⟩
          · exact absurd h.1 (by decide)
          · exact absurd h.1 (by decide)
          · exact absurd h.1 (by decide)
      rw [toWhole_v hf, h5, wres_tail (z_neg w a) hle]
      have hsv := scale_v ha
      have hpl := pl_lt ha
      have hp0 := pl_pos ha c4
      have hbi := biased_v ha
      have hbv := bias_v w
      have hex := exN_lt w a
      have e0 : (0 : Int32).toInt = 0 := by decide
      have hEx : (fX2_biased w a - fo_bias w).toInt = exN w a - (1 - E0 w - mt w) := by rw [mi_sub (by omega) (by omega), hbi, hbv]
      rcases Nat.eq_zero_or_pos V with q | q
      · -- below 1
        have hz1 : fX2_cut w (wres w (fX2_isNegative w a) V) = 0 := by
          have : wres w (fX2_isNegative w a) 0 = sg w (fX2_isNegative w a) := by unfold wres; rw [if_pos rfl]
          rw [q, this]
          rcases z_neg w a with h | h <;> rw [h] <;> cases w <;> decide
        rw [hz1]
        have hz2 : un (fX2_plain w a) < 2 ^ D := by
          rw [q] at hVK
          have := (Nat.div_eq_zero_iff (b := 2 ^ D)).mp hVK.symm
          have := Nat.two_pow_pos D
          omega
        have hneg : ¬ 0 ≤ fX2_biased w a - fo_bias w := by
          rw [mi_le, e0, hEx]
          intro h
          have hx0 : exN w a ≠ 0 := by omega
          have hlo : 2 ^ mt w ≤ un (fX2_plain w a) := by rw [plain_v ha, if_neg hx0]; omega
          have : D ≤ mt w := by omega
          have := Nat.pow_le_pow_right (n := 2) (by decide) this
          omega
        unfold fX2_cut
        rw [if_neg hneg]
      · have hge : 2 ^ D ≤ un (fX2_plain w a) := by
          rcases Nat.lt_or_ge (un (fX2_plain w a)) (2 ^ D) with h | h
          · rw [Nat.div_eq_of_lt h] at hVK
            omega
          · exact h
        have hDle : D ≤ mt w := by
          rcases Nat.lt_or_ge (mt w) D with h | h
          · have := Nat.pow_le_pow_right (n := 2) (by decide) h
            omega
          · exact h
        have hx0 : exN w a ≠ 0 := by omega
        have hlo : 2 ^ mt w ≤ un (fX2_plain w a) := by rw [plain_v ha, if_neg hx0]; omega
        have hDp := Nat.two_pow_pos D
        have hVlo : 2 ^ (mt w - D) ≤ V := by
          rw [hVK, Nat.le_div_iff_mul_le hDp, ← Nat.pow_add, show mt w - D + D = mt w from by omega]
          exact hlo
        have hVhi : V < 2 ^ (mt w - D + 1) := by
          rw [hVK, Nat.div_lt_iff_lt_mul hDp, ← Nat.pow_add, show mt w - D + 1 + D = mt w + 1 from by omega]
          exact hpl
        obtain ⟨h1, h2, h3, h4, -⟩ := dec_int (w := w) (n := fX2_isNegative w a) (V := V) (E := mt w - D) (z_neg w a) (by omega) hVlo hVhi
        apply cut_alike (k := D) h1.1 ha
        · omega
        · exact h2
        · omega
        · omega
        · rw [h4, show mt w - (mt w - D) = D from by omega, Nat.mul_div_cancel _ hDp, hVK]
  · exact toWhole_big ha (by omega)
theorem e_ofWhole (w : Bool) (n : Int32) : fX2_ofWhole w n = fX5_ofWhole n (wi w) := by
  have e0 : (0 : Int32).toInt = 0 := by decide
  have l0 : (0 : Int64).toInt = 0 := by decide
  have h64 : n.toInt64.toInt = n.toInt := Int32.toInt_toInt64 n
  have hlo := mi_lo n
  have hhi := mi_hi n
  unfold fX2_ofWhole fX2_ofWhole_18 fX5_ofWhole fX5_ofWhole_9 fX5_ofWhole_21 jl_abs
  by_cases c : n = 0
  · subst c
    rw [if_pos rfl, if_pos (by decide), if_pos (by decide), roundBz (by decide)]
    rfl
  · rw [if_neg c]
    rw [mi_eq, e0] at c
    by_cases c2 : 0 ≤ n
    · rw [if_pos c2, if_pos c2, if_pos c2]
      rw [mi_le, e0] at c2
      rw [if_pos (by rw [un_lt_iff, l0, h64]; omega)]
      have hu := un_i64 (k := n) c2
      exact roundAB (by omega) (by omega) (by decide)
    · rw [if_neg c2, if_neg c2, if_neg c2]
      rw [mi_le, e0] at c2
      rw [if_neg (by rw [un_lt_iff, l0, h64]; omega)]
      have hu : un (-n.toInt64) = (-n.toInt).toNat := un_of_int (by rw [ml_neg (by omega), h64]; omega)
      exact roundAB (by omega) (by omega) (by decide)
