theorem sg_ne (w : Bool) : ¬ sg w 1 = 0 := by cases w <;> decide
theorem pick {α : Type} (w : Bool) (f : Int32 → α) {v : Int32} (hv : v = 0 ∨ v = 1) : (if sg w v = 0 then f 0 else f 1) = f v := by
  rcases hv with h | h <;> subst h
  · rw [sg0, if_pos rfl]
  · rw [if_neg (sg_ne w)]
theorem e_div {w : Bool} {a b : Int64} (ha : ok w a) (hb : ok w b) : fX2_quotient w a b = fX5_divide a b (wi w) := by
  have hv : (if fX2_isNegative w a = fX2_isNegative w b then (0 : Int32) else 1) = 0 ∨ (if fX2_isNegative w a = fX2_isNegative w b then (0 : Int32) else 1) = 1 := by
    split
    · exact Or.inl rfl
    · exact Or.inr rfl
  have hR : fX5_divide a b (wi w) = fX5_divide_20 a b (wi w) (if fX2_isNegative w a = fX2_isNegative w b then (0 : Int32) else 1) := by
    unfold fX5_divide
    rw [dq_isNeg, dq_isNeg]
    split <;> rfl
  have hsx := sx w a b
  rw [hR]
  unfold fX2_quotient fX2_quotient_32 fX2_quotient_53
  rw [hsx]
  generalize (if fX2_isNegative w a = fX2_isNegative w b then (0 : Int32) else 1) = v at *
  unfold fX5_divide_20 fX5_divide_58 fX5_divide_80 fX5_divide_76 fX5_divide_81 fX5_divide_134 fX5_divide_112
  rw [dq_isNan ha, dq_isNan hb, dq_isInf ha, dq_isInf hb, dq_isZero ha, dq_isZero hb, dq_nan0, dq_scale ha, dq_scale hb, dq_dig ha, dq_dig hb, dq_sign, inf_sg hv]
  have n10 : ¬ ((1 : Int32) = 0) := by decide
  have hsel : ∀ {α : Type} (f : Int64 → α), (if v = 0 then f 0 else f (fo_sign w)) = f (sg w v) := by
    intro α f
    unfold sg
    split <;> rfl
  by_cases c1 : fX2_isNan w a = 0 <;> by_cases c2 : fX2_isNan w b = 0 <;> by_cases c3 : fX2_isInfinite w a = 0 <;> by_cases c4 : fX2_isInfinite w b = 0 <;> by_cases c5 : fX2_isZero w a = 0 <;> by_cases c6 : fX2_isZero w b = 0 <;> simp only [c1, c2, c3, c4, c5, c6, n10, if_true, if_false]
  · rw [pick w (fun n => fX2_quotient_119 w a b n) hv]
    unfold fX2_quotient_119
    rw [e_divided5 ha hb c5 c6]
    split <;> rfl
  all_goals first | rfl | (unfold sg; split <;> rfl)
