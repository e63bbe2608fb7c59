theorem nn_ok {x : Int64} (h : ok false x) : 0 ≤ x.toInt := by
  have := h rfl
  rw [un_pos (by omega)]
  omega
theorem sd_mulpos {us : Nat → Int64} {x9 x1 : Int64} {x5 : Int32} (hi : x5 = 0 → 0 ≤ x9.toInt) (h1 : x5 = 0 → 0 ≤ x1.toInt) : x5 = 0 → 0 ≤ ((fX5_multiply us x9 x1 x5).1).toInt := by
  intro c
  subst c
  by_cases n9 : fX5_isNan x9 0 = 0
  · by_cases n1 : fX5_isNan x1 0 = 0
    · have o9 := ok0 (hi rfl) n9
      have o1 := ok0 (h1 rfl) n1
      have e : fX2_product false x9 x1 = (fX5_multiply us x9 x1 0).1 := e_prod (w := false) o9 o1
      rw [← e]
      exact nn_ok (nice_prod o9 o1).1
    · unfold fX5_multiply fX5_fused fX5_fused_33
      rw [if_pos n9, if_neg n1]
      show 0 ≤ (fX5_nan 0).toInt
      decide
  · unfold fX5_multiply fX5_fused fX5_fused_33
    rw [if_neg n9]
    show 0 ≤ (fX5_nan 0).toInt
    decide
theorem sd_rest0 {a b : Int64} {w : Int32} (h : w = 0 → 0 ≤ a.toInt) (hb : w = 0 → 0 ≤ b.toInt) : w = 0 → 0 ≤ (fX5_rest a b w).toInt := by
  intro c
  subst c
  by_cases na : fX5_isNan a 0 = 0
  · by_cases nb' : fX5_isNan b 0 = 0
    · have oa := ok0 (h rfl) na
      have ob := ok0 (hb rfl) nb'
      have e : fX2_rest false a b = fX5_rest a b 0 := e_rest (w := false) oa ob
      rw [← e]
      exact nn_ok (nice_rest oa ob).1
    · unfold fX5_rest fX5_rest_36
      rw [if_pos na, if_neg nb']
      decide
  · unfold fX5_rest fX5_rest_36
    rw [if_neg na]
    decide
