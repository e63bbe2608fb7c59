/-- a word of the form that is no strange NaN -/
def nice (w : Bool) (x : Int64) : Prop := ok w x ∧ (¬ fX2_isNan w x = 0 → x = fo_nan w)
theorem nice_nan (w : Bool) : nice w (fo_nan w) := by
  refine ⟨?_, fun _ => rfl⟩
  cases w
  · intro _
    decide
  · exact ok_true _
theorem nice_word {w : Bool} {n : Int32} {R : Nat} (hn : n = 0 ∨ n = 1) (hR : R ≤ IN w) : nice w (sg w n ||| ow R) := by
  obtain ⟨a, b, c⟩ := dec_size hn (Nat.lt_of_le_of_lt hR (IN_lt w))
  exact ⟨a, fun h => absurd ((nan0 a).mpr (by omega)) h⟩
theorem nice_rv (w : Bool) (S e : Int) : nice w (rv w S e) := by
  unfold rv
  apply nice_word
  · split
    · exact Or.inr rfl
    · exact Or.inl rfl
  · exact rw_le w _ _
theorem nice_sg {w : Bool} {n : Int32} (hn : n = 0 ∨ n = 1) : nice w (sg w n) := by
  obtain ⟨a, b, c, d, e⟩ := sg_fin (w := w) hn
  exact ⟨a.1, fun h => absurd c h⟩
theorem nice_inf {w : Bool} {n : Int32} (hn : n = 0 ∨ n = 1) : nice w (sg w n ||| fo_infinity w) := by
  obtain ⟨a, b, c, d⟩ := inf_sg2 (w := w) hn
  exact ⟨a, fun h => absurd c h⟩
theorem nice_own {w : Bool} {x : Int64} (h : ok w x) (hn : fX2_isNan w x = 0) : nice w x := ⟨h, fun q => absurd hn q⟩
theorem nice_zero (w : Bool) : nice w 0 := nice_sg (n := 0) (Or.inl rfl)
theorem nice_rounded {w : Bool} {n s : Int32} {m : Int64} (hn : n = 0 ∨ n = 1) (hm : 0 < un m) (hs : -20000 ≤ s.toInt ∧ s.toInt ≤ 20000) : nice w (fX2_rounded w n s m) := by
  rw [roundA hm hs]
  exact nice_word hn (rw_le w _ _)
theorem nice_sum {w : Bool} {a b : Int64} (ha : ok w a) (hb : ok w b) : nice w (fX2_sum w a b) := by
  unfold fX2_sum
  by_cases na : fX2_isNan w a = 0
  · rw [if_pos na]
    by_cases nb' : fX2_isNan w b = 0
    · rw [if_pos nb']
      by_cases ia : fX2_isInfinite w a = 0
      · rw [if_pos ia]
        by_cases ib : fX2_isInfinite w b = 0
        · rw [if_pos ib]
          have fa := fin_of ha na ia
          have fb := fin_of hb nb' ib
          have h82 : nice w (fX2_sum_82 w a b) := by
            rw [sum82 fa fb]
            split
            · exact nice_zero w
            · exact nice_rv w _ _
          by_cases za : fX2_isZero w a = 0
          · rw [if_pos za]
            exact h82
          · rw [if_neg za]
            by_cases zb : fX2_isZero w b = 0
            · rw [if_pos zb]
              exact h82
            · rw [if_neg zb]
              have e1 := zero_word ha za
              have e2 := zero_word hb zb
              have : (a &&& b) = sg w 0 ∨ (a &&& b) = sg w 1 := by
                rcases z_neg w a with c | c <;> rcases z_neg w b with d | d <;> rw [c] at e1 <;> rw [d] at e2 <;> rw [e1, e2] <;> cases w <;> decide
              rcases this with q | q <;> rw [q]
              · exact nice_sg (Or.inl rfl)
              · exact nice_sg (Or.inr rfl)
        · rw [if_neg ib]
          exact nice_own hb nb'
      · rw [if_neg ia]
        split
        · exact nice_own ha na
        · split
          · exact nice_own ha na
          · exact nice_nan w
    · rw [if_neg nb']
      exact nice_nan w
  · rw [if_neg na]
    exact nice_nan w
theorem nice_prod {w : Bool} {a b : Int64} (ha : ok w a) (hb : ok w b) : nice w (fX2_product w a b) := by
  have hn01 := xs01 w a b
  by_cases na : fX2_isNan w a = 0
  · by_cases nb' : fX2_isNan w b = 0
    · by_cases ia : fX2_isInfinite w a = 0
      · by_cases ib : fX2_isInfinite w b = 0
        · by_cases za : fX2_isZero w a = 0
          · by_cases zb : fX2_isZero w b = 0
            · rw [prod_v (fin_of ha na ia) (fin_of hb nb' ib) na nb' ia ib za zb]
              exact nice_rv w _ _
            · unfold fX2_product
              rw [if_pos na, if_pos nb', if_pos ia, if_pos ib, if_pos za, if_neg zb, sx]
              exact nice_sg hn01
          · unfold fX2_product
            rw [if_pos na, if_pos nb', if_pos ia, if_pos ib, if_neg za, sx]
            exact nice_sg hn01
        · unfold fX2_product fX2_product_47
          rw [if_pos na, if_pos nb', if_pos ia, if_neg ib, sx]
          split
          · split
            · exact nice_inf hn01
            · exact nice_nan w
          · exact nice_nan w
      · unfold fX2_product fX2_product_47
        rw [if_pos na, if_pos nb', if_neg ia, sx]
        split
        · split
          · exact nice_inf hn01
          · exact nice_nan w
        · exact nice_nan w
    · unfold fX2_product
      rw [if_pos na, if_neg nb']
      exact nice_nan w
  · unfold fX2_product
    rw [if_neg na]
    exact nice_nan w
theorem nice_rest {w : Bool} {a b : Int64} (ha : ok w a) (hb : ok w b) : nice w (fX2_rest w a b) := by
  have u0 : un (0 : Int64) = 0 := by decide
  have hsb := sc_rg hb
  unfold fX2_rest
  by_cases na : fX2_isNan w a = 0
  · rw [if_pos na]
    split
    · split
      · split
        · split
          · split
            · split
              · exact nice_nan w
              · unfold fX2_rest_142
                split
                · rw [ng_sg]
                  exact nice_sg (z_neg w a)
                · next h =>
                  apply nice_rounded (z_neg w a)
                  · rw [un_iff, u0] at h
                    omega
                  · omega
            · exact nice_own ha na
          · exact nice_own ha na
        · exact nice_nan w
      · exact nice_nan w
    · exact nice_nan w
  · rw [if_neg na]
    exact nice_nan w
theorem ok_xor {w : Bool} {x : Int64} (h : ok w x) : ok w (x ^^^ fo_sign w) := by
  intro hw
  have hx := h hw
  subst hw
  rw [un_xor]
  exact Nat.xor_lt_two_pow (n := 32) hx (by decide)
theorem xor_neg {w : Bool} {x : Int64} (h : ok w x) : fX2_isNan w (x ^^^ fo_sign w) = fX2_isNan w x := by
  have e : fX2_size w (x ^^^ fo_sign w) = fX2_size w x := by
    unfold fX2_size
    apply un_inj
    rw [un_and, un_and, un_xor, Nat.and_xor_distrib_right]
    have : un (fo_sign w) &&& un (fo_sign w - 1) = 0 := by cases w <;> decide
    rw [this, Nat.xor_zero]
  unfold fX2_isNan
  rw [e]
