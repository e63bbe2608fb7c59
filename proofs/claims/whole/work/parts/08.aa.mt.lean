theorem sg_fin {w : Bool} {n : Int32} (hn : n = 0 ∨ n = 1) : fin w (sg w n) ∧ fX2_isNegative w (sg w n) = n ∧ fX2_isNan w (sg w n) = 0 ∧ fX2_isInfinite w (sg w n) = 0 ∧ ¬ fX2_isZero w (sg w n) = 0 := by
  refine ⟨⟨?_, ?_⟩, ?_⟩
  · rcases hn with rfl | rfl <;> cases w
    · intro _
      decide
    · exact ok_true _
    · intro _
      decide
    · exact ok_true _
  · rcases hn with rfl | rfl <;> cases w <;> decide
  · rcases hn with rfl | rfl <;> cases w <;> decide
theorem inf_sg2 {w : Bool} {n : Int32} (hn : n = 0 ∨ n = 1) : ok w (sg w n ||| fo_infinity w) ∧ fX2_isNegative w (sg w n ||| fo_infinity w) = n ∧ fX2_isNan w (sg w n ||| fo_infinity w) = 0 ∧ ¬ fX2_isInfinite w (sg w n ||| fo_infinity w) = 0 := by
  refine ⟨?_, ?_⟩
  · rcases hn with rfl | rfl <;> cases w
    · intro _
      decide
    · exact ok_true _
    · intro _
      decide
    · exact ok_true _
  · rcases hn with rfl | rfl <;> cases w <;> decide
theorem nan_sum {w : Bool} {b : Int64} : fX2_sum w (fo_nan w) b = fo_nan w := by
  unfold fX2_sum
  rw [if_neg (by cases w <;> decide)]
theorem inf_sum {w : Bool} {n : Int32} {b : Int64} (hn : n = 0 ∨ n = 1) (hb : ok w b) (nb' : fX2_isNan w b = 0) : fX2_sum w (sg w n ||| fo_infinity w) b = if fX2_isInfinite w b = 0 then (sg w n ||| fo_infinity w) else if fX2_isNegative w b = n then (sg w n ||| fo_infinity w) else fo_nan w := by
  obtain ⟨o, g, a, i⟩ := inf_sg2 (w := w) hn
  unfold fX2_sum
  rw [if_pos a, if_pos nb', if_neg i]
  by_cases ib : fX2_isInfinite w b = 0
  · rw [if_pos ib, if_pos ib]
  · rw [if_neg ib, if_neg ib]
    have e := inf_word hb ib
    by_cases c : fX2_isNegative w b = n
    · rw [if_pos c, if_pos (by rw [e, c])]
    · rw [if_neg c, if_neg (fun q => c (by rw [← q, g]))]
theorem e_fused {w : Bool} {us : Nat → Int64} {a b c : Int64} (ha : ok w a) (hb : ok w b) (hc : ok w c) : fX2_fused w a b c = (fX5_fused us a b c 1 (wi w)).1 := by
  unfold fX2_fused fX5_fused fX5_fused_39 fX5_fused_33
  rw [dq_isNan ha, dq_isNan hb, dq_isNan hc, dq_nan0, dq_isNeg, dq_isNeg]
  by_cases na : fX2_isNan w a = 0
  · rw [if_pos na, if_pos na]
    by_cases nb' : fX2_isNan w b = 0
    · rw [if_pos nb', if_pos nb', if_neg (show ¬ (1 : Int32) = 0 by decide)]
      by_cases nc : fX2_isNan w c = 0
      · rw [if_pos nc, if_pos nc]
        obtain ⟨n, hn⟩ : ∃ n : Int32, n = if fX2_isNegative w a = fX2_isNegative w b then 0 else 1 := ⟨_, rfl⟩
        have hn01 := xs01 w a b
        rw [← hn] at hn01
        have e59 : (if fX2_isNegative w a = fX2_isNegative w b then fX5_fused_59 us a b c 1 (wi w) 0 else fX5_fused_59 us a b c 1 (wi w) 1) = fX5_fused_59 us a b c 1 (wi w) n := by
          rw [hn]
          split <;> rfl
        rw [e59]
        unfold fX5_fused_59
        rw [dq_isInf ha, dq_isInf hb, dq_isInf hc, if_neg (show ¬ (1 : Int32) = 0 by decide)]
        have infs : (fX2_isInfinite w a = 0 → ¬ fX2_isInfinite w b = 0) → fX2_fused_62 w a b c = (fX5_fused_79 us a b c 1 (wi w) n).1 := by
          intro hi
          unfold fX2_fused_62 fX5_fused_79 fX5_fused_128 fX5_fused_124 fX5_fused_129
          rw [dq_isZero ha, dq_isZero hb, dq_isInf hc, dq_isNeg, dq_nan0, inf_sg hn01]
          have hp : fX2_product w a b = if fX2_isZero w a = 0 then if fX2_isZero w b = 0 then (sg w n ||| fo_infinity w) else fo_nan w else fo_nan w := by
            unfold fX2_product fX2_product_47
            rw [if_pos na, if_pos nb', sx, ← hn]
            by_cases ia : fX2_isInfinite w a = 0
            · rw [if_pos ia, if_neg (hi ia)]
            · rw [if_neg ia]
          rw [hp]
          by_cases za : fX2_isZero w a = 0
          · by_cases zb : fX2_isZero w b = 0
            · simp only [za, zb, if_true]
              rw [inf_sum hn01 hc nc]
              by_cases ic : fX2_isInfinite w c = 0
              · simp only [ic, if_true]
                rw [if_neg (show ¬ (1 : Int32) = 0 by decide)]
              · by_cases g : fX2_isNegative w c = n
                · simp only [ic, g, if_true, if_false]
                  rw [if_neg (show ¬ (1 : Int32) = 0 by decide)]
                · simp only [ic, g, if_false]
                  rw [if_neg (show ¬ (1 : Int32) = 0 by decide), if_neg (show ¬ (1 : Int32) = 0 by decide)]
            · simp only [za, zb, if_true, if_false]
              rw [nan_sum, if_neg (show ¬ (1 : Int32) = 0 by decide)]
          · simp only [za, if_false]
            rw [nan_sum, if_neg (show ¬ (1 : Int32) = 0 by decide)]
        by_cases ia : fX2_isInfinite w a = 0
        · rw [if_pos ia, if_pos ia]
          by_cases ib : fX2_isInfinite w b = 0
          · rw [if_pos ib, if_pos ib]
            have fa := fin_of ha na ia
            have fb := fin_of hb nb' ib
            have hz := ep_zero ha hb
            have zer : (fX2_isZero w a = 0 → ¬ fX2_isZero w b = 0) → fX2_product w a b = sg w n := by
              intro hzz
              unfold fX2_product
              rw [if_pos na, if_pos nb', if_pos ia, if_pos ib, sx, ← hn]
              by_cases za : fX2_isZero w a = 0
              · rw [if_pos za, if_neg (hzz za)]
              · rw [if_neg za]
            by_cases ic : fX2_isInfinite w c = 0
            · have fc := fin_of hc nc ic
              simp only [ic, if_true]
              unfold fX5_fused_170 fX5_fused_271 fX5_fused_267 fX5_fused_272 fX5_fused_298 fX5_fused_299 fX5_fused_301
              rw [if_neg (show ¬ (1 : Int32) = 0 by decide), dq_isZero ha, dq_isZero hb, dq_isZero hc, dq_isNeg, dq_dig ha, dq_dig hb, dq_dig hc, dq_scale ha, dq_scale hb, dq_scale hc]
              have zeros : (fX2_isZero w a = 0 → ¬ fX2_isZero w b = 0) → fX2_fused_62 w a b c = if ep w a b + ex w c = 0 then (if n = 0 then 0 else if fX2_isNegative w c = 0 then 0 else fo_sign w) else rv w (ep w a b + ex w c) (-2200) := by
                intro hzz
                unfold fX2_fused_62
                obtain ⟨s1, s2, s3, s4, s5⟩ := sg_fin (w := w) hn01
                have hep : ep w a b = 0 := hz.mpr (by
                  by_cases za : fX2_isZero w a = 0
                  · exact Or.inr (hzz za)
                  · exact Or.inl za)
                rw [zer hzz, e_sum (us := us) s1.1 hc, add_v s1 fc s3 nc s4 ic, ex_zero s1.1 s5, s2, hep]
              have ref : ∀ s0 : Int32, (s0 = 0 ∨ s0 = 1) → (fX5_sumRounded (fX5_addTo (fX5_addProduct (fX5_clearSum us) n (fX2_plain w a) (fX2_plain w b) (fX2_scale w a + fX2_scale w b)) (fX2_isNegative w c) (fX2_plain w c) (fX2_scale w c)) s0 (wi w)).1 = if ep w a b + ex w c = 0 then (if s0 = 0 then 0 else fo_sign w) else rv w (ep w a b + ex w c) (-2200) := fun s0 _ => fusR_v fa fb fc hn
              by_cases zc : fX2_isZero w c = 0
              · simp only [zc, if_true]
                rw [ref 0 (Or.inl rfl), if_pos (show (0 : Int32) = 0 from rfl)]
                by_cases za : fX2_isZero w a = 0
                · rw [if_pos za]
                  by_cases zb : fX2_isZero w b = 0
                  · rw [if_pos zb]
                    exact fusedFin_v fa fb fc za zb zc
                  · rw [if_neg zb, zeros (fun _ => zb)]
                    have h1 := ex_sign hc zc
                    have hep : ep w a b = 0 := hz.mpr (Or.inr zb)
                    have hne : ¬ ep w a b + ex w c = 0 := by
                      rw [hep]
                      by_cases d : fX2_isNegative w c = 0
                      · have := h1.1 d
                        omega
                      · have := h1.2 d
                        omega
                    rw [if_neg hne, if_neg hne]
                · rw [if_neg za, zeros (fun q => absurd q za)]
                  have h1 := ex_sign hc zc
                  have hep : ep w a b = 0 := hz.mpr (Or.inl za)
                  have hne : ¬ ep w a b + ex w c = 0 := by
                    rw [hep]
                    by_cases d : fX2_isNegative w c = 0
                    · have := h1.1 d
                      omega
                    · have := h1.2 d
                      omega
                  rw [if_neg hne, if_neg hne]
              · simp only [zc, if_false]
                have s1 : ¬ (1 : Int32) = 0 := by decide
                by_cases za : fX2_isZero w a = 0
                · by_cases zb : fX2_isZero w b = 0
                  · have hne : ¬ ep w a b + ex w c = 0 := by
                      rw [ex_zero hc zc, Int.add_zero]
                      intro q
                      rcases hz.mp q with r | r
                      · exact r za
                      · exact r zb
                    simp only [za, zb, zc, if_true, if_false]
                    rw [ref 0 (Or.inl rfl), if_neg hne, ex_zero hc zc, Int.add_zero]
                    exact prod_v fa fb na nb' ia ib za zb
                  · simp only [za, zb, if_true, if_false]
                    rw [zeros (fun _ => zb)]
                    by_cases c1 : n = 0
                    · simp only [c1, if_true, if_neg s1] at ref ⊢
                      rw [ref 0 (Or.inl rfl), if_pos (show (0 : Int32) = 0 from rfl)]
                    · by_cases c2 : fX2_isNegative w c = 0
                      · simp only [c1, c2, if_true, if_false, if_neg s1] at ref ⊢
                        rw [ref 0 (Or.inl rfl), if_pos (show (0 : Int32) = 0 from rfl)]
                      · simp only [c1, c2, if_false, if_neg s1] at ref ⊢
                        rw [ref 1 (Or.inr rfl), if_neg s1]
                · simp only [za, if_false]
                  rw [zeros (fun q => absurd q za)]
                  by_cases c1 : n = 0
                  · simp only [c1, if_true, if_neg s1] at ref ⊢
                    rw [ref 0 (Or.inl rfl), if_pos (show (0 : Int32) = 0 from rfl)]
                  · by_cases c2 : fX2_isNegative w c = 0
                    · simp only [c1, c2, if_true, if_false, if_neg s1] at ref ⊢
                      rw [ref 0 (Or.inl rfl), if_pos (show (0 : Int32) = 0 from rfl)]
                    · simp only [c1, c2, if_false, if_neg s1] at ref ⊢
                      rw [ref 1 (Or.inr rfl), if_neg s1]
            · simp only [ic, if_false]
              have zs : (fX2_isZero w a = 0 → ¬ fX2_isZero w b = 0) → fX2_fused_62 w a b c = c := by
                intro hzz
                unfold fX2_fused_62
                obtain ⟨s1, s2, s3, s4, s5⟩ := sg_fin (w := w) hn01
                rw [zer hzz]
                unfold fX2_sum
                rw [if_pos s3, if_pos nc, if_pos s4, if_neg ic]
              by_cases za : fX2_isZero w a = 0
              · rw [if_pos za]
                by_cases zb : fX2_isZero w b = 0
                · rw [if_pos zb]
                · rw [if_neg zb]
                  exact zs (fun _ => zb)
              · rw [if_neg za]
                exact zs (fun q => absurd q za)
          · rw [if_neg ib, if_neg ib]
            exact infs (fun _ => ib)
        · rw [if_neg ia, if_neg ia]
          exact infs (fun q => absurd q ia)
      · rw [if_neg nc, if_neg nc]
    · rw [if_neg nb', if_neg nb']
  · rw [if_neg na, if_neg na]
