theorem ep_bound {w : Bool} {a b : Int64} (ha : fin w a) (hb : fin w b) : un (fX2_plain w a) * un (fX2_plain w b) * 2 ^ ((fX2_scale w a).toInt + (fX2_scale w b).toInt + 2200).toNat < 2 ^ 4300 := by
  have h1 := pl_62 ha.1
  have h2 := pl_62 hb.1
  have h3 := sc_hi ha
  have h4 := sc_hi hb
  have h5 := sc_rg ha.1
  have h6 := sc_rg hb.1
  have h7 : (fX2_scale w a).toInt ≤ 971 ∧ (fX2_scale w b).toInt ≤ 971 := by
    cases w
    · exact ⟨Int.le_trans h3 (by decide), Int.le_trans h4 (by decide)⟩
    · exact ⟨h3, h4⟩
  calc un (fX2_plain w a) * un (fX2_plain w b) * 2 ^ ((fX2_scale w a).toInt + (fX2_scale w b).toInt + 2200).toNat < 2 ^ 53 * 2 ^ 53 * 2 ^ ((fX2_scale w a).toInt + (fX2_scale w b).toInt + 2200).toNat := Nat.mul_lt_mul_of_pos_right (Nat.mul_lt_mul'' h1 h2) (Nat.two_pow_pos _)
    _ = 2 ^ (53 + 53 + ((fX2_scale w a).toInt + (fX2_scale w b).toInt + 2200).toNat) := by rw [← Nat.pow_add, ← Nat.pow_add]
    _ ≤ 2 ^ 4300 := Nat.pow_le_pow_right (by decide) (by omega)
theorem ep_in {w : Bool} {us : Nat → Int64} {a b : Int64} (ha : fin w a) (hb : fin w b) {n : Int32} (hn : n = if fX2_isNegative w a = fX2_isNegative w b then 0 else 1) : sv (fX5_addProduct (fX5_clearSum us) n (fX2_plain w a) (fX2_plain w b) (fX2_scale w a + fX2_scale w b)) 290 = ep w a b ∧ bnd (fX5_addProduct (fX5_clearSum us) n (fX2_plain w a) (fX2_plain w b) (fX2_scale w a + fX2_scale w b)) 2000000 := by
  have h1 := pl_62 ha.1
  have h2 := pl_62 hb.1
  have h3 := sc_hi ha
  have h4 := sc_hi hb
  have h5 := sc_rg ha.1
  have h6 := sc_rg hb.1
  have h7 : (fX2_scale w a).toInt ≤ 971 ∧ (fX2_scale w b).toInt ≤ 971 := by
    cases w
    · exact ⟨Int.le_trans h3 (by decide), Int.le_trans h4 (by decide)⟩
    · exact ⟨h3, h4⟩
  have hs : (fX2_scale w a + fX2_scale w b).toInt = (fX2_scale w a).toInt + (fX2_scale w b).toInt := mi_add (by omega) (by omega)
  obtain ⟨p1, p2⟩ := addProduct_v (x1 := n) (x6 := fX2_scale w a + fX2_scale w b) (m := fX2_plain w a) (n := fX2_plain w b) (by omega) (by omega) (by omega) (clr_bnd us)
  refine ⟨?_, p2⟩
  rw [p1, clr_sv, Int.zero_add, hs, hn]
  rfl
theorem ep_abs {w : Bool} {a b : Int64} (ha : fin w a) (hb : fin w b) : (ep w a b).natAbs < 2 ^ 4300 := by
  have := ep_bound ha hb
  unfold ep
  generalize un (fX2_plain w a) * un (fX2_plain w b) * 2 ^ ((fX2_scale w a).toInt + (fX2_scale w b).toInt + 2200).toNat = V at *
  generalize 2 ^ 4300 = U at *
  rcases sn_or (if fX2_isNegative w a = fX2_isNegative w b then 0 else 1) with s1 | s1 <;> rw [s1] <;> omega
theorem ex_abs {w : Bool} {a : Int64} (ha : ok w a) : (ex w a).natAbs < 2 ^ 4300 := by
  have := ex_bound ha
  unfold ex
  generalize un (fX2_plain w a) * 2 ^ ((fX2_scale w a).toInt + 2200).toNat = V at *
  generalize 2 ^ 4300 = U at *
  rcases sn_or (fX2_isNegative w a) with s1 | s1 <;> rw [s1] <;> omega
theorem two_4300 : (2 : Nat) ^ 4300 + 2 ^ 4300 ≤ 2 ^ 4600 := by
  rw [← Nat.two_mul, ← Nat.pow_succ']
  exact Nat.pow_le_pow_right (by decide) (by decide)
theorem mulR_v {w : Bool} {us : Nat → Int64} {a b : Int64} (ha : fin w a) (hb : fin w b) {n x1 : Int32} (hn : n = if fX2_isNegative w a = fX2_isNegative w b then 0 else 1) : (fX5_sumRounded (fX5_addProduct (fX5_clearSum us) n (fX2_plain w a) (fX2_plain w b) (fX2_scale w a + fX2_scale w b)) x1 (wi w)).1 = if ep w a b = 0 then (if x1 = 0 then 0 else fo_sign w) else rv w (ep w a b) (-2200) := by
  obtain ⟨q1, q2⟩ := ep_in (us := us) ha hb hn
  obtain ⟨PP, hPP⟩ : ∃ PP : Nat, PP = 2 ^ (16 * 290) := ⟨_, rfl⟩
  have hbig := pp_big hPP
  have b1 := ep_abs ha hb
  have h46 := two_4300
  rw [sumRounded_v hPP q2 (by decide) ?_ ?_, q1]
  · rw [q1]
    generalize (2 : Nat) ^ 4300 = U at *
    generalize (2 : Nat) ^ 4600 = V at *
    clear q1 hPP
    omega
  · rw [q1]
    generalize (2 : Nat) ^ 4300 = U at *
    generalize (2 : Nat) ^ 4600 = V at *
    clear q1 hPP
    omega
theorem fusR_v {w : Bool} {us : Nat → Int64} {a b c : Int64} (ha : fin w a) (hb : fin w b) (hc : fin w c) {n x1 : Int32} (hn : n = if fX2_isNegative w a = fX2_isNegative w b then 0 else 1) : (fX5_sumRounded (fX5_addTo (fX5_addProduct (fX5_clearSum us) n (fX2_plain w a) (fX2_plain w b) (fX2_scale w a + fX2_scale w b)) (fX2_isNegative w c) (fX2_plain w c) (fX2_scale w c)) x1 (wi w)).1 = if ep w a b + ex w c = 0 then (if x1 = 0 then 0 else fo_sign w) else rv w (ep w a b + ex w c) (-2200) := by
  obtain ⟨p1, p2⟩ := ep_in (us := us) ha hb hn
  have rc := sc_rg hc.1
  obtain ⟨q1, q2⟩ := addTo_v (x1 := fX2_isNegative w c) (x4 := fX2_scale w c) (m := fX2_plain w c) (by omega) p2 (by decide)
  rw [p1] at q1
  obtain ⟨PP, hPP⟩ : ∃ PP : Nat, PP = 2 ^ (16 * 290) := ⟨_, rfl⟩
  have hbig := pp_big hPP
  have b1 := ep_abs ha hb
  have b2 := ex_abs hc.1
  have h46 := two_4300
  have q1' : sv (fX5_addTo (fX5_addProduct (fX5_clearSum us) n (fX2_plain w a) (fX2_plain w b) (fX2_scale w a + fX2_scale w b)) (fX2_isNegative w c) (fX2_plain w c) (fX2_scale w c)) 290 = ep w a b + ex w c := q1
  rw [sumRounded_v hPP q2 (by decide) ?_ ?_, q1']
  · rw [q1']
    generalize (2 : Nat) ^ 4300 = U at *
    generalize (2 : Nat) ^ 4600 = V at *
    clear q1 q1' hPP p1
    omega
  · rw [q1']
    generalize (2 : Nat) ^ 4300 = U at *
    generalize (2 : Nat) ^ 4600 = V at *
    clear q1 q1' hPP p1
    omega
theorem ep_zero {w : Bool} {a b : Int64} (ha : ok w a) (hb : ok w b) : ep w a b = 0 ↔ (¬ fX2_isZero w a = 0 ∨ ¬ fX2_isZero w b = 0) := by
  unfold ep
  constructor
  · intro h
    by_cases za : fX2_isZero w a = 0
    · by_cases zb : fX2_isZero w b = 0
      · exfalso
        have := Nat.mul_pos (Nat.mul_pos (pl_pos ha za) (pl_pos hb zb)) (Nat.two_pow_pos ((fX2_scale w a).toInt + (fX2_scale w b).toInt + 2200).toNat)
        generalize un (fX2_plain w a) * un (fX2_plain w b) * 2 ^ ((fX2_scale w a).toInt + (fX2_scale w b).toInt + 2200).toNat = V at *
        rcases sn_or (if fX2_isNegative w a = fX2_isNegative w b then 0 else 1) with s1 | s1 <;> rw [s1] at h <;> omega
      · exact Or.inr zb
    · exact Or.inl za
  · intro h
    rcases h with h | h
    · rw [zero_pl ha h, Nat.zero_mul, Nat.zero_mul]
      exact Int.mul_zero _
    · rw [zero_pl hb h, Nat.mul_zero, Nat.zero_mul]
      exact Int.mul_zero _
theorem sg_if (w : Bool) (n : Int32) : sg w n = if n = 0 then 0 else fo_sign w := rfl
theorem e_prod {w : Bool} {us : Nat → Int64} {a b : Int64} (ha : ok w a) (hb : ok w b) : fX2_product w a b = (fX5_multiply us a b (wi w)).1 := by
  unfold fX5_multiply fX5_fused fX5_fused_39 fX5_fused_33
  dsimp only
  rw [dq_isNan ha, dq_isNan hb, dq_nan0, dq_isNeg, dq_isNeg]
  by_cases na : fX2_isNan w a = 0
  · rw [if_pos na]
    by_cases nb' : fX2_isNan w b = 0
    · rw [if_pos nb', if_pos (show (0 : Int32) = 0 from rfl)]
      obtain ⟨n, hn⟩ : ∃ n : Int32, n = if fX2_isNegative w a = fX2_isNegative w b then 0 else 1 := ⟨_, rfl⟩
      have hn01 := xs01 w a b
      rw [← hn] at hn01
      have e59 : (if fX2_isNegative w a = fX2_isNegative w b then fX5_fused_59 us a b 0 0 (wi w) 0 else fX5_fused_59 us a b 0 0 (wi w) 1) = fX5_fused_59 us a b 0 0 (wi w) n := by
        rw [hn]
        split <;> rfl
      rw [e59]
      unfold fX5_fused_59
      rw [dq_isInf ha, dq_isInf hb]
      by_cases ia : fX2_isInfinite w a = 0
      · rw [if_pos ia]
        by_cases ib : fX2_isInfinite w b = 0
        · rw [if_pos ib, if_pos (show (0 : Int32) = 0 from rfl)]
          have fa := fin_of ha na ia
          have fb := fin_of hb nb' ib
          unfold fX5_fused_170 fX5_fused_301
          rw [if_pos (show (0 : Int32) = 0 from rfl), dq_dig ha, dq_dig hb, dq_scale ha, dq_scale hb]
          dsimp only
          rw [mulR_v fa fb hn]
          have hz := ep_zero ha hb
          by_cases za : fX2_isZero w a = 0
          · by_cases zb : fX2_isZero w b = 0
            · rw [if_neg (fun q => by rcases hz.mp q with r | r; exact r za; exact r zb)]
              exact prod_v fa fb na nb' ia ib za zb
            · rw [if_pos (hz.mpr (Or.inr zb))]
              unfold fX2_product
              rw [if_pos na, if_pos nb', if_pos ia, if_pos ib, if_pos za, if_neg zb, sx, ← hn]
              rfl
          · rw [if_pos (hz.mpr (Or.inl za))]
            unfold fX2_product
            rw [if_pos na, if_pos nb', if_pos ia, if_pos ib, if_neg za, sx, ← hn]
            rfl
        · rw [if_neg ib]
          unfold fX2_product fX2_product_47 fX5_fused_79 fX5_fused_128 fX5_fused_124 fX5_fused_129
          rw [if_pos na, if_pos nb', if_pos ia, if_neg ib, sx, ← hn, dq_isZero ha, dq_isZero hb]
          by_cases za : fX2_isZero w a = 0
          · by_cases zb : fX2_isZero w b = 0
            · simp only [za, zb, if_true]
              exact (inf_sg hn01).symm
            · simp only [za, zb, if_true, if_false]
              exact (dq_nan0 w).symm
          · simp only [za, if_false]
            exact (dq_nan0 w).symm
      · rw [if_neg ia]
        unfold fX2_product fX2_product_47 fX5_fused_79 fX5_fused_128 fX5_fused_124 fX5_fused_129
        rw [if_pos na, if_pos nb', if_neg ia, sx, ← hn, dq_isZero ha, dq_isZero hb]
        by_cases za : fX2_isZero w a = 0
        · by_cases zb : fX2_isZero w b = 0
          · simp only [za, zb, if_true]
            exact (inf_sg hn01).symm
          · simp only [za, zb, if_true, if_false]
            exact (dq_nan0 w).symm
        · simp only [za, if_false]
          exact (dq_nan0 w).symm
    · rw [if_neg nb']
      unfold fX2_product
      rw [if_pos na, if_neg nb']
  · rw [if_neg na]
    unfold fX2_product
    rw [if_neg na]
