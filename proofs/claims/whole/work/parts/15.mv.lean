theorem e_quot {w : Bool} {us : Nat → Int64} {a b : Int64} (ha : ok w a) (hb : ok w b) : fX2_quotient w (fX2_sum w a (fX2_rest w a b ^^^ fo_sign w)) b = (fX5_quotient us a b (wi w)).1 := by
  have hr := nice_rest ha hb
  unfold fX5_quotient fX5_negated
  rw [← e_rest ha hb, dq_isNan hr.1, dq_sign]
  by_cases n : fX2_isNan w (fX2_rest w a b) = 0
  · rw [if_pos n]
    dsimp only
    rw [← e_sum ha (ok_xor hr.1), e_div (nice_sum ha (ok_xor hr.1)).1 hb]
  · rw [if_neg n]
    dsimp only
    have hs : fX2_sum w a (fX2_rest w a b ^^^ fo_sign w) = fo_nan w := by
      unfold fX2_sum
      rw [xor_neg hr.1, if_neg n]
      split <;> rfl
    rw [hs, dq_nan0]
    unfold fX2_quotient
    rw [if_neg (by cases w <;> decide)]
theorem pw_loop {w : Bool} {a x3 : Int64} {x11 : Int32} {c : Nat} (ha : ok w a) (h3 : x3.toInt = c) (h11 : x11.toInt = c) (hc : c ≤ 40) : ∀ (n : Nat) (us : Nat → Int64) (v : Int64) (x7 : Int32) (j : Nat), x7.toInt = j → j ≤ c → c - j < n → nice w v → (gX2_power_9 w a x3 n v x7).1 = (gX5_power_63 a (wi w) x11 n us v x7).2.1 ∧ nice w (gX2_power_9 w a x3 n v x7).1 := by
  have e1 : (1 : Int32).toInt = 1 := by decide
  intro n
  induction n with
  | zero => intro us v x7 j _ _ h; omega
  | succ n ih =>
    intro us v x7 j hj hjc hn hv
    rw [gX2_power_9, gX5_power_63]
    have h1 : x3 ≤ x7.toInt64 ↔ c ≤ j := by
      rw [un_le_iff, h3, Int32.toInt_toInt64, hj]
      omega
    have h2 : x11 ≤ x7 ↔ c ≤ j := by
      rw [mi_le, h11, hj]
      omega
    by_cases q : c ≤ j
    · rw [if_pos (h1.mpr q), if_pos (h2.mpr q)]
      exact ⟨rfl, hv⟩
    · rw [if_neg (fun r => q (h1.mp r)), if_neg (fun r => q (h2.mp r))]
      have hx : (x7 + 1).toInt = (j + 1 : Nat) := by rw [mi_add (by omega) (by omega), e1, hj]; omega
      rw [← e_prod hv.1 ha]
      exact ih _ _ _ (j + 1) hx (by omega) (by omega) (nice_prod hv.1 ha)
theorem nice_one (w : Bool) : nice w (fo_one w) := by
  apply nice_own
  · cases w
    · intro _
      decide
    · exact ok_true _
  · cases w <;> decide
theorem pw_any {w : Bool} {us : Nat → Int64} {a x3 : Int64} {x11 : Int32} {c : Nat} (ha : ok w a) (h3 : x3.toInt = c) (h11 : x11.toInt = c) (hc : c ≤ 40) : fX2_power w a x3 = (gX5_power_63 a (wi w) x11 (Nat.succ ((Int32.toInt x11 - Int32.toInt (0 : Int32)).toNat)) us (fo_one w) (0 : Int32)).2.1 ∧ nice w (fX2_power w a x3) := by
  have e0 : (0 : Int32).toInt = 0 := by decide
  unfold fX2_power fX2_power_32
  rw [h3, h11]
  exact pw_loop ha h3 h11 hc _ us _ 0 0 e0 (by omega) (by rw [e0]; omega) (nice_one w)
theorem one_v (w : Bool) : jl_shl ((fX5_bias (wi w)).toInt64) (fX5_mantissa (wi w)) = fo_one w := by cases w <;> decide
theorem e_power {w : Bool} {us : Nat → Int64} {a b b' : Int64} (ha : ok w a) (hb : (b' &&& (63 : Int64)) = (b &&& (63 : Int64))) : (if (b &&& (32 : Int64)) = (0 : Int64) then fX2_power w a (b &&& (31 : Int64)) else fX2_quotient w (fo_one w) (fX2_power w a ((32 : Int64) - (b &&& (31 : Int64))))) = (fX5_power us a b' (wi w)).1 := by
  have e0 : (0 : Int32).toInt = 0 := by decide
  have e31 : (31 : Int32).toInt = 31 := by decide
  have e64 : (64 : Int32).toInt = 64 := by decide
  have h63 : un (b &&& (63 : Int64)) = un b % 64 := by
    rw [un_and, show un (63 : Int64) = 2 ^ 6 - 1 from by decide, Nat.and_two_pow_sub_one_eq_mod]
  have h31 : un (b &&& (31 : Int64)) = un b % 32 := by
    rw [un_and, show un (31 : Int64) = 2 ^ 5 - 1 from by decide, Nat.and_two_pow_sub_one_eq_mod]
  have h32 : (b &&& (32 : Int64)) = (0 : Int64) ↔ un b % 64 < 32 := by
    rw [un_iff, un_and, show un (32 : Int64) = 2 ^ 5 from by decide, and_pow, show un (0 : Int64) = 0 from by decide]
    split <;> omega
  have hv : (b &&& (63 : Int64)).toInt32.toInt = (un b % 64 : Nat) := by
    rw [mi_of_un (by omega), h63]
  unfold fX5_power
  rw [hb]
  generalize (b &&& (63 : Int64)).toInt32 = v at *
  have hle : v ≤ (31 : Int32) ↔ un b % 64 < 32 := by
    rw [mi_le, hv, e31]
    omega
  unfold fX5_power_25 fX5_power_58 fX5_power_87
  rw [one_v]
  by_cases c : un b % 64 < 32
  · rw [if_pos (h32.mpr c), if_pos (hle.mpr c)]
    have hv0 : 0 ≤ v := by rw [mi_le, e0]; omega
    rw [if_pos hv0, if_pos hv0]
    obtain ⟨p1, p2⟩ := pw_any (us := us) (x3 := (b &&& (31 : Int64))) (x11 := v) (c := un b % 64) ha (by rw [un_pos (by omega), h31]; omega) hv (by omega)
    rw [← p1, dq_isNan p2.1]
    by_cases q : fX2_isNan w (fX2_power w a (b &&& (31 : Int64))) = 0
    · rw [if_pos q]
    · rw [if_neg q, dq_nan0]
      exact p2.2 q
  · rw [if_neg (fun q => c (h32.mp q)), if_neg (fun q => c (hle.mp q))]
    have hs : (v - (64 : Int32)).toInt = (un b % 64 : Nat) - 64 := by rw [mi_sub (by omega) (by omega), hv, e64]
    generalize v - (64 : Int32) = s at *
    have hs0 : ¬ 0 ≤ s := by rw [mi_le, e0]; omega
    have hsn : (-s).toInt = (64 - un b % 64 : Nat) := by rw [mi_neg (by omega), hs]; omega
    rw [if_neg hs0, if_neg hs0]
    have hx3 : ((32 : Int64) - (b &&& (31 : Int64))).toInt = (64 - un b % 64 : Nat) := by
      have l32 : (32 : Int64).toInt = 32 := by decide
      have h1 : (b &&& (31 : Int64)).toInt = (un b % 32 : Nat) := by rw [un_pos (by omega), h31]
      rw [ml_sub (by omega) (by omega), h1, l32]
      omega
    obtain ⟨p1, p2⟩ := pw_any (us := us) (x3 := ((32 : Int64) - (b &&& (31 : Int64)))) (x11 := -s) (c := 64 - un b % 64) ha hx3 hsn (by omega)
    rw [← p1, e_div (nice_one w).1 p2.1]
theorem e_acted {w : Bool} {us : Nat → Int64} {x1 : Int32} {a b c a' b' : Int64} (hx : 0 ≤ x1.toInt ∧ x1.toInt ≤ 23) (ha : ok w a) (hb : ok w b) (hc : ok w c) (h21 : x1 = 21 → a'.toInt32 = a.toInt32) (hna : ¬ x1 = 21 → a' = a) (h14 : x1 = 14 → (b' &&& (63 : Int64)) = (b &&& (63 : Int64))) (h15 : x1 = 15 → b' = jl_shr (jl_shl b (fo_spare w)) (fo_spare w)) (hnb : ¬ x1 = 14 → ¬ x1 = 15 → b' = b) :
    fX2_acted w x1 a b c = (fX5_acted us x1 a' b' c (wi w)).1 := by
  have hk3 : x1.toInt = 0 ∨ x1.toInt = 1 ∨ x1.toInt = 2 ∨ x1.toInt = 3 ∨ x1.toInt = 4 ∨ x1.toInt = 5 ∨ x1.toInt = 6 ∨ x1.toInt = 7 ∨ x1.toInt = 8 ∨ x1.toInt = 9 ∨ x1.toInt = 10 ∨ x1.toInt = 11 ∨ x1.toInt = 12 ∨ x1.toInt = 13 ∨ x1.toInt = 14 ∨ x1.toInt = 15 ∨ x1.toInt = 16 ∨ x1.toInt = 17 ∨ x1.toInt = 18 ∨ x1.toInt = 19 ∨ x1.toInt = 20 ∨ x1.toInt = 21 ∨ x1.toInt = 22 ∨ x1.toInt = 23 := by omega
  clear hx
  unfold fX2_acted fX5_acted
  rcases hk3 with q | q | q | q | q | q | q | q | q | q | q | q | q | q | q | q | q | q | q | q | q | q | q | q
  · have hx : x1 = (0 : Int32) := mi_eq.mpr (by rw [q]; decide)
    subst hx
    simp (decide := true) only [if_true, if_false]
    rw [hna (by decide), hnb (by decide) (by decide)]
    exact e_sum ha hb
  · have hx : x1 = (1 : Int32) := mi_eq.mpr (by rw [q]; decide)
    subst hx
    simp (decide := true) only [if_true, if_false]
    rw [hna (by decide), hnb (by decide) (by decide)]
    rw [dq_isNan hb]
    by_cases q : fX2_isNan w b = 0
    · rw [if_pos q]
      unfold fX5_negated
      rw [dq_sign]
      exact e_sum ha (ok_xor hb)
    · rw [if_neg q, dq_nan0]
      unfold fX2_sum
      rw [xor_neg hb, if_neg q]
      split <;> rfl
  · have hx : x1 = (2 : Int32) := mi_eq.mpr (by rw [q]; decide)
    subst hx
    simp (decide := true) only [if_true, if_false]
    rw [hna (by decide), hnb (by decide) (by decide)]
    exact e_prod ha hb
  · have hx : x1 = (3 : Int32) := mi_eq.mpr (by rw [q]; decide)
    subst hx
    simp (decide := true) only [if_true, if_false]
    rw [hna (by decide), hnb (by decide) (by decide)]
    exact e_div ha hb
  · have hx : x1 = (4 : Int32) := mi_eq.mpr (by rw [q]; decide)
    subst hx
    simp (decide := true) only [if_true, if_false]
    rw [hna (by decide), hnb (by decide) (by decide)]
    exact e_rest ha hb
  · have hx : x1 = (5 : Int32) := mi_eq.mpr (by rw [q]; decide)
    subst hx
    simp (decide := true) only [if_true, if_false]
    rw [hna (by decide), hnb (by decide) (by decide)]
    exact e_quot ha hb
  · have hx : x1 = (6 : Int32) := mi_eq.mpr (by rw [q]; decide)
    subst hx
    simp (decide := true) only [if_true, if_false]
    rw [hna (by decide)]
    exact e_root ha
  · have hx : x1 = (7 : Int32) := mi_eq.mpr (by rw [q]; decide)
    subst hx
    simp (decide := true) only [if_true, if_false]
    rw [hna (by decide)]
    exact e_whole ha (Or.inl rfl)
  · have hx : x1 = (8 : Int32) := mi_eq.mpr (by rw [q]; decide)
    subst hx
    simp (decide := true) only [if_true, if_false]
    rw [hna (by decide)]
    exact e_whole ha (Or.inr (Or.inl rfl))
  · have hx : x1 = (9 : Int32) := mi_eq.mpr (by rw [q]; decide)
    subst hx
    simp (decide := true) only [if_true, if_false]
    rw [hna (by decide)]
    exact e_whole ha (Or.inr (Or.inr rfl))
  · have hx : x1 = (10 : Int32) := mi_eq.mpr (by rw [q]; decide)
    subst hx
    unfold fX5_acted_223
    simp (decide := true) only [if_true, if_false]
    rw [hna (by decide), hnb (by decide) (by decide)]
    exact e_lesser ha hb
  · have hx : x1 = (11 : Int32) := mi_eq.mpr (by rw [q]; decide)
    subst hx
    unfold fX5_acted_223
    simp (decide := true) only [if_true, if_false]
    rw [hna (by decide), hnb (by decide) (by decide)]
    exact e_greater ha hb
  · have hx : x1 = (12 : Int32) := mi_eq.mpr (by rw [q]; decide)
    subst hx
    simp (decide := true) only [if_true, if_false]
    rw [hna (by decide)]
    exact (dq_size ha).symm
  · have hx : x1 = (13 : Int32) := mi_eq.mpr (by rw [q]; decide)
    subst hx
    simp (decide := true) only [if_true, if_false]
    rw [hna (by decide)]
    unfold fX5_negated
    rw [dq_sign]
  · have hx : x1 = (14 : Int32) := mi_eq.mpr (by rw [q]; decide)
    subst hx
    simp (decide := true) only [if_true, if_false]
    rw [hna (by decide)]
    exact e_power ha (h14 rfl)
  · have hx : x1 = (15 : Int32) := mi_eq.mpr (by rw [q]; decide)
    subst hx
    simp (decide := true) only [if_true, if_false]
    rw [hna (by decide)]
    rw [h15 rfl]
    exact e_scaled ha _
  · have hx : x1 = (16 : Int32) := mi_eq.mpr (by rw [q]; decide)
    subst hx
    simp (decide := true) only [if_true, if_false]
    rw [hna (by decide)]
    exact e_above ha
  · have hx : x1 = (17 : Int32) := mi_eq.mpr (by rw [q]; decide)
    subst hx
    simp (decide := true) only [if_true, if_false]
    rw [hna (by decide), hnb (by decide) (by decide)]
    rw [dq_size ha, dq_sign]
  · have hx : x1 = (18 : Int32) := mi_eq.mpr (by rw [q]; decide)
    subst hx
    simp (decide := true) only [if_true, if_false]
    rw [hna (by decide)]
    exact e_gap ha
  · have hx : x1 = (19 : Int32) := mi_eq.mpr (by rw [q]; decide)
    subst hx
    simp (decide := true) only [if_true, if_false]
    rw [hna (by decide)]
    unfold fX5_exponent
    rw [dq_exp ha, wi_bias]
  · have hx : x1 = (20 : Int32) := mi_eq.mpr (by rw [q]; decide)
    subst hx
    simp (decide := true) only [if_true, if_false]
    rw [hna (by decide), hnb (by decide) (by decide)]
    exact e_fused ha hb hc
  · have hx : x1 = (21 : Int32) := mi_eq.mpr (by rw [q]; decide)
    subst hx
    simp (decide := true) only [if_true, if_false]
    rw [h21 rfl]
    exact e_ofWhole w _
  · have hx : x1 = (22 : Int32) := mi_eq.mpr (by rw [q]; decide)
    subst hx
    unfold fX5_acted_339
    simp (decide := true) only [if_true, if_false]
    rw [hna (by decide)]
    exact (e_cut22 ha).symm
  · have hx : x1 = (23 : Int32) := mi_eq.mpr (by rw [q]; decide)
    subst hx
    unfold fX5_acted_339
    simp (decide := true) only [if_true, if_false]
    rw [hna (by decide)]
    exact (e_cut23 ha).symm
