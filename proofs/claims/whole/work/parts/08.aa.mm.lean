/-- a whole number, cut behind with a mark: with signs -/
def jz (T : Int) (k : Nat) (t : Int) : Prop := T = t * ((2 ^ k : Nat) : Int) ∨ (t % 2 = 1 ∧ (t - 1) * ((2 ^ k : Nat) : Int) < T ∧ T < (t + 1) * ((2 ^ k : Nat) : Int))
theorem jz_of {N k m : Nat} (h : jam N k m) : jz (N : Int) k (m : Int) := by
  rcases h with h | ⟨h1, h2, h3⟩
  · left
    rw [h, Int.natCast_mul]
  · right
    refine ⟨by omega, ?_, ?_⟩
    · rw [show ((m : Int) - 1) = ((m - 1 : Nat) : Int) from by omega, ← Int.natCast_mul]
      exact Int.ofNat_lt.mpr h2
    · rw [show ((m : Int) + 1) = ((m + 1 : Nat) : Int) from by omega, ← Int.natCast_mul]
      exact Int.ofNat_lt.mpr h3
theorem jz_neg {T t : Int} {k : Nat} (h : jz T k t) : jz (-T) k (-t) := by
  unfold jz at *
  generalize ((2 ^ k : Nat) : Int) = P at *
  rcases h with h | ⟨h1, h2, h3⟩
  · left
    rw [h, Int.neg_mul]
  · right
    refine ⟨by omega, ?_, ?_⟩
    · rw [show -t - 1 = -(t + 1) from by omega, Int.neg_mul]
      omega
    · rw [show -t + 1 = -(t - 1) from by omega, Int.neg_mul]
      omega
theorem jz_add {T t c : Int} {k : Nat} (h : jz T k t) : jz (T + 2 * c * ((2 ^ k : Nat) : Int)) k (t + 2 * c) := by
  unfold jz at *
  generalize ((2 ^ k : Nat) : Int) = P at *
  rcases h with h | ⟨h1, h2, h3⟩
  · left
    rw [h, Int.add_mul]
  · right
    refine ⟨by omega, ?_, ?_⟩
    · rw [show t + 2 * c - 1 = (t - 1) + 2 * c from by omega, Int.add_mul]
      omega
    · rw [show t + 2 * c + 1 = (t + 1) + 2 * c from by omega, Int.add_mul]
      omega
theorem sn_or (n : Int32) : sn n = 1 ∨ sn n = -1 := by
  unfold sn
  split
  · exact Or.inl rfl
  · exact Or.inr rfl
theorem jz_sn {T t : Int} {k : Nat} (n : Int32) (h : jz T k t) : jz (sn n * T) k (sn n * t) := by
  rcases sn_or n with q | q <;> rw [q]
  · rw [Int.one_mul, Int.one_mul]
    exact h
  · rw [Int.neg_mul, Int.neg_mul, Int.one_mul, Int.one_mul]
    exact jz_neg h
theorem jz_exact (t : Int) : jz t 0 t := by
  left
  rw [Nat.pow_zero]
  show t = t * 1
  omega
theorem jz_abs {T t : Int} {k : Nat} (h : jz T k t) : jam T.natAbs k t.natAbs ∧ (T = 0 ↔ t = 0) ∧ (T < 0 ↔ t < 0) := by
  have hP : (0 : Int) < ((2 ^ k : Nat) : Int) := by
    have := Nat.two_pow_pos k
    omega
  rcases h with h | ⟨h1, h2, h3⟩
  · refine ⟨Or.inl ?_, ?_, ?_⟩
    · rw [h, Int.natAbs_mul]
      rfl
    · rw [h]
      constructor
      · intro q
        rcases Int.mul_eq_zero.mp q with q | q
        · exact q
        · omega
      · intro q
        rw [q, Int.zero_mul]
    · rw [h]
      constructor
      · intro q
        apply Int.lt_of_mul_lt_mul_right (a := ((2 ^ k : Nat) : Int)) _ (Int.le_of_lt hP)
        rw [Int.zero_mul]
        exact q
      · intro q
        have := Int.mul_lt_mul_of_pos_right q hP
        rw [Int.zero_mul] at this
        exact this
  · have hsg : (0 < t → 0 < T) ∧ (t < 0 → T < 0) := by
      constructor
      · intro q
        have := Int.mul_nonneg (show 0 ≤ t - 1 by omega) (Int.le_of_lt hP)
        omega
      · intro q
        have := Int.mul_nonneg (show 0 ≤ -(t + 1) by omega) (Int.le_of_lt hP)
        rw [Int.neg_mul] at this
        omega
    have ht : 0 < t ∨ t < 0 := by omega
    refine ⟨Or.inr ?_, ?_, ?_⟩
    · refine ⟨by omega, ?_, ?_⟩
      · rcases ht with q | q
        · have := hsg.1 q
          apply Int.ofNat_lt.mp
          rw [Int.natCast_mul, show ((t.natAbs - 1 : Nat) : Int) = t - 1 from by omega, show ((T.natAbs : Nat) : Int) = T from by omega]
          exact h2
        · have := hsg.2 q
          apply Int.ofNat_lt.mp
          rw [Int.natCast_mul, show ((t.natAbs - 1 : Nat) : Int) = -(t + 1) from by omega, show ((T.natAbs : Nat) : Int) = -T from by omega, Int.neg_mul]
          omega
      · rcases ht with q | q
        · have := hsg.1 q
          apply Int.ofNat_lt.mp
          rw [Int.natCast_mul, show ((t.natAbs + 1 : Nat) : Int) = t + 1 from by omega, show ((T.natAbs : Nat) : Int) = T from by omega]
          exact h3
        · have := hsg.2 q
          apply Int.ofNat_lt.mp
          rw [Int.natCast_mul, show ((t.natAbs + 1 : Nat) : Int) = -(t - 1) from by omega, show ((T.natAbs : Nat) : Int) = -T from by omega, Int.neg_mul]
          omega
    · constructor
      · intro q
        rcases ht with r | r
        · have := hsg.1 r
          omega
        · have := hsg.2 r
          omega
      · intro q
        omega
    · constructor
      · intro q
        rcases ht with r | r
        · have := hsg.1 r
          omega
        · exact r
      · intro q
        exact hsg.2 q
theorem rv_jam {w : Bool} {T t e : Int} {k : Nat} (h : jz T k t) (ht : t ≠ 0) (hd : T = t * ((2 ^ k : Nat) : Int) ∨ 2 ^ (mt w + 2) ≤ t.natAbs) : rv w T e = rv w t (e + k) := by
  obtain ⟨h1, h2, h3⟩ := jz_abs h
  unfold rv
  congr 1
  · by_cases c : t < 0
    · rw [if_pos c, if_pos (h3.mpr c)]
    · rw [if_neg c, if_neg (fun q => c (h3.mp q))]
  · congr 1
    unfold rw_
    apply rn_jam (IN w) h1 (by omega)
    rcases hd with q | q
    · left
      rw [q, Int.natAbs_mul]
      rfl
    · right
      have : mt w + 2 < nb t.natAbs := by
        rcases Nat.lt_or_ge (mt w + 2) (nb t.natAbs) with r | r
        · exact r
        · have := nb_le.mp r
          omega
      unfold ulp
      omega
theorem rv_scale {w : Bool} {S T e : Int} {k : Nat} (h : S = T * ((2 ^ k : Nat) : Int)) (hT : T ≠ 0) : rv w S e = rv w T (e + k) := rv_jam (Or.inl h) hT (Or.inl h)
/-- the mark of what is cut, as the class sets it -/
def stk (V k : Nat) : Nat := if V % 2 ^ k = 0 then 0 else 1
theorem jam_or (V k : Nat) : jam V k (V / 2 ^ k ||| stk V k) := by
  have hd := Nat.div_add_mod V (2 ^ k)
  have hr := Nat.mod_lt V (Nat.two_pow_pos k)
  unfold jam stk
  by_cases c : V % 2 ^ k = 0
  · left
    rw [if_pos c, Nat.or_zero, Nat.mul_comm]
    omega
  · right
    rw [if_neg c, or_one]
    generalize V / 2 ^ k = Q at *
    generalize V % 2 ^ k = R at *
    generalize 2 ^ k = P at *
    rw [Nat.mul_comm] at hd
    by_cases c2 : Q % 2 = 0
    · rw [if_pos c2]
      refine ⟨by omega, ?_, ?_⟩
      · rw [Nat.add_sub_cancel]
        omega
      · rw [Nat.add_mul, Nat.add_mul, Nat.one_mul]
        omega
    · rw [if_neg c2]
      refine ⟨by omega, ?_, ?_⟩
      · rw [Nat.sub_mul, Nat.one_mul]
        omega
      · rw [Nat.add_mul, Nat.one_mul]
        omega
theorem stk_i (c : Prop) [Decidable c] (x : Int64) (V k : Nat) (h : c ↔ V % 2 ^ k = 0) : un (if c then (x ||| (0 : Int32).toInt64) else (x ||| (1 : Int32).toInt64)) = (un x ||| stk V k) := by
  unfold stk
  by_cases q : c
  · rw [if_pos q, if_pos (h.mp q), un_or]
    rfl
  · rw [if_neg q, if_neg (fun r => q (h.mpr r)), un_or]
    rfl
theorem or_zero_iff (x y : Int64) : (x ||| y) = (0 : Int64) ↔ un x = 0 ∧ un y = 0 := by
  rw [un_iff, un_or]
  show un x ||| un y = 0 ↔ _
  constructor
  · intro h
    have h1 := Nat.left_le_or (n := un x) (m := un y)
    have h2 := Nat.right_le_or (n := un x) (m := un y)
    omega
  · intro ⟨h1, h2⟩
    rw [h1, h2]
    rfl
theorem low_v {hi lo : Int64} {x4 : Int32} {k : Nat} (hk : x4.toInt = k) : un (fX0_loweredLow hi lo x4) = ((un hi * 2 ^ 64 + un lo) / 2 ^ k % 2 ^ 64 ||| stk (un hi * 2 ^ 64 + un lo) k) := by
  have e0 : (0 : Int32).toInt = 0 := by decide
  have e64 : (64 : Int32).toInt = 64 := by decide
  have e128 : (128 : Int32).toInt = 128 := by decide
  have E : (18446744073709551616 : Nat) = 2 ^ 64 := by decide
  have hH : un hi < 2 ^ 64 := un_lt hi
  have hL : un lo < 2 ^ 64 := un_lt lo
  unfold fX0_loweredLow
  by_cases c0 : x4 = 0
  · rw [if_pos c0]
    rw [mi_eq, e0] at c0
    have : k = 0 := by omega
    subst this
    unfold stk
    rw [Nat.pow_zero, Nat.div_one, Nat.mod_one, if_pos rfl, Nat.or_zero, Nat.add_comm, Nat.add_mul_mod_self_right, Nat.mod_eq_of_lt hL]
  · rw [if_neg c0]
    rw [mi_eq, e0] at c0
    by_cases c1 : (64 : Int32) ≤ x4
    · rw [if_pos c1]
      rw [mi_le, e64] at c1
      obtain ⟨j, rfl⟩ : ∃ j, k = 64 + j := ⟨k - 64, by omega⟩
      have hq : (un hi * 2 ^ 64 + un lo) / 2 ^ (64 + j) = un hi / 2 ^ j := by
        rw [div_two, Nat.add_comm, Nat.add_mul_div_right _ _ (Nat.two_pow_pos 64), Nat.div_eq_of_lt hL, Nat.zero_add]
      have hm : (un hi * 2 ^ 64 + un lo) % 2 ^ (64 + j) = 0 ↔ un lo = 0 ∧ un hi % 2 ^ j = 0 := by
        rw [mod_two, Nat.add_comm, Nat.add_mul_mod_self_right, Nat.mod_eq_of_lt hL, Nat.add_mul_div_right _ _ (Nat.two_pow_pos 64), Nat.div_eq_of_lt hL, Nat.zero_add]
      have hql : un hi / 2 ^ j < 2 ^ 64 := Nat.lt_of_le_of_lt (Nat.div_le_self _ _) hH
      rw [hq, Nat.mod_eq_of_lt hql]
      by_cases c2 : x4 = (64 : Int32)
      · rw [if_pos c2]
        rw [mi_eq, e64] at c2
        have : j = 0 := by omega
        subst this
        rw [Nat.pow_zero, Nat.div_one]
        apply stk_i
        rw [hm, Nat.pow_zero, Nat.mod_one, un_iff]
        constructor
        · intro h
          exact ⟨h, rfl⟩
        · intro h
          exact h.1
      · rw [if_neg c2]
        rw [mi_eq, e64] at c2
        by_cases c3 : (128 : Int32) ≤ x4
        · rw [if_pos c3]
          rw [mi_le, e128] at c3
          have hj : un hi < 2 ^ j := Nat.lt_of_lt_of_le hH (Nat.pow_le_pow_right (by decide) (by omega))
          rw [Nat.div_eq_of_lt hj, Nat.zero_or]
          unfold stk
          rw [Nat.mod_eq_of_lt hj] at hm
          by_cases c4 : (hi ||| lo) = (0 : Int64)
          · rw [if_pos c4, if_pos (hm.mpr (by have := (or_zero_iff hi lo).mp c4; exact ⟨this.2, this.1⟩))]
            rfl
          · rw [if_neg c4, if_neg (fun q => c4 ((or_zero_iff hi lo).mpr (by have := hm.mp q; exact ⟨this.2, this.1⟩)))]
            rfl
        · rw [if_neg c3]
          rw [mi_le, e128] at c3
          have hs1 : (x4 - (64 : Int32)).toInt = j := by rw [mi_sub (by omega) (by omega), hk, e64]; omega
          have hs2 : ((128 : Int32) - x4).toInt = (64 - j : Nat) := by rw [mi_sub (by omega) (by omega), hk, e128]; omega
          have hu : un (jl_ushr hi (x4 - (64 : Int32))) = un hi / 2 ^ j := un_ushr' hs1 (by omega)
          rw [stk_i _ _ _ _ ?_, hu]
          rw [hm, or_zero_iff, un_shl _ _ (by omega) (by omega), hs2, Int.toNat_natCast, E, show (2 : Nat) ^ 64 = 2 ^ j * 2 ^ (64 - j) from by rw [← Nat.pow_add, show j + (64 - j) = 64 from by omega], Nat.mul_mod_mul_right]
          constructor
          · intro ⟨q1, q2⟩
            rcases Nat.mul_eq_zero.mp q1 with q | q
            · exact ⟨q2, q⟩
            · have := Nat.two_pow_pos (64 - j)
              omega
          · intro ⟨q1, q2⟩
            rw [q2, Nat.zero_mul]
            exact ⟨rfl, q1⟩
    · rw [if_neg c1]
      rw [mi_le, e64] at c1
      have hs2 : ((64 : Int32) - x4).toInt = (64 - k : Nat) := by rw [mi_sub (by omega) (by omega), hk, e64]; omega
      have h64 : (2 : Nat) ^ 64 = 2 ^ k * 2 ^ (64 - k) := by rw [← Nat.pow_add, show k + (64 - k) = 64 from by omega]
      have h64' : (2 : Nat) ^ 64 = 2 ^ (64 - k) * 2 ^ k := by rw [h64, Nat.mul_comm]
      have hP := Nat.two_pow_pos k
      have hu : un (jl_ushr lo x4) = un lo / 2 ^ k := un_ushr' hk (by omega)
      have hs : un (jl_shl hi ((64 : Int32) - x4)) = un hi * 2 ^ (64 - k) % 2 ^ 64 := by rw [un_shl _ _ (by omega) (by omega), hs2, Int.toNat_natCast]
      have hq : (un hi * 2 ^ 64 + un lo) / 2 ^ k = un hi * 2 ^ (64 - k) + un lo / 2 ^ k := by
        rw [h64', ← Nat.mul_assoc, Nat.add_comm, Nat.add_mul_div_right _ _ hP, Nat.add_comm]
      have hm : (un hi * 2 ^ 64 + un lo) % 2 ^ k = un lo % 2 ^ k := by
        rw [h64', ← Nat.mul_assoc, Nat.add_comm, Nat.add_mul_mod_self_right]
      have hlk : un lo / 2 ^ k < 2 ^ (64 - k) := by
        rw [Nat.div_lt_iff_lt_mul hP, ← h64']
        exact hL
      have hmm : un hi * 2 ^ (64 - k) % 2 ^ 64 = un hi % 2 ^ k * 2 ^ (64 - k) := by
        rw [h64, Nat.mul_mod_mul_right]
      rw [stk_i _ _ (un hi * 2 ^ 64 + un lo) k ?_]
      · congr 1
        rw [un_or, hs, hu, hq, hmm, or_add (k := 64 - k) (Nat.mul_mod_left _ _) hlk]
        have hb : un hi % 2 ^ k * 2 ^ (64 - k) + un lo / 2 ^ k < 2 ^ 64 := by
          have h1 : un hi % 2 ^ k + 1 ≤ 2 ^ k := Nat.mod_lt _ hP
          have h2 := Nat.mul_le_mul_right (2 ^ (64 - k)) h1
          rw [← h64, Nat.add_mul, Nat.one_mul] at h2
          omega
        rw [Nat.add_mod, hmm, Nat.mod_eq_of_lt (Nat.lt_of_lt_of_le hlk (Nat.pow_le_pow_right (by decide) (by omega))), Nat.mod_eq_of_lt hb]
      · rw [hm, un_iff, un_shl _ _ (by omega) (by omega), hs2, Int.toNat_natCast, E, h64, Nat.mul_mod_mul_right]
        show _ = 0 ↔ _
        constructor
        · intro q1
          rcases Nat.mul_eq_zero.mp q1 with q | q
          · exact q
          · have := Nat.two_pow_pos (64 - k)
            omega
        · intro q2
          rw [q2, Nat.zero_mul]
theorem high_v {hi : Int64} (lo : Nat) (hl : lo < 2 ^ 64) {x2 : Int32} {k : Nat} (hk : x2.toInt = k) : un (fX0_loweredHigh hi x2) = (un hi * 2 ^ 64 + lo) / 2 ^ k / 2 ^ 64 := by
  have e64 : (64 : Int32).toInt = 64 := by decide
  have hH : un hi < 2 ^ 64 := un_lt hi
  have hq : (un hi * 2 ^ 64 + lo) / 2 ^ k / 2 ^ 64 = un hi / 2 ^ k := by
    rw [Nat.div_div_eq_div_mul, Nat.mul_comm (2 ^ k), ← Nat.div_div_eq_div_mul, Nat.add_comm, Nat.add_mul_div_right _ _ (Nat.two_pow_pos 64), Nat.div_eq_of_lt hl, Nat.zero_add]
  rw [hq]
  unfold fX0_loweredHigh
  by_cases c : (64 : Int32) ≤ x2
  · rw [if_pos c]
    rw [mi_le, e64] at c
    rw [Nat.div_eq_of_lt (Nat.lt_of_lt_of_le hH (Nat.pow_le_pow_right (by decide) (by omega)))]
    rfl
  · rw [if_neg c]
    rw [mi_le, e64] at c
    exact un_ushr' hk (by omega)
theorem lowered_v {x : Int64} {n : Int32} {k : Nat} (hk : n.toInt = k) : un (fX0_lowered x n) = (un x / 2 ^ k ||| stk (un x) k) := by
  unfold fX0_lowered
  rw [low_v hk]
  have hz : un (0 : Int64) * 2 ^ 64 + un x = un x := by
    show 0 * 2 ^ 64 + un x = un x
    omega
  rw [hz, Nat.mod_eq_of_lt (Nat.lt_of_le_of_lt (Nat.div_le_self _ _) (un_lt x))]
