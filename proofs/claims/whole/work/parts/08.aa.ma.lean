/-! ===== MATH: roots ===== -/
def Rt (N s : Nat) : Prop := s * s ≤ N ∧ N < (s + 1) * (s + 1)
def rs (N s : Nat) : Nat := 2 * s + if s * s = N then 0 else 1
theorem sq_lt {a b : Nat} (h : a * a < b * b) : a < b := by
  rcases Nat.lt_or_ge a b with q | q
  · exact q
  · have := Nat.mul_le_mul q q
    omega
theorem sq_le {a b : Nat} (h : a * a ≤ b * b) : a ≤ b := by
  rcases Nat.lt_or_ge b a with q | q
  · have := Nat.mul_lt_mul'' q q
    omega
  · exact q
theorem rs_jam {N s s2 k : Nat} (h : Rt N s) (h2 : Rt (N * 4 ^ k) s2) : jam (rs (N * 4 ^ k) s2) k (rs N s) := by
  have h4 : 4 ^ k = 2 ^ k * 2 ^ k := by rw [← Nat.mul_pow]
  have hK := Nat.two_pow_pos k
  unfold jam rs
  rw [h4] at h2 ⊢
  generalize 2 ^ k = K at *
  obtain ⟨a1, a2⟩ := h
  obtain ⟨b1, b2⟩ := h2
  have e1 : ∀ x : Nat, (x * K) * (x * K) = x * x * (K * K) := by
    intro x
    rw [Nat.mul_assoc, Nat.mul_left_comm K x K, ← Nat.mul_assoc, ← Nat.mul_assoc]
  have hKK : 0 < K * K := Nat.mul_pos hK hK
  have l1 : s * K < s2 + 1 := by
    apply sq_lt
    rw [e1]
    exact Nat.lt_of_le_of_lt (Nat.mul_le_mul_right _ a1) b2
  have l2 : s2 < (s + 1) * K := by
    apply sq_lt
    rw [e1]
    exact Nat.lt_of_le_of_lt b1 (Nat.mul_lt_mul_of_pos_right a2 hKK)
  by_cases c : s * s = N
  · left
    have e2 : s2 = s * K := by
      have : s2 ≤ s * K := by
        apply sq_le
        rw [e1, c]
        exact b1
      omega
    rw [if_pos c, if_pos (by rw [e2, e1, c]), e2]
    simp only [Nat.add_zero]
    rw [Nat.mul_assoc]
  · right
    rw [if_neg c]
    refine ⟨by omega, ?_, ?_⟩
    · rw [show 2 * s + 1 - 1 = 2 * s from by omega, Nat.mul_assoc]
      by_cases g : s2 = s * K
      · have g2 : s2 * s2 ≠ N * (K * K) := by
          rw [g, e1]
          intro q
          exact c (Nat.eq_of_mul_eq_mul_right hKK q)
        rw [if_neg g2]
        omega
      · split <;> omega
    · have h5 : (2 * s + 1 + 1) * K = 2 * ((s + 1) * K) := by
        rw [← Nat.mul_assoc]
        congr 1
      rw [h5]
      split <;> omega
theorem rs_round {w : Bool} {N s s2 k : Nat} {e : Int} (h : Rt N s) (h2 : Rt (N * 4 ^ k) s2) (hb : 2 ^ (mt w + 2) ≤ s) : rw_ w (rs (N * 4 ^ k) s2) (e - k) = rw_ w (rs N s) e := by
  have h0 := Nat.two_pow_pos (mt w + 2)
  have h1 : 2 ^ (mt w + 3) ≤ rs N s := by
    unfold rs
    rw [show mt w + 3 = (mt w + 2) + 1 from rfl, Nat.pow_succ]
    omega
  have h3 : mt w + 4 ≤ nb (rs N s) := by
    rcases Nat.lt_or_ge (mt w + 3) (nb (rs N s)) with q | q
    · omega
    · have := nb_le.mp q
      omega
  unfold rw_
  have h4 := rn_jam (mt := mt w) (E0 := E0 w) (IN w) (e := e - k) (rs_jam h h2) (by unfold rs; omega) (Or.inr (by unfold ulp; omega))
  rw [h4]
  congr 1
  omega
/-- one step of the root by hand -/
theorem rt_step1 {N q r t : Nat} (h : q * q + r = N) (hr : r ≤ 2 * q) (ht : t < 4) (c : 4 * q + 1 ≤ 4 * r + t) : (2 * q + 1) * (2 * q + 1) + (4 * r + t - (4 * q + 1)) = 4 * N + t ∧ 4 * r + t - (4 * q + 1) ≤ 2 * (2 * q + 1) := by
  have : (2 * q + 1) * (2 * q + 1) = 4 * (q * q) + 4 * q + 1 := by
    rw [Nat.mul_add, Nat.add_mul, Nat.mul_mul_mul_comm]
    omega
  omega
theorem rt_step0 {N q r t : Nat} (h : q * q + r = N) (c : ¬ 4 * q + 1 ≤ 4 * r + t) : (2 * q) * (2 * q) + (4 * r + t) = 4 * N + t ∧ 4 * r + t ≤ 2 * (2 * q) := by
  have : (2 * q) * (2 * q) = 4 * (q * q) := by rw [Nat.mul_mul_mul_comm]
  omega
theorem rt_of {N q r : Nat} (h : q * q + r = N) (hr : r ≤ 2 * q) : Rt N q := by
  have : (q + 1) * (q + 1) = q * q + 2 * q + 1 := by
    rw [Nat.mul_add, Nat.add_mul]
    omega
  exact ⟨by omega, by omega⟩
theorem quad (X D : Nat) (hD : 0 < D) : 4 * X / D = 4 * (X / D) + 4 * (X % D) / D := by
  have h := Nat.div_add_mod X D
  have : 4 * X = 4 * (X % D) + D * (4 * (X / D)) := by
    rw [Nat.mul_left_comm]
    omega
  rw [this, Nat.add_mul_div_left _ _ hD]
  omega
theorem or4 {a b : Nat} (hb : b < 4) : a * 4 ||| b = 4 * a + b := by
  rw [or_add (k := 2) (by omega) (by omega)]
  omega
theorem rtA_loop {w : Bool} {P : Int32} {M : Nat} (hP : P.toInt = mt w + 3) : ∀ (k : Nat) (x q r : Int64) (i : Int32) (t : Nat), (mt w + 3 - t : Nat) < k → i.toInt = t → t ≤ mt w + 3 → un x = M * 4 ^ t % 18446744073709551616 → un q * un q + un r = M * 4 ^ t / 18446744073709551616 → un r ≤ 2 * un q → un q < 2 ^ t →
    ∃ x' q' r' : Int64, ∃ i' : Int32, gX2_root_91 w P k x q r i = (x', q', r', i') ∧ un x' = M * 4 ^ (mt w + 3) % 18446744073709551616 ∧ un q' * un q' + un r' = M * 4 ^ (mt w + 3) / 18446744073709551616 ∧ un r' ≤ 2 * un q' ∧ un q' < 2 ^ (mt w + 3) := by
  have hmt : 23 ≤ mt w ∧ mt w ≤ 52 := by cases w <;> decide
  have e1 : (1 : Int32).toInt = 1 := by decide
  have e2 : (2 : Int32).toInt = 2 := by decide
  have e62 : (62 : Int32).toInt = 62 := by decide
  have u1 : un (1 : Int64) = 1 := by decide
  intro k
  induction k with
  | zero => intro x q r i t h; omega
  | succ k ih =>
    intro x q r i t hk hi ht hx hinv hr hq
    rw [gX2_root_91]
    by_cases c : P ≤ i
    · rw [if_pos c]
      rw [mi_le, hP, hi] at c
      have : t = mt w + 3 := by omega
      subst this
      exact ⟨_, _, _, _, rfl, hx, hinv, hr, hq⟩
    · rw [if_neg c]
      rw [mi_le, hP, hi] at c
      have ht54 : 2 ^ t ≤ 2 ^ 54 := Nat.pow_le_pow_right (by decide) (by omega)
      have hi2 : (i + 1).toInt = (t + 1 : Nat) := by rw [mi_add (by omega) (by omega), hi, e1]; omega
      have hxl := un_lt x
      have htwo : un (jl_ushr x (62 : Int32)) = un x / 2 ^ 62 := un_ushr' (k := 62) e62 (by decide)
      have hx2 : un (jl_shl x (2 : Int32)) = M * 4 ^ (t + 1) % 18446744073709551616 := by
        rw [un_shl x _ (by omega) (by omega), e2, hx, Nat.mod_mul_mod, Nat.pow_succ, ← Nat.mul_assoc]
        rfl
      have hr4 : un (jl_shl r (2 : Int32)) = un r * 4 := un_shl' (k := 2) e2 (by decide) (by omega)
      have hq4 : un (jl_shl q (2 : Int32)) = un q * 4 := un_shl' (k := 2) e2 (by decide) (by omega)
      have hq2 : un (jl_shl q (1 : Int32)) = un q * 2 := un_shl' (k := 1) e1 (by decide) (by omega)
      have hrest : un (jl_shl r (2 : Int32) ||| jl_ushr x (62 : Int32)) = 4 * un r + un x / 2 ^ 62 := by rw [un_or, hr4, htwo, or4 (by omega)]
      have htrial : un (jl_shl q (2 : Int32) ||| (1 : Int64)) = 4 * un q + 1 := by rw [un_or, hq4, u1, or4 (by decide)]
      have hN : M * 4 ^ (t + 1) / 18446744073709551616 = 4 * (M * 4 ^ t / 18446744073709551616) + un x / 2 ^ 62 := by
        have g := quad (M * 4 ^ t) 18446744073709551616 (by decide)
        rw [show M * 4 ^ (t + 1) = 4 * (M * 4 ^ t) from by rw [Nat.pow_succ, ← Nat.mul_assoc, Nat.mul_comm], g, ← hx]
        congr 1
        omega
      by_cases c2 : (jl_shl r (2 : Int32) ||| jl_ushr x (62 : Int32)) < (jl_shl q (2 : Int32) ||| (1 : Int64))
      · rw [if_pos c2]
        rw [un_lt' (by omega) (by omega), hrest, htrial] at c2
        obtain ⟨g1, g2⟩ := rt_step0 (t := un x / 2 ^ 62) hinv (by omega)
        apply ih _ _ _ _ (t + 1) (by omega) hi2 (by omega) hx2
        · rw [hq2, hrest, hN, ← g1, Nat.mul_comm (un q) 2]
        · rw [hq2, hrest]; omega
        · rw [hq2, Nat.pow_succ]; omega
      · rw [if_neg c2]
        rw [un_lt' (by omega) (by omega), hrest, htrial] at c2
        obtain ⟨g1, g2⟩ := rt_step1 (t := un x / 2 ^ 62) hinv hr (by omega) (by omega)
        have hqq : un (jl_shl q (1 : Int32) ||| (1 : Int64)) = 2 * un q + 1 := by
          rw [un_or, hq2, u1, or_add (k := 1) (by omega) (by decide)]
          omega
        have hrr : un ((jl_shl r (2 : Int32) ||| jl_ushr x (62 : Int32)) - (jl_shl q (2 : Int32) ||| (1 : Int64))) = 4 * un r + un x / 2 ^ 62 - (4 * un q + 1) := by
          rw [un_sub_le (by omega), hrest, htrial]
        apply ih _ _ _ _ (t + 1) (by omega) hi2 (by omega) hx2
        · rw [hqq, hrr, hN, ← g1]
        · rw [hqq, hrr]; omega
        · rw [hqq, Nat.pow_succ]; omega
/-- the pairs of bits, the highest first -/
theorem two_v {X : Int64} {j : Int32} {t : Nat} (hX : un X < 2 ^ 56) (hj : j.toInt = t) (ht : t < 57) :
    (54 - 2 * (t : Int) < 0 → 4 * (un X * 4 ^ t % 72057594037927936) / 72057594037927936 = 0) ∧ (¬ 54 - 2 * (t : Int) < 0 → un (jl_ushr X ((54 : Int32) - ((2 : Int32) * j)) &&& (3 : Int64)) = 4 * (un X * 4 ^ t % 72057594037927936) / 72057594037927936) := by
  have e2 : (2 : Int32).toInt = 2 := by decide
  have e54 : (54 : Int32).toInt = 54 := by decide
  constructor
  · intro h
    have : 4 ^ t = 4 ^ (t - 28) * 72057594037927936 := by
      rw [show (72057594037927936 : Nat) = 4 ^ 28 from by decide, ← Nat.pow_add]
      congr 1
      omega
    rw [this, ← Nat.mul_assoc, Nat.mul_mod_left]
  · intro h
    have g1 : ((2 : Int32) * j).toInt = 2 * t := by rw [mi_mul (by rw [e2, hj]; omega) (by rw [e2, hj]; omega), e2, hj]
    have g2 : ((54 : Int32) - ((2 : Int32) * j)).toInt = (54 - 2 * t : Nat) := by rw [mi_sub (by omega) (by omega), e54, g1]; omega
    have h3 : un (3 : Int64) = 2 ^ 2 - 1 := by decide
    rw [un_and, un_ushr' g2 (by omega), h3, Nat.and_two_pow_sub_one_eq_mod]
    have hD : (72057594037927936 : Nat) = 2 ^ (54 - 2 * t) * 4 * 4 ^ t := by
      rw [show (4 : Nat) = 2 ^ 2 from rfl, ← Nat.pow_mul, ← Nat.pow_add, ← Nat.pow_add, show 54 - 2 * t + 2 + 2 * t = 56 from by omega]
    have hT : 0 < 4 ^ t := Nat.pow_pos (by decide)
    have hS := Nat.two_pow_pos (54 - 2 * t)
    generalize 2 ^ (54 - 2 * t) = S at *
    generalize 4 ^ t = T at *
    rw [hD, Nat.mul_mod_mul_right, ← Nat.mul_assoc, Nat.mul_div_mul_right _ _ hT, Nat.mul_comm S 4, Nat.mul_div_mul_left _ _ (by decide), Nat.mul_comm 4 S, Nat.mod_mul_right_div_self]
theorem rtB_loop {X : Int64} (hX : un X < 2 ^ 56) : ∀ (k : Nat) (q r : Int64) (i : Int32) (t : Nat), (57 - t : Nat) < k → i.toInt = t → t ≤ 57 → un q * un q + un r = un X * 4 ^ t / 72057594037927936 → un r ≤ 2 * un q → un q < 2 ^ t →
    ∃ q' r' : Int64, ∃ i' : Int32, gX5_root_114 X k q r i = (q', r', i') ∧ un q' * un q' + un r' = un X * 4 ^ 57 / 72057594037927936 ∧ un r' ≤ 2 * un q' ∧ un q' < 2 ^ 57 := by
  have e1 : (1 : Int32).toInt = 1 := by decide
  have e2 : (2 : Int32).toInt = 2 := by decide
  have e0 : (0 : Int32).toInt = 0 := by decide
  have e57 : (57 : Int32).toInt = 57 := by decide
  have e54 : (54 : Int32).toInt = 54 := by decide
  have u1 : un (1 : Int64) = 1 := by decide
  have u0 : un (0 : Int64) = 0 := by decide
  intro k
  induction k with
  | zero => intro q r i t h; omega
  | succ k ih =>
    intro q r i t hk hi ht hinv hr hq
    rw [gX5_root_114]
    by_cases c : (57 : Int32) ≤ i
    · rw [if_pos c]
      rw [mi_le, e57, hi] at c
      have : t = 57 := by omega
      subst this
      exact ⟨_, _, _, rfl, hinv, hr, hq⟩
    · rw [if_neg c]
      rw [mi_le, e57, hi] at c
      have ht54 : 2 ^ t ≤ 2 ^ 56 := Nat.pow_le_pow_right (by decide) (by omega)
      have hi2 : (i + 1).toInt = (t + 1 : Nat) := by rw [mi_add (by omega) (by omega), hi, e1]; omega
      obtain ⟨tw0, tw1⟩ := two_v (j := i) hX hi (by omega)
      have hr4 : un (jl_shl r (2 : Int32)) = un r * 4 := un_shl' (k := 2) e2 (by decide) (by omega)
      have hq4 : un (jl_shl q (2 : Int32)) = un q * 4 := un_shl' (k := 2) e2 (by decide) (by omega)
      have hq2 : un (jl_shl q (1 : Int32)) = un q * 2 := un_shl' (k := 1) e1 (by decide) (by omega)
      have htrial : un (jl_shl q (2 : Int32) ||| (1 : Int64)) = 4 * un q + 1 := by rw [un_or, hq4, u1, or4 (by decide)]
      have htl : 4 * (un X * 4 ^ t % 72057594037927936) / 72057594037927936 < 4 := by omega
      have hN : un X * 4 ^ (t + 1) / 72057594037927936 = 4 * (un X * 4 ^ t / 72057594037927936) + 4 * (un X * 4 ^ t % 72057594037927936) / 72057594037927936 := by
        have g := quad (un X * 4 ^ t) 72057594037927936 (by decide)
        rw [show un X * 4 ^ (t + 1) = 4 * (un X * 4 ^ t) from by rw [Nat.pow_succ, ← Nat.mul_assoc, Nat.mul_comm], g]
      generalize 4 * (un X * 4 ^ t % 72057594037927936) / 72057594037927936 = T at *
      -- the rest with its two bits
      have step : ∀ R : Int64, un R = 4 * un r + T → ∃ q' r' : Int64, ∃ i' : Int32, (if R < (jl_shl q (2 : Int32) ||| (1 : Int64)) then gX5_root_114 X k (jl_shl q (1 : Int32)) R (i + 1) else gX5_root_114 X k (jl_shl q (1 : Int32) + (1 : Int64)) (R - (jl_shl q (2 : Int32) ||| (1 : Int64))) (i + 1)) = (q', r', i') ∧ un q' * un q' + un r' = un X * 4 ^ 57 / 72057594037927936 ∧ un r' ≤ 2 * un q' ∧ un q' < 2 ^ 57 := by
        intro R hR
        by_cases c2 : R < (jl_shl q (2 : Int32) ||| (1 : Int64))
        · rw [if_pos c2]
          rw [un_lt' (by omega) (by omega), hR, htrial] at c2
          obtain ⟨g1, g2⟩ := rt_step0 (t := T) hinv (by omega)
          apply ih _ _ _ (t + 1) (by omega) hi2 (by omega)
          · rw [hq2, hR, hN, ← g1, Nat.mul_comm (un q) 2]
          · rw [hq2, hR]; omega
          · rw [hq2, Nat.pow_succ]; omega
        · rw [if_neg c2]
          rw [un_lt' (by omega) (by omega), hR, htrial] at c2
          obtain ⟨g1, g2⟩ := rt_step1 (t := T) hinv hr (by omega) (by omega)
          have hqq : un (jl_shl q (1 : Int32) + (1 : Int64)) = 2 * un q + 1 := by
            rw [un_add, hq2, u1, Nat.mod_eq_of_lt (by omega)]
            omega
          have hrr : un (R - (jl_shl q (2 : Int32) ||| (1 : Int64))) = 4 * un r + T - (4 * un q + 1) := by
            rw [un_sub_le (by omega), hR, htrial]
          apply ih _ _ _ (t + 1) (by omega) hi2 (by omega)
          · rw [hqq, hrr, hN, ← g1]
          · rw [hqq, hrr]; omega
          · rw [hqq, Nat.pow_succ]; omega
      have g1 : ((2 : Int32) * i).toInt = 2 * t := by rw [mi_mul (by rw [e2, hi]; omega) (by rw [e2, hi]; omega), e2, hi]
      have g2 : ((54 : Int32) - ((2 : Int32) * i)).toInt = 54 - 2 * t := by rw [mi_sub (by omega) (by omega), e54, g1]
      by_cases c3 : ((54 : Int32) - ((2 : Int32) * i)) < 0
      · rw [if_pos c3]
        rw [mi_lt, g2, e0] at c3
        apply step
        rw [un_or, hr4, u0, Nat.or_zero, tw0 c3]
        omega
      · rw [if_neg c3]
        rw [mi_lt, g2, e0] at c3
        apply step
        rw [un_or, hr4, tw1 c3, or4 htl]
