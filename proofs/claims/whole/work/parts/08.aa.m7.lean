/-! ===== MATH: quotients ===== -/
/-- a quotient's digits with a last one that stands for the rest -/
def qs (N B : Nat) : Nat := 2 * (N / B) + if N % B = 0 then 0 else 1
theorem qs_jam {A B t k : Nat} (hB : 0 < B) : jam (qs (A * 2 ^ (t + k)) B) k (qs (A * 2 ^ t) B) := by
  have hK := Nat.two_pow_pos k
  unfold qs jam
  have h1 := Nat.div_add_mod (A * 2 ^ t) B
  have hr := Nat.mod_lt (A * 2 ^ t) hB
  have hN : A * 2 ^ (t + k) = A * 2 ^ t * 2 ^ k := by rw [Nat.pow_add, Nat.mul_assoc]
  rw [hN]
  generalize A * 2 ^ t = N at *
  generalize 2 ^ k = K at *
  generalize hQ : N / B = Q at *
  generalize hR : N % B = R at *
  have hNK : N * K = B * (Q * K) + R * K := by rw [← h1, Nat.add_mul, Nat.mul_assoc]
  by_cases c : R = 0
  · left
    rw [c, Nat.zero_mul, Nat.add_zero] at hNK
    rw [if_pos c, hNK, Nat.mul_div_cancel_left _ hB, Nat.mul_mod_right, if_pos rfl]
    simp only [Nat.add_zero]
    rw [Nat.mul_assoc]
  · right
    rw [if_neg c]
    have hq1 : Q * K ≤ N * K / B := by
      rw [Nat.le_div_iff_mul_le hB, hNK, Nat.mul_comm]
      omega
    have hq2 : N * K / B < (Q + 1) * K := by
      rw [Nat.div_lt_iff_lt_mul hB, ← h1]
      rw [Nat.mul_comm (Q + 1) K, Nat.mul_assoc, Nat.mul_comm _ K]
      apply Nat.mul_lt_mul_of_pos_left _ hK
      rw [Nat.add_mul, Nat.mul_comm Q B]
      omega
    refine ⟨by omega, ?_, ?_⟩
    · rw [show 2 * Q + 1 - 1 = 2 * Q from by omega, Nat.mul_assoc]
      by_cases g : N * K / B = Q * K
      · have g2 : N * K % B ≠ 0 := by
          have h4 := Nat.div_add_mod (N * K) B
          rw [g] at h4
          have : 0 < R * K := Nat.mul_pos (by omega) hK
          omega
        rw [if_neg g2]
        omega
      · omega
    · have h5 : (2 * Q + 1 + 1) * K = 2 * ((Q + 1) * K) := by
        rw [← Nat.mul_assoc]
        congr 1
      rw [h5]
      split <;> omega
/-- two of them, of more and of fewer digits, round alike -/
theorem qs_round {w : Bool} {A B t u : Nat} {e : Int} (hB : 0 < B) (hAB : B ≤ 2 * A) (ht : mt w + 3 ≤ t) (hu : mt w + 3 ≤ u) : rw_ w (qs (A * 2 ^ t) B) (e - t) = rw_ w (qs (A * 2 ^ u) B) (e - u) := by
  have hbig : ∀ v : Nat, mt w + 3 ≤ v → mt w + 4 ≤ nb (qs (A * 2 ^ v) B) ∧ 0 < qs (A * 2 ^ v) B := by
    intro v hv
    have h1 : 2 ^ (v - 1) ≤ A * 2 ^ v / B := by
      rw [Nat.le_div_iff_mul_le hB]
      have : 2 ^ v = 2 ^ (v - 1) * 2 := by
        rw [← Nat.pow_succ]
        congr 1
        omega
      rw [this, Nat.mul_comm A, Nat.mul_assoc]
      exact Nat.mul_le_mul_left _ hAB
    have h2 : 2 ^ v ≤ qs (A * 2 ^ v) B := by
      unfold qs
      have : 2 ^ v = 2 ^ (v - 1) * 2 := by
        rw [← Nat.pow_succ]
        congr 1
        omega
      omega
    have h3 := Nat.two_pow_pos v
    constructor
    · rcases Nat.lt_or_ge v (nb (qs (A * 2 ^ v) B)) with q | q
      · omega
      · have := nb_le.mp q
        omega
    · omega
  have half : ∀ v k : Nat, mt w + 3 ≤ v → rw_ w (qs (A * 2 ^ (v + k)) B) (e - (v + k : Nat)) = rw_ w (qs (A * 2 ^ v) B) (e - v) := by
    intro v k hv
    obtain ⟨g1, g2⟩ := hbig v hv
    unfold rw_
    have h := rn_jam (mt := mt w) (E0 := E0 w) (IN w) (e := e - (v + k : Nat)) (qs_jam (A := A) (t := v) (k := k) hB) g2 (Or.inr (by unfold ulp; omega))
    rw [h]
    congr 1
    omega
  rcases Nat.le_total t u with q | q
  · have h := half t (u - t) ht
    rw [show t + (u - t) = u from by omega] at h
    exact h.symm
  · have h := half u (t - u) hu
    rw [show u + (t - u) = t from by omega] at h
    exact h
theorem dvA_loop {w : Bool} {n : Int64} {ch : Int32} {A : Nat} {s0 : Int} (hn : 0 < un n) (hn2 : un n < 2 ^ (mt w + 1)) (hA : A < 2 * un n) (hc : ch.toInt = 62 - mt w) (hs0 : -20000 ≤ s0 ∧ s0 ≤ 20000) : ∀ (k : Nat) (r q : Int64) (s i : Int32) (t : Nat), (mt w + 3 - t : Nat) < k → i.toInt = t → t ≤ 60 → t % (62 - mt w) = 0 → s.toInt = s0 - t → un q * un n + un r = A * 2 ^ t → un r < un n →
    ∃ t' : Nat, mt w + 3 ≤ t' ∧ t' ≤ 60 ∧ (gX2_divided_117 w n ch k r q s i).2.2.1.toInt = s0 - t' ∧ un (gX2_divided_117 w n ch k r q s i).2.1 * un n + un (gX2_divided_117 w n ch k r q s i).1 = A * 2 ^ t' ∧ un (gX2_divided_117 w n ch k r q s i).1 < un n := by
  have hmt : 23 ≤ mt w ∧ mt w ≤ 52 := by cases w <;> decide
  have h53 : 2 ^ (mt w + 1) ≤ 2 ^ 53 := Nat.pow_le_pow_right (by decide) (by omega)
  have e3 : (3 : Int32).toInt = 3 := by decide
  have hfr := fr_mt w
  have hlim : (fo_fraction w + (3 : Int32)).toInt = mt w + 3 := by rw [mi_add (by omega) (by omega), hfr, e3]
  intro k
  induction k with
  | zero => intro r q s i t h; omega
  | succ k ih =>
    intro r q s i t hk hi ht60 htm hs hinv hr
    rw [gX2_divided_117]
    by_cases c : fo_fraction w + (3 : Int32) ≤ i
    · rw [if_pos c]
      rw [mi_le, hlim, hi] at c
      exact ⟨t, by omega, ht60, hs, hinv, hr⟩
    · rw [if_neg c]
      rw [mi_le, hlim, hi] at c
      have hnext : t + (62 - mt w) ≤ 60 := by
        cases w
        · have h1 : t % 39 = 0 := htm
          have h2 : ¬ ((23 : Nat) : Int) + 3 ≤ t := c
          show t + 39 ≤ 60
          omega
        · have h1 : t % 10 = 0 := htm
          have h2 : ¬ ((52 : Nat) : Int) + 3 ≤ t := c
          show t + 10 ≤ 60
          omega
      have hcN : ch.toInt = ((62 - mt w : Nat) : Int) := by omega
      have hrb : un r * 2 ^ (62 - mt w) < 2 ^ 63 := by
        have g2 : un r * 2 ^ (62 - mt w) < 2 ^ (mt w + 1) * 2 ^ (62 - mt w) := Nat.mul_lt_mul_of_pos_right (by omega) (Nat.two_pow_pos _)
        rw [← Nat.pow_add, show mt w + 1 + (62 - mt w) = 63 from by omega] at g2
        exact g2
      have hrs : un (jl_shl r ch) = un r * 2 ^ (62 - mt w) := un_shl' hcN (by omega) (by omega)
      have hrr : un (jl_rem (jl_shl r ch) n) = un r * 2 ^ (62 - mt w) % un n := by rw [un_rem (by omega) (by omega), hrs]
      have hrq : un (jl_shl r ch / n) = un r * 2 ^ (62 - mt w) / un n := by rw [un_div (by omega) (by omega), hrs]
      have hq1 : un q < 2 ^ (t + 1) := by
        have g1 : un q * un n < 2 ^ (t + 1) * un n := by
          have : A * 2 ^ t < 2 * un n * 2 ^ t := Nat.mul_lt_mul_of_pos_right hA (Nat.two_pow_pos _)
          have g3 : 2 ^ (t + 1) * un n = 2 * un n * 2 ^ t := by rw [Nat.pow_succ, Nat.mul_assoc, Nat.mul_comm (2 ^ t)]
          omega
        exact Nat.lt_of_mul_lt_mul_right g1
      have hqb : un q * 2 ^ (62 - mt w) < 2 ^ 61 := by
        have g2 : un q * 2 ^ (62 - mt w) < 2 ^ (t + 1) * 2 ^ (62 - mt w) := Nat.mul_lt_mul_of_pos_right hq1 (Nat.two_pow_pos _)
        rw [← Nat.pow_add] at g2
        exact Nat.lt_of_lt_of_le g2 (Nat.pow_le_pow_right (by decide) (by omega))
      have hqs : un (jl_shl q ch) = un q * 2 ^ (62 - mt w) := un_shl' hcN (by omega) (by omega)
      have hqlt : un r * 2 ^ (62 - mt w) / un n < 2 ^ (62 - mt w) := by
        rw [Nat.div_lt_iff_lt_mul hn, Nat.mul_comm]
        exact Nat.mul_lt_mul_of_pos_left hr (Nat.two_pow_pos _)
      have hqq : un (jl_shl q ch ||| (jl_shl r ch / n)) = un q * 2 ^ (62 - mt w) + un r * 2 ^ (62 - mt w) / un n := by
        rw [un_or, hqs, hrq, or_add (k := 62 - mt w) (Nat.mul_mod_left _ _) hqlt]
      apply ih _ _ _ _ (t + (62 - mt w))
      · omega
      · rw [mi_add (by omega) (by omega), hi, hcN]; omega
      · exact hnext
      · rw [Nat.add_mod_right]; exact htm
      · rw [mi_sub (by omega) (by omega), hs, hcN]; omega
      · rw [hqq, hrr, Nat.add_mul]
        have g1 := Nat.div_add_mod (un r * 2 ^ (62 - mt w)) (un n)
        rw [Nat.mul_comm] at g1
        rw [Nat.add_assoc, g1, Nat.pow_add, ← Nat.mul_assoc, ← hinv, Nat.add_mul]
        congr 1
        rw [Nat.mul_assoc, Nat.mul_assoc, Nat.mul_comm (un n)]
      · rw [hrr]; exact Nat.mod_lt _ hn
theorem dvB_loop {n : Int64} {A : Nat} (hn : 0 < un n) (hn2 : un n < 2 ^ 53) (hA : A < 2 * un n) : ∀ (k : Nat) (m q : Int64) (i : Int32) (t : Nat), (58 - t : Nat) < k → i.toInt = t → t ≤ 58 → A * 2 ^ t = 2 * (un q * un n) + un m → un m < 2 * un n →
    A * 2 ^ 58 = 2 * (un (gX5_divide_238 n k m q i).2.1 * un n) + un (gX5_divide_238 n k m q i).1 ∧ un (gX5_divide_238 n k m q i).1 < 2 * un n := by
  have e58 : (58 : Int32).toInt = 58 := by decide
  have e1 : (1 : Int32).toInt = 1 := by decide
  have u1 : un (1 : Int64) = 1 := by decide
  intro k
  induction k with
  | zero => intro m q i t h; omega
  | succ k ih =>
    intro m q i t hk hi ht hinv hm
    rw [gX5_divide_238]
    by_cases c : (58 : Int32) ≤ i
    · rw [if_pos c]
      rw [mi_le, e58, hi] at c
      have : t = 58 := by omega
      subst this
      exact ⟨hinv, hm⟩
    · rw [if_neg c]
      rw [mi_le, e58, hi] at c
      have hi2 : (i + 1).toInt = (t + 1 : Nat) := by rw [mi_add (by omega) (by omega), hi, e1]; omega
      have hq1 : un q < 2 ^ (t + 1) := by
        have g1 : un q * un n < 2 ^ (t + 1) * un n := by
          have : A * 2 ^ t < 2 * un n * 2 ^ t := Nat.mul_lt_mul_of_pos_right hA (Nat.two_pow_pos _)
          have g3 : 2 ^ (t + 1) * un n = 2 * un n * 2 ^ t := by rw [Nat.pow_succ, Nat.mul_assoc, Nat.mul_comm (2 ^ t)]
          omega
        exact Nat.lt_of_mul_lt_mul_right g1
      have hqb : 2 ^ (t + 1) ≤ 2 ^ 59 := Nat.pow_le_pow_right (by decide) (by omega)
      have hqs : un (jl_shl q (1 : Int32)) = un q * 2 := un_shl' (k := 1) e1 (by decide) (by omega)
      have hinv2 : A * 2 ^ (t + 1) = 2 * (un q * 2 * un n) + un m * 2 := by
        rw [Nat.pow_succ, ← Nat.mul_assoc, hinv, Nat.add_mul]
        congr 1
        rw [Nat.mul_assoc, Nat.mul_assoc, Nat.mul_assoc, Nat.mul_comm (un n) 2]
      by_cases c2 : m < n
      · rw [if_pos c2]
        rw [un_lt' (by omega) (by omega)] at c2
        have hms : un (jl_shl m (1 : Int32)) = un m * 2 := un_shl' (k := 1) e1 (by decide) (by omega)
        exact ih _ _ _ (t + 1) (by omega) hi2 (by omega) (by rw [hqs, hms]; exact hinv2) (by omega)
      · rw [if_neg c2]
        rw [un_lt' (by omega) (by omega)] at c2
        have hmn : un (m - n) = un m - un n := un_sub_le (by omega)
        have hms : un (jl_shl (m - n) (1 : Int32)) = (un m - un n) * 2 := by rw [un_shl' (k := 1) e1 (by decide) (by omega), hmn]
        have hq2 : un (jl_shl q (1 : Int32) + (1 : Int64)) = un q * 2 + 1 := by rw [un_add, hqs, u1, Nat.mod_eq_of_lt (by omega)]
        apply ih _ _ _ (t + 1) (by omega) hi2 (by omega)
        · rw [hq2, hms, hinv2, Nat.add_mul, Nat.one_mul]
          omega
        · omega
