/-! ===== MATH: rounding to nearest even ===== -/
/-- how many bits a number has -/
def nb (n : Nat) : Nat := if n = 0 then 0 else n.log2 + 1
theorem nb_le {n k : Nat} : nb n ≤ k ↔ n < 2 ^ k := by
  unfold nb
  split
  · rename_i h
    subst h
    exact ⟨fun _ => Nat.two_pow_pos k, fun _ => Nat.zero_le _⟩
  · rename_i h
    rw [← Nat.log2_lt h]
    exact Iff.rfl
theorem nb_hi (n : Nat) : n < 2 ^ nb n := nb_le.mp (Nat.le_refl _)
theorem nb_lo {n : Nat} (h : 0 < n) : 2 ^ (nb n - 1) ≤ n := by
  rcases Nat.lt_or_ge n (2 ^ (nb n - 1)) with q | q
  · have h1 := nb_le.mpr q
    have h2 : nb n ≠ 0 := by
      intro h3
      have h4 := nb_hi n
      rw [h3] at h4
      omega
    omega
  · exact q
theorem nb_pos {n : Nat} (h : 0 < n) : 0 < nb n := by
  rcases Nat.eq_zero_or_pos (nb n) with q | q
  · have h4 := nb_hi n
    rw [q] at h4
    omega
  · exact q
theorem nb_eq {n k : Nat} (h1 : 2 ^ k ≤ n) (h2 : n < 2 ^ (k + 1)) : nb n = k + 1 := by
  have h3 := nb_le.mpr h2
  rcases Nat.lt_or_ge k (nb n) with q | q
  · omega
  · have := nb_le.mp q
    omega
theorem nb_shift {n : Nat} (h : 0 < n) (k : Nat) : nb (n * 2 ^ k) = nb n + k := by
  have h1 := nb_hi n
  have h2 := nb_lo h
  have h3 := nb_pos h
  obtain ⟨j, hj⟩ : ∃ j, nb n = j + 1 := ⟨nb n - 1, by omega⟩
  rw [hj] at h1 h2 ⊢
  have h5 : 0 < 2 ^ k := Nat.two_pow_pos k
  have h6 : nb (n * 2 ^ k) = (j + k) + 1 := by
    apply nb_eq
    · rw [Nat.pow_add]
      exact Nat.mul_le_mul_right _ h2
    · rw [show j + k + 1 = (j + 1) + k from by omega, Nat.pow_add 2 (j + 1) k]
      exact Nat.mul_lt_mul_of_pos_right h1 h5
  omega
theorem nb_mono {a b : Nat} (h : a ≤ b) : nb a ≤ nb b := nb_le.mpr (Nat.lt_of_le_of_lt h (nb_hi b))
/-- N halved d times, to the nearest, the even one of two -/
def rq (N d : Nat) : Nat := if 2 ^ d < 2 * (N % 2 ^ d) ∨ (2 ^ d = 2 * (N % 2 ^ d) ∧ N / 2 ^ d % 2 = 1) then N / 2 ^ d + 1 else N / 2 ^ d
def hv (N : Nat) (d : Int) : Nat := if d ≤ 0 then N * 2 ^ (-d).toNat else rq N d.toNat
/-- N times 2^e as the bits of a size: mt digits, the least exponent E0, inf the infinite one -/
def ulp (mt : Nat) (E0 : Int) (N : Nat) (e : Int) : Int := max (nb N + e - (mt + 1)) E0
def rn (mt : Nat) (E0 : Int) (inf N : Nat) (e : Int) : Nat := min inf ((ulp mt E0 N e - E0).toNat * 2 ^ mt + hv N (ulp mt E0 N e - e))
theorem rq_shift (N d k : Nat) : rq (N * 2 ^ k) (d + k) = rq N d := by
  have h5 : 0 < 2 ^ k := Nat.two_pow_pos k
  unfold rq
  rw [Nat.pow_add, Nat.mul_div_mul_right _ _ h5, Nat.mul_mod_mul_right]
  have e1 : (2 ^ d * 2 ^ k < 2 * (N % 2 ^ d * 2 ^ k)) ↔ (2 ^ d < 2 * (N % 2 ^ d)) := by
    rw [← Nat.mul_assoc]
    exact Nat.mul_lt_mul_right h5
  have e2 : (2 ^ d * 2 ^ k = 2 * (N % 2 ^ d * 2 ^ k)) ↔ (2 ^ d = 2 * (N % 2 ^ d)) := by
    rw [← Nat.mul_assoc]
    exact Nat.mul_left_inj (Nat.ne_of_gt h5)
  simp only [e1, e2]
theorem rq_zero (N : Nat) : rq N 0 = N := by
  unfold rq
  rw [Nat.pow_zero, Nat.mod_one, Nat.div_one, if_neg (by omega)]
theorem rq_exact (N d k : Nat) (h : d ≤ k) : rq (N * 2 ^ k) d = N * 2 ^ (k - d) := by
  have h1 : N * 2 ^ k = (N * 2 ^ (k - d)) * 2 ^ d := by rw [Nat.mul_assoc, ← Nat.pow_add, Nat.sub_add_cancel h]
  have h2 := rq_shift (N * 2 ^ (k - d)) 0 d
  rw [h1, Nat.zero_add] at *
  rw [h2, rq_zero]
theorem hv_shift (N k : Nat) (d : Int) : hv (N * 2 ^ k) (d + k) = hv N d := by
  unfold hv
  by_cases h : d ≤ 0
  · rw [if_pos h]
    by_cases h1 : d + k ≤ 0
    · rw [if_pos h1, Nat.mul_assoc, ← Nat.pow_add]
      congr 2
      omega
    · rw [if_neg h1, rq_exact _ _ _ (by omega)]
      congr 2
      omega
  · rw [if_neg h, if_neg (by omega)]
    have h2 : (d + k).toNat = d.toNat + k := by omega
    rw [h2, rq_shift]
theorem ulp_shift (mt : Nat) (E0 : Int) {N : Nat} (hN : 0 < N) (k : Nat) (e : Int) : ulp mt E0 (N * 2 ^ k) e = ulp mt E0 N (e + k) := by
  unfold ulp
  rw [nb_shift hN]
  congr 1
  omega
theorem rn_shift (mt : Nat) (E0 : Int) (inf : Nat) {N : Nat} (hN : 0 < N) (k : Nat) (e : Int) : rn mt E0 inf (N * 2 ^ k) e = rn mt E0 inf N (e + k) := by
  unfold rn
  rw [ulp_shift mt E0 hN]
  have h : ulp mt E0 N (e + k) - e = (ulp mt E0 N (e + k) - (e + k)) + k := by omega
  rw [h, hv_shift]
/-- m stands for N halved k times: just so, or m odd and N strictly between its neighbours -/
def jam (N k m : Nat) : Prop := N = m * 2 ^ k ∨ (m % 2 = 1 ∧ (m - 1) * 2 ^ k < N ∧ N < (m + 1) * 2 ^ k)
theorem rq_jam {N k m d : Nat} (h : jam N k m) (hd : 2 ≤ d) : rq N (d + k) = rq m d := by
  rcases h with h | ⟨ho, h1, h2⟩
  · rw [h, rq_shift]
  obtain ⟨c, rfl⟩ : ∃ c, d = c + 1 := ⟨d - 1, by omega⟩
  obtain ⟨b, rfl⟩ : ∃ b, c = b + 1 := ⟨c - 1, by omega⟩
  have hK : 0 < 2 ^ k := Nat.two_pow_pos k
  have hB : 0 < 2 ^ b := Nat.two_pow_pos b
  generalize hKe : 2 ^ k = K at *
  generalize hBe : 2 ^ b = B at *
  have e1 : 2 ^ (b + 1 + 1) = 4 * B := by rw [Nat.pow_succ, Nat.pow_succ, hBe]; omega
  have e2 : 2 ^ (b + 1 + 1 + k) = 4 * B * K := by rw [Nat.pow_add, e1, hKe]
  unfold rq
  rw [e1, e2]
  generalize hq : m / (4 * B) = q
  generalize hr : m % (4 * B) = r
  have hm : m = 4 * B * q + r := by rw [← hq, ← hr]; exact (Nat.div_add_mod m (4 * B)).symm
  have hr1 : r < 4 * B := by rw [← hr]; exact Nat.mod_lt _ (by omega)
  have hro : r % 2 = 1 := by
    have : 4 * B * q = 2 * (2 * B * q) := by rw [← Nat.mul_assoc, ← Nat.mul_assoc]
    omega
  have hNq : N / (4 * B * K) = q := by
    apply Nat.div_eq_of_lt_le
    · have h3 : q * (4 * B * K) ≤ (m - 1) * K := by
        rw [← Nat.mul_assoc]
        apply Nat.mul_le_mul_right
        rw [Nat.mul_comm q]
        omega
      omega
    · have h3 : (m + 1) * K ≤ (q + 1) * (4 * B * K) := by
        rw [← Nat.mul_assoc]
        apply Nat.mul_le_mul_right
        rw [Nat.mul_comm (q + 1), Nat.mul_add]
        omega
      omega
  have hNr : N % (4 * B * K) + 4 * B * q * K = N := by
    have h3 := Nat.div_add_mod N (4 * B * K)
    rw [hNq] at h3
    have h4 : 4 * B * K * q = 4 * B * q * K := by rw [Nat.mul_assoc, Nat.mul_comm K q, ← Nat.mul_assoc]
    omega
  rw [hNq]
  generalize N % (4 * B * K) = R at *
  have g1 : (r - 1) * K < R := by
    have h3 : (m - 1) * K = 4 * B * q * K + (r - 1) * K := by
      rw [← Nat.add_mul]
      congr 1
      omega
    omega
  have g2 : R < (r + 1) * K := by
    have h3 : (m + 1) * K = 4 * B * q * K + (r + 1) * K := by
      rw [← Nat.add_mul]
      congr 1
      omega
    omega
  have e3 : 4 * B * K = 2 * (2 * B * K) := by rw [← Nat.mul_assoc, ← Nat.mul_assoc]
  by_cases c : 4 * B < 2 * r
  · have h3 : 2 * B * K ≤ (r - 1) * K := Nat.mul_le_mul_right _ (by omega)
    rw [if_pos (Or.inl (by omega)), if_pos (Or.inl c)]
  · have h3 : (r + 1) * K ≤ 2 * B * K := Nat.mul_le_mul_right _ (by omega)
    rw [if_neg (by omega), if_neg (by omega)]
theorem nb_jam {N k m : Nat} (h : jam N k m) (hm : 2 ≤ m) : nb N = nb m + k := by
  rcases h with h | ⟨ho, h1, h2⟩
  · rw [h, nb_shift (by omega)]
  have h3 := nb_hi m
  have h4 := nb_lo (n := m) (by omega)
  have h5 : 2 ≤ nb m := by
    rcases Nat.lt_or_ge 1 (nb m) with q | q
    · omega
    · have := nb_le.mp q
      omega
  obtain ⟨j, hj⟩ : ∃ j, nb m = j + 1 + 1 := ⟨nb m - 2, by omega⟩
  rw [hj] at h3 h4 ⊢
  rw [show j + 1 + 1 - 1 = j + 1 from rfl] at h4
  have hK : 0 < 2 ^ k := Nat.two_pow_pos k
  have h6 : nb N = (j + 1 + k) + 1 := by
    rw [Nat.pow_succ] at h4
    rw [Nat.pow_succ, Nat.pow_succ] at h3
    apply nb_eq
    · have h7 : 2 ^ (j + 1) * 2 ^ k ≤ (m - 1) * 2 ^ k := Nat.mul_le_mul_right _ (by rw [Nat.pow_succ]; omega)
      rw [Nat.pow_add]
      omega
    · have h7 : (m + 1) * 2 ^ k ≤ 2 ^ (j + 1 + 1) * 2 ^ k := Nat.mul_le_mul_right _ (by rw [Nat.pow_succ, Nat.pow_succ]; omega)
      rw [show j + 1 + k + 1 = (j + 1 + 1) + k from by omega, Nat.pow_add]
      omega
  omega
theorem rn_jam {mt : Nat} {E0 : Int} (inf : Nat) {N k m : Nat} {e : Int} (h : jam N k m) (hm : 0 < m) (hd : N = m * 2 ^ k ∨ 2 ≤ ulp mt E0 m (e + k) - (e + k)) : rn mt E0 inf N e = rn mt E0 inf m (e + k) := by
  by_cases hx : N = m * 2 ^ k
  · rw [hx, rn_shift mt E0 inf hm]
  have hd2 := hd.resolve_left hx
  have hu : ulp mt E0 N e = ulp mt E0 m (e + k) := by
    unfold ulp at hd2 ⊢
    by_cases h2 : 2 ≤ m
    · rw [nb_jam h h2]
      congr 1
      omega
    · have h1 : m = 1 := by omega
      subst h1
      have h3 : nb 1 = 1 := by decide
      have h4 : nb N ≤ k + 1 := by
        apply nb_le.mpr
        rcases h with h | ⟨-, -, h⟩
        · exact absurd h hx
        · rw [Nat.pow_succ]; omega
      rw [h3] at hd2 ⊢
      omega
  unfold rn
  rw [hu]
  generalize ulp mt E0 m (e + k) = u at *
  unfold hv
  rw [if_neg (by omega), if_neg (by omega)]
  have h5 : (u - e).toNat = (u - (e + k)).toNat + k := by omega
  rw [h5, rq_jam h (by omega)]
