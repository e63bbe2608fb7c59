/-- the digits of the number that they make -/
theorem sv_digit {us : Nat → Int64} (h : dig us) : ∀ n, n ≤ 290 → ∀ j, j < n → (sv us n).toNat / 2 ^ (16 * j) % 65536 = (us j).toInt.toNat := by
  intro n
  induction n with
  | zero => intro _ j hj; omega
  | succ n ih =>
    intro hn j hj
    obtain ⟨a1, a2⟩ := sv_lo h n (by omega)
    obtain ⟨d1, d2⟩ := h n (by omega)
    have hP := Nat.two_pow_pos (16 * n)
    have e : (sv us (n + 1)).toNat = (sv us n).toNat + 2 ^ (16 * n) * (us n).toInt.toNat := by
      rw [sv]
      have h1 : (us n).toInt = ((us n).toInt.toNat : Int) := by omega
      rw [h1, Int.toNat_natCast, Nat.mul_comm (2 ^ (16 * n)) _]
      have h2 : ((us n).toInt.toNat : Int) * ((2 ^ (16 * n) : Nat) : Int) = (((us n).toInt.toNat * 2 ^ (16 * n) : Nat) : Int) := (Int.natCast_mul _ _).symm
      rw [h2]
      generalize (us n).toInt.toNat * 2 ^ (16 * n) = Q
      omega
    rw [e]
    by_cases c : j = n
    · subst c
      rw [Nat.add_mul_div_left _ _ hP, Nat.div_eq_of_lt (by omega), Nat.zero_add, Nat.mod_eq_of_lt (by omega)]
    · have hp : 2 ^ (16 * n) = 2 ^ (16 * j) * (65536 * 2 ^ (16 * (n - j - 1))) := by
        rw [show (65536 : Nat) = 2 ^ 16 from rfl, ← Nat.pow_add, ← Nat.pow_add]
        congr 1
        omega
      rw [← ih (by omega) j (by omega), hp, Nat.mul_assoc, Nat.mul_assoc, Nat.add_mul_div_left _ _ (Nat.two_pow_pos _), Nat.add_mul_mod_self_left]
/-- the numbers' steps, sixteen bits at a time -/
theorem up16 {N j d : Nat} (h : N / 2 ^ (16 * j) % 65536 = d) : N / 2 ^ (16 * j) = N / 2 ^ (16 * (j + 1)) * 65536 + d := by
  have e : N / 2 ^ (16 * (j + 1)) = N / 2 ^ (16 * j) / 65536 := by
    rw [Nat.div_div_eq_div_mul, show 16 * (j + 1) = 16 * j + 16 from by omega, Nat.pow_add]
  rw [e]
  omega
/-- one step down, as a number of its own -/
theorem dec1 {x : Int32} (h : 0 ≤ x.toInt) : ∃ y : Int32, y = x + (-1) ∧ y.toInt = x.toInt - 1 := by
  refine ⟨x + (-1), rfl, ?_⟩
  have em : (-1 : Int32).toInt = -1 := by decide
  have hh := mi_hi x
  rw [mi_add (by omega) (by omega), em]
  omega
theorem top_loop {us : Nat → Int64} {q : Nat → Nat} (hq : ∀ j, j < 290 → q j = q (j + 1) * 65536 + (us j).toInt.toNat) : ∀ (f : Nat) (x : Int32) (j : Nat), x.toInt + 1 = j → j < f → j ≤ 290 → q j = 0 →
    ∃ (y : Int32) (i : Nat), gX5_sumRounded_62 us f x = y ∧ y.toInt + 1 = i ∧ i ≤ 290 ∧ q i = 0 ∧ (∀ k, i = k + 1 → ¬ us k = 0) := by
  have e0 : (0 : Int32).toInt = 0 := by decide
  have l0 : (0 : Int64).toInt = 0 := by decide
  intro f
  induction f with
  | zero => intro x j _ h; omega
  | succ f ih =>
    intro x j hx hf hj hN
    rw [gX5_sumRounded_62]
    by_cases c : x < 0
    · rw [if_pos c]
      rw [mi_lt, e0] at c
      exact ⟨x, j, rfl, hx, hj, hN, fun k hk => absurd hk (by omega)⟩
    · rw [if_neg c]
      rw [mi_lt, e0] at c
      obtain ⟨k, rfl⟩ : ∃ k, j = k + 1 := ⟨j - 1, by omega⟩
      have hc : x.toNatClampNeg = k := by
        show x.toInt.toNat = k
        omega
      rw [hc]
      by_cases c2 : us k = 0
      · rw [if_pos c2]
        obtain ⟨y, hy, hy1⟩ := dec1 (x := x) (by omega)
        rw [← hy]
        clear hy
        refine ih y k (by omega) (by omega) (by omega) ?_
        rw [hq k (by omega), hN, c2, l0]
        rfl
      · rw [if_neg c2]
        refine ⟨x, k + 1, rfl, hx, hj, hN, fun i hi => ?_⟩
        rw [show i = k from by omega]
        exact c2
theorem take_loop {us : Nat → Int64} {q : Nat → Nat} (hq : ∀ j, j < 290 → q j = q (j + 1) * 65536 + (us j).toInt.toNat) (hdg : dig us) : ∀ (f : Nat) (m : Int64) (b x : Int32) (j : Nat), x.toInt + 1 = j → j < f → j ≤ 290 → un m = q j → b.toInt = nb (un m) → un m < 2 ^ 61 →
    ∃ (m' : Int64) (b' x' : Int32) (i : Nat), gX5_sumRounded_113 us f m b x = (m', b', x') ∧ x'.toInt + 1 = i ∧ i ≤ 290 ∧ un m' = q i ∧ b'.toInt = nb (un m') ∧ un m' < 2 ^ 61 ∧ (i = 0 ∨ 61 < nb (un m') + 16) := by
  have e0 : (0 : Int32).toInt = 0 := by decide
  have e16 : (16 : Int32).toInt = 16 := by decide
  have e61 : (61 : Int32).toInt = 61 := by decide
  intro f
  induction f with
  | zero => intro m b x j _ h; omega
  | succ f ih =>
    intro m b x j hx hf hj hm hb hlt
    have hnb61 : nb (un m) ≤ 61 := nb_le.mpr hlt
    rw [gX5_sumRounded_113]
    by_cases c : x < 0
    · rw [if_pos c]
      rw [mi_lt, e0] at c
      exact ⟨m, b, x, j, rfl, hx, hj, hm, hb, hlt, Or.inl (by omega)⟩
    · rw [if_neg c]
      rw [mi_lt, e0] at c
      obtain ⟨k, rfl⟩ : ∃ k, j = k + 1 := ⟨j - 1, by omega⟩
      have hs : (b + (16 : Int32)).toInt = nb (un m) + 16 := by rw [mi_add (by omega) (by omega), hb, e16]
      by_cases c2 : (61 : Int32) < b + (16 : Int32)
      · rw [if_pos c2]
        rw [mi_lt, e61, hs] at c2
        exact ⟨m, b, x, k + 1, rfl, hx, hj, hm, hb, hlt, Or.inr (by omega)⟩
      · rw [if_neg c2]
        rw [mi_lt, e61, hs] at c2
        clear hs
        have hc : x.toNatClampNeg = k := by
          show x.toInt.toNat = k
          omega
        rw [hc]
        obtain ⟨d1, d2⟩ := hdg k (by omega)
        have hu : un (us k) = (us k).toInt.toNat := un_of_int (by omega)
        have hml : un m < 2 ^ 45 := by
          have := nb_hi (un m)
          exact Nat.lt_of_lt_of_le this (Nat.pow_le_pow_right (by decide) (by omega))
        have hsh : un (jl_shl m (16 : Int32)) = un m * 65536 := un_shl' (k := 16) e16 (by decide) (by omega)
        have hor : un (jl_shl m (16 : Int32) ||| us k) = un m * 65536 + (us k).toInt.toNat := by
          rw [un_or, hsh, hu, or_add (k := 16) (by omega) (by omega)]
        generalize jl_shl m (16 : Int32) ||| us k = v at *
        have g := hq k (by omega)
        rw [← hm] at g
        obtain ⟨y, hy, hy1⟩ := dec1 (x := x) (by omega)
        rw [← hy]
        clear hy
        have hv : un v < 2 ^ 61 := by omega
        exact ih v (fX5_bitsOf v) y k (by omega) (by omega) (by omega) (by rw [hor, g]) (bits_v (Nat.lt_trans hv (by decide))) hv
theorem more_loop {us : Nat → Int64} {N : Nat} {x8 : Int32} (hd : ∀ j, j < 290 → N / 2 ^ (16 * j) % 65536 = (us j).toInt.toNat) (hdg : dig us) (h8 : -1 ≤ x8.toInt ∧ x8.toInt < 290) : ∀ (f : Nat) (g x : Int32) (j : Nat), (x8.toInt + 1 - x.toInt).toNat < f → x.toInt = j → (j : Int) ≤ x8.toInt + 1 → (g = 0 ∨ g = 1) →
    ((gX5_sumRounded_243 us x8 f g x).1 = 0 ∧ g = 0 ∧ N % 2 ^ (16 * (x8.toInt + 1).toNat) = N % 2 ^ (16 * j)) ∨ ((gX5_sumRounded_243 us x8 f g x).1 = 1 ∧ (g = 1 ∨ N % 2 ^ (16 * (x8.toInt + 1).toNat) ≠ 0)) := by
  have e1 : (1 : Int32).toInt = 1 := by decide
  have l0 : (0 : Int64).toInt = 0 := by decide
  have stuck : ∀ (f : Nat) (x : Int32), (x8.toInt + 1 - x.toInt).toNat < f → 0 ≤ x.toInt → x.toInt ≤ x8.toInt + 1 → (gX5_sumRounded_243 us x8 f 1 x).1 = 1 := by
    intro f
    induction f with
    | zero => intro x h; omega
    | succ f ih =>
      intro x hf hx hx2
      rw [gX5_sumRounded_243]
      by_cases c : x8 < x
      · rw [if_pos c]
      · rw [if_neg c]
        rw [mi_lt] at c
        rw [if_neg (by decide)]
        have hx1 : (x + 1).toInt = x.toInt + 1 := by rw [mi_add (by omega) (by omega), e1]
        exact ih _ (by omega) (by omega) (by omega)
  intro f
  induction f with
  | zero => intro g x j h; omega
  | succ f ih =>
    intro g x j hf hx hj hg
    rcases hg with rfl | rfl
    · rw [gX5_sumRounded_243]
      by_cases c : x8 < x
      · rw [if_pos c]
        rw [mi_lt] at c
        left
        refine ⟨rfl, rfl, ?_⟩
        rw [show (x8.toInt + 1).toNat = j from by omega]
      · rw [if_neg c, if_pos rfl]
        rw [mi_lt] at c
        have hc : x.toNatClampNeg = j := by
          show x.toInt.toNat = j
          omega
        rw [hc]
        have hx1 : (x + 1).toInt = (j + 1 : Nat) := by rw [mi_add (by omega) (by omega), e1]; omega
        have hmod : N % 2 ^ (16 * (j + 1)) = N % 2 ^ (16 * j) + 2 ^ (16 * j) * (us j).toInt.toNat := by
          rw [← hd j (by omega), show 16 * (j + 1) = 16 * j + 16 from by omega, Nat.pow_add, Nat.mod_mul]
        by_cases c2 : us j = (0 : Int64)
        · rw [if_pos c2]
          rcases ih 0 (x + 1) (j + 1) (by omega) hx1 (by omega) (Or.inl rfl) with ⟨h1, h2, h3⟩ | ⟨h1, h2⟩
          · left
            refine ⟨h1, rfl, ?_⟩
            rw [h3, hmod, c2, l0]
            rfl
          · right
            exact ⟨h1, h2⟩
        · rw [if_neg c2]
          right
          refine ⟨stuck f (x + 1) (by omega) (by omega) (by omega), Or.inr ?_⟩
          intro hz
          obtain ⟨d1, d2⟩ := hdg j (by omega)
          have hpos : 0 < (us j).toInt.toNat := by
            rw [ml_eq, l0] at c2
            omega
          have hdvd : 2 ^ (16 * (j + 1)) ∣ 2 ^ (16 * (x8.toInt + 1).toNat) := Nat.pow_dvd_pow 2 (by omega)
          have hz2 : N % 2 ^ (16 * (j + 1)) = 0 := by
            rw [← Nat.mod_mod_of_dvd N hdvd, hz, Nat.zero_mod]
          have := Nat.mul_pos (Nat.two_pow_pos (16 * j)) hpos
          omega
    · right
      exact ⟨stuck (f + 1) x hf (by omega) (by omega), Or.inl rfl⟩
