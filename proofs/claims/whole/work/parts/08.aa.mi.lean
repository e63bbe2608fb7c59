theorem mi_div {x y : Int32} (hx : 0 ≤ x.toInt) (hy : 0 < y.toInt) : (x / y).toInt = x.toInt / y.toInt := by
  have h1 := mi_hi x
  rw [Int32.toInt_div, Int.tdiv_eq_ediv_of_nonneg hx, Int.bmod_eq_of_le]
  · have : 0 ≤ x.toInt / y.toInt := Int.ediv_nonneg hx (by omega)
    omega
  · have : x.toInt / y.toInt ≤ x.toInt := Int.ediv_le_self _ hx
    omega
theorem mi_rem {x : Int32} (hx : 0 ≤ x.toInt) : (ji_rem x (16 : Int32)).toInt = x.toInt % 16 := by
  have e16 : (16 : Int32).toInt = 16 := by decide
  have h1 := mi_hi x
  have h2 : (x / (16 : Int32)).toInt = x.toInt / 16 := by rw [mi_div hx (by decide), e16]
  have h3 : (x / (16 : Int32) * (16 : Int32)).toInt = x.toInt / 16 * 16 := by rw [mi_mul (by rw [h2, e16]; omega) (by rw [h2, e16]; omega), h2, e16]
  unfold ji_rem
  rw [mi_sub (by omega) (by omega), h3]
  omega
theorem addTo_v {us : Nat → Int64} {x1 x4 : Int32} {m : Int64} {B : Int} (he : 0 ≤ x4.toInt + 2200 ∧ x4.toInt + 2200 ≤ 4560) (hb : bnd us B) (hB : 0 ≤ B ∧ B + 262144 < 2 ^ 38) :
    sv (fX5_addTo us x1 m x4) 290 = sv us 290 + sn x1 * ((un m * 2 ^ (x4.toInt + 2200).toNat : Nat) : Int) ∧ bnd (fX5_addTo us x1 m x4) (B + 262144) := by
  have e2200 : (2200 : Int32).toInt = 2200 := by decide
  have e16 : (16 : Int32).toInt = 16 := by decide
  have hp : (x4 + (2200 : Int32)).toInt = x4.toInt + 2200 := by rw [mi_add (by omega) (by omega), e2200]
  have h6 : (ji_rem (x4 + (2200 : Int32)) (16 : Int32)).toInt = ((x4.toInt + 2200).toNat % 16 : Nat) := by
    rw [mi_rem (by omega), hp]
    omega
  have h7 : ((x4 + (2200 : Int32)) / (16 : Int32)).toInt = ((x4.toInt + 2200).toNat / 16 : Nat) := by
    rw [mi_div (by omega) (by decide), hp, e16]
    omega
  unfold fX5_addTo fX5_addTo_120
  obtain ⟨h1, h2⟩ := ad_loop (x1 := x1) (m := m) h6 (by omega) h7 (by omega) (Nat.succ (((4 : Int32).toInt - (0 : Int32).toInt).toNat)) us (0 : Int32) 0 B (by decide) (by omega) (by decide) hb (by omega)
  refine ⟨?_, h2⟩
  rw [h1]
  have h3 : un m - un m % 2 ^ (16 * 0) = un m := by
    rw [Nat.mul_zero, Nat.pow_zero, Nat.mod_one]
    rfl
  have h4 : 16 * ((x4.toInt + 2200).toNat / 16) + (x4.toInt + 2200).toNat % 16 = (x4.toInt + 2200).toNat := Nat.div_add_mod _ _
  rw [h3, h4]
theorem ap_loop {x1 x6 : Int32} {m n : Int64} (hm : un m < 2 ^ 56) (hn : un n < 2 ^ 54) (he : 0 ≤ x6.toInt + 2200 ∧ x6.toInt + 2200 ≤ 4500) : ∀ (f : Nat) (us : Nat → Int64) (x7 : Int32) (j : Nat) (B : Int), x7.toInt = j → j ≤ 7 → 7 - j < f → bnd us B → (0 ≤ B ∧ B + (7 - (j : Int)) * 262144 < 2 ^ 38) →
    sv (gX5_addProduct_3 x1 m n x6 f us x7).1 290 = sv us 290 + sn x1 * (((un m - un m % 2 ^ (8 * j)) * un n * 2 ^ (x6.toInt + 2200).toNat : Nat) : Int) ∧ bnd (gX5_addProduct_3 x1 m n x6 f us x7).1 (B + (7 - j) * 262144) := by
  have e7 : (7 : Int32).toInt = 7 := by decide
  have e8 : (8 : Int32).toInt = 8 := by decide
  have e1 : (1 : Int32).toInt = 1 := by decide
  have u8 : un (255 : Int64) = 2 ^ 8 - 1 := by decide
  intro f
  induction f with
  | zero => intro us x7 j B _ _ h; omega
  | succ f ih =>
    intro us x7 j B h7 hj hf hb hB
    rw [gX5_addProduct_3]
    by_cases c : (7 : Int32) ≤ x7
    · rw [if_pos c]
      rw [mi_le, e7, h7] at c
      have : j = 7 := by omega
      subst this
      have h0 : un m - un m % 2 ^ (8 * 7) = 0 := by
        rw [Nat.mod_eq_of_lt hm, Nat.sub_self]
      rw [h0, Nat.zero_mul, Nat.zero_mul]
      refine ⟨by simp, ?_⟩
      intro k hk
      have h9 := hb k hk
      show -(B + (7 - ((7 : Nat) : Int)) * 262144) ≤ (us k).toInt ∧ (us k).toInt ≤ B + (7 - ((7 : Nat) : Int)) * 262144
      omega
    · rw [if_neg c]
      rw [mi_le, e7, h7] at c
      have h8 : ((8 : Int32) * x7).toInt = (8 * j : Nat) := by
        rw [mi_mul (by rw [e8, h7]; omega) (by rw [e8, h7]; omega), e8, h7]
        omega
      have hp : un (jl_ushr m ((8 : Int32) * x7) &&& (255 : Int64)) = un m / 2 ^ (8 * j) % 256 := by
        rw [un_and, un_ushr' h8 (by omega), u8, Nat.and_two_pow_sub_one_eq_mod]
      have hpl : un m / 2 ^ (8 * j) % 256 < 256 := Nat.mod_lt _ (by decide)
      have hq : un m / 2 ^ (8 * j) % 256 * un n < 2 ^ 63 := by
        have : un m / 2 ^ (8 * j) % 256 * un n ≤ 255 * 2 ^ 54 := Nat.mul_le_mul (by omega) (by omega)
        omega
      have hpr : un ((jl_ushr m ((8 : Int32) * x7) &&& (255 : Int64)) * n) = un m / 2 ^ (8 * j) % 256 * un n := by
        rw [un_mul, hp, Nat.mod_eq_of_lt (by omega)]
      have hex : (x6 + (8 : Int32) * x7).toInt = x6.toInt + (8 * j : Nat) := by rw [mi_add (by omega) (by omega), h8]
      obtain ⟨s1, s2⟩ := addTo_v (us := us) (x1 := x1) (x4 := x6 + (8 : Int32) * x7) (m := (jl_ushr m ((8 : Int32) * x7) &&& (255 : Int64)) * n) (B := B) (by omega) hb (by omega)
      obtain ⟨r1, r2⟩ := ih _ (x7 + 1) (j + 1) (B + 262144) (by rw [mi_add (by omega) (by omega), e1]; omega) (by omega) (by omega) s2 (by omega)
      constructor
      · rw [r1, s1, hpr, hex]
        have hpow : 2 ^ (8 * (j + 1)) = 2 ^ (8 * j) * 256 := by
          rw [show 8 * (j + 1) = 8 * j + 8 from by omega, Nat.pow_add]
        have hmm : un m % 2 ^ (8 * (j + 1)) = un m % 2 ^ (8 * j) + 2 ^ (8 * j) * (un m / 2 ^ (8 * j) % 256) := by
          rw [hpow, Nat.mod_mul]
        have hle := Nat.mod_le (un m) (2 ^ (8 * (j + 1)))
        have e9 : (x6.toInt + ((8 * j : Nat) : Int) + 2200).toNat = (x6.toInt + 2200).toNat + 8 * j := by omega
        have hsum : un m / 2 ^ (8 * j) % 256 * un n * 2 ^ ((x6.toInt + 2200).toNat + 8 * j) + (un m - un m % 2 ^ (8 * (j + 1))) * un n * 2 ^ (x6.toInt + 2200).toNat = (un m - un m % 2 ^ (8 * j)) * un n * 2 ^ (x6.toInt + 2200).toNat := by
          have e7 : 2 ^ (8 * j) * (un m / 2 ^ (8 * j) % 256) + (un m - un m % 2 ^ (8 * (j + 1))) = un m - un m % 2 ^ (8 * j) := by
            rw [hmm] at hle ⊢
            exact sub_move hle
          rw [← e7, Nat.pow_add]
          generalize un m / 2 ^ (8 * j) % 256 = q
          generalize un m - un m % 2 ^ (8 * (j + 1)) = r
          generalize 2 ^ (8 * j) = a
          generalize 2 ^ (x6.toInt + 2200).toNat = b
          generalize un n = d
          grind
        rw [e9, ← hsum, Int.natCast_add, Int.mul_add]
        omega
      · intro k hk
        have := r2 k hk
        omega
theorem addProduct_v {us : Nat → Int64} {x1 x6 : Int32} {m n : Int64} (hm : un m < 2 ^ 56) (hn : un n < 2 ^ 54) (he : 0 ≤ x6.toInt + 2200 ∧ x6.toInt + 2200 ≤ 4500) (hb : bnd us 0) :
    sv (fX5_addProduct us x1 m n x6) 290 = sv us 290 + sn x1 * ((un m * un n * 2 ^ (x6.toInt + 2200).toNat : Nat) : Int) ∧ bnd (fX5_addProduct us x1 m n x6) 2000000 := by
  unfold fX5_addProduct fX5_addProduct_43
  obtain ⟨h1, h2⟩ := ap_loop (x1 := x1) (x6 := x6) hm hn he (Nat.succ (((7 : Int32).toInt - (0 : Int32).toInt).toNat)) us (0 : Int32) 0 0 (by decide) (by omega) (by decide) hb (by decide)
  constructor
  · rw [h1]
    have h3 : un m - un m % 2 ^ (8 * 0) = un m := by
      rw [Nat.mul_zero, Nat.pow_zero, Nat.mod_one]
      rfl
    rw [h3]
  · intro k hk
    have := h2 k hk
    omega
theorem clr_bnd (us : Nat → Int64) : bnd (fX5_clearSum us) 0 := by
  intro k hk
  rw [clr_v us k hk]
  decide
theorem clr_sv (us : Nat → Int64) : sv (fX5_clearSum us) 290 = 0 := sv_zero 290 (clr_v us)
/-- digits and what goes over -/
theorem and16 (t : Int64) : (t &&& (65535 : Int64)).toInt = t.toInt % 65536 := by
  have u16 : un (65535 : Int64) = 2 ^ 16 - 1 := by decide
  have h1 : un (t &&& (65535 : Int64)) = un t % 65536 := by rw [un_and, u16, Nat.and_two_pow_sub_one_eq_mod]
  have h2 := un_toInt t
  rw [un_pos (by omega), h1]
  split at h2 <;> omega
theorem shr16 (t : Int64) : (jl_shr t (16 : Int32)).toInt = t.toInt / 65536 := by
  show (t >>> ((16 : Int32).toInt64 &&& 63)).toInt = _
  have h1 : ((16 : Int32).toInt64 &&& 63 : Int64) = 16 := by decide
  rw [h1]
  have h2 : (t >>> (16 : Int64)).toBitVec = t.toBitVec.sshiftRight 16 := by
    rw [Int64.toBitVec_shiftRight]
    have h3 : (Int64.toBitVec 16).smod 64 = 16#64 := by decide
    rw [h3]
    rfl
  have h4 : (t >>> (16 : Int64)).toInt = (t.toBitVec.sshiftRight 16).toInt := by
    show (t >>> (16 : Int64)).toBitVec.toInt = _
    rw [h2]
  rw [h4, BitVec.toInt_sshiftRight, Int.shiftRight_eq_div_pow]
  rfl
def dig (us : Nat → Int64) : Prop := ∀ k, k < 290 → 0 ≤ (us k).toInt ∧ (us k).toInt < 65536
theorem ca_loop {PP : Nat} (hPP : PP = 2 ^ (16 * 290)) {B : Int} (hB : 0 ≤ B ∧ B < 2 ^ 40) : ∀ (f : Nat) (us : Nat → Int64) (x1 : Int64) (x3 : Int32) (j : Nat), x3.toInt = j → j ≤ 290 → 290 - j < f → (∀ k, j ≤ k → k < 290 → -B ≤ (us k).toInt ∧ (us k).toInt ≤ B) → (∀ k, k < j → 0 ≤ (us k).toInt ∧ (us k).toInt < 65536) → (-(2 ^ 41) ≤ x1.toInt ∧ x1.toInt ≤ 2 ^ 41) →
    dig (gX5_carry_4 f us x1 x3).1 ∧ sv (gX5_carry_4 f us x1 x3).1 290 + (gX5_carry_4 f us x1 x3).2.1.toInt * (PP : Int) = sv us 290 + x1.toInt * ((2 ^ (16 * j) : Nat) : Int) := by
  have e290 : (290 : Int32).toInt = 290 := by decide
  have e1 : (1 : Int32).toInt = 1 := by decide
  intro f
  induction f with
  | zero => intro us x1 x3 j _ _ h; omega
  | succ f ih =>
    intro us x1 x3 j h3 hj hf hb hd hx
    rw [gX5_carry_4]
    by_cases c : (290 : Int32) ≤ x3
    · rw [if_pos c]
      rw [mi_le, e290, h3] at c
      have : j = 290 := by omega
      subst this
      exact ⟨hd, by rw [hPP]⟩
    · rw [if_neg c]
      rw [mi_le, e290, h3] at c
      have hc : x3.toNatClampNeg = j := by
        show x3.toInt.toNat = j
        omega
      rw [hc]
      have hbj := hb j (Nat.le_refl _) (by omega)
      have ht : (x1 + us j).toInt = x1.toInt + (us j).toInt := ml_add (by omega) (by omega)
      have ha := and16 (x1 + us j)
      have hs := shr16 (x1 + us j)
      generalize hT : x1 + us j = T at *
      obtain ⟨r1, r2⟩ := ih (vp_updL us j (T &&& (65535 : Int64))) (jl_shr T (16 : Int32)) (x3 + 1) (j + 1) (by rw [mi_add (by omega) (by omega), e1]; omega) (by omega) (by omega) (by
        intro k hk1 hk2
        unfold vp_updL
        rw [if_neg (by omega)]
        exact hb k (by omega) hk2) (by
        intro k hk
        unfold vp_updL
        by_cases q : k = j
        · rw [if_pos q, ha]
          omega
        · rw [if_neg q]
          exact hd k (by omega)) (by rw [hs]; omega)
      refine ⟨r1, ?_⟩
      rw [r2, sv_upd 290 (by omega), ha, hs]
      have hpow : (2 ^ (16 * (j + 1)) : Nat) = 2 ^ (16 * j) * 65536 := by
        rw [show 16 * (j + 1) = 16 * j + 16 from by omega, Nat.pow_add]
      have hdm : T.toInt % 65536 + 65536 * (T.toInt / 65536) = T.toInt := Int.emod_add_mul_ediv _ _
      rw [hpow, Int.natCast_mul]
      generalize ((2 ^ (16 * j) : Nat) : Int) = P
      have h65 : ((65536 : Nat) : Int) = 65536 := rfl
      rw [h65]
      generalize T.toInt % 65536 = q at *
      generalize T.toInt / 65536 = r at *
      generalize sv us 290 = S0 at *
      grind
theorem sv_lo {us : Nat → Int64} (h : dig us) : ∀ n, n ≤ 290 → 0 ≤ sv us n ∧ sv us n < ((2 ^ (16 * n) : Nat) : Int) := by
  intro n
  induction n with
  | zero =>
    intro _
    show (0 : Int) ≤ 0 ∧ (0 : Int) < ((2 ^ (16 * 0) : Nat) : Int)
    decide
  | succ n ih =>
    intro hn
    obtain ⟨h1, h2⟩ := ih (by omega)
    obtain ⟨d1, d2⟩ := h n (by omega)
    have hpow : (2 ^ (16 * (n + 1)) : Nat) = 65536 * 2 ^ (16 * n) := by
      rw [show 16 * (n + 1) = 16 + 16 * n from by omega, Nat.pow_add]
    rw [sv, hpow, Int.natCast_mul]
    have hP : (0 : Int) < ((2 ^ (16 * n) : Nat) : Int) := by
      have := Nat.two_pow_pos (16 * n)
      omega
    have h65 : ((65536 : Nat) : Int) = 65536 := rfl
    rw [h65]
    generalize ((2 ^ (16 * n) : Nat) : Int) = P at *
    have g1 : 0 ≤ (us n).toInt * P := Int.mul_nonneg d1 (by omega)
    have g2 : (us n).toInt * P ≤ 65535 * P := Int.mul_le_mul_of_nonneg_right (by omega) (by omega)
    constructor
    · omega
    · omega
theorem carry_v {PP : Nat} (hPP : PP = 2 ^ (16 * 290)) {us : Nat → Int64} {B : Int} (hb : bnd us B) (hB : 0 ≤ B ∧ B < 2 ^ 40) : dig (fX5_carry us).2 ∧ sv (fX5_carry us).2 290 + (fX5_carry us).1.toInt * (PP : Int) = sv us 290 := by
  unfold fX5_carry fX5_carry_42
  dsimp only
  generalize hG : gX5_carry_4 (Nat.succ (((290 : Int32).toInt - (0 : Int32).toInt).toNat)) us (0 : Int64) (0 : Int32) = G
  obtain ⟨h1, h2⟩ := ca_loop hPP hB (Nat.succ (((290 : Int32).toInt - (0 : Int32).toInt).toNat)) us (0 : Int64) (0 : Int32) 0 (by decide) (by omega) (by decide) (fun k _ hk => hb k hk) (fun k hk => by omega) (by decide)
  rw [hG] at h1 h2
  refine ⟨h1, ?_⟩
  have e0 : (0 : Int64).toInt = 0 := by decide
  rw [e0, Int.zero_mul, Int.add_zero] at h2
  exact h2
