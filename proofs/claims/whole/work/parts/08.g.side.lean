/-- the decimal digits of V stand in the row, the lowest first, none of them too many -/
def tw_ok (V : Nat) (uf : Nat → Int32) (ua : Nat → Nat → Int32) : Prop :=
  ∃ n : Nat, (uf 13).toInt = n ∧ V < 10 ^ n ∧ (n = 0 ∨ 10 ^ (n - 1) ≤ V) ∧ ∀ i : Nat, i < n → (ua 12 i).toInt = (V / 10 ^ i % 10 : Nat)
def tw_lt (n : Nat) (uf : Nat → Int32) (ua : Nat → Nat → Int32) : Prop := (0 ≤ (uf 11).toInt ∧ (uf 11).toInt ≤ 1) ∧ ∃ V : Nat, tw_ok V uf ua ∧ V < 2 ^ n
def pw_ok (m : Int64) (e : Int32) : Prop := m.toBitVec.toNat < 2 ^ 24 ∧ -200 ≤ e.toInt ∧ e.toInt ≤ 104
def pw_out (uf : Nat → Int32) : Prop := (0 ≤ (uf 11).toInt) ∧ (0 ≤ (uf 13).toInt ∧ (uf 13).toInt ≤ 40) ∧ (uf 11).toInt + (uf 13).toInt ≤ 41
theorem rem_v {x y : Int32} (hx : 0 ≤ x.toInt) (hy : 0 < y.toInt) : (ji_rem x y).toInt = x.toInt % y.toInt := by
  have h1 := mi_div hx hy
  have h2 := Int.mul_ediv_add_emod x.toInt y.toInt
  have h3 := Int.emod_nonneg x.toInt (Int.ne_of_gt hy)
  have h4 := mi_hi x
  have h5 : 0 ≤ x.toInt / y.toInt := Int.ediv_nonneg hx (Int.le_of_lt hy)
  have h6 : 0 ≤ y.toInt * (x.toInt / y.toInt) := Int.mul_nonneg (Int.le_of_lt hy) h5
  unfold ji_rem
  have h7 : (x / y * y).toInt = y.toInt * (x.toInt / y.toInt) := by
    rw [mi_mul (by rw [h1, Int.mul_comm]; omega) (by rw [h1, Int.mul_comm]; omega), h1, Int.mul_comm]
  rw [mi_sub (by rw [h7]; omega) (by rw [h7]; omega), h7]
  omega
theorem tw_nat {V c j : Nat} : (2 * (V % 10 ^ j) + c) / 10 ^ j + 2 * (V / 10 ^ j % 10) = (2 * (V % 10 ^ (j + 1)) + c) / 10 ^ j := by
  have hP : 0 < 10 ^ j := Nat.pow_pos (by decide)
  rw [Nat.pow_succ, Nat.mod_mul]
  generalize V / 10 ^ j % 10 = d
  generalize V % 10 ^ j = r
  generalize 10 ^ j = P at *
  rw [show 2 * (r + P * d) + c = (2 * r + c) + P * (2 * d) from by rw [Nat.mul_add, Nat.mul_left_comm]; omega, Nat.add_mul_div_left _ _ hP]
theorem tw_nat2 {V c j : Nat} : (2 * (V % 10 ^ (j + 1)) + c) / 10 ^ j % 10 = (2 * V + c) / 10 ^ j % 10 := by
  have hP : 0 < 10 ^ j := Nat.pow_pos (by decide)
  have h := Nat.div_add_mod V (10 ^ (j + 1))
  have e : 2 * V + c = (2 * (V % 10 ^ (j + 1)) + c) + 10 ^ j * (10 * (2 * (V / 10 ^ (j + 1)))) := by
    rw [← Nat.mul_assoc, show 10 ^ j * 10 = 10 ^ (j + 1) from (Nat.pow_succ ..).symm, Nat.mul_left_comm]
    omega
  rw [e, Nat.add_mul_div_left _ _ hP, Nat.add_mul_mod_self_left]
theorem tw_loop {uf : Nat → Int32} {V n c : Nat} (hn : (uf 13).toInt = n) (hn2 : n ≤ 1000) (hc : c ≤ 1) : ∀ (f : Nat) (ua : Nat → Nat → Int32) (x2 x3 : Int32) (j : Nat), n - j < f → x3.toInt = j → j ≤ n → x2.toInt = ((2 * (V % 10 ^ j) + c) / 10 ^ j : Nat) → (∀ i, i < j → (ua 12 i).toInt = ((2 * V + c) / 10 ^ i % 10 : Nat)) → (∀ i, j ≤ i → i < n → (ua 12 i).toInt = (V / 10 ^ i % 10 : Nat)) →
    (gX5_twice_4 uf f ua x2 x3).2.1.toInt = ((2 * (V % 10 ^ n) + c) / 10 ^ n : Nat) ∧ (∀ i, i < n → ((gX5_twice_4 uf f ua x2 x3).1 12 i).toInt = ((2 * V + c) / 10 ^ i % 10 : Nat)) ∧ (∀ k, k ≠ 12 → (gX5_twice_4 uf f ua x2 x3).1 k = ua k) := by
  have e1 : (1 : Int32).toInt = 1 := by decide
  have e2 : (2 : Int32).toInt = 2 := by decide
  have e10 : (10 : Int32).toInt = 10 := by decide
  intro f
  induction f with
  | zero => intro ua x2 x3 j h; omega
  | succ f ih =>
    intro ua x2 x3 j hf hx3 hj hx2 hlo hhi
    rw [gX5_twice_4]
    by_cases q : (uf 13) ≤ x3
    · rw [if_pos q]
      rw [mi_le] at q
      have : j = n := by omega
      subst this
      exact ⟨hx2, hlo, fun _ _ => rfl⟩
    · rw [if_neg q]
      rw [mi_le] at q
      have hjn : j < n := by omega
      have hcl : x3.toNatClampNeg = j := by
        show x3.toInt.toNat = j
        omega
      rw [hcl]
      have hd := hhi j (Nat.le_refl _) hjn
      have hP : 0 < 10 ^ j := Nat.pow_pos (by decide)
      have hov : (2 * (V % 10 ^ j) + c) / 10 ^ j ≤ 1 := by
        have h1 := Nat.mod_lt V hP
        apply Nat.le_of_lt_succ
        rw [Nat.div_lt_iff_lt_mul hP]
        omega
      have hm : ((2 : Int32) * (ua 12 j)).toInt = (2 * (V / 10 ^ j % 10) : Nat) := by
        rw [mi_mul (by rw [hd, e2]; omega) (by rw [hd, e2]; omega), hd, e2]
        omega
      have hs : (x2 + (2 : Int32) * (ua 12 j)).toInt = ((2 * (V % 10 ^ (j + 1)) + c) / 10 ^ j : Nat) := by
        rw [← tw_nat]
        generalize (2 * (V % 10 ^ j) + c) / 10 ^ j = o at *
        have hdl : V / 10 ^ j % 10 < 10 := Nat.mod_lt _ (by decide)
        generalize V / 10 ^ j % 10 = d at *
        rw [mi_add (by rw [hm, hx2]; omega) (by rw [hm, hx2]; omega), hm, hx2]
        omega
      generalize x2 + (2 : Int32) * (ua 12 j) = s at *
      have hs0 : 0 ≤ s.toInt := by
        rw [hs]
        exact Int.natCast_nonneg _
      have hq2 : (s / (10 : Int32)).toInt = ((2 * (V % 10 ^ (j + 1)) + c) / 10 ^ (j + 1) : Nat) := by
        rw [mi_div hs0 (by decide), hs, e10, Nat.pow_succ, ← Nat.div_div_eq_div_mul]
        rfl
      have hr2 : (ji_rem s (10 : Int32)).toInt = ((2 * V + c) / 10 ^ j % 10 : Nat) := by
        rw [rem_v hs0 (by decide), hs, e10, ← tw_nat2]
        rfl
      have hx31 : (x3 + 1).toInt = (j + 1 : Nat) := by rw [mi_add (by omega) (by omega), e1]; omega
      have hup : ∀ i, (va_up ua 12 (upd (ua 12) j (ji_rem s (10 : Int32)))) 12 i = if i = j then ji_rem s (10 : Int32) else ua 12 i := fun _ => rfl
      obtain ⟨r1, r2, r3⟩ := ih (va_up ua 12 (upd (ua 12) j (ji_rem s (10 : Int32)))) (s / (10 : Int32)) (x3 + 1) (j + 1) (by omega) hx31 (by omega) hq2 (by
        intro i hi
        rw [hup]
        by_cases z : i = j
        · rw [if_pos z, z]
          exact hr2
        · rw [if_neg z]
          exact hlo i (by omega)) (by
        intro i hi hin
        rw [hup, if_neg (by omega)]
        exact hhi i (by omega) hin)
      refine ⟨r1, r2, ?_⟩
      intro k hk
      rw [r3 k hk]
      unfold va_up
      rw [if_neg hk]
theorem twice_v {uf : Nat → Int32} {ua : Nat → Nat → Int32} {V c : Nat} {x1 : Int32} (h : tw_ok V uf ua) (hV : V < 10 ^ 100) (hx : x1.toInt = c) (hc : c ≤ 1) : tw_ok (2 * V + c) (fX5_twice uf ua x1).1 (fX5_twice uf ua x1).2 ∧ (∀ k, k ≠ 13 → (fX5_twice uf ua x1).1 k = uf k) ∧ (∀ k, k ≠ 12 → (fX5_twice uf ua x1).2 k = ua k) := by
  have e0 : (0 : Int32).toInt = 0 := by decide
  have e1 : (1 : Int32).toInt = 1 := by decide
  obtain ⟨n, h1, h2, h3, h4⟩ := h
  have hn : n ≤ 101 := by
    rcases h3 with q | q
    · omega
    · have := (Nat.pow_lt_pow_iff_right (a := 10) (by decide)).mp (Nat.lt_of_le_of_lt q hV)
      omega
  obtain ⟨l1, l2, l3⟩ := tw_loop (V := V) h1 (by omega) hc (Nat.succ ((Int32.toInt (uf 13) - Int32.toInt (0 : Int32)).toNat)) ua x1 0 0 (by rw [e0, h1]; omega) e0 (by omega) (by rw [hx, Nat.pow_zero, Nat.mod_one, Nat.div_one, Nat.mul_zero, Nat.zero_add]) (fun i hi => by omega) (fun i _ hi => h4 i hi)
  rw [Nat.mod_eq_of_lt h2] at l1
  unfold fX5_twice fX5_twice_44
  generalize gX5_twice_4 uf (Nat.succ ((Int32.toInt (uf 13) - Int32.toInt (0 : Int32)).toNat)) ua x1 0 = G at *
  have hP : 0 < 10 ^ n := Nat.pow_pos (by decide)
  have hov : (2 * V + c) / 10 ^ n ≤ 1 := by
    apply Nat.le_of_lt_succ
    rw [Nat.div_lt_iff_lt_mul hP]
    omega
  by_cases q : G.2.1 ≤ 0
  · rw [if_pos q]
    rw [mi_le, e0] at q
    have hz : (2 * V + c) / 10 ^ n = 0 := by
      rw [l1] at q
      generalize (2 * V + c) / 10 ^ n = o at *
      omega
    refine ⟨⟨n, h1, ?_, ?_, l2⟩, fun _ _ => rfl, l3⟩
    · rcases Nat.div_eq_zero_iff.mp hz with r | r
      · omega
      · exact r
    · rcases h3 with r | r
      · exact Or.inl r
      · exact Or.inr (by omega)
  · rw [if_neg q]
    rw [mi_le, e0] at q
    have hz : (2 * V + c) / 10 ^ n = 1 := by
      rw [l1] at q
      generalize (2 * V + c) / 10 ^ n = o at *
      omega
    have hcl : (uf 13).toNatClampNeg = n := by
      show (uf 13).toInt.toNat = n
      omega
    rw [hcl]
    refine ⟨⟨n + 1, ?_, ?_, Or.inr ?_, ?_⟩, ?_, ?_⟩
    · show (uf 13 + (1 : Int32)).toInt = _
      rw [mi_add (by omega) (by omega), h1, e1]
      omega
    · rw [Nat.pow_succ]
      omega
    · rw [Nat.add_sub_cancel]
      have := Nat.div_mul_le_self (2 * V + c) (10 ^ n)
      rw [hz] at this
      omega
    · intro i hi
      show (upd (G.1 12) n G.2.1 i).toInt = _
      unfold upd
      by_cases z : i = n
      · rw [if_pos z, z, hz, l1, hz]
      · rw [if_neg z]
        exact l2 i (by omega)
    · intro k hk
      show va_up uf 13 _ k = uf k
      unfold va_up
      rw [if_neg hk]
    · intro k hk
      show va_up G.1 12 _ k = ua k
      unfold va_up
      rw [if_neg hk]
      exact l3 k hk
theorem bit_v (x1 : Int64) (x5 : Int32) : ∃ c : Nat, (((jl_ushr x1 x5) &&& (1 : Int64)).toInt32).toInt = c ∧ c ≤ 1 := by
  have h := un_odd (jl_ushr x1 x5)
  refine ⟨un ((jl_ushr x1 x5) &&& (1 : Int64)), mi_of_un (by omega), by omega⟩
theorem tw_10 {n : Nat} (hn : n ≤ 130) : 2 ^ n < 10 ^ 40 := Nat.lt_of_le_of_lt (Nat.pow_le_pow_right (by decide) hn) (by decide)
theorem tw_100 {V n : Nat} (hn : n ≤ 130) (h : V < 2 ^ n) : V < 10 ^ 100 := Nat.lt_of_lt_of_le h (Nat.le_trans (Nat.le_of_lt (tw_10 hn)) (Nat.pow_le_pow_right (by decide) (by decide)))
theorem tw_z1 {uf : Nat → Int32} {ua : Nat → Nat → Int32} {x1 : Int64} {x3 : Int32} (ho : 0 ≤ (uf 11).toInt ∧ (uf 11).toInt ≤ 1) (hz : pw_ok x1 x3) : (-1 ≤ Int32.toInt ((fX5_bitsOf x1) - (1 : Int32)) ∧ Int32.toInt ((fX5_bitsOf x1) - (1 : Int32)) ≤ 23) ∧ tw_lt (23 - Int32.toInt ((fX5_bitsOf x1) - (1 : Int32))).toNat (va_up uf 13 (0 : Int32)) ua := by
  have e1 : (1 : Int32).toInt = 1 := by decide
  have hb := bits_v (x := x1) (Nat.lt_trans hz.1 (by decide))
  have hn : nb (un x1) ≤ 24 := nb_le.mpr hz.1
  have hs : ((fX5_bitsOf x1) - (1 : Int32)).toInt = (nb (un x1) : Int) - 1 := by rw [mi_sub (by omega) (by omega), hb, e1]
  rw [hs]
  refine ⟨by omega, ho, 0, ⟨0, by show (0 : Int32).toInt = _; decide, by decide, Or.inl rfl, fun i hi => by omega⟩, Nat.two_pow_pos _⟩
theorem tw_s1 {uf : Nat → Int32} {ua : Nat → Nat → Int32} {x1 : Int64} {x5 : Int32} (hi : (-1 ≤ Int32.toInt x5 ∧ Int32.toInt x5 ≤ 23) ∧ tw_lt (23 - Int32.toInt x5).toNat uf ua) (h : ¬ x5 < 0) : (-1 ≤ Int32.toInt (x5 + (-1)) ∧ Int32.toInt (x5 + (-1)) ≤ 23) ∧ tw_lt (23 - Int32.toInt (x5 + (-1))).toNat (fX5_twice uf ua ((jl_ushr x1 x5) &&& (1 : Int64)).toInt32).1 (fX5_twice uf ua ((jl_ushr x1 x5) &&& (1 : Int64)).toInt32).2 := by
  obtain ⟨h1, h2, V, h3, h4⟩ := hi
  have h0 := sd_ge0 h
  have em : (-1 : Int32).toInt = -1 := by decide
  have hx : (x5 + (-1)).toInt = x5.toInt - 1 := by rw [mi_add (by omega) (by omega), em]; omega
  obtain ⟨c, hc, hc1⟩ := bit_v x1 x5
  obtain ⟨r1, r2, r3⟩ := twice_v h3 (tw_100 (by omega) h4) hc hc1
  rw [hx]
  refine ⟨by omega, ?_, 2 * V + c, r1, ?_⟩
  · rw [r2 11 (by decide)]
    exact h2
  · rw [show (23 - (x5.toInt - 1)).toNat = (23 - x5.toInt).toNat + 1 from by omega, Nat.pow_succ]
    omega
theorem tw_e1 {uf : Nat → Int32} {ua : Nat → Nat → Int32} {x5 : Int32} (hi : (-1 ≤ Int32.toInt x5 ∧ Int32.toInt x5 ≤ 23) ∧ tw_lt (23 - Int32.toInt x5).toNat uf ua) : tw_lt 24 uf ua := by
  obtain ⟨h1, h2, V, h3, h4⟩ := hi
  exact ⟨h2, V, h3, Nat.lt_of_lt_of_le h4 (Nat.pow_le_pow_right (by decide) (by omega))⟩
theorem tw_z2 {uf : Nat → Int32} {ua : Nat → Nat → Int32} (hv : tw_lt 24 uf ua) : (0 ≤ Int32.toInt (0 : Int32) ∧ Int32.toInt (0 : Int32) ≤ 104) ∧ tw_lt (24 + Int32.toInt (0 : Int32)).toNat uf ua := by
  have h : (24 + Int32.toInt (0 : Int32)).toNat = 24 := by decide
  rw [h]
  exact ⟨by decide, hv⟩
theorem tw_s2 {uf : Nat → Int32} {ua : Nat → Nat → Int32} {x3 x5 : Int32} (hz : -200 ≤ x3.toInt ∧ x3.toInt ≤ 104) (hi : (0 ≤ Int32.toInt x5 ∧ Int32.toInt x5 ≤ 104) ∧ tw_lt (24 + Int32.toInt x5).toNat uf ua) (h : ¬ x3 ≤ x5) : (0 ≤ Int32.toInt (x5 + 1) ∧ Int32.toInt (x5 + 1) ≤ 104) ∧ tw_lt (24 + Int32.toInt (x5 + 1)).toNat (fX5_twice uf ua (0 : Int32)).1 (fX5_twice uf ua (0 : Int32)).2 := by
  obtain ⟨h1, h2, V, h3, h4⟩ := hi
  have e1 : (1 : Int32).toInt = 1 := by decide
  have e0 : (0 : Int32).toInt = (0 : Nat) := by decide
  rw [mi_le] at h
  have hx : (x5 + 1).toInt = x5.toInt + 1 := by rw [mi_add (by omega) (by omega), e1]
  obtain ⟨r1, r2, r3⟩ := twice_v h3 (tw_100 (by omega) h4) e0 (by omega)
  rw [hx]
  refine ⟨by omega, ?_, 2 * V + 0, r1, ?_⟩
  · rw [r2 11 (by decide)]
    exact h2
  · rw [show (24 + (x5.toInt + 1)).toNat = (24 + x5.toInt).toNat + 1 from by omega, Nat.pow_succ]
    omega
theorem tw_e2 {uf : Nat → Int32} {ua : Nat → Nat → Int32} {x5 : Int32} (hi : (0 ≤ Int32.toInt x5 ∧ Int32.toInt x5 ≤ 104) ∧ tw_lt (24 + Int32.toInt x5).toNat uf ua) : tw_lt 130 uf ua := by
  obtain ⟨h1, h2, V, h3, h4⟩ := hi
  exact ⟨h2, V, h3, Nat.lt_of_lt_of_le h4 (Nat.pow_le_pow_right (by decide) (by omega))⟩
theorem tw_dm {n : Nat} (hn : n ≤ 130) {uf : Nat → Int32} {ua : Nat → Nat → Int32} (h : tw_lt n uf ua) : 0 ≤ (uf 13).toInt ∧ (uf 13).toInt ≤ 40 := by
  obtain ⟨h2, V, ⟨m, a1, a2, a3, a4⟩, h4⟩ := h
  have hm : m ≤ 40 := by
    rcases a3 with q | q
    · omega
    · have := (Nat.pow_lt_pow_iff_right (a := 10) (by decide)).mp (Nat.lt_of_le_of_lt q (Nat.lt_trans h4 (tw_10 hn)))
      omega
  omega
theorem tw_d1 {uf : Nat → Int32} {ua : Nat → Nat → Int32} {x5 : Int32} (hi : (-1 ≤ Int32.toInt x5 ∧ Int32.toInt x5 ≤ 23) ∧ tw_lt (23 - Int32.toInt x5).toNat uf ua) : 0 ≤ (uf 13).toInt ∧ (uf 13).toInt ≤ 59 := by
  have h := tw_dm (by omega) hi.2
  omega
theorem tw_d2 {uf : Nat → Int32} {ua : Nat → Nat → Int32} {x5 : Int32} (hi : (0 ≤ Int32.toInt x5 ∧ Int32.toInt x5 ≤ 104) ∧ tw_lt (24 + Int32.toInt x5).toNat uf ua) : 0 ≤ (uf 13).toInt ∧ (uf 13).toInt ≤ 59 := by
  have h := tw_dm (by omega) hi.2
  omega
theorem pw_p0 {n : Nat} {uf : Nat → Int32} {ua : Nat → Nat → Int32} (hv : tw_lt n uf ua) : vp_in (uf 11) 120 := vp_in_iff.mpr ⟨hv.1.1, by have := hv.1.2; omega⟩
theorem pw_o1 {uf : Nat → Int32} {ua : Nat → Nat → Int32} (hv : tw_lt 130 uf ua) (h : (uf 13) = 0) : pw_out (fX5_put uf ua (48 : Int32)).1 := by
  have h1 := sd_i1 (u := uf 11) (B := 1) (by decide) hv.1
  have h2 := hv.1
  have h3 : ((fX5_put uf ua (48 : Int32)).1 11) = uf 11 + 1 := rfl
  have h4 : ((fX5_put uf ua (48 : Int32)).1 13) = uf 13 := rfl
  have h5 : (0 : Int32).toInt = 0 := by decide
  unfold pw_out
  rw [h3, h4, h, h1, h5]
  omega
theorem pw_o2 {uf : Nat → Int32} {ua : Nat → Nat → Int32} (hv : tw_lt 130 uf ua) : pw_out uf := by
  have h := tw_dm (Nat.le_refl _) hv
  have h2 := hv.1
  unfold pw_out
  omega
theorem pw_z3 {uf : Nat → Int32} (hv : pw_out uf) : (0 ≤ (uf 11).toInt ∧ -1 ≤ Int32.toInt ((uf 13) - (1 : Int32))) ∧ (Int32.toInt ((uf 13) - (1 : Int32)) ≤ 39 ∧ (uf 11).toInt + Int32.toInt ((uf 13) - (1 : Int32)) + 1 ≤ 41) := by
  unfold pw_out at hv
  have h1 : (1 : Int32).toInt = 1 := by decide
  rw [sd_sub (by omega) (by omega), h1]
  omega
theorem pw_s3 {uf : Nat → Int32} {ua : Nat → Nat → Int32} {x5 v : Int32} (hi : (0 ≤ (uf 11).toInt ∧ -1 ≤ Int32.toInt x5) ∧ (Int32.toInt x5 ≤ 39 ∧ (uf 11).toInt + Int32.toInt x5 + 1 ≤ 41)) (h : ¬ x5 < 0) : (0 ≤ ((fX5_put uf ua v).1 11).toInt ∧ -1 ≤ Int32.toInt (x5 + (-1))) ∧ (Int32.toInt (x5 + (-1)) ≤ 39 ∧ ((fX5_put uf ua v).1 11).toInt + Int32.toInt (x5 + (-1)) + 1 ≤ 41) := by
  have h0 := sd_ge0 h
  have h1 := sd_i1 (u := uf 11) (B := 41) (by decide) (by omega)
  have h3 : ((fX5_put uf ua v).1 11) = uf 11 + 1 := rfl
  have h5 : (-1 : Int32).toInt = -1 := by decide
  rw [h3, h1, sd_add (by omega) (by omega), h5]
  omega
theorem pw_p3 {uf : Nat → Int32} {x5 : Int32} (hi : (0 ≤ (uf 11).toInt ∧ -1 ≤ Int32.toInt x5) ∧ (Int32.toInt x5 ≤ 39 ∧ (uf 11).toInt + Int32.toInt x5 + 1 ≤ 41)) (h : ¬ x5 < 0) : vp_in (uf 11) 120 := by
  have h0 := sd_ge0 h
  exact vp_in_iff.mpr ⟨hi.1.1, by omega⟩
theorem pw_i3 {uf : Nat → Int32} {x5 : Int32} (hi : (0 ≤ (uf 11).toInt ∧ -1 ≤ Int32.toInt x5) ∧ (Int32.toInt x5 ≤ 39 ∧ (uf 11).toInt + Int32.toInt x5 + 1 ≤ 41)) (h : ¬ x5 < 0) : vp_in x5 60 := vp_in_iff.mpr ⟨sd_ge0 h, by omega⟩
