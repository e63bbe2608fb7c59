/-- the decimal digits of V stand in the row, the lowest first, none of them too many -/
def tw_ok (V : Nat) (uf : Nat → Int32) (ua : Nat → Nat → Int32) : Prop :=
  ∃ d : List Nat, (∀ x ∈ d, x < 10) ∧ (d.length : Int) = (uf 13).toInt ∧ (∀ i : Nat, i < d.length → (ua 12 i).toInt = (d.getD i 0 : Nat)) ∧ V = d.foldr (fun x acc => x + 10 * acc) 0 ∧ (∀ h : d ≠ [], d.getLast h ≠ 0)
def tw_lt (n : Nat) (uf : Nat → Int32) (ua : Nat → Nat → Int32) : Prop := (0 ≤ (uf 11).toInt ∧ (uf 11).toInt ≤ 1) ∧ ∃ V : Nat, tw_ok V uf ua ∧ V < 2 ^ n
def pw_ok (m : Int64) (e : Int32) : Prop := m.toBitVec.toNat < 2 ^ 24 ∧ -200 ≤ e.toInt ∧ e.toInt ≤ 104
def pw_out (uf : Nat → Int32) : Prop := (0 ≤ (uf 11).toInt) ∧ (0 ≤ (uf 13).toInt ∧ (uf 13).toInt ≤ 40) ∧ (uf 11).toInt + (uf 13).toInt ≤ 41
theorem tw_z1 {uf : Nat → Int32} {ua : Nat → Nat → Int32} {x1 : Int64} {x3 : Int32} (ho : 0 ≤ (uf 11).toInt ∧ (uf 11).toInt ≤ 1) (hz : pw_ok x1 x3) : (-1 ≤ Int32.toInt ((fX5_bitsOf x1) - (1 : Int32)) ∧ Int32.toInt ((fX5_bitsOf x1) - (1 : Int32)) ≤ 23) ∧ tw_lt (23 - Int32.toInt ((fX5_bitsOf x1) - (1 : Int32))).toNat (va_up uf 13 (0 : Int32)) ua := by
  sorry
theorem tw_s1 {uf : Nat → Int32} {ua : Nat → Nat → Int32} {x1 : Int64} {x5 : Int32} (hi : (-1 ≤ Int32.toInt x5 ∧ Int32.toInt x5 ≤ 23) ∧ tw_lt (23 - Int32.toInt x5).toNat uf ua) (h : ¬ x5 < 0) : (-1 ≤ Int32.toInt (x5 + (-1)) ∧ Int32.toInt (x5 + (-1)) ≤ 23) ∧ tw_lt (23 - Int32.toInt (x5 + (-1))).toNat (fX5_twice uf ua ((jl_ushr x1 x5) &&& (1 : Int64)).toInt32).1 (fX5_twice uf ua ((jl_ushr x1 x5) &&& (1 : Int64)).toInt32).2 := by
  sorry
theorem tw_e1 {uf : Nat → Int32} {ua : Nat → Nat → Int32} {x5 : Int32} (hi : (-1 ≤ Int32.toInt x5 ∧ Int32.toInt x5 ≤ 23) ∧ tw_lt (23 - Int32.toInt x5).toNat uf ua) : tw_lt 24 uf ua := by
  obtain ⟨h1, h2, V, h3, h4⟩ := hi
  exact ⟨h2, V, h3, Nat.lt_of_lt_of_le h4 (Nat.pow_le_pow_right (by decide) (by omega))⟩
theorem tw_z2 {uf : Nat → Int32} {ua : Nat → Nat → Int32} (hv : tw_lt 24 uf ua) : (0 ≤ Int32.toInt (0 : Int32) ∧ Int32.toInt (0 : Int32) ≤ 104) ∧ tw_lt (24 + Int32.toInt (0 : Int32)).toNat uf ua := by
  have h : (24 + Int32.toInt (0 : Int32)).toNat = 24 := by decide
  rw [h]
  exact ⟨by decide, hv⟩
theorem tw_s2 {uf : Nat → Int32} {ua : Nat → Nat → Int32} {x3 x5 : Int32} (hz : -200 ≤ x3.toInt ∧ x3.toInt ≤ 104) (hi : (0 ≤ Int32.toInt x5 ∧ Int32.toInt x5 ≤ 104) ∧ tw_lt (24 + Int32.toInt x5).toNat uf ua) (h : ¬ x3 ≤ x5) : (0 ≤ Int32.toInt (x5 + 1) ∧ Int32.toInt (x5 + 1) ≤ 104) ∧ tw_lt (24 + Int32.toInt (x5 + 1)).toNat (fX5_twice uf ua (0 : Int32)).1 (fX5_twice uf ua (0 : Int32)).2 := by
  sorry
theorem tw_e2 {uf : Nat → Int32} {ua : Nat → Nat → Int32} {x5 : Int32} (hi : (0 ≤ Int32.toInt x5 ∧ Int32.toInt x5 ≤ 104) ∧ tw_lt (24 + Int32.toInt x5).toNat uf ua) : tw_lt 130 uf ua := by
  obtain ⟨h1, h2, V, h3, h4⟩ := hi
  exact ⟨h2, V, h3, Nat.lt_of_lt_of_le h4 (Nat.pow_le_pow_right (by decide) (by omega))⟩
theorem tw_dm {n : Nat} (hn : n ≤ 130) {uf : Nat → Int32} {ua : Nat → Nat → Int32} (h : tw_lt n uf ua) : 0 ≤ (uf 13).toInt ∧ (uf 13).toInt ≤ 40 := by
  sorry
theorem tw_d1 {uf : Nat → Int32} {ua : Nat → Nat → Int32} {x5 : Int32} (hi : (-1 ≤ Int32.toInt x5 ∧ Int32.toInt x5 ≤ 23) ∧ tw_lt (23 - Int32.toInt x5).toNat uf ua) : 0 ≤ (uf 13).toInt ∧ (uf 13).toInt ≤ 59 := by
  have h := tw_dm (by omega) hi.2
  omega
theorem tw_d2 {uf : Nat → Int32} {ua : Nat → Nat → Int32} {x5 : Int32} (hi : (0 ≤ Int32.toInt x5 ∧ Int32.toInt x5 ≤ 104) ∧ tw_lt (24 + Int32.toInt x5).toNat uf ua) : 0 ≤ (uf 13).toInt ∧ (uf 13).toInt ≤ 59 := by
  have h := tw_dm (by omega) hi.2
  omega
theorem pw_p0 {n : Nat} {uf : Nat → Int32} {ua : Nat → Nat → Int32} (hv : tw_lt n uf ua) : vp_in (uf 11) 120 := vp_in_iff.mpr ⟨hv.1.1, by have := hv.1.2; omega⟩
theorem pw_o1 {uf : Nat → Int32} {ua : Nat → Nat → Int32} (hv : tw_lt 130 uf ua) (h : (uf 13) = 0) : pw_out (fX5_put uf ua (48 : Int32)).1 := by
  have h1 := sd_i1 (u := uf 11) (B := 1) (by decide) hv.1
  have h2 := hv.1
  have h3 : ((fX5_put uf ua (48 : Int32)).1 11) = uf 11 + 1 := rfl
  have h4 : ((fX5_put uf ua (48 : Int32)).1 13) = uf 13 := rfl
  have h5 : (0 : Int32).toInt = 0 := by decide
  unfold pw_out
  rw [h3, h4, h, h1, h5]
  omega
theorem pw_o2 {uf : Nat → Int32} {ua : Nat → Nat → Int32} (hv : tw_lt 130 uf ua) : pw_out uf := by
  have h := tw_dm (Nat.le_refl _) hv
  have h2 := hv.1
  unfold pw_out
  omega
theorem pw_z3 {uf : Nat → Int32} (hv : pw_out uf) : (0 ≤ (uf 11).toInt ∧ -1 ≤ Int32.toInt ((uf 13) - (1 : Int32))) ∧ (Int32.toInt ((uf 13) - (1 : Int32)) ≤ 39 ∧ (uf 11).toInt + Int32.toInt ((uf 13) - (1 : Int32)) + 1 ≤ 41) := by
  unfold pw_out at hv
  have h1 : (1 : Int32).toInt = 1 := by decide
  rw [sd_sub (by omega) (by omega), h1]
  omega
theorem pw_s3 {uf : Nat → Int32} {ua : Nat → Nat → Int32} {x5 v : Int32} (hi : (0 ≤ (uf 11).toInt ∧ -1 ≤ Int32.toInt x5) ∧ (Int32.toInt x5 ≤ 39 ∧ (uf 11).toInt + Int32.toInt x5 + 1 ≤ 41)) (h : ¬ x5 < 0) : (0 ≤ ((fX5_put uf ua v).1 11).toInt ∧ -1 ≤ Int32.toInt (x5 + (-1))) ∧ (Int32.toInt (x5 + (-1)) ≤ 39 ∧ ((fX5_put uf ua v).1 11).toInt + Int32.toInt (x5 + (-1)) + 1 ≤ 41) := by
  have h0 := sd_ge0 h
  have h1 := sd_i1 (u := uf 11) (B := 41) (by decide) (by omega)
  have h3 : ((fX5_put uf ua v).1 11) = uf 11 + 1 := rfl
  have h5 : (-1 : Int32).toInt = -1 := by decide
  rw [h3, h1, sd_add (by omega) (by omega), h5]
  omega
theorem pw_p3 {uf : Nat → Int32} {x5 : Int32} (hi : (0 ≤ (uf 11).toInt ∧ -1 ≤ Int32.toInt x5) ∧ (Int32.toInt x5 ≤ 39 ∧ (uf 11).toInt + Int32.toInt x5 + 1 ≤ 41)) (h : ¬ x5 < 0) : vp_in (uf 11) 120 := by
  have h0 := sd_ge0 h
  exact vp_in_iff.mpr ⟨hi.1.1, by omega⟩
theorem pw_i3 {uf : Nat → Int32} {x5 : Int32} (hi : (0 ≤ (uf 11).toInt ∧ -1 ≤ Int32.toInt x5) ∧ (Int32.toInt x5 ≤ 39 ∧ (uf 11).toInt + Int32.toInt x5 + 1 ≤ 41)) (h : ¬ x5 < 0) : vp_in x5 60 := vp_in_iff.mpr ⟨sd_ge0 h, by omega⟩
