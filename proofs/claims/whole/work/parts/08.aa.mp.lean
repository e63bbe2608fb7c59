theorem un_m32 (x : Int64) : un (x &&& (4294967295 : Int64)) = un x % 2 ^ 32 := by
  rw [un_and]
  have : un (4294967295 : Int64) = 2 ^ 32 - 1 := by decide
  rw [this, Nat.and_two_pow_sub_one_eq_mod]
theorem un_s32 (x : Int64) : un (jl_ushr x (32 : Int32)) = un x / 2 ^ 32 := un_ushr' (k := 32) (by decide) (by decide)
theorem mul_top {a b U V : Nat} (ha : a ≤ U) (hb : b ≤ V) : a * b ≤ U * V := Nat.mul_le_mul ha hb
theorem up_nat (ah al bh bl : Nat) : ((ah * 2 ^ 32 + al) * (bh * 2 ^ 32 + bl)) / 2 ^ 64 = ah * bh + (ah * bl + al * bl / 2 ^ 32) / 2 ^ 32 + (al * bh + (ah * bl + al * bl / 2 ^ 32) % 2 ^ 32) / 2 ^ 32 := by
  have e : (ah * 2 ^ 32 + al) * (bh * 2 ^ 32 + bl) = (ah * bh * 2 ^ 32 + (ah * bl + al * bh)) * 2 ^ 32 + al * bl := by
    rw [Nat.add_mul, Nat.mul_add, Nat.mul_add, Nat.add_mul, Nat.add_mul, show ah * 2 ^ 32 * (bh * 2 ^ 32) = ah * bh * 2 ^ 32 * 2 ^ 32 from by rw [Nat.mul_mul_mul_comm, Nat.mul_assoc (ah * bh)], show ah * 2 ^ 32 * bl = ah * bl * 2 ^ 32 from Nat.mul_right_comm .., show al * (bh * 2 ^ 32) = al * bh * 2 ^ 32 from (Nat.mul_assoc ..).symm]
    omega
  rw [e, show (2 : Nat) ^ 64 = 2 ^ 32 * 2 ^ 32 from by decide, ← Nat.div_div_eq_div_mul, Nat.add_comm (_ * 2 ^ 32), Nat.add_mul_div_right _ _ (by decide)]
  generalize al * bl / 2 ^ 32 = q
  generalize ah * bh = u
  generalize ah * bl = v
  generalize al * bh = z
  omega
theorem upper_v (x y : Int64) : un (fX0_upperProduct x y) = un x * un y / 2 ^ 64 := by
  have E : (18446744073709551616 : Nat) = 2 ^ 64 := by decide
  have hx : un x < 2 ^ 64 := un_lt x
  have hy : un y < 2 ^ 64 := un_lt y
  have hxd := Nat.div_add_mod (un x) (2 ^ 32)
  have hyd := Nat.div_add_mod (un y) (2 ^ 32)
  have ah : un x / 2 ^ 32 ≤ 2 ^ 32 - 1 := by omega
  have al : un x % 2 ^ 32 ≤ 2 ^ 32 - 1 := by omega
  have bh : un y / 2 ^ 32 ≤ 2 ^ 32 - 1 := by omega
  have bl : un y % 2 ^ 32 ≤ 2 ^ 32 - 1 := by omega
  have p1 := mul_top al bl
  have p2 := mul_top ah bl
  have p3 := mul_top al bh
  have p4 := mul_top ah bh
  have hlt : un x * un y / 2 ^ 64 < 2 ^ 64 := by
    rw [Nat.div_lt_iff_lt_mul (by decide)]
    exact Nat.mul_lt_mul'' hx hy
  have key : un x * un y / 2 ^ 64 = un x / 2 ^ 32 * (un y / 2 ^ 32) + (un x / 2 ^ 32 * (un y % 2 ^ 32) + un x % 2 ^ 32 * (un y % 2 ^ 32) / 2 ^ 32) / 2 ^ 32 + (un x % 2 ^ 32 * (un y / 2 ^ 32) + (un x / 2 ^ 32 * (un y % 2 ^ 32) + un x % 2 ^ 32 * (un y % 2 ^ 32) / 2 ^ 32) % 2 ^ 32) / 2 ^ 32 := by
    rw [← up_nat]
    rw [Nat.mul_comm (un x / 2 ^ 32), Nat.mul_comm (un y / 2 ^ 32), hxd, hyd]
  unfold fX0_upperProduct fX0_upperProduct_40
  rw [key] at hlt
  rw [key]
  simp only [un_add, un_mul, un_s32, un_m32]
  generalize un x / 2 ^ 32 * (un y / 2 ^ 32) = u at *
  generalize un x / 2 ^ 32 * (un y % 2 ^ 32) = v at *
  generalize un x % 2 ^ 32 * (un y / 2 ^ 32) = z at *
  generalize un x % 2 ^ 32 * (un y % 2 ^ 32) = q at *
  have e1 : q % 18446744073709551616 = q := Nat.mod_eq_of_lt (by omega)
  have e2 : v % 18446744073709551616 = v := Nat.mod_eq_of_lt (by omega)
  have e3 : z % 18446744073709551616 = z := Nat.mod_eq_of_lt (by omega)
  have e4 : u % 18446744073709551616 = u := Nat.mod_eq_of_lt (by omega)
  rw [e1, e2, e3, e4]
  have e5 : (v + q / 2 ^ 32) % 18446744073709551616 = v + q / 2 ^ 32 := Nat.mod_eq_of_lt (by omega)
  rw [e5]
  generalize v + q / 2 ^ 32 = r at *
  have e6 : (z + r % 2 ^ 32) % 18446744073709551616 = z + r % 2 ^ 32 := Nat.mod_eq_of_lt (by omega)
  rw [e6]
  have e7 : (u + r / 2 ^ 32) % 18446744073709551616 = u + r / 2 ^ 32 := Nat.mod_eq_of_lt (by omega)
  rw [e7]
  exact Nat.mod_eq_of_lt (by omega)
/-- digits shifted up until the first bit stands -/
theorem norm64 {x : Int64} (h : 0 < un x) (h2 : un x < 2 ^ 53) : ∃ z : Nat, (fX0_zeros x).toInt = z ∧ 11 ≤ z ∧ z ≤ 63 ∧ un (jl_shl x (fX0_zeros x)) = un x * 2 ^ z ∧ 2 ^ 63 ≤ un x * 2 ^ z ∧ un x * 2 ^ z < 2 ^ 64 := by
  have hz := zeros_v h
  have h1 : nb (un x) ≤ 53 := nb_le.mpr h2
  have h0 := nb_pos h
  have hb : un x * 2 ^ (64 - nb (un x)) < 2 ^ 64 := by
    calc un x * 2 ^ (64 - nb (un x)) < 2 ^ nb (un x) * 2 ^ (64 - nb (un x)) := Nat.mul_lt_mul_of_pos_right (nb_hi _) (Nat.two_pow_pos _)
      _ = 2 ^ 64 := by rw [← Nat.pow_add, show nb (un x) + (64 - nb (un x)) = 64 from by omega]
  have hl : 2 ^ 63 ≤ un x * 2 ^ (64 - nb (un x)) := by
    calc 2 ^ 63 = 2 ^ (nb (un x) - 1) * 2 ^ (64 - nb (un x)) := by rw [← Nat.pow_add, show nb (un x) - 1 + (64 - nb (un x)) = 63 from by omega]
      _ ≤ un x * 2 ^ (64 - nb (un x)) := Nat.mul_le_mul_right _ (nb_lo h)
  exact ⟨64 - nb (un x), by omega, by omega, by omega, un_shl' (by omega) (by omega) hb, hl, hb⟩
/-- the exact product, in units of 2^-2200 -/
def ep (w : Bool) (a b : Int64) : Int := sn (if fX2_isNegative w a = fX2_isNegative w b then 0 else 1) * ((un (fX2_plain w a) * un (fX2_plain w b) * 2 ^ ((fX2_scale w a).toInt + (fX2_scale w b).toInt + 2200).toNat : Nat) : Int)
theorem sg_pick {α : Type} {w : Bool} {v : Int32} (hv : v = 0 ∨ v = 1) (f : Int32 → α) : (if sg w v = (0 : Int64) then f 0 else f 1) = f v := pick w f hv
theorem xs01 (w : Bool) (a b : Int64) : (if fX2_isNegative w a = fX2_isNegative w b then (0 : Int32) else 1) = 0 ∨ (if fX2_isNegative w a = fX2_isNegative w b then (0 : Int32) else 1) = 1 := by
  split
  · exact Or.inl rfl
  · exact Or.inr rfl
theorem rv_sg {w : Bool} {n : Int32} (hn : n = 0 ∨ n = 1) {N : Nat} (hN : 0 < N) (e : Int) : rv w (sn n * (N : Int)) e = (sg w n ||| ow (rw_ w N e)) := by
  unfold rv sn
  rcases hn with rfl | rfl
  · rw [if_pos (show (0 : Int32) = 0 from rfl), if_neg (show ¬ (1 : Int) * (N : Int) < 0 by omega), show ((1 : Int) * (N : Int)).natAbs = N from by omega]
  · rw [if_neg (show ¬ (1 : Int32) = 0 by decide), if_pos (show (-1 : Int) * (N : Int) < 0 by omega), show ((-1 : Int) * (N : Int)).natAbs = N from by omega]
theorem prod_v {w : Bool} {a b : Int64} (ha : fin w a) (hb : fin w b) (na : fX2_isNan w a = 0) (nb' : fX2_isNan w b = 0) (ia : fX2_isInfinite w a = 0) (ib : fX2_isInfinite w b = 0) (za : fX2_isZero w a = 0) (zb : fX2_isZero w b = 0) : fX2_product w a b = rv w (ep w a b) (-2200) := by
  have pa := pl_pos ha.1 za
  have pb := pl_pos hb.1 zb
  have ra := sc_rg ha.1
  have rb := sc_rg hb.1
  obtain ⟨ka, ka1, ka2, ka3, ka4, ka5, ka6⟩ := norm64 pa (pl_62 ha.1)
  obtain ⟨kb, kb1, kb2, kb3, kb4, kb5, kb6⟩ := norm64 pb (pl_62 hb.1)
  unfold fX2_product
  rw [if_pos na, if_pos nb', if_pos ia, if_pos ib, if_pos za, if_pos zb, sx]
  unfold fX2_product_161 fX2_product_178 ep
  have hx01 := xs01 w a b
  generalize (if fX2_isNegative w a = fX2_isNegative w b then (0 : Int32) else 1) = n at *
  have hE : ((((fX2_scale w a - fX0_zeros (fX2_plain w a)) + fX2_scale w b) - fX0_zeros (fX2_plain w b)) + (64 : Int32)).toInt = (fX2_scale w a).toInt + (fX2_scale w b).toInt - ka - kb + 64 := by
    have h1 : (fX2_scale w a - fX0_zeros (fX2_plain w a)).toInt = (fX2_scale w a).toInt - ka := by rw [mi_sub (by omega) (by omega), ka1]
    have h2 : ((fX2_scale w a - fX0_zeros (fX2_plain w a)) + fX2_scale w b).toInt = (fX2_scale w a).toInt - ka + (fX2_scale w b).toInt := by rw [mi_add (by omega) (by omega), h1]
    have h3 : (((fX2_scale w a - fX0_zeros (fX2_plain w a)) + fX2_scale w b) - fX0_zeros (fX2_plain w b)).toInt = (fX2_scale w a).toInt - ka + (fX2_scale w b).toInt - kb := by rw [mi_sub (by omega) (by omega), h2, kb1]
    have e64 : (64 : Int32).toInt = 64 := by decide
    rw [mi_add (by omega) (by omega), h3, e64]
    omega
  generalize ((((fX2_scale w a - fX0_zeros (fX2_plain w a)) + fX2_scale w b) - fX0_zeros (fX2_plain w b)) + (64 : Int32)) = E at *
  have hup := upper_v (jl_shl (fX2_plain w a) (fX0_zeros (fX2_plain w a))) (jl_shl (fX2_plain w b) (fX0_zeros (fX2_plain w b)))
  have hlw := un_mul (jl_shl (fX2_plain w a) (fX0_zeros (fX2_plain w a))) (jl_shl (fX2_plain w b) (fX0_zeros (fX2_plain w b)))
  rw [ka4, kb4] at hup hlw
  generalize fX0_upperProduct (jl_shl (fX2_plain w a) (fX0_zeros (fX2_plain w a))) (jl_shl (fX2_plain w b) (fX0_zeros (fX2_plain w b))) = U at *
  generalize jl_shl (fX2_plain w a) (fX0_zeros (fX2_plain w a)) * jl_shl (fX2_plain w b) (fX0_zeros (fX2_plain w b)) = L at *
  obtain ⟨P, hP⟩ : ∃ P, P = un (fX2_plain w a) * 2 ^ ka * (un (fX2_plain w b) * 2 ^ kb) := ⟨_, rfl⟩
  rw [← hP] at hup hlw
  have hPlo : 2 ^ 126 ≤ P := by
    rw [hP]
    exact Nat.le_trans (by decide) (Nat.mul_le_mul ka5 kb5)
  have hL0 : L = (0 : Int64) ↔ P % 2 ^ 64 = 0 := by
    rw [un_iff, hlw]
    exact Iff.rfl
  have hPe : P = un (fX2_plain w a) * un (fX2_plain w b) * 2 ^ (ka + kb) := by
    rw [hP, Nat.pow_add, Nat.mul_mul_mul_comm]
  have fin1 : ∀ v : Int64, un v = (P / 2 ^ 64 ||| stk P 64) → (if sg w n = (0 : Int64) then fX2_rounded w 0 E v else fX2_rounded w 1 E v) = rv w (sn n * ((un (fX2_plain w a) * un (fX2_plain w b) * 2 ^ ((fX2_scale w a).toInt + (fX2_scale w b).toInt + 2200).toNat : Nat) : Int)) (-2200) := by
    intro v hv
    have hvlo : 2 ^ 62 ≤ un v := by
      rw [hv]
      refine Nat.le_trans ?_ Nat.left_le_or
      rw [Nat.le_div_iff_mul_le (by decide)]
      exact Nat.le_trans (by decide) hPlo
    rw [sg_pick hx01 (fun q => fX2_rounded w q E v), roundA (by omega) (by omega), hE, hv]
    have hj := jam_or P 64
    rw [← hv] at hj
    have hmt : mt w ≤ 52 ∧ 23 ≤ mt w := by cases w <;> decide
    have hr := rv_jam (w := w) (e := (fX2_scale w a).toInt + (fX2_scale w b).toInt - ka - kb) (jz_sn n (jz_of hj)) (by rcases sn_or n with q | q <;> rw [q] <;> omega) (Or.inr (by
      have h3 : 2 ^ (mt w + 2) ≤ 2 ^ 62 := Nat.pow_le_pow_right (by decide) (by omega)
      generalize 2 ^ (mt w + 2) = Y at *
      rcases sn_or n with q | q <;> rw [q] <;> omega))
    rw [rv_sg hx01 (by omega), rv_sg hx01 (by omega), hv] at hr
    have hpp : 0 < un (fX2_plain w a) * un (fX2_plain w b) := Nat.mul_pos pa pb
    rw [rv_sg hx01 (Nat.mul_pos hpp (Nat.two_pow_pos _))]
    rw [show (fX2_scale w a).toInt + (fX2_scale w b).toInt - ka - kb + 64 = (fX2_scale w a).toInt + (fX2_scale w b).toInt - ka - kb + (64 : Nat) from rfl, ← hr, hPe]
    unfold rw_
    rw [rn_shift _ _ _ hpp, rn_shift _ _ _ hpp]
    congr 3
    omega
  by_cases c : L = (0 : Int64)
  · rw [if_pos c]
    apply fin1
    rw [un_or, hup]
    unfold stk
    rw [if_pos (hL0.mp c)]
    rfl
  · rw [if_neg c]
    apply fin1
    rw [un_or, hup]
    unfold stk
    rw [if_neg (fun q => c (hL0.mpr q))]
    rfl
