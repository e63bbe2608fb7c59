theorem jam_core {w : Bool} {A B j K : Nat} {m n : Int32} {E : Int} (hAe : A % 2 = 0) (hlo : 2 ^ 124 ≤ A) (hB : B < 2 ^ 126) (hj : B % 2 ^ j = 0) (hj8 : 4 ≤ j) :
    (sn m * ((A * 2 ^ K : Nat) : Int) + sn n * (B : Int) = 0 ↔ sn m * (A : Int) + sn n * ((B / 2 ^ K ||| stk B K : Nat) : Int) = 0) ∧ (sn m * (A : Int) + sn n * ((B / 2 ^ K ||| stk B K : Nat) : Int) ≠ 0 → rv w (sn m * (A : Int) + sn n * ((B / 2 ^ K ||| stk B K : Nat) : Int)) (E + K) = rv w (sn m * ((A * 2 ^ K : Nat) : Int) + sn n * (B : Int)) E) := by
  have hmt : mt w ≤ 52 ∧ 23 ≤ mt w := by cases w <;> decide
  have hjz := jz_add (c := sn m * ((A / 2 : Nat) : Int)) (jz_sn n (jz_of (jam_or B K)))
  have e2 : 2 * (sn m * ((A / 2 : Nat) : Int)) = sn m * (A : Int) := by
    rw [Int.mul_left_comm, show (2 : Int) * ((A / 2 : Nat) : Int) = (A : Int) from by omega]
  rw [e2] at hjz
  have eT : sn n * (B : Int) + sn m * (A : Int) * ((2 ^ K : Nat) : Int) = sn m * ((A * 2 ^ K : Nat) : Int) + sn n * (B : Int) := by
    rw [Int.add_comm, Int.mul_assoc, ← Int.natCast_mul]
  rw [eT, Int.add_comm (sn n * ((B / 2 ^ K ||| stk B K : Nat) : Int))] at hjz
  obtain ⟨_, z1, _⟩ := jz_abs hjz
  refine ⟨z1, ?_⟩
  intro ht
  refine (rv_jam hjz ht ?_).symm
  by_cases c : B % 2 ^ K = 0
  · left
    have hor : (B / 2 ^ K ||| stk B K) = B / 2 ^ K := by
      unfold stk
      rw [if_pos c, Nat.or_zero]
    have hBB : B / 2 ^ K * 2 ^ K = B := Nat.div_mul_cancel (Nat.dvd_of_mod_eq_zero c)
    rw [hor, Int.add_mul, Int.mul_assoc, Int.mul_assoc, ← Int.natCast_mul, ← Int.natCast_mul, hBB]
  · right
    have hKj : j < K := by
      rcases Nat.lt_or_ge j K with q | q
      · exact q
      · exfalso
        apply c
        have := Nat.dvd_trans (Nat.pow_dvd_pow 2 q) (Nat.dvd_of_mod_eq_zero hj)
        exact Nat.mod_eq_zero_of_dvd this
    have h2 : B / 2 ^ K ||| stk B K < 2 ^ 121 := by
      apply Nat.or_lt_two_pow
      · rw [Nat.div_lt_iff_lt_mul (Nat.two_pow_pos K)]
        calc B < 2 ^ 126 := hB
          _ ≤ 2 ^ 121 * 2 ^ K := by rw [← Nat.pow_add]; exact Nat.pow_le_pow_right (by decide) (by omega)
      · unfold stk
        split <;> decide
    have h3 : 2 ^ (mt w + 2) ≤ 2 ^ 60 := Nat.pow_le_pow_right (by decide) (by omega)
    generalize (B / 2 ^ K ||| stk B K) = D at *
    generalize 2 ^ (mt w + 2) = Y at *
    clear hjz z1 eT e2
    rcases sn_or m with s1 | s1 <;> rcases sn_or n with s2 | s2 <;> rw [s1, s2] <;> omega
theorem rv_up {w : Bool} {S T e : Int} {R : Nat} (h : S * ((2 ^ 200 : Nat) : Int) = T * ((2 ^ R : Nat) : Int)) (he : e = -2400 + (R : Int)) : (S = 0 ↔ T = 0) ∧ (S ≠ 0 → rv w S (-2200) = rv w T e) := by
  have j1 : jz (S * ((2 ^ 200 : Nat) : Int)) 200 S := Or.inl rfl
  have j2 : jz (S * ((2 ^ 200 : Nat) : Int)) R T := Or.inl h
  obtain ⟨_, z1, _⟩ := jz_abs j1
  obtain ⟨_, z2, _⟩ := jz_abs j2
  have z : S = 0 ↔ T = 0 := z1.symm.trans z2
  refine ⟨z, fun hS => ?_⟩
  have r1 := rv_jam (w := w) (e := -2400) j1 hS (Or.inl rfl)
  have r2 := rv_jam (w := w) (e := -2400) j2 (fun q => hS (z.mpr q)) (Or.inl h)
  rw [he, ← r2, r1]
  rfl
theorem fusedFin_v {w : Bool} {a b c : Int64} (ha : fin w a) (hb : fin w b) (hc : fin w c) (za : fX2_isZero w a = 0) (zb : fX2_isZero w b = 0) (zc : fX2_isZero w c = 0) : fX2_fusedFinite w a b c = if ep w a b + ex w c = 0 then 0 else rv w (ep w a b + ex w c) (-2200) := by
  have pa := pl_pos ha.1 za
  have pb := pl_pos hb.1 zb
  have pc := pl_pos hc.1 zc
  have ra := sc_rg ha.1
  have rb := sc_rg hb.1
  have rc := sc_rg hc.1
  obtain ⟨ka, ka1, ka2, ka3, ka4, ka5, ka6⟩ := norm64 pa (pl_62 ha.1)
  obtain ⟨kb, kb1, kb2, kb3, kb4, kb5, kb6⟩ := norm64 pb (pl_62 hb.1)
  obtain ⟨kc, kc1, kc2, kc3, kc4, kc5, kc6⟩ := norm64 pc (pl_62 hc.1)
  have e2 : (2 : Int32).toInt = 2 := by decide
  have e64 : (64 : Int32).toInt = 64 := by decide
  unfold fX2_fusedFinite fX2_fusedFinite_60 fX2_fusedFinite_100
  have hE1 : ((((fX2_scale w a - fX0_zeros (fX2_plain w a)) + fX2_scale w b) - fX0_zeros (fX2_plain w b)) + (2 : Int32)).toInt = (fX2_scale w a).toInt + (fX2_scale w b).toInt - ka - kb + 2 := by
    have h1 : (fX2_scale w a - fX0_zeros (fX2_plain w a)).toInt = (fX2_scale w a).toInt - ka := by rw [mi_sub (by omega) (by omega), ka1]
    have h2 : ((fX2_scale w a - fX0_zeros (fX2_plain w a)) + fX2_scale w b).toInt = (fX2_scale w a).toInt - ka + (fX2_scale w b).toInt := by rw [mi_add (by omega) (by omega), h1]
    have h3 : (((fX2_scale w a - fX0_zeros (fX2_plain w a)) + fX2_scale w b) - fX0_zeros (fX2_plain w b)).toInt = (fX2_scale w a).toInt - ka + (fX2_scale w b).toInt - kb := by rw [mi_sub (by omega) (by omega), h2, kb1]
    rw [mi_add (by omega) (by omega), h3, e2]
    omega
  have hE2 : (((fX2_scale w c - fX0_zeros (fX2_plain w c)) - (64 : Int32)) + (2 : Int32)).toInt = (fX2_scale w c).toInt - kc - 62 := by
    have h1 : (fX2_scale w c - fX0_zeros (fX2_plain w c)).toInt = (fX2_scale w c).toInt - kc := by rw [mi_sub (by omega) (by omega), kc1]
    have h2 : ((fX2_scale w c - fX0_zeros (fX2_plain w c)) - (64 : Int32)).toInt = (fX2_scale w c).toInt - kc - 64 := by rw [mi_sub (by omega) (by omega), h1, e64]
    rw [mi_add (by omega) (by omega), h2, e2]
    omega
  generalize ((((fX2_scale w a - fX0_zeros (fX2_plain w a)) + fX2_scale w b) - fX0_zeros (fX2_plain w b)) + (2 : Int32)) = X1 at *
  generalize (((fX2_scale w c - fX0_zeros (fX2_plain w c)) - (64 : Int32)) + (2 : Int32)) = X2 at *
  have hup := upper_v (jl_shl (fX2_plain w a) (fX0_zeros (fX2_plain w a))) (jl_shl (fX2_plain w b) (fX0_zeros (fX2_plain w b)))
  have hlw := un_mul (jl_shl (fX2_plain w a) (fX0_zeros (fX2_plain w a))) (jl_shl (fX2_plain w b) (fX0_zeros (fX2_plain w b)))
  rw [ka4, kb4] at hup hlw
  generalize fX0_upperProduct (jl_shl (fX2_plain w a) (fX0_zeros (fX2_plain w a))) (jl_shl (fX2_plain w b) (fX0_zeros (fX2_plain w b))) = U at *
  generalize jl_shl (fX2_plain w a) (fX0_zeros (fX2_plain w a)) * jl_shl (fX2_plain w b) (fX0_zeros (fX2_plain w b)) = L at *
  have hx01 := xs01 w a b
  obtain ⟨n, hn⟩ : ∃ n : Int32, n = if fX2_isNegative w a = fX2_isNegative w b then 0 else 1 := ⟨_, rfl⟩
  rw [← hn] at hx01
  obtain ⟨P, hP⟩ : ∃ P, P = un (fX2_plain w a) * 2 ^ ka * (un (fX2_plain w b) * 2 ^ kb) := ⟨_, rfl⟩
  rw [← hP] at hup hlw
  have hPlo : 2 ^ 126 ≤ P := by
    rw [hP]
    exact Nat.le_trans (by decide) (Nat.mul_le_mul ka5 kb5)
  have hPhi : P < 2 ^ 128 := by
    rw [hP]
    exact Nat.lt_of_lt_of_le (Nat.mul_lt_mul'' ka6 kb6) (by decide)
  have hPe : P = un (fX2_plain w a) * un (fX2_plain w b) * 2 ^ (ka + kb - 2) * 4 := by
    rw [hP, Nat.mul_mul_mul_comm, ← Nat.pow_add, Nat.mul_assoc (un (fX2_plain w a) * un (fX2_plain w b)), show (4 : Nat) = 2 ^ 2 from rfl, ← Nat.pow_add, show ka + kb - 2 + 2 = ka + kb from by omega]
  have hv1 : v2 U L = P := by
    unfold v2
    rw [hup, hlw]
    omega
  have hU2 : jl_ushr U (2 : Int32) = fX0_loweredHigh U (2 : Int32) := by
    unfold fX0_loweredHigh
    rw [if_neg (by decide)]
  have hv2 := low2 (h := U) (l := L) (x := (2 : Int32)) (k := 2) e2
  rw [hv1, ← hU2] at hv2
  have hst : (P / 2 ^ 2 ||| stk P 2) = un (fX2_plain w a) * un (fX2_plain w b) * 2 ^ (ka + kb - 2) := by
    unfold stk
    rw [if_pos (by omega), Nat.or_zero]
    omega
  rw [hst] at hv2
  obtain ⟨Q, hQ⟩ : ∃ Q, Q = un (fX2_plain w a) * un (fX2_plain w b) * 2 ^ (ka + kb - 2) := ⟨_, rfl⟩
  rw [← hQ] at hv2 hPe
  obtain ⟨D, hD⟩ : ∃ D, D = un (fX2_plain w c) * 2 ^ (kc + 62) := ⟨_, rfl⟩
  have hc4 : un (fX2_plain w c) * 2 ^ kc = un (fX2_plain w c) * 2 ^ (kc - 2) * 4 := by
    rw [Nat.mul_assoc, show (4 : Nat) = 2 ^ 2 from rfl, ← Nat.pow_add, show kc - 2 + 2 = kc from by omega]
  have hv3 : v2 (jl_ushr (jl_shl (fX2_plain w c) (fX0_zeros (fX2_plain w c))) (2 : Int32)) 0 = D := by
    unfold v2
    rw [un_ushr' (k := 2) e2 (by decide), kc4, hc4, show (un (fX2_plain w c) * 2 ^ (kc - 2) * 4) / 2 ^ 2 = un (fX2_plain w c) * 2 ^ (kc - 2) from Nat.mul_div_cancel _ (by decide), hD, Nat.mul_assoc, ← Nat.pow_add, show kc - 2 + 64 = kc + 62 from by omega, show un (0 : Int64) = 0 from by decide, Nat.add_zero]
  have hDlo : 2 ^ 124 ≤ D := by
    rw [hD, Nat.pow_add, ← Nat.mul_assoc]
    exact Nat.le_trans (by decide) (Nat.mul_le_mul_right (2 ^ 62) kc5)
  have hDhi : D < 2 ^ 126 := by
    rw [hD, Nat.pow_add, ← Nat.mul_assoc]
    exact Nat.lt_of_lt_of_le (Nat.mul_lt_mul_of_pos_right kc6 (Nat.two_pow_pos 62)) (by decide)
  have hQlo : 2 ^ 124 ≤ Q := by omega
  have hQhi : Q < 2 ^ 126 := by omega
  generalize jl_ushr U (2 : Int32) = PH at *
  generalize fX0_loweredLow U L (2 : Int32) = PL at *
  generalize jl_ushr (jl_shl (fX2_plain w c) (fX0_zeros (fX2_plain w c))) (2 : Int32) = CH at *
  have hM := mi_max X1 X2
  generalize ji_max X1 X2 = M at *
  unfold fX2_fusedFinite_138
  have e138 : (if fX2_isNegative w a = fX2_isNegative w b then fX2_fusedFinite_209 w c (fX0_loweredHigh PH (M - X1)) (fX0_loweredLow PH PL (M - X1)) (fX0_loweredHigh CH (M - X2)) M (fX0_loweredLow CH (0 : Int64) (M - X2)) (0 : Int32) else fX2_fusedFinite_209 w c (fX0_loweredHigh PH (M - X1)) (fX0_loweredLow PH PL (M - X1)) (fX0_loweredHigh CH (M - X2)) M (fX0_loweredLow CH (0 : Int64) (M - X2)) (1 : Int32)) = fX2_fusedFinite_209 w c (fX0_loweredHigh PH (M - X1)) (fX0_loweredLow PH PL (M - X1)) (fX0_loweredHigh CH (M - X2)) M (fX0_loweredLow CH (0 : Int64) (M - X2)) n := by
    rw [hn]
    split <;> rfl
  rw [e138]
  have eS : ep w a b = sn n * ((un (fX2_plain w a) * un (fX2_plain w b) * 2 ^ ((fX2_scale w a).toInt + (fX2_scale w b).toInt + 2200).toNat : Nat) : Int) := by
    unfold ep
    rw [hn]
  have eX : ex w c = sn (fX2_isNegative w c) * ((un (fX2_plain w c) * 2 ^ ((fX2_scale w c).toInt + 2200).toNat : Nat) : Int) := rfl
  have p200 : ∀ {N i : Nat}, (N * 2 ^ i) * 2 ^ 200 = N * 2 ^ (i + 200) := by
    intro N i
    rw [Nat.mul_assoc, ← Nat.pow_add]
  have pR : ∀ {N i j : Nat}, (N * 2 ^ i) * 2 ^ j = N * 2 ^ (i + j) := by
    intro N i j
    rw [Nat.mul_assoc, ← Nat.pow_add]
  rcases Int.le_total X2.toInt X1.toInt with q | q
  · -- the product stands whole
    have hk1 : (M - X1).toInt = (0 : Nat) := by rw [mi_sub (by omega) (by omega)]; omega
    obtain ⟨K, hK⟩ : ∃ K : Nat, X1.toInt - X2.toInt = K := ⟨(X1.toInt - X2.toInt).toNat, by omega⟩
    have hk2 : (M - X2).toInt = K := by rw [mi_sub (by omega) (by omega)]; omega
    have w1 := low2 (h := PH) (l := PL) hk1
    have w2 := low2 (h := CH) (l := (0 : Int64)) hk2
    rw [hv2] at w1
    rw [hv3] at w2
    have hz : (Q / 2 ^ 0 ||| stk Q 0) = Q := by
      unfold stk
      rw [Nat.pow_zero, Nat.div_one, Nat.mod_one, if_pos rfl, Nat.or_zero]
    rw [hz] at w1
    rw [fus209 w1 w2 hQhi (low_lt hDhi (by decide)) (by omega) hx01]
    obtain ⟨c1, c2⟩ := jam_core (w := w) (A := Q) (B := D) (j := kc + 62) (K := K) (m := n) (n := fX2_isNegative w c) (E := X2.toInt) (by
      rw [hQ, show ka + kb - 2 = (ka + kb - 3) + 1 from by omega, Nat.pow_succ, ← Nat.mul_assoc, Nat.mul_mod_left]) hQlo hDhi (by rw [hD, Nat.mul_mod_left]) (by omega)
    obtain ⟨u1, u2⟩ := rv_up (w := w) (S := ep w a b + ex w c) (T := sn n * ((Q * 2 ^ K : Nat) : Int) + sn (fX2_isNegative w c) * (D : Int)) (e := X2.toInt) (R := (X2.toInt + 2400).toNat) (by
      rw [eS, eX, Int.add_mul, Int.add_mul, Int.mul_assoc, Int.mul_assoc, Int.mul_assoc, Int.mul_assoc, ← Int.natCast_mul, ← Int.natCast_mul, ← Int.natCast_mul, ← Int.natCast_mul, p200, p200, hQ, hD, pR, pR, pR]
      rw [show ((fX2_scale w a).toInt + (fX2_scale w b).toInt + 2200).toNat + 200 = ka + kb - 2 + (K + (X2.toInt + 2400).toNat) from by omega, show ((fX2_scale w c).toInt + 2200).toNat + 200 = kc + 62 + (X2.toInt + 2400).toNat from by omega]) (by omega)
    by_cases cz : ep w a b + ex w c = 0
    · rw [if_pos cz, if_pos (c1.mp (u1.mp cz))]
    · rw [if_neg cz, if_neg (fun r => cz (u1.mpr (c1.mpr r))), u2 cz, ← c2 (fun r => cz (u1.mpr (c1.mpr r)))]
      congr 1
      omega
  · -- the addend stands whole
    have hk1 : (M - X2).toInt = (0 : Nat) := by rw [mi_sub (by omega) (by omega)]; omega
    obtain ⟨K, hK⟩ : ∃ K : Nat, X2.toInt - X1.toInt = K := ⟨(X2.toInt - X1.toInt).toNat, by omega⟩
    have hk2 : (M - X1).toInt = K := by rw [mi_sub (by omega) (by omega)]; omega
    have w1 := low2 (h := PH) (l := PL) hk2
    have w2 := low2 (h := CH) (l := (0 : Int64)) hk1
    rw [hv2] at w1
    rw [hv3] at w2
    have hz : (D / 2 ^ 0 ||| stk D 0) = D := by
      unfold stk
      rw [Nat.pow_zero, Nat.div_one, Nat.mod_one, if_pos rfl, Nat.or_zero]
    rw [hz] at w2
    rw [fus209 w1 w2 (low_lt hQhi (by decide)) hDhi (by omega) hx01]
    obtain ⟨c1, c2⟩ := jam_core (w := w) (A := D) (B := Q) (j := ka + kb - 2) (K := K) (m := fX2_isNegative w c) (n := n) (E := X1.toInt) (by
      rw [hD, show kc + 62 = (kc + 61) + 1 from by omega, Nat.pow_succ, ← Nat.mul_assoc, Nat.mul_mod_left]) hDlo hQhi (by rw [hQ, Nat.mul_mod_left]) (by omega)
    obtain ⟨u1, u2⟩ := rv_up (w := w) (S := ep w a b + ex w c) (T := sn (fX2_isNegative w c) * ((D * 2 ^ K : Nat) : Int) + sn n * (Q : Int)) (e := X1.toInt) (R := (X1.toInt + 2400).toNat) (by
      rw [Int.add_comm (ep w a b), eS, eX, Int.add_mul, Int.add_mul, Int.mul_assoc, Int.mul_assoc, Int.mul_assoc, Int.mul_assoc, ← Int.natCast_mul, ← Int.natCast_mul, ← Int.natCast_mul, ← Int.natCast_mul, p200, p200, hQ, hD, pR, pR, pR]
      rw [show ((fX2_scale w a).toInt + (fX2_scale w b).toInt + 2200).toNat + 200 = ka + kb - 2 + (X1.toInt + 2400).toNat from by omega, show ((fX2_scale w c).toInt + 2200).toNat + 200 = kc + 62 + (K + (X1.toInt + 2400).toNat) from by omega]) (by omega)
    rw [Int.add_comm (sn n * ((Q / 2 ^ K ||| stk Q K : Nat) : Int))]
    by_cases cz : ep w a b + ex w c = 0
    · rw [if_pos cz, if_pos (c1.mp (u1.mp cz))]
    · rw [if_neg cz, if_neg (fun r => cz (u1.mpr (c1.mpr r))), u2 cz, ← c2 (fun r => cz (u1.mpr (c1.mpr r)))]
      congr 1
      omega
