/-- a number's leading bit brought to place k -/
theorem norm_v {A L : Nat} {k : Nat} (hA : 0 < A) (hL : nb A = L) (hk : L ≤ k + 1) : A * 2 ^ (k + 1 - L) < 2 ^ (k + 1) ∧ 2 ^ k ≤ A * 2 ^ (k + 1 - L) := by
  have h1 := nb_hi A
  have h2 := nb_lo hA
  have h3 := nb_pos hA
  rw [hL] at h1 h2 h3
  have hp := Nat.two_pow_pos (k + 1 - L)
  constructor
  · have g : A * 2 ^ (k + 1 - L) < 2 ^ L * 2 ^ (k + 1 - L) := Nat.mul_lt_mul_of_pos_right h1 hp
    rw [← Nat.pow_add, show L + (k + 1 - L) = k + 1 from by omega] at g
    exact g
  · have g : 2 ^ (L - 1) * 2 ^ (k + 1 - L) ≤ A * 2 ^ (k + 1 - L) := Nat.mul_le_mul_right _ h2
    rw [← Nat.pow_add, show L - 1 + (k + 1 - L) = k from by omega] at g
    exact g
theorem half_eq {Z Y g : Nat} (h : Z * 2 = 2 * Y + g) : Z = Y + g / 2 ∧ g % 2 = 0 := by omega
theorem dm_uniq {N B q r : Nat} (h : q * B + r = N) (hr : r < B) : N / B = q ∧ N % B = r := by
  have hB : 0 < B := by omega
  have h1 : N / B = q := by
    apply Nat.div_eq_of_lt_le
    · omega
    · rw [Nat.add_mul, Nat.one_mul]; omega
  have h2 := Nat.div_add_mod N B
  rw [h1, Nat.mul_comm] at h2
  exact ⟨h1, by omega⟩
theorem st_bit {q : Int64} {s : Int32} (hq : un q < 2 ^ 62) (hs : s = 0 ∨ s = 1) : un (jl_shl q (1 : Int32) ||| s.toInt64) = 2 * un q + s.toInt.toNat := by
  have e1 : (1 : Int32).toInt = 1 := by decide
  have h1 : un (jl_shl q (1 : Int32)) = un q * 2 := un_shl' (k := 1) e1 (by decide) (by omega)
  have h2 : 0 ≤ s.toInt ∧ s.toInt ≤ 1 := by rcases hs with h | h <;> subst h <;> decide
  rw [un_or, h1, un_i64 h2.1, or_add (k := 1) (by omega) (by omega)]
  omega
theorem e_divided {w : Bool} {n : Int32} {a b : Int64} (ha : ok w a) (hb : ok w b) (za : fX2_isZero w a = 0) (zb : fX2_isZero w b = 0) :
    fX2_divided w n a b = (sg w n ||| ow (rw_ w (qs (un (fX2_plain w a) * 2 ^ (mt w + 1 - nb (un (fX2_plain w a))) * 2 ^ 57) (un (fX2_plain w b) * 2 ^ (mt w + 1 - nb (un (fX2_plain w b))))) ((fX2_scale w a).toInt - (mt w + 1 - nb (un (fX2_plain w a)) : Nat) - (fX2_scale w b).toInt + (mt w + 1 - nb (un (fX2_plain w b)) : Nat) - 1 - (57 : Nat)))) := by
  have hmt : 23 ≤ mt w ∧ mt w ≤ 52 := by cases w <;> decide
  have hsa := sc_rg ha
  have hsb := sc_rg hb
  have hpa := pl_pos ha za
  have hpb := pl_pos hb zb
  have hla := pl_lt ha
  have hlb := pl_lt hb
  have h53 : 2 ^ (mt w + 1) ≤ 2 ^ 53 := Nat.pow_le_pow_right (by decide) (by omega)
  have hna : nb (un (fX2_plain w a)) ≤ mt w + 1 := nb_le.mpr hla
  have hnb : nb (un (fX2_plain w b)) ≤ mt w + 1 := nb_le.mpr hlb
  have hna1 := nb_pos hpa
  have hnb1 := nb_pos hpb
  have hza := zeros_v hpa
  have hzb := zeros_v hpb
  have hfr := fr_mt w
  have e63 : (63 : Int32).toInt = 63 := by decide
  have e62 : (62 : Int32).toInt = 62 := by decide
  have e3 : (3 : Int32).toInt = 3 := by decide
  have e1 : (1 : Int32).toInt = 1 := by decide
  have e0 : (0 : Int32).toInt = 0 := by decide
  have u0 : un (0 : Int64) = 0 := by decide
  have hw63 : ((63 : Int32) - fo_fraction w).toInt = 63 - mt w := by rw [mi_sub (by omega) (by omega), e63, hfr]
  have hleft : (fX0_zeros (fX2_plain w a) - ((63 : Int32) - fo_fraction w)).toInt = (mt w + 1 - nb (un (fX2_plain w a)) : Nat) := by
    rw [mi_sub (by omega) (by omega), hw63, hza]; omega
  have hright : (fX0_zeros (fX2_plain w b) - ((63 : Int32) - fo_fraction w)).toInt = (mt w + 1 - nb (un (fX2_plain w b)) : Nat) := by
    rw [mi_sub (by omega) (by omega), hw63, hzb]; omega
  obtain ⟨hA1, hA2⟩ := norm_v hpa rfl hna
  obtain ⟨hB1, hB2⟩ := norm_v hpb rfl hnb
  have hAv : un (jl_shl (fX2_plain w a) (fX0_zeros (fX2_plain w a) - ((63 : Int32) - fo_fraction w))) = un (fX2_plain w a) * 2 ^ (mt w + 1 - nb (un (fX2_plain w a))) := un_shl' hleft (by omega) (by omega)
  have hBv : un (jl_shl (fX2_plain w b) (fX0_zeros (fX2_plain w b) - ((63 : Int32) - fo_fraction w))) = un (fX2_plain w b) * 2 ^ (mt w + 1 - nb (un (fX2_plain w b))) := un_shl' hright (by omega) (by omega)
  unfold fX2_divided fX2_divided_59
  have hpm : 2 ^ (mt w + 1) = 2 * 2 ^ mt w := by rw [Nat.pow_succ, Nat.mul_comm]
  have hpm0 := Nat.two_pow_pos (mt w)
  generalize hAg : un (fX2_plain w a) * 2 ^ (mt w + 1 - nb (un (fX2_plain w a))) = A at *
  generalize hBg : un (fX2_plain w b) * 2 ^ (mt w + 1 - nb (un (fX2_plain w b))) = B at *
  generalize jl_shl (fX2_plain w a) (fX0_zeros (fX2_plain w a) - ((63 : Int32) - fo_fraction w)) = X at *
  generalize jl_shl (fX2_plain w b) (fX0_zeros (fX2_plain w b) - ((63 : Int32) - fo_fraction w)) = Y at *
  generalize fX0_zeros (fX2_plain w a) - ((63 : Int32) - fo_fraction w) = l1 at *
  generalize fX0_zeros (fX2_plain w b) - ((63 : Int32) - fo_fraction w) = l2 at *
  generalize hn1 : mt w + 1 - nb (un (fX2_plain w a)) = n1 at *
  generalize hn2 : mt w + 1 - nb (un (fX2_plain w b)) = n2 at *
  rw [if_neg (by rw [un_iff, u0]; omega)]
  have hch : ((62 : Int32) - fo_fraction w).toInt = 62 - mt w := by rw [mi_sub (by omega) (by omega), e62, hfr]
  have hsc : (((fX2_scale w a - l1) - fX2_scale w b) + l2).toInt = (fX2_scale w a).toInt - n1 - (fX2_scale w b).toInt + n2 := by
    have g1 : (fX2_scale w a - l1).toInt = (fX2_scale w a).toInt - n1 := by rw [mi_sub (by omega) (by omega), hleft]
    have g2 : (fX2_scale w a - l1 - fX2_scale w b).toInt = (fX2_scale w a).toInt - n1 - (fX2_scale w b).toInt := by rw [mi_sub (by omega) (by omega), g1]
    rw [mi_add (by omega) (by omega), g2, hright]
  have hlim : (fo_fraction w + (3 : Int32)).toInt = mt w + 3 := by rw [mi_add (by omega) (by omega), hfr, e3]
  have hq0 : un (X / Y) = A / B := by rw [un_div (by omega) (by omega), hAv, hBv]
  have hr0 : un (jl_rem X Y) = A % B := by rw [un_rem (by omega) (by omega), hAv, hBv]
  have hdm0 := Nat.div_add_mod A B
  obtain ⟨t, ht1, ht2, hs, hinv, hlt⟩ := dvA_loop (w := w) (n := Y) (ch := (62 : Int32) - fo_fraction w) (A := A) (s0 := (fX2_scale w a).toInt - n1 - (fX2_scale w b).toInt + n2) (by omega) (by omega) (by omega) hch (by omega) (Nat.succ (((fo_fraction w + (3 : Int32)).toInt - (0 : Int32).toInt).toNat)) (jl_rem X Y) (X / Y) (((fX2_scale w a - l1) - fX2_scale w b) + l2) 0 0 (by omega) (by decide) (by omega) (Nat.zero_mod _) (by omega) (by rw [hq0, hr0, hBv, Nat.pow_zero, Nat.mul_one, Nat.mul_comm]; exact hdm0) (by rw [hr0, hBv]; exact Nat.mod_lt _ (by omega))
  generalize gX2_divided_117 w Y ((62 : Int32) - fo_fraction w) (Nat.succ (((fo_fraction w + (3 : Int32)).toInt - (0 : Int32).toInt).toNat)) (jl_rem X Y) (X / Y) (((fX2_scale w a - l1) - fX2_scale w b) + l2) 0 = G at *
  obtain ⟨gr, gq, gs, gi⟩ := G
  have hinv : un gq * un Y + un gr = A * 2 ^ t := hinv
  have hlt : un gr < un Y := hlt
  rw [hBv] at hinv hlt
  obtain ⟨hd1, hd2⟩ := dm_uniq hinv hlt
  have hqb : un gq < 2 ^ 61 := by
    have g1 : A * 2 ^ t / B < 2 ^ (t + 1) := by
      rw [Nat.div_lt_iff_lt_mul (by omega), Nat.pow_succ, Nat.mul_comm, Nat.mul_assoc]
      exact Nat.mul_lt_mul_of_pos_left (by omega) (Nat.two_pow_pos _)
    have g2 : 2 ^ (t + 1) ≤ 2 ^ 61 := Nat.pow_le_pow_right (by decide) (by omega)
    rw [hd1] at g1
    omega
  have hqlo : 2 ^ (t - 1) ≤ un gq := by
    have g1 : 2 ^ (t - 1) ≤ A * 2 ^ t / B := by
      rw [Nat.le_div_iff_mul_le (by omega)]
      have : 2 ^ t = 2 ^ (t - 1) * 2 := by
        rw [← Nat.pow_succ]
        congr 1
        omega
      rw [this, Nat.mul_comm A, Nat.mul_assoc]
      exact Nat.mul_le_mul_left _ (by omega)
    rw [hd1] at g1
    exact g1
  have hq0 := Nat.two_pow_pos (t - 1)
  have hs2 : (gs - (1 : Int32)).toInt = (fX2_scale w a).toInt - n1 - (fX2_scale w b).toInt + n2 - 1 - t := by
    have : gs.toInt = (fX2_scale w a).toInt - n1 - (fX2_scale w b).toInt + n2 - t := hs
    rw [mi_sub (by omega) (by omega), e1, this]
    omega
  have fin : ∀ s : Int32, (s = 0 ∨ s = 1) → s.toInt.toNat = (if A * 2 ^ t % B = 0 then 0 else 1) → fX2_divided_194 w n (gs - (1 : Int32)) (jl_shl gq (1 : Int32)) s = (sg w n ||| ow (rw_ w (qs (A * 2 ^ 57) B) ((fX2_scale w a).toInt - n1 - (fX2_scale w b).toInt + n2 - 1 - (57 : Nat)))) := by
    intro s h1 h2
    unfold fX2_divided_194
    have h3 := st_bit (q := gq) (s := s) (by omega) h1
    rw [roundA (by omega) (by omega), h3, h2]
    have h4 : 2 * un gq + (if A * 2 ^ t % B = 0 then 0 else 1) = qs (A * 2 ^ t) B := by
      unfold qs
      rw [hd1]
    rw [h4, hs2, qs_round (w := w) (A := A) (B := B) (t := t) (u := 57) (by omega) (by omega) ht1 (by omega)]
  show fX2_divided_172 w n gr gq gs = _
  unfold fX2_divided_172
  by_cases c : gr = (0 : Int64)
  · rw [if_pos c]
    apply fin 0 (Or.inl rfl)
    have h7 : un gr = 0 := by rw [c, u0]
    rw [if_pos (by rw [hd2]; exact h7), e0]
    rfl
  · rw [if_neg c]
    apply fin 1 (Or.inr rfl)
    rw [un_iff, u0] at c
    rw [if_neg (by rw [hd2]; exact c), e1]
    rfl
set_option maxRecDepth 8000 in
theorem e_divided5 {w : Bool} {n : Int32} {a b : Int64} (ha : ok w a) (hb : ok w b) (za : fX2_isZero w a = 0) (zb : fX2_isZero w b = 0) :
    fX5_divide_213 (wi w) n (fX2_plain w b) (fX2_scale w a - fX2_scale w b) ((53 : Int32) - fX5_bitsOf (fX2_plain w a)) ((53 : Int32) - fX5_bitsOf (fX2_plain w b)) (jl_shl (fX2_plain w a) ((53 : Int32) - fX5_bitsOf (fX2_plain w a))) = fX2_divided w n a b := by
  rw [e_divided ha hb za zb]
  have hmt : 23 ≤ mt w ∧ mt w ≤ 52 := by cases w <;> decide
  have hsa := sc_rg ha
  have hsb := sc_rg hb
  have hpa := pl_pos ha za
  have hpb := pl_pos hb zb
  have hla := pl_lt ha
  have hlb := pl_lt hb
  have h53 : 2 ^ (mt w + 1) ≤ 2 ^ 53 := Nat.pow_le_pow_right (by decide) (by omega)
  have hna : nb (un (fX2_plain w a)) ≤ mt w + 1 := nb_le.mpr hla
  have hnb : nb (un (fX2_plain w b)) ≤ mt w + 1 := nb_le.mpr hlb
  have hna1 := nb_pos hpa
  have hnb1 := nb_pos hpb
  have hba := bits_v (x := fX2_plain w a) (by omega)
  have hbb := bits_v (x := fX2_plain w b) (by omega)
  have e53 : (53 : Int32).toInt = 53 := by decide
  have e57 : (57 : Int32).toInt = 57 := by decide
  have e1 : (1 : Int32).toInt = 1 := by decide
  have e0 : (0 : Int32).toInt = 0 := by decide
  have u0 : un (0 : Int64) = 0 := by decide
  have hup : ((53 : Int32) - fX5_bitsOf (fX2_plain w a)).toInt = (53 - nb (un (fX2_plain w a)) : Nat) := by rw [mi_sub (by omega) (by omega), e53, hba]; omega
  have hupB : ((53 : Int32) - fX5_bitsOf (fX2_plain w b)).toInt = (53 - nb (un (fX2_plain w b)) : Nat) := by rw [mi_sub (by omega) (by omega), e53, hbb]; omega
  obtain ⟨hA1, hA2⟩ := norm_v (k := 52) hpa rfl (by omega)
  obtain ⟨hB1, hB2⟩ := norm_v (k := 52) hpb rfl (by omega)
  rw [show 52 + 1 = 53 from rfl] at hA1 hA2 hB1 hB2
  have hAv : un (jl_shl (fX2_plain w a) ((53 : Int32) - fX5_bitsOf (fX2_plain w a))) = un (fX2_plain w a) * 2 ^ (53 - nb (un (fX2_plain w a))) := un_shl' hup (by omega) (by omega)
  have hBv : un (jl_shl (fX2_plain w b) ((53 : Int32) - fX5_bitsOf (fX2_plain w b))) = un (fX2_plain w b) * 2 ^ (53 - nb (un (fX2_plain w b))) := un_shl' hupB (by omega) (by omega)
  have hAc : un (fX2_plain w a) * 2 ^ (53 - nb (un (fX2_plain w a))) = un (fX2_plain w a) * 2 ^ (mt w + 1 - nb (un (fX2_plain w a))) * 2 ^ (52 - mt w) := by
    rw [Nat.mul_assoc, ← Nat.pow_add]
    congr 2
    omega
  have hBc : un (fX2_plain w b) * 2 ^ (53 - nb (un (fX2_plain w b))) = un (fX2_plain w b) * 2 ^ (mt w + 1 - nb (un (fX2_plain w b))) * 2 ^ (52 - mt w) := by
    rw [Nat.mul_assoc, ← Nat.pow_add]
    congr 2
    omega
  have hC := Nat.two_pow_pos (52 - mt w)
  generalize hUg : (53 : Int32) - fX5_bitsOf (fX2_plain w a) = U1 at *
  generalize hVg : (53 : Int32) - fX5_bitsOf (fX2_plain w b) = U2 at *
  have hexp : (fX2_scale w a - fX2_scale w b + (U2 - U1)).toInt = (fX2_scale w a).toInt - (fX2_scale w b).toInt + nb (un (fX2_plain w a)) - nb (un (fX2_plain w b)) := by
    have g1 : (fX2_scale w a - fX2_scale w b).toInt = (fX2_scale w a).toInt - (fX2_scale w b).toInt := mi_sub (by omega) (by omega)
    have g2 : (U2 - U1).toInt = (53 - nb (un (fX2_plain w b)) : Nat) - (53 - nb (un (fX2_plain w a)) : Nat) := by rw [mi_sub (by omega) (by omega), hup, hupB]
    rw [mi_add (by omega) (by omega), g1, g2]
    omega
  have hA0 : 0 < un (fX2_plain w a) * 2 ^ (mt w + 1 - nb (un (fX2_plain w a))) := Nat.mul_pos hpa (Nat.two_pow_pos _)
  have hB0 : 0 < un (fX2_plain w b) * 2 ^ (mt w + 1 - nb (un (fX2_plain w b))) := Nat.mul_pos hpb (Nat.two_pow_pos _)
  have hE2 : (fX2_scale w a).toInt - (mt w + 1 - nb (un (fX2_plain w a)) : Nat) - (fX2_scale w b).toInt + (mt w + 1 - nb (un (fX2_plain w b)) : Nat) - 1 - (57 : Nat) = (fX2_scale w a).toInt - (fX2_scale w b).toInt + nb (un (fX2_plain w a)) - nb (un (fX2_plain w b)) - 58 := by omega
  rw [hE2]
  generalize hAg : un (fX2_plain w a) * 2 ^ (mt w + 1 - nb (un (fX2_plain w a))) = A at *
  generalize hBg : un (fX2_plain w b) * 2 ^ (mt w + 1 - nb (un (fX2_plain w b))) = B at *
  rw [hAc] at hA1 hA2 hAv
  rw [hBc] at hB1 hB2 hBv
  unfold fX5_divide_213
  have hL := dvB_loop (n := jl_shl (fX2_plain w b) U2) (A := A * 2 ^ (52 - mt w)) (by omega) (by omega) (by omega) (Nat.succ (((58 : Int32).toInt - (0 : Int32).toInt).toNat)) (jl_shl (fX2_plain w a) U1) (0 : Int64) (0 : Int32) 0 (by decide) (by decide) (by omega) (by rw [u0, hAv]; omega) (by omega)
  generalize gX5_divide_238 (jl_shl (fX2_plain w b) U2) (Nat.succ (((58 : Int32).toInt - (0 : Int32).toInt).toNat)) (jl_shl (fX2_plain w a) U1) (0 : Int64) (0 : Int32) = G at *
  obtain ⟨gm, gq, gi⟩ := G
  obtain ⟨hinv, hlt⟩ := hL
  replace hinv : A * 2 ^ (52 - mt w) * 2 ^ 58 = 2 * (un gq * un (jl_shl (fX2_plain w b) U2)) + un gm := hinv
  replace hlt : un gm < 2 * un (jl_shl (fX2_plain w b) U2) := hlt
  rw [hBv] at hinv hlt
  -- without the common factor
  rw [show (58 : Nat) = 57 + 1 from rfl, Nat.pow_succ, ← Nat.mul_assoc] at hinv
  have h57 : A * 2 ^ (52 - mt w) * 2 ^ 57 = un gq * (B * 2 ^ (52 - mt w)) + un gm / 2 ∧ un gm % 2 = 0 := by
    exact half_eq hinv
  obtain ⟨h57, hev⟩ := h57
  obtain ⟨hd1, hd2⟩ := dm_uniq h57.symm (by omega)
  have hd3 : A * 2 ^ (52 - mt w) * 2 ^ 57 = A * 2 ^ 57 * 2 ^ (52 - mt w) := by rw [Nat.mul_assoc, Nat.mul_comm (2 ^ (52 - mt w)), ← Nat.mul_assoc]
  rw [hd3, Nat.mul_div_mul_right _ _ hC] at hd1
  rw [hd3, Nat.mul_mod_mul_right] at hd2
  have hqb : un gq < 2 ^ 58 := by
    have : A * 2 ^ 57 / B < 2 ^ 58 := by
      rw [Nat.div_lt_iff_lt_mul hB0]
      have : A < 2 * B := by
        have : A * 2 ^ (52 - mt w) < 2 * B * 2 ^ (52 - mt w) := by rw [Nat.mul_assoc]; omega
        exact Nat.lt_of_mul_lt_mul_right this
      omega
    omega
  have hqlo : 2 ^ 56 ≤ un gq := by
    have : 2 ^ 56 ≤ A * 2 ^ 57 / B := by
      rw [Nat.le_div_iff_mul_le hB0]
      have : B < 2 * A := by
        have : B * 2 ^ (52 - mt w) < 2 * A * 2 ^ (52 - mt w) := by rw [Nat.mul_assoc]; omega
        exact Nat.lt_of_mul_lt_mul_right this
      omega
    omega
  have hs2 : (fX2_scale w a - fX2_scale w b + (U2 - U1) - (57 : Int32)).toInt = (fX2_scale w a).toInt - (fX2_scale w b).toInt + nb (un (fX2_plain w a)) - nb (un (fX2_plain w b)) - 57 := by
    rw [mi_sub (by omega) (by omega), hexp, e57]
  have fin : ∀ s : Int32, (s = 0 ∨ s = 1) → s.toInt.toNat = (if A * 2 ^ 57 % B = 0 then 0 else 1) → fX5_divide_305 (wi w) n gq (fX2_scale w a - fX2_scale w b + (U2 - U1) - (57 : Int32)) s = (sg w n ||| ow (rw_ w (qs (A * 2 ^ 57) B) ((fX2_scale w a).toInt - (fX2_scale w b).toInt + nb (un (fX2_plain w a)) - nb (un (fX2_plain w b)) - 58))) := by
    intro s h1 h2
    unfold fX5_divide_305
    rw [roundB (by omega) (by omega) (by omega) (h1.imp id (fun h => ⟨h, by omega⟩)), h2, hs2]
    unfold qs
    rw [hd1]
    congr 3
    omega
  show fX5_divide_284 (wi w) n gm (fX2_scale w a - fX2_scale w b + (U2 - U1)) gq = _
  unfold fX5_divide_284
  by_cases c : gm = (0 : Int64)
  · rw [if_pos c]
    apply fin 0 (Or.inl rfl)
    have h7 : un gm = 0 := by rw [c, u0]
    have h8 : A * 2 ^ 57 % B = 0 := by
      rcases Nat.eq_zero_or_pos (A * 2 ^ 57 % B) with q | q
      · exact q
      · have := Nat.mul_pos q hC
        omega
    rw [if_pos h8, e0]
    rfl
  · rw [if_neg c]
    apply fin 1 (Or.inr rfl)
    rw [un_iff, u0] at c
    have h8 : A * 2 ^ 57 % B ≠ 0 := by
      intro q
      rw [q, Nat.zero_mul] at hd2
      omega
    rw [if_neg h8, e1]
    rfl
