/-! ===== MATH: printing, the places behind the point ===== -/
def gv (b : Nat → Int32) : Nat → Nat
  | 0 => 0
  | j + 1 => gv b j * 65536 + (b j).toInt.toNat
def bk (b : Nat → Int32) : Prop := ∀ k, k < 12 → 0 ≤ (b k).toInt ∧ (b k).toInt < 65536
theorem gv_same {b c : Nat → Int32} : ∀ n, (∀ k, k < n → b k = c k) → gv b n = gv c n := by
  intro n
  induction n with
  | zero => intro _; rfl
  | succ n ih =>
    intro h
    rw [gv, gv, ih (fun k hk => h k (by omega)), h n (by omega)]
theorem gv_lt {b : Nat → Int32} (h : bk b) : ∀ n, n ≤ 12 → gv b n < 65536 ^ n := by
  intro n
  induction n with
  | zero => intro _; exact Nat.zero_lt_one
  | succ n ih =>
    intro hn
    have h1 := ih (by omega)
    have h2 := h n (by omega)
    rw [gv, Nat.pow_succ]
    generalize 65536 ^ n = P at *
    omega
theorem gv_upd {b : Nat → Int32} {i : Nat} {v : Int32} {d : Nat} (hv : v.toInt.toNat = (b i).toInt.toNat + d) : ∀ n, i < n → gv (upd b i v) n = gv b n + d * 65536 ^ (n - 1 - i) := by
  intro n
  induction n with
  | zero => intro h; omega
  | succ n ih =>
    intro hi
    rw [gv, gv]
    by_cases c : i = n
    · subst c
      have h1 : gv (upd b i v) i = gv b i := gv_same i (fun k hk => by unfold upd; rw [if_neg (by omega)])
      have h2 : upd b i v i = v := by unfold upd; rw [if_pos rfl]
      rw [h1, h2, hv, show i + 1 - 1 - i = 0 from by omega, Nat.pow_zero]
      omega
    · have h2 : upd b i v n = b n := by unfold upd; rw [if_neg (by omega)]
      rw [ih (by omega), h2, show n + 1 - 1 - i = (n - 1 - i) + 1 from by omega, Nat.pow_succ, Nat.add_mul, ← Nat.mul_assoc]
      omega
theorem gv_ge {b : Nat → Int32} {i : Nat} : ∀ n, i < n → (b i).toInt.toNat * 65536 ^ (n - 1 - i) ≤ gv b n := by
  intro n
  induction n with
  | zero => intro h; omega
  | succ n ih =>
    intro hi
    rw [gv]
    by_cases c : i = n
    · subst c
      rw [show i + 1 - 1 - i = 0 from by omega, Nat.pow_zero]
      omega
    · have h := ih (by omega)
      rw [show n + 1 - 1 - i = (n - 1 - i) + 1 from by omega, Nat.pow_succ, ← Nat.mul_assoc]
      omega
theorem sh16 {x : Int32} : (ji_shr x (16 : Int32)).toInt = x.toInt / 65536 := by
  show (x >>> ((16 : Int32) &&& 31)).toInt = _
  have h1 : ((16 : Int32) &&& 31 : Int32) = 16 := by decide
  rw [h1]
  have h2 : (x >>> (16 : Int32)).toBitVec = x.toBitVec.sshiftRight 16 := by
    rw [Int32.toBitVec_shiftRight]
    have h3 : (Int32.toBitVec 16).smod 32 = 16#32 := by decide
    rw [h3]
    rfl
  have h4 : (x >>> (16 : Int32)).toInt = (x.toBitVec.sshiftRight 16).toInt := by
    show (x >>> (16 : Int32)).toBitVec.toInt = _
    rw [h2]
  rw [h4, BitVec.toInt_sshiftRight, Int.shiftRight_eq_div_pow]
  rfl
theorem nd_loop : ∀ (f : Nat) (ua : Nat → Nat → Int32) (x1 x2 : Int32) (j : Nat), x2.toInt + 1 = j → j < f → j ≤ 12 → bk (ua 14) → (0 ≤ x1.toInt ∧ x1.toInt ≤ 9) →
    bk ((gX5_nextDigit_5 f ua x1 x2).1 14) ∧ (gX5_nextDigit_5 f ua x1 x2).2.1.toInt.toNat * 65536 ^ j + gv ((gX5_nextDigit_5 f ua x1 x2).1 14) j = 10 * gv (ua 14) j + x1.toInt.toNat ∧ (0 ≤ (gX5_nextDigit_5 f ua x1 x2).2.1.toInt ∧ (gX5_nextDigit_5 f ua x1 x2).2.1.toInt ≤ 9) ∧ (∀ k, j ≤ k → (gX5_nextDigit_5 f ua x1 x2).1 14 k = ua 14 k) ∧ (∀ k, k ≠ 14 → (gX5_nextDigit_5 f ua x1 x2).1 k = ua k) := by
  have e0 : (0 : Int32).toInt = 0 := by decide
  have e10 : (10 : Int32).toInt = 10 := by decide
  intro f
  induction f with
  | zero => intro ua x1 x2 j _ h; omega
  | succ f ih =>
    intro ua x1 x2 j hx hf hj hb h1
    rw [gX5_nextDigit_5]
    by_cases c : x2 < 0
    · rw [if_pos c]
      rw [mi_lt, e0] at c
      have hj0 : j = 0 := by omega
      subst hj0
      refine ⟨hb, ?_, h1, fun _ _ => rfl, fun _ _ => rfl⟩
      show x1.toInt.toNat * 65536 ^ 0 + gv (ua 14) 0 = 10 * gv (ua 14) 0 + x1.toInt.toNat
      rw [gv, Nat.pow_zero]
      omega
    · rw [if_neg c]
      rw [mi_lt, e0] at c
      obtain ⟨i, rfl⟩ : ∃ i, j = i + 1 := ⟨j - 1, by omega⟩
      have hcl : x2.toNatClampNeg = i := by
        show x2.toInt.toNat = i
        omega
      rw [hcl]
      have hbi := hb i (by omega)
      have hm : ((10 : Int32) * ua 14 i).toInt = 10 * (ua 14 i).toInt := by
        rw [mi_mul (by rw [e10]; omega) (by rw [e10]; omega), e10]
      have hs : (x1 + (10 : Int32) * ua 14 i).toInt = x1.toInt + 10 * (ua 14 i).toInt := by
        rw [mi_add (by omega) (by omega), hm]
      generalize x1 + (10 : Int32) * ua 14 i = s at *
      have hlo : (s &&& (65535 : Int32)).toInt = (s.toInt.toNat % 2 ^ 16 : Nat) := mi_and (k := 16) (by omega) (by decide) (by decide)
      have hhi := sh16 (x := s)
      obtain ⟨y, hy, hy1⟩ := dec1 (x := x2) (by omega)
      rw [← hy]
      clear hy
      have hup : ∀ k, (va_up ua 14 (upd (ua 14) i (s &&& (65535 : Int32)))) 14 k = if k = i then (s &&& (65535 : Int32)) else ua 14 k := fun _ => rfl
      have hb1 : bk ((va_up ua 14 (upd (ua 14) i (s &&& (65535 : Int32)))) 14) := by
        intro k hk
        rw [hup]
        split
        · omega
        · exact hb k hk
      obtain ⟨r1, r2, r3, r4, r5⟩ := ih (va_up ua 14 (upd (ua 14) i (s &&& (65535 : Int32)))) (ji_shr s (16 : Int32)) y i (by omega) (by omega) (by omega) hb1 (by omega)
      have hg1 : gv ((va_up ua 14 (upd (ua 14) i (s &&& (65535 : Int32)))) 14) i = gv (ua 14) i := gv_same i (fun k hk => by rw [hup, if_neg (by omega)])
      rw [hg1] at r2
      have hGi : (gX5_nextDigit_5 f (va_up ua 14 (upd (ua 14) i (s &&& (65535 : Int32)))) (ji_shr s (16 : Int32)) y).1 14 i = (s &&& (65535 : Int32)) := by
        rw [r4 i (Nat.le_refl _), hup, if_pos rfl]
      generalize gX5_nextDigit_5 f (va_up ua 14 (upd (ua 14) i (s &&& (65535 : Int32)))) (ji_shr s (16 : Int32)) y = G at *
      refine ⟨r1, ?_, r3, ?_, ?_⟩
      · rw [gv, gv, hGi, Nat.pow_succ, ← Nat.mul_assoc]
        generalize G.2.1.toInt.toNat * 65536 ^ i = X at *
        generalize gv (G.1 14) i = Y at *
        generalize gv (ua 14) i = Z at *
        omega
      · intro k hk
        rw [r4 k (by omega), hup, if_neg (by omega)]
      · intro k hk
        rw [r5 k hk]
        unfold va_up
        rw [if_neg hk]
theorem next_v {ua : Nat → Nat → Int32} (hb : bk (ua 14)) : bk ((fX5_nextDigit ua).2 14) ∧ (fX5_nextDigit ua).1.toInt = (10 * gv (ua 14) 12 / 2 ^ 192 : Nat) ∧ gv ((fX5_nextDigit ua).2 14) 12 = 10 * gv (ua 14) 12 % 2 ^ 192 ∧ (0 ≤ (fX5_nextDigit ua).1.toInt ∧ (fX5_nextDigit ua).1.toInt ≤ 9) ∧ (∀ k, k ≠ 14 → (fX5_nextDigit ua).2 k = ua k) := by
  unfold fX5_nextDigit fX5_nextDigit_43
  obtain ⟨r1, r2, r3, r4, r5⟩ := nd_loop (Nat.succ ((Int32.toInt (11 : Int32) + 1).toNat)) ua (0 : Int32) (11 : Int32) 12 (by decide) (by decide) (by decide) hb (by decide)
  generalize gX5_nextDigit_5 (Nat.succ ((Int32.toInt (11 : Int32) + 1).toNat)) ua (0 : Int32) (11 : Int32) = G at *
  have hl := gv_lt r1 12 (by decide)
  have e0 : (0 : Int32).toInt.toNat = 0 := by decide
  have e192 : 65536 ^ 12 = 2 ^ 192 := by decide
  rw [e192] at hl r2
  rw [e0, Nat.add_zero] at r2
  dsimp only
  refine ⟨r1, ?_, ?_, r3, r5⟩
  · have : 10 * gv (ua 14) 12 / 2 ^ 192 = G.2.1.toInt.toNat := by omega
    rw [this]
    omega
  · omega
theorem lb_loop : ∀ (n : Nat) (ua : Nat → Nat → Int32) (x : Int32) (j : Nat), x.toInt = j → 12 - j < n → (∀ k, (gX5_layBehind_3 n ua x).1 14 k = if j ≤ k ∧ k < 12 then 0 else ua 14 k) ∧ (∀ k, k ≠ 14 → (gX5_layBehind_3 n ua x).1 k = ua k) := by
  have e12 : (12 : Int32).toInt = 12 := by decide
  have e1 : (1 : Int32).toInt = 1 := by decide
  intro n
  induction n with
  | zero => intro ua x j _ h; omega
  | succ n ih =>
    intro ua x j hx hn
    rw [gX5_layBehind_3]
    by_cases c : (12 : Int32) ≤ x
    · rw [if_pos c]
      rw [mi_le, e12] at c
      exact ⟨fun k => by rw [if_neg (by omega)], fun _ _ => rfl⟩
    · rw [if_neg c]
      rw [mi_le, e12] at c
      have hc : x.toNatClampNeg = j := by
        show x.toInt.toNat = j
        omega
      rw [hc]
      obtain ⟨r1, r2⟩ := ih (va_up ua 14 (upd (ua 14) j (0 : Int32))) (x + 1) (j + 1) (by rw [mi_add (by omega) (by omega), e1]; omega) (by omega)
      have hup : ∀ k, (va_up ua 14 (upd (ua 14) j (0 : Int32))) 14 k = if k = j then 0 else ua 14 k := fun _ => rfl
      constructor
      · intro k
        rw [r1 k, hup]
        by_cases q : k = j
        · subst q
          rw [if_neg (by omega), if_pos rfl, if_pos (by omega)]
        · by_cases q2 : j ≤ k ∧ k < 12
          · rw [if_pos (by omega), if_pos q2]
          · rw [if_neg (by omega), if_neg q, if_neg q2]
      · intro k hk
        rw [r2 k hk]
        unfold va_up
        rw [if_neg hk]
theorem gv_zero {b : Nat → Int32} : ∀ n, (∀ k, k < n → b k = 0) → gv b n = 0 := by
  intro n
  induction n with
  | zero => intro _; rfl
  | succ n ih =>
    intro h
    rw [gv, ih (fun k hk => h k (by omega)), h n (by omega)]
    rfl
theorem shl1_v {y : Int32} {s : Nat} (hy : y.toInt = s) (hs : s ≤ 15) : (ji_shl (1 : Int32) y).toInt = (2 ^ s : Nat) := by
  have : y = Int32.ofNat s := by rw [mi_eq, hy, Int32.toInt_ofNat_of_lt (by omega)]
  rw [this]
  have h16 : ∀ t : Fin 16, (ji_shl (1 : Int32) (Int32.ofNat t.val)).toInt = ((2 ^ t.val : Nat) : Int) := by decide
  exact h16 ⟨s, by omega⟩
theorem i_nat {x : Int32} (h : 0 ≤ x.toInt) : x.toBitVec.toNat = x.toInt.toNat := by
  have h2 : x.toInt = if 2 * x.toBitVec.toNat < 4294967296 then (x.toBitVec.toNat : Int) else (x.toBitVec.toNat : Int) - 4294967296 := BitVec.toInt_eq_toNat_cond x.toBitVec
  have h3 : x.toBitVec.toNat < 4294967296 := x.toBitVec.isLt
  split at h2 <;> omega
theorem i_or {x y : Int32} (hx : 0 ≤ x.toInt ∧ x.toInt < 65536) (hy : 0 ≤ y.toInt ∧ y.toInt < 65536) : (x ||| y).toInt = (x.toInt.toNat ||| y.toInt.toNat : Nat) := by
  have h : (x ||| y).toBitVec.toNat = (x.toInt.toNat ||| y.toInt.toNat) := by
    rw [Int32.toBitVec_or, BitVec.toNat_or, i_nat hx.1, i_nat hy.1]
  have hl : (x.toInt.toNat ||| y.toInt.toNat) < 2 ^ 16 := Nat.or_lt_two_pow (by omega) (by omega)
  have h2 : (x ||| y).toInt = if 2 * (x ||| y).toBitVec.toNat < 4294967296 then ((x ||| y).toBitVec.toNat : Int) else ((x ||| y).toBitVec.toNat : Int) - 4294967296 := BitVec.toInt_eq_toNat_cond (x ||| y).toBitVec
  rw [h2, h, if_pos (by omega)]
theorem lay_loop {m : Int64} {e : Int32} (he : -149 ≤ e.toInt ∧ e.toInt ≤ 104) : ∀ (f : Nat) (ua : Nat → Nat → Int32) (x : Int32) (k : Nat), x.toInt = k → k ≤ 24 → 24 - k < f → bk (ua 14) → gv (ua 14) 12 = un m % 2 ^ (min k (-e.toInt).toNat) * 2 ^ (192 - (-e.toInt).toNat) →
    bk ((gX5_layBehind_27 m e f ua x).1 14) ∧ gv ((gX5_layBehind_27 m e f ua x).1 14) 12 = un m % 2 ^ (min 24 (-e.toInt).toNat) * 2 ^ (192 - (-e.toInt).toNat) ∧ (∀ k, k ≠ 14 → (gX5_layBehind_27 m e f ua x).1 k = ua k) := by
  have e24 : (24 : Int32).toInt = 24 := by decide
  have e1 : (1 : Int32).toInt = 1 := by decide
  have e0 : (0 : Int32).toInt = 0 := by decide
  have e15 : (15 : Int32).toInt = 15 := by decide
  have e16 : (16 : Int32).toInt = 16 := by decide
  obtain ⟨D, hD⟩ : ∃ D : Nat, D = (-e.toInt).toNat := ⟨_, rfl⟩
  rw [← hD]
  intro f
  induction f with
  | zero => intro ua x k _ _ h; omega
  | succ f ih =>
    intro ua x k hx hk hf hb hg
    rw [gX5_layBehind_27]
    by_cases c : (24 : Int32) ≤ x
    · rw [if_pos c]
      rw [mi_le, e24] at c
      have hk24 : k = 24 := by omega
      subst hk24
      exact ⟨hb, hg, fun _ _ => rfl⟩
    · rw [if_neg c]
      rw [mi_le, e24] at c
      have hx1 : (x + 1).toInt = (k + 1 : Nat) := by rw [mi_add (by omega) (by omega), e1]; omega
      have hek : (e + x).toInt = e.toInt + k := by rw [mi_add (by omega) (by omega), hx]
      have hng : (-(e + x)).toInt = -(e.toInt + k) := by rw [mi_neg (by omega), hek]
      have hpl : ((-(e + x)) - (1 : Int32)).toInt = -(e.toInt + k) - 1 := by rw [mi_sub (by omega) (by omega), hng, e1]
      generalize (-(e + x)) - (1 : Int32) = pl at *
      by_cases c2 : pl < 0
      · rw [if_pos c2]
        rw [mi_lt, e0] at c2
        refine ih ua (x + 1) (k + 1) hx1 (by omega) (by omega) hb ?_
        rw [hg, show min (k + 1) D = min k D from by omega]
      · rw [if_neg c2]
        rw [mi_lt, e0] at c2
        have hkD : k < D := by omega
        have hmk : min k D = k := by omega
        have hmk1 : min (k + 1) D = k + 1 := by omega
        rw [hmk] at hg
        have hbit : un ((jl_ushr m x) &&& (1 : Int64)) = un m / 2 ^ k % 2 := by
          have h := un_odd (jl_ushr m x)
          rw [un_ushr' hx (by omega)] at h
          exact h
        have hmod : un m % 2 ^ (k + 1) = un m % 2 ^ k + 2 ^ k * (un m / 2 ^ k % 2) := by
          rw [Nat.pow_succ, Nat.mod_mul]
        by_cases c3 : ((jl_ushr m x) &&& (1 : Int64)) = (1 : Int64)
        · rw [if_pos c3]
          rw [un_iff, hbit, show un (1 : Int64) = 1 from by decide] at c3
          have hpn : pl.toInt = (D - k - 1 : Nat) := by omega
          have hidx : (pl / (16 : Int32)).toInt = ((D - k - 1) / 16 : Nat) := by
            rw [mi_div (by omega) (by decide), hpn, e16]
            rfl
          have hrm : (ji_rem pl (16 : Int32)).toInt = ((D - k - 1) % 16 : Nat) := by
            rw [rem_v (by omega) (by decide), hpn, e16]
            rfl
          have hci : (pl / (16 : Int32)).toNatClampNeg = (D - k - 1) / 16 := by
            show (pl / (16 : Int32)).toInt.toNat = _
            omega
          rw [hci]
          have hs15 : ((15 : Int32) - ji_rem pl (16 : Int32)).toInt = (15 - (D - k - 1) % 16 : Nat) := by
            rw [mi_sub (by omega) (by omega), e15, hrm]
            omega
          have hsh := shl1_v hs15 (by omega)
          generalize (15 : Int32) - ji_rem pl (16 : Int32) = sy at *
          generalize ji_shl (1 : Int32) sy = one at *
          obtain ⟨i, hi⟩ : ∃ i, i = (D - k - 1) / 16 := ⟨_, rfl⟩
          obtain ⟨s, hs⟩ : ∃ s, s = 15 - (D - k - 1) % 16 := ⟨_, rfl⟩
          rw [← hi]
          rw [← hs] at hsh
          have hpow : 65536 ^ (12 - 1 - i) * 2 ^ s = 2 ^ (k + (192 - D)) := by
            rw [show (65536 : Nat) = 2 ^ 16 from rfl, ← Nat.pow_mul, ← Nat.pow_add, show 16 * (12 - 1 - i) + s = k + (192 - D) from by omega]
          have hs2 : 2 ^ s < 65536 := by
            have : 2 ^ s ≤ 2 ^ 15 := Nat.pow_le_pow_right (by decide) (by omega)
            omega
          have hbi := hb i (by omega)
          have hwl : (ua 14 i).toInt.toNat < 2 ^ s := by
            have h1 := gv_ge (b := ua 14) (i := i) 12 (by omega)
            rw [hg] at h1
            have h2 : un m % 2 ^ k * 2 ^ (192 - D) < 2 ^ (k + (192 - D)) := by
              rw [Nat.pow_add]
              exact Nat.mul_lt_mul_of_pos_right (Nat.mod_lt _ (Nat.two_pow_pos _)) (Nat.two_pow_pos _)
            rw [← hpow] at h2
            have h3 := Nat.lt_of_le_of_lt h1 h2
            rw [Nat.mul_comm] at h3
            exact Nat.lt_of_mul_lt_mul_left h3
          have hor : (ua 14 i ||| one).toInt = ((ua 14 i).toInt.toNat + 2 ^ s : Nat) := by
            rw [i_or hbi (by rw [hsh]; omega), hsh, Int.toNat_natCast, Nat.or_comm, or_add (k := s) (Nat.mod_self _) hwl, Nat.add_comm]
          have hup : ∀ j, (va_up ua 14 (upd (ua 14) i (ua 14 i ||| one))) 14 j = upd (ua 14) i (ua 14 i ||| one) j := fun _ => rfl
          obtain ⟨r1, r2, r3⟩ := ih (va_up ua 14 (upd (ua 14) i (ua 14 i ||| one))) (x + 1) (k + 1) hx1 (by omega) (by omega) (by
            intro j hj
            rw [hup]
            unfold upd
            split
            · rw [hor]
              have : 2 ^ s + 2 ^ s ≤ 65536 := by
                rw [← Nat.two_mul, ← Nat.pow_succ']
                exact Nat.le_trans (Nat.pow_le_pow_right (by decide) (show s.succ ≤ 16 by omega)) (by decide)
              omega
            · exact hb j hj) (by
            show gv (upd (ua 14) i (ua 14 i ||| one)) 12 = _
            rw [gv_upd (d := 2 ^ s) (by rw [hor, Int.toNat_natCast]) 12 (by omega), hg, hmk1, hmod, c3, Nat.mul_one, Nat.add_mul, Nat.mul_comm (2 ^ s), hpow, Nat.pow_add])
          refine ⟨r1, r2, ?_⟩
          intro j hj
          rw [r3 j hj]
          unfold va_up
          rw [if_neg hj]
        · rw [if_neg c3]
          rw [un_iff, hbit, show un (1 : Int64) = 1 from by decide] at c3
          refine ih ua (x + 1) (k + 1) hx1 (by omega) (by omega) hb ?_
          rw [hg, hmk1, hmod, show un m / 2 ^ k % 2 = 0 from by omega, Nat.mul_zero, Nat.add_zero]
theorem lay_v {ua : Nat → Nat → Int32} {m : Int64} {e : Int32} (hm : un m < 2 ^ 24) (he : -149 ≤ e.toInt ∧ e.toInt ≤ 104) : bk ((fX5_layBehind ua m e) 14) ∧ gv ((fX5_layBehind ua m e) 14) 12 = (un m * 2 ^ (e.toInt + 160).toNat % 2 ^ 160) * 2 ^ 32 ∧ (∀ k, k ≠ 14 → fX5_layBehind ua m e k = ua k) := by
  have e0 : (0 : Int32).toInt = (0 : Nat) := by decide
  unfold fX5_layBehind fX5_layBehind_24 fX5_layBehind_88
  obtain ⟨a1, a2⟩ := lb_loop (Nat.succ ((Int32.toInt (12) - Int32.toInt (0 : Int32)).toNat)) ua (0 : Int32) 0 e0 (by decide)
  generalize (gX5_layBehind_3 (Nat.succ ((Int32.toInt (12) - Int32.toInt (0 : Int32)).toNat)) ua (0 : Int32)).1 = va at *
  have hz : ∀ k, k < 12 → va 14 k = 0 := by
    intro k hk
    rw [a1 k, if_pos (by omega)]
  obtain ⟨r1, r2, r3⟩ := lay_loop (m := m) he (Nat.succ ((Int32.toInt (24) - Int32.toInt (0 : Int32)).toNat)) va (0 : Int32) 0 e0 (by decide) (by decide) (fun k hk => by rw [hz k hk]; decide) (by rw [gv_zero 12 hz, show min 0 (-e.toInt).toNat = 0 from by omega, Nat.pow_zero, Nat.mod_one, Nat.zero_mul])
  refine ⟨r1, ?_, fun k hk => by rw [r3 k hk, a2 k hk]⟩
  rw [r2]
  obtain ⟨D, hD⟩ : ∃ D : Nat, D = (-e.toInt).toNat := ⟨_, rfl⟩
  rw [← hD]
  have hmin : un m % 2 ^ (min 24 D) = un m % 2 ^ D := by
    by_cases q : D ≤ 24
    · rw [show min 24 D = D from by omega]
    · rw [show min 24 D = 24 from by omega, Nat.mod_eq_of_lt hm, Nat.mod_eq_of_lt (Nat.lt_of_lt_of_le hm (Nat.pow_le_pow_right (by decide) (by omega)))]
  rw [hmin]
  by_cases q : 0 ≤ e.toInt
  · have hD0 : D = 0 := by omega
    rw [hD0, Nat.pow_zero, Nat.mod_one, Nat.zero_mul, show (e.toInt + 160).toNat = e.toInt.toNat + 160 from by omega, Nat.pow_add, ← Nat.mul_assoc, Nat.mul_mod_left, Nat.zero_mul]
  · rw [show (e.toInt + 160).toNat = 160 - D from by omega, show (2 : Nat) ^ 160 = 2 ^ D * 2 ^ (160 - D) from by rw [← Nat.pow_add, show D + (160 - D) = 160 from by omega], Nat.mul_mod_mul_right, Nat.mul_assoc, ← Nat.pow_add, show 160 - D + 32 = 192 - D from by omega]
