/-- the exact value of a finite word, in units of 2^-2200 -/
def ex (w : Bool) (x : Int64) : Int := sn (fX2_isNegative w x) * ((un (fX2_plain w x) * 2 ^ ((fX2_scale w x).toInt + 2200).toNat : Nat) : Int)
theorem pp_big {PP : Nat} (hPP : PP = 2 ^ (16 * 290)) : 2 ^ 4600 < PP := by
  rw [hPP]
  exact Nat.pow_lt_pow_right (by decide) (by decide)
theorem ex_bound {w : Bool} {x : Int64} (h : ok w x) : (un (fX2_plain w x) * 2 ^ ((fX2_scale w x).toInt + 2200).toNat : Nat) < 2 ^ 4300 := by
  have h1 := pl_62 h
  have h2 := sc_rg h
  calc un (fX2_plain w x) * 2 ^ ((fX2_scale w x).toInt + 2200).toNat < 2 ^ 53 * 2 ^ ((fX2_scale w x).toInt + 2200).toNat := Nat.mul_lt_mul_of_pos_right h1 (Nat.two_pow_pos _)
    _ = 2 ^ (53 + ((fX2_scale w x).toInt + 2200).toNat) := (Nat.pow_add ..).symm
    _ ≤ 2 ^ 4300 := Nat.pow_le_pow_right (by decide) (by omega)
theorem bnd_le {us : Nat → Int64} {B C : Int} (h : bnd us B) (hBC : B ≤ C) : bnd us C := by
  intro k hk
  have := h k hk
  omega
theorem add_fin {w : Bool} {us : Nat → Int64} {a b : Int64} (ha : ok w a) (hb : ok w b) {x1 : Int32} :
    (fX5_sumRounded (fX5_addTo (fX5_addTo (fX5_clearSum us) (fX2_isNegative w a) (fX2_plain w a) (fX2_scale w a)) (fX2_isNegative w b) (fX2_plain w b) (fX2_scale w b)) x1 (wi w)).1 = if ex w a + ex w b = 0 then (if x1 = 0 then 0 else fo_sign w) else rv w (ex w a + ex w b) (-2200) := by
  have ra := sc_rg ha
  have rb := sc_rg hb
  obtain ⟨p1, p2⟩ := addTo_v (x1 := fX2_isNegative w a) (x4 := fX2_scale w a) (m := fX2_plain w a) (by omega) (clr_bnd us) (by decide)
  obtain ⟨q1, q2⟩ := addTo_v (x1 := fX2_isNegative w b) (x4 := fX2_scale w b) (m := fX2_plain w b) (by omega) p2 (by decide)
  rw [clr_sv, Int.zero_add] at p1
  rw [p1] at q1
  obtain ⟨PP, hPP⟩ : ∃ PP : Nat, PP = 2 ^ (16 * 290) := ⟨_, rfl⟩
  have hbig := pp_big hPP
  have b1 := ex_bound ha
  have b2 := ex_bound hb
  have h46 : (2 : Nat) ^ 4300 + 2 ^ 4300 ≤ 2 ^ 4600 := by
    rw [← Nat.two_mul, ← Nat.pow_succ']
    exact Nat.pow_le_pow_right (by decide) (by decide)
  rw [sumRounded_v hPP q2 (by decide) ?_ ?_, q1]
  · rfl
  · rw [q1]
    generalize (un (fX2_plain w a) * 2 ^ ((fX2_scale w a).toInt + 2200).toNat : Nat) = A at *
    generalize (un (fX2_plain w b) * 2 ^ ((fX2_scale w b).toInt + 2200).toNat : Nat) = B at *
    generalize (2 : Nat) ^ 4300 = U at *
    generalize (2 : Nat) ^ 4600 = V at *
    clear q1 p1 hPP
    rcases sn_or (fX2_isNegative w a) with s1 | s1 <;> rcases sn_or (fX2_isNegative w b) with s2 | s2 <;> rw [s1, s2] <;> omega
  · rw [q1]
    generalize (un (fX2_plain w a) * 2 ^ ((fX2_scale w a).toInt + 2200).toNat : Nat) = A at *
    generalize (un (fX2_plain w b) * 2 ^ ((fX2_scale w b).toInt + 2200).toNat : Nat) = B at *
    generalize (2 : Nat) ^ 4300 = U at *
    generalize (2 : Nat) ^ 4600 = V at *
    clear q1 p1 hPP
    rcases sn_or (fX2_isNegative w a) with s1 | s1 <;> rcases sn_or (fX2_isNegative w b) with s2 | s2 <;> rw [s1, s2] <;> omega
theorem sh_v (w : Bool) : ((61 : Int32) - fo_fraction w).toInt = (61 - mt w : Nat) := by cases w <;> decide
theorem low_lt {V k j : Nat} (h : V < 2 ^ j) (hj : 0 < j) : V / 2 ^ k ||| stk V k < 2 ^ j := by
  apply Nat.or_lt_two_pow
  · exact Nat.lt_of_le_of_lt (Nat.div_le_self _ _) h
  · unfold stk
    have : 2 ^ 1 ≤ 2 ^ j := Nat.pow_le_pow_right (by decide) hj
    split <;> omega
theorem sgn_i {n : Int32} {v : Int64} (h : un v < 2 ^ 62) : (if n = 0 then v else -v).toInt = sn n * (un v : Int) := by
  unfold sn
  by_cases c : n = 0
  · rw [if_pos c, if_pos c, un_pos (by omega)]
    omega
  · rw [if_neg c, if_neg c, ml_neg (by rw [un_pos (by omega)]; omega), un_pos (by omega)]
    omega
theorem abs_i {t : Int64} (h : -9223372036854775808 < t.toInt) : un (jl_abs t) = t.toInt.natAbs := by
  have l0 : (0 : Int64).toInt = 0 := by decide
  have := ml_hi t
  unfold jl_abs
  by_cases c : 0 < t
  · rw [if_pos c]
    rw [un_lt_iff, l0] at c
    exact un_of_int (by omega)
  · rw [if_neg c]
    rw [un_lt_iff, l0] at c
    apply un_of_int
    rw [ml_neg h]
    omega
/-- the class's ends of a sum -/
theorem sum180 {w : Bool} {x5 x6 : Int32} {s0 s1 : Int64} {t e : Int} (h : (s0 + s1).toInt = t) (ht : -(2 ^ 63) < t) (he : (x6 - x5).toInt = e) (he2 : -20000 ≤ e ∧ e ≤ 20000) : fX2_sum_180 w x5 x6 s0 s1 = if t = 0 then 0 else rv w t e := by
  have l0 : (0 : Int64).toInt = 0 := by decide
  unfold fX2_sum_180
  generalize s0 + s1 = v at *
  have hz : v = (0 : Int64) ↔ t = 0 := by rw [ml_eq, l0, h]
  by_cases c : t = 0
  · rw [if_pos (hz.mpr c), if_pos c]
  · rw [if_neg (fun q => c (hz.mp q)), if_neg c]
    have hab : un (jl_abs v) = t.natAbs := by rw [abs_i (by omega), h]
    have hle : (0 : Int64) ≤ v ↔ 0 ≤ t := by rw [un_le_iff, l0, h]
    unfold fX2_sum_205 rv
    by_cases c2 : 0 ≤ t
    · rw [if_pos (hle.mpr c2), roundA (by omega) (by rw [he]; exact he2), hab, he, if_neg (by omega)]
    · rw [if_neg (fun q => c2 (hle.mp q)), roundA (by omega) (by rw [he]; exact he2), hab, he, if_pos (by omega)]
/-- one summand whole, the other cut behind -/
theorem sum_core {w : Bool} {pa pb : Nat} {na nb' : Int32} {sa sb : Int} {K : Nat} (ha : pa < 2 ^ (mt w + 1)) (hb : pb < 2 ^ (mt w + 1)) (hK : sa - sb = K) (hs : E0 w ≤ sb) (hn : E0 w < sa → 2 ^ mt w ≤ pa) (hlo : -1074 ≤ sb) :
    (let t := sn na * ((pa * 2 ^ (61 - mt w) : Nat) : Int) + sn nb' * ((pb * 2 ^ (61 - mt w) / 2 ^ K ||| stk (pb * 2 ^ (61 - mt w)) K : Nat) : Int)
     let S := sn na * ((pa * 2 ^ (sa + 2200).toNat : Nat) : Int) + sn nb' * ((pb * 2 ^ (sb + 2200).toNat : Nat) : Int)
     (S = 0 ↔ t = 0) ∧ (t ≠ 0 → rv w t (sa - (61 - mt w : Nat)) = rv w S (-2200))) := by
  dsimp only
  have hmt : mt w ≤ 52 ∧ 23 ≤ mt w := by cases w <;> decide
  obtain ⟨sh, hsh⟩ : ∃ sh, sh = 61 - mt w := ⟨_, rfl⟩
  rw [← hsh]
  have hj := jz_add (c := sn na * ((pa * 2 ^ (sh - 1) : Nat) : Int)) (jz_sn nb' (jz_of (jam_or (pb * 2 ^ sh) K)))
  have e2 : 2 * (sn na * ((pa * 2 ^ (sh - 1) : Nat) : Int)) = sn na * ((pa * 2 ^ sh : Nat) : Int) := by
    rw [show (2 : Nat) ^ sh = 2 * 2 ^ (sh - 1) from by rw [← Nat.pow_succ', show (sh - 1).succ = sh from by omega], Nat.mul_left_comm, Int.natCast_mul 2, Int.mul_left_comm]
    rfl
  rw [e2] at hj
  have eT : sn nb' * ((pb * 2 ^ sh : Nat) : Int) + sn na * ((pa * 2 ^ sh : Nat) : Int) * ((2 ^ K : Nat) : Int) = sn na * ((pa * 2 ^ (sh + K) : Nat) : Int) + sn nb' * ((pb * 2 ^ sh : Nat) : Int) := by
    rw [Int.add_comm, Int.mul_assoc, ← Int.natCast_mul, Nat.mul_assoc, Nat.pow_add]
  rw [eT, Int.add_comm (sn nb' * ((pb * 2 ^ sh / 2 ^ K ||| stk (pb * 2 ^ sh) K : Nat) : Int))] at hj
  obtain ⟨R, hR⟩ : ∃ R : Nat, R = (sb + 2200).toNat - sh := ⟨_, rfl⟩
  have eS : sn na * ((pa * 2 ^ (sa + 2200).toNat : Nat) : Int) + sn nb' * ((pb * 2 ^ (sb + 2200).toNat : Nat) : Int) = (sn na * ((pa * 2 ^ (sh + K) : Nat) : Int) + sn nb' * ((pb * 2 ^ sh : Nat) : Int)) * ((2 ^ R : Nat) : Int) := by
    rw [Int.add_mul, Int.mul_assoc, Int.mul_assoc, ← Int.natCast_mul, ← Int.natCast_mul, Nat.mul_assoc, Nat.mul_assoc, ← Nat.pow_add, ← Nat.pow_add, show sh + K + R = (sa + 2200).toNat from by omega, show sh + R = (sb + 2200).toNat from by omega]
  have hSj : jz (sn na * ((pa * 2 ^ (sa + 2200).toNat : Nat) : Int) + sn nb' * ((pb * 2 ^ (sb + 2200).toNat : Nat) : Int)) R (sn na * ((pa * 2 ^ (sh + K) : Nat) : Int) + sn nb' * ((pb * 2 ^ sh : Nat) : Int)) := Or.inl eS
  obtain ⟨_, z1, _⟩ := jz_abs hj
  obtain ⟨_, z2, _⟩ := jz_abs hSj
  refine ⟨z2.trans z1, ?_⟩
  intro ht
  rw [rv_scale eS (fun q => ht (z1.mp q))]
  have hdis : (sn na * ((pa * 2 ^ (sh + K) : Nat) : Int) + sn nb' * ((pb * 2 ^ sh : Nat) : Int) = (sn na * ((pa * 2 ^ sh : Nat) : Int) + sn nb' * ((pb * 2 ^ sh / 2 ^ K ||| stk (pb * 2 ^ sh) K : Nat) : Int)) * ((2 ^ K : Nat) : Int)) ∨ 2 ^ (mt w + 2) ≤ (sn na * ((pa * 2 ^ sh : Nat) : Int) + sn nb' * ((pb * 2 ^ sh / 2 ^ K ||| stk (pb * 2 ^ sh) K : Nat) : Int)).natAbs := by
    rcases Nat.lt_or_ge sh K with c | c
    · right
      have hpa : 2 ^ mt w ≤ pa := hn (by omega)
      have h1 : 2 ^ 61 ≤ pa * 2 ^ sh := by
        calc 2 ^ 61 = 2 ^ mt w * 2 ^ sh := by rw [← Nat.pow_add, show mt w + sh = 61 from by omega]
          _ ≤ pa * 2 ^ sh := Nat.mul_le_mul_right _ hpa
      have h2 : pb * 2 ^ sh / 2 ^ K ||| stk (pb * 2 ^ sh) K < 2 ^ 60 := by
        have h3 : pb * 2 ^ sh < 2 ^ 62 := by
          calc pb * 2 ^ sh < 2 ^ (mt w + 1) * 2 ^ sh := Nat.mul_lt_mul_of_pos_right hb (Nat.two_pow_pos _)
            _ = 2 ^ 62 := by rw [← Nat.pow_add, show mt w + 1 + sh = 62 from by omega]
        apply Nat.or_lt_two_pow
        · rw [Nat.div_lt_iff_lt_mul (Nat.two_pow_pos K)]
          calc pb * 2 ^ sh < 2 ^ 62 := h3
            _ ≤ 2 ^ 60 * 2 ^ K := by rw [← Nat.pow_add]; exact Nat.pow_le_pow_right (by decide) (by omega)
        · unfold stk
          split <;> decide
      have h3 : 2 ^ (mt w + 2) ≤ 2 ^ 60 := Nat.pow_le_pow_right (by decide) (by omega)
      generalize pb * 2 ^ sh / 2 ^ K ||| stk (pb * 2 ^ sh) K = B at *
      generalize pa * 2 ^ sh = A at *
      generalize 2 ^ (mt w + 2) = U at *
      clear hj eS hSj z1 z2 eT e2
      rcases sn_or na with s1 | s1 <;> rcases sn_or nb' with s2 | s2 <;> rw [s1, s2] <;> omega
    · left
      have hst : pb * 2 ^ sh % 2 ^ K = 0 := by
        rw [show sh = (sh - K) + K from by omega, Nat.pow_add, ← Nat.mul_assoc, Nat.mul_mod_left]
      have hor : (pb * 2 ^ sh / 2 ^ K ||| stk (pb * 2 ^ sh) K) = pb * 2 ^ (sh - K) := by
        unfold stk
        rw [if_pos hst, Nat.or_zero, show sh = (sh - K) + K from by omega, Nat.pow_add, ← Nat.mul_assoc, Nat.mul_div_cancel _ (Nat.two_pow_pos K), Nat.add_sub_cancel]
      rw [hor, Int.add_mul, Int.mul_assoc, Int.mul_assoc, ← Int.natCast_mul, ← Int.natCast_mul, Nat.mul_assoc, Nat.mul_assoc, ← Nat.pow_add, ← Nat.pow_add, show sh - K + K = sh from by omega]
  rw [rv_jam (e := -2200 + (R : Int)) hj ht hdis]
  congr 1
  omega
