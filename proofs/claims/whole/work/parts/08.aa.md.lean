/-- a whole number from K and a rest R of which H is the half -/
def wv (way neg : Int32) (K R H : Nat) : Nat := K + if R ≠ 0 ∧ ((way = 0 ∧ neg = 0) ∨ (way = 1 ∧ ¬ neg = 0) ∨ (way = 2 ∧ (H < R ∨ (R = H ∧ K % 2 = 1)))) then 1 else 0
theorem whole_tail {w : Bool} {a kept rest half : Int64} {way : Int32} {K R H : Nat} (hw : way = 0 ∨ way = 1 ∨ way = 2 ∨ way = 3) (hk : un kept = K) (hr : un rest = R) (hh : un half = H) (hK : K < 2 ^ 60) (hR : R < 2 ^ 63) (hH : H < 2 ^ 63) :
    ∃ V : Int64, un V = wv way (fX2_isNegative w a) K R H ∧ fX5_whole_125 a way (wi w) kept rest half = fX5_rounded (fX2_isNegative w a) V 0 0 (wi w) := by
  have u0 : un (0 : Int64) = 0 := by decide
  have u1 : un (1 : Int64) = 1 := by decide
  have n10 : ¬ ((1 : Int32) = 0) := by decide
  have hk0 : un (kept + (0 : Int64)) = K := by rw [un_add, hk, u0, Nat.mod_eq_of_lt (by omega)]; rfl
  have hk1 : un (kept + (1 : Int64)) = K + 1 := by rw [un_add, hk, u1, Nat.mod_eq_of_lt (by omega)]
  have hr0 : rest = (0 : Int64) ↔ R = 0 := by rw [un_iff, hr, u0]
  have hlt : half < rest ↔ H < R := by rw [un_lt' (by omega) (by omega), hh, hr]
  have heq : rest = half ↔ R = H := by rw [un_iff, hr, hh]
  have hodd : (kept &&& (1 : Int64)) = (1 : Int64) ↔ K % 2 = 1 := by rw [un_iff, un_odd, hk, u1]
  have F1 : ∃ V : Int64, un V = K + (if R ≠ 0 then 1 else 0) ∧ fX5_whole_197 a (wi w) kept rest 1 = fX5_rounded (fX2_isNegative w a) V 0 0 (wi w) := by
    unfold fX5_whole_197 fX5_whole_217 fX5_whole_218
    rw [if_neg n10, dq_isNeg]
    by_cases c : rest = (0 : Int64)
    · rw [if_pos c]
      rw [hr0] at c
      exact ⟨_, by rw [hk0, if_neg (fun q => q c)]; rfl, rfl⟩
    · rw [if_neg c]
      rw [hr0] at c
      exact ⟨_, by rw [hk1, if_pos c], rfl⟩
  have F0 : fX5_whole_197 a (wi w) kept rest 0 = fX5_rounded (fX2_isNegative w a) (kept + (0 : Int64)) 0 0 (wi w) := by
    unfold fX5_whole_197 fX5_whole_217 fX5_whole_218
    rw [if_pos rfl, dq_isNeg]
  unfold fX5_whole_125 fX5_whole_192 fX5_whole_196
  rw [dq_isNeg]
  rcases hw with rfl | rfl | rfl | rfl
  · rw [if_pos rfl]
    by_cases c : fX2_isNegative w a = 0
    · rw [if_pos c]
      obtain ⟨V, h1, h2⟩ := F1
      refine ⟨V, ?_, h2⟩
      rw [h1]
      unfold wv
      congr 1
      simp [c]
    · rw [if_neg c]
      refine ⟨_, ?_, F0⟩
      rw [hk0]
      unfold wv
      simp [c]
  · rw [if_neg n10, if_pos rfl]
    rcases z_neg w a with c | c
    · rw [c]
      refine ⟨_, ?_, F0.trans (by rw [c])⟩
      rw [hk0]
      unfold wv
      simp
    · rw [c]
      obtain ⟨V, h1, h2⟩ := F1
      refine ⟨V, ?_, h2.trans (by rw [c])⟩
      rw [h1]
      unfold wv
      congr 1
      simp
  · rw [if_neg (by decide), if_neg (by decide), if_pos rfl]
    by_cases c1 : half < rest
    · rw [if_pos c1]
      rw [hlt] at c1
      obtain ⟨V, h1, h2⟩ := F1
      refine ⟨V, ?_, h2⟩
      rw [h1]
      unfold wv
      rw [if_pos (by omega), if_pos ⟨by omega, Or.inr (Or.inr ⟨rfl, Or.inl c1⟩)⟩]
    · rw [if_neg c1]
      rw [hlt] at c1
      by_cases c2 : rest = half
      · rw [if_pos c2]
        rw [heq] at c2
        by_cases c3 : (kept &&& (1 : Int64)) = (1 : Int64)
        · rw [if_pos c3]
          rw [hodd] at c3
          obtain ⟨V, h1, h2⟩ := F1
          refine ⟨V, ?_, h2⟩
          rw [h1]
          unfold wv
          congr 1
          simp [c2, c3]
        · rw [if_neg c3]
          rw [hodd] at c3
          refine ⟨_, ?_, F0⟩
          rw [hk0]
          unfold wv
          rw [if_neg]
          · rfl
          · rintro ⟨-, h | h | ⟨-, h | h⟩⟩
            · exact absurd h.1 (by decide)
            · exact absurd h.1 (by decide)
            · exact c1 h
            · exact c3 h.2
      · rw [if_neg c2]
        rw [heq] at c2
        refine ⟨_, ?_, F0⟩
        rw [hk0]
        unfold wv
        rw [if_neg]
        · rfl
        · rintro ⟨-, h | h | ⟨-, h | h⟩⟩
          · exact absurd h.1 (by decide)
          · exact absurd h.1 (by decide)
          · exact c1 h
          · exact c2 h.1
  · rw [if_neg (by decide), if_neg (by decide), if_neg (by decide)]
    refine ⟨_, ?_, F0⟩
    rw [hk0]
    unfold wv
    rw [if_neg]
    · rfl
    · rintro ⟨-, h | h | h⟩
      · exact absurd h.1 (by decide)
      · exact absurd h.1 (by decide)
      · exact absurd h.1 (by decide)
/-- the reference's whole number of what has digits behind the point -/
theorem whole5 {w : Bool} {a : Int64} {way : Int32} {D : Nat} (ha : fin w a) (hz : fX2_isZero w a = 0) (hw : way = 0 ∨ way = 1 ∨ way = 2 ∨ way = 3) (hD : (fX2_scale w a).toInt = -(D : Int)) (hD1 : 0 < D) :
    ∃ V : Int64, un V = wv way (fX2_isNegative w a) (un (fX2_plain w a) / 2 ^ D) (un (fX2_plain w a) % 2 ^ D) (2 ^ (D - 1)) ∧ fX5_whole a way (wi w) = fX5_rounded (fX2_isNegative w a) V 0 0 (wi w) := by
  have hsa := sc_rg ha.1
  have hla := pl_62 ha.1
  have hf := ha.2
  have e0 : (0 : Int32).toInt = 0 := by decide
  have e1 : (1 : Int32).toInt = 1 := by decide
  have e62 : (62 : Int32).toInt = 62 := by decide
  have hnan : fX2_isNan w a = 0 := (nan0 ha.1).mpr (by omega)
  have hinf : fX2_isInfinite w a = 0 := (inf0 ha.1).mpr (by omega)
  unfold fX5_whole fX5_whole_34 fX5_whole_81 fX5_whole_104
  rw [dq_isNan ha.1, dq_isInf ha.1, dq_isZero ha.1, dq_scale ha.1, dq_dig ha.1, if_pos hnan, if_pos hinf, if_neg (by rw [mi_le, e0]; omega), if_pos hz]
  have hn : (-(fX2_scale w a)).toInt = D := by rw [mi_neg (by omega), hD]; omega
  by_cases c : -(fX2_scale w a) ≤ (62 : Int32)
  · simp only [if_pos c]
    rw [mi_le, hn, e62] at c
    apply whole_tail hw
    · exact un_ushr' hn (by omega)
    · exact un_mask hn (by omega)
    · apply un_one
      · rw [mi_sub (by omega) (by omega), hn, e1]
        omega
      · omega
    · have := Nat.div_le_self (un (fX2_plain w a)) (2 ^ D)
      omega
    · have := Nat.mod_le (un (fX2_plain w a)) (2 ^ D)
      omega
    · exact Nat.pow_lt_pow_right (by decide) (by omega)
  · simp only [if_neg c]
    rw [mi_le, hn, e62] at c
    have hp : 2 ^ 62 ≤ 2 ^ (D - 1) := Nat.pow_le_pow_right (by decide) (by omega)
    have hp2 : 2 ^ (D - 1) ≤ 2 ^ D := Nat.pow_le_pow_right (by decide) (by omega)
    have h1 : un (fX2_plain w a) / 2 ^ D = 0 := Nat.div_eq_of_lt (by omega)
    have h2 : un (fX2_plain w a) % 2 ^ D = un (fX2_plain w a) := Nat.mod_eq_of_lt (by omega)
    obtain ⟨V, g1, g2⟩ := whole_tail (w := w) (a := a) (kept := 0) (rest := fX2_plain w a) (half := (4611686018427387904 : Int64)) (K := 0) (R := un (fX2_plain w a)) (H := 4611686018427387904) hw (by decide) rfl (by decide) (by decide) (by omega) (by decide)
    refine ⟨V, ?_, g2⟩
    rw [g1, h1, h2]
    unfold wv
    congr 1
    have q1 : ¬ 4611686018427387904 < un (fX2_plain w a) := by omega
    have q2 : ¬ un (fX2_plain w a) = 4611686018427387904 := by omega
    have q3 : ¬ 2 ^ (D - 1) < un (fX2_plain w a) := by omega
    have q4 : ¬ un (fX2_plain w a) = 2 ^ (D - 1) := by omega
    simp only [q1, q2, q3, q4, false_and, or_false, and_false]
/-- a whole number's word -/
def wres (w : Bool) (n : Int32) (V : Nat) : Int64 := if V = 0 then sg w n else (sg w n ||| ow (rw_ w V 0))
theorem round0 {w : Bool} {n : Int32} {V : Int64} (hV : un V < 2 ^ 62) : fX5_rounded n V 0 0 (wi w) = wres w n (un V) := by
  unfold wres
  split
  · rename_i h
    exact roundBz h
  · rename_i h
    exact roundB0 (by omega) hV (by decide)
theorem rn_int {w : Bool} {V E : Nat} (hE : E ≤ mt w) (h1 : 2 ^ E ≤ V) (h2 : V ≤ 2 ^ (E + 1)) : rw_ w V 0 = ((E : Int) - mt w - E0 w).toNat * 2 ^ mt w + V * 2 ^ (mt w - E) ∧ rw_ w V 0 < IN w := by
  have hmt : 23 ≤ mt w ∧ mt w ≤ 52 := by cases w <;> decide
  have hE0 : -1074 ≤ E0 w ∧ E0 w ≤ -149 := by cases w <;> decide
  have hV : 0 < V := Nat.lt_of_lt_of_le (Nat.two_pow_pos E) h1
  have hs := rn_shift (mt w) (E0 w) (IN w) hV (mt w - E) (-((mt w - E : Nat) : Int))
  rw [show (-((mt w - E : Nat) : Int)) + ((mt w - E : Nat) : Int) = 0 from by omega] at hs
  have hq1 : 2 ^ mt w ≤ V * 2 ^ (mt w - E) := by
    have g : 2 ^ E * 2 ^ (mt w - E) ≤ V * 2 ^ (mt w - E) := Nat.mul_le_mul_right _ h1
    rw [← Nat.pow_add, show E + (mt w - E) = mt w from by omega] at g
    exact g
  have hq2 : V * 2 ^ (mt w - E) ≤ 2 ^ (mt w + 1) := by
    have g : V * 2 ^ (mt w - E) ≤ 2 ^ (E + 1) * 2 ^ (mt w - E) := Nat.mul_le_mul_right _ h2
    rw [← Nat.pow_add, show E + 1 + (mt w - E) = mt w + 1 from by omega] at g
    exact g
  have hI : (0 - E0 w).toNat * 2 ^ mt w + 2 ^ (mt w + 1) < IN w := by cases w <;> decide
  have hI2 : ((E : Int) - mt w - E0 w).toNat * 2 ^ mt w ≤ (0 - E0 w).toNat * 2 ^ mt w := Nat.mul_le_mul_right _ (by omega)
  have hn := rn_norm (w := w) (Q := V * 2 ^ (mt w - E)) (u := -((mt w - E : Nat) : Int)) hq1 hq2 (by omega) (by rw [show (-((mt w - E : Nat) : Int)) - E0 w = (E : Int) - mt w - E0 w from by omega]; omega)
  rw [show (-((mt w - E : Nat) : Int)) - E0 w = (E : Int) - mt w - E0 w from by omega] at hn
  have hr : rw_ w V 0 = ((E : Int) - mt w - E0 w).toNat * 2 ^ mt w + V * 2 ^ (mt w - E) := by
    rw [← hn]
    exact hs.symm
  exact ⟨hr, by omega⟩
