theorem bits_loop {x : Int64} (hx : un x < 2 ^ 63) : ∀ (n : Nat) (y : Int32) (j : Nat), y.toInt = j → j ≤ nb (un x) → 63 - j < n → (gX5_bitsOf_2 x n y).toInt = nb (un x) := by
  have hnb : nb (un x) ≤ 63 := nb_le.mpr hx
  have e63 : (63 : Int32).toInt = 63 := by decide
  have e1 : (1 : Int32).toInt = 1 := by decide
  intro n
  induction n with
  | zero => intro y j _ _ h; omega
  | succ n ih =>
    intro y j hy hj hn
    rw [gX5_bitsOf_2]
    by_cases h : (63 : Int32) ≤ y
    · rw [if_pos h]
      rw [mi_le, e63] at h
      omega
    · rw [if_neg h]
      rw [mi_le, e63] at h
      by_cases g : jl_ushr x y = (0 : Int64)
      · rw [if_pos g]
        rw [ushr0 hy (by omega)] at g
        have := nb_le.mpr g
        omega
      · rw [if_neg g]
        rw [ushr0 hy (by omega)] at g
        apply ih (y + 1) (j + 1)
        · rw [mi_add (by omega) (by omega), e1]
          omega
        · rcases Nat.lt_or_ge j (nb (un x)) with q | q
          · omega
          · exact absurd (nb_le.mp q) g
        · omega
theorem bits_v {x : Int64} (hx : un x < 2 ^ 63) : (fX5_bitsOf x).toInt = nb (un x) := by
  unfold fX5_bitsOf fX5_bitsOf_22
  exact bits_loop hx _ _ 0 (by decide) (Nat.zero_le _) (by decide)
theorem or3 (s a b : Int64) : ((s ||| a) ||| b) = (s ||| (a ||| b)) := by
  apply un_inj
  rw [un_or, un_or, un_or, un_or, Nat.or_assoc]
theorem rB_251 {w : Bool} {s kept : Int64} {A : Int32} {k : Nat} {u : Int} (hk : un kept = k) (hk2 : k < 2 ^ (mt w + 1)) (hA : A.toInt = u) (hu : E0 w ≤ u ∧ u ≤ 30000) (hn : E0 w < u → 2 ^ mt w ≤ k) : fX5_rounded_251 (wi w) s kept A = (s ||| ow (min (IN w) ((u - E0 w).toNat * 2 ^ mt w + k))) := by
  have hmt : 23 ≤ mt w ∧ mt w ≤ 52 := by cases w <;> decide
  have hE : -1074 ≤ E0 w ∧ E0 w ≤ -149 := by cases w <;> decide
  have hbv := bias_v w
  have hfv := fr_mt w
  have htop := top_v w
  have htl : (fo_top w).toInt ≤ 2047 := by cases w <;> decide
  have hIN : IN w = IN w / 2 ^ mt w * 2 ^ mt w := by cases w <;> decide
  have h1 := un_one (fr_mt w) (mt_lt w)
  have hp52 : 2 ^ mt w ≤ 2 ^ 52 := Nat.pow_le_pow_right (by decide) hmt.2
  rw [Nat.pow_succ] at hk2
  have hcmp : (jl_shl (1 : Int64) (fX5_mantissa (wi w)) ≤ kept) ↔ 2 ^ mt w ≤ k := by
    rw [wi_mt, un_le' (by omega) (by omega), h1, hk]
  have hbits : ((A + fX5_bias (wi w)) + fX5_mantissa (wi w)).toInt = u - E0 w + 1 := by
    rw [wi_bias, wi_mt]
    have g1 : (A + fo_bias w).toInt = u + (1 - E0 w - mt w) := by rw [mi_add (by omega) (by omega), hA, hbv]
    rw [mi_add (by omega) (by omega), g1, hfv]
    omega
  unfold fX5_rounded_251
  by_cases c : jl_shl (1 : Int64) (fX5_mantissa (wi w)) ≤ kept
  · rw [if_pos c]
    rw [hcmp] at c
    by_cases d : ((A + fX5_bias (wi w)) + fX5_mantissa (wi w)) < fX5_top (wi w)
    · rw [if_pos d]
      rw [mi_lt, hbits, wi_top] at d
      rw [or3]
      congr 1
      apply eq_ow
      have hbd : ((u - E0 w).toNat + 1) * 2 ^ mt w < 2 ^ 63 := by
        have : ((u - E0 w).toNat + 1) * 2 ^ mt w ≤ 2047 * 2 ^ 52 := Nat.mul_le_mul (by omega) hp52
        omega
      have e1 : un (jl_shl (((A + fX5_bias (wi w)) + fX5_mantissa (wi w)).toInt64) (fX5_mantissa (wi w))) = ((u - E0 w).toNat + 1) * 2 ^ mt w := by
        have g2 : un ((A + fX5_bias (wi w)) + fX5_mantissa (wi w)).toInt64 = (u - E0 w).toNat + 1 := by
          rw [un_i64 (by omega), hbits]
          omega
        have g3 : (fX5_mantissa (wi w)).toInt = mt w := by rw [wi_mt, hfv]
        rw [un_shl' g3 (mt_lt w) (by rw [g2]; omega), g2]
      have e2 : un (kept &&& (jl_shl (1 : Int64) (fX5_mantissa (wi w)) - (1 : Int64))) = k - 2 ^ mt w := by
        rw [wi_mt, un_mask hfv (mt_lt w), hk, Nat.mod_eq_sub_mod c, Nat.mod_eq_of_lt (by omega)]
      rw [un_or, e1, e2, or_add (k := mt w) (Nat.mul_mod_left _ _) (by omega)]
      have h6 : ((u - E0 w).toNat + 2) * 2 ^ mt w ≤ IN w := by
        rw [hIN]
        apply Nat.mul_le_mul_right
        omega
      rw [Nat.add_mul] at h6
      rw [Nat.add_mul, Nat.one_mul]
      omega
    · rw [if_neg d]
      rw [mi_lt, hbits, wi_top] at d
      congr 1
      apply eq_ow
      rw [dq_inf0, un_infinity]
      have h6 : IN w ≤ ((u - E0 w).toNat + 1) * 2 ^ mt w := by
        rw [hIN]
        apply Nat.mul_le_mul_right
        omega
      rw [Nat.add_mul, Nat.one_mul] at h6
      omega
  · rw [if_neg c]
    rw [hcmp] at c
    congr 1
    apply eq_ow
    rw [hk]
    have h5 : (u - E0 w).toNat = 0 := by
      by_cases q : E0 w < u
      · exact absurd (hn q) c
      · omega
    have h8 : 2 ^ mt w ≤ IN w := by cases w <;> decide
    rw [h5]
    omega
theorem rB_232 {w : Bool} {s kept : Int64} {P A : Int32} {k : Nat} {u : Int} (hP : P.toInt = mt w + 1) (hk : un kept = k) (hk2 : k ≤ 2 ^ (mt w + 1)) (hA : A.toInt = u) (hu : E0 w ≤ u ∧ u ≤ 29999) (hn : E0 w < u → 2 ^ mt w ≤ k) : fX5_rounded_232 (wi w) s P kept A = (s ||| ow (min (IN w) ((u - E0 w).toNat * 2 ^ mt w + k))) := by
  have hmt : 23 ≤ mt w ∧ mt w ≤ 52 := by cases w <;> decide
  have hE : -1074 ≤ E0 w ∧ E0 w ≤ -149 := by cases w <;> decide
  have h1 := un_one (y := P) (k := mt w + 1) (by omega) (by omega)
  have e1 : (1 : Int32).toInt = 1 := by decide
  unfold fX5_rounded_232
  by_cases c : kept = jl_shl (1 : Int64) P
  · rw [if_pos c]
    rw [un_iff, hk, h1] at c
    have g1 : un (jl_ushr kept (1 : Int32)) = 2 ^ mt w := by
      rw [un_ushr' (k := 1) e1 (by decide), hk, c, Nat.pow_succ]
      omega
    have g2 : (A + 1).toInt = u + 1 := by rw [mi_add (by omega) (by omega), hA, e1]
    rw [rB_251 g1 (by rw [Nat.pow_succ]; have := Nat.two_pow_pos (mt w); omega) g2 (by omega) (fun _ => Nat.le_refl _)]
    congr 3
    have g3 : (u + 1 - E0 w).toNat = (u - E0 w).toNat + 1 := by omega
    rw [g3, c, Nat.pow_succ, Nat.add_mul]
    omega
  · rw [if_neg c]
    rw [un_iff, hk, h1] at c
    exact rB_251 hk (by omega) hA (by omega) hn
theorem rB_100 {w : Bool} {s m : Int64} {e more P d : Int32} {j : Nat} (hm : 0 < un m) (hm2 : un m < 2 ^ 62) (hP : P.toInt = mt w + 1) (hd : d.toInt = (j + 1 : Nat)) (hj : j < 62) (hmore : more = 0 ∨ more = 1) :
    ∃ kept : Int64, un kept = rq (2 * un m + more.toInt.toNat) (j + 2) ∧ fX5_rounded_100 m e more (wi w) s P d 0 = fX5_rounded_232 (wi w) s P kept (e + d) := by
  have e1 : (1 : Int32).toInt = 1 := by decide
  have e0 : (0 : Int32).toInt = 0 := by decide
  have u1 : un (1 : Int64) = 1 := by decide
  have u0 : un (0 : Int64) = 0 := by decide
  have hk : un (jl_ushr m d) = un m / 2 ^ (j + 1) := un_ushr' hd (by omega)
  have hr : un (m &&& (jl_shl (1 : Int64) d - (1 : Int64))) = un m % 2 ^ (j + 1) := un_mask hd (by omega)
  have hh : un (jl_shl (1 : Int64) (d - (1 : Int32))) = 2 ^ j := by
    apply un_one
    · rw [mi_sub (by omega) (by omega), e1]
      omega
    · omega
  have hJ := Nat.two_pow_pos j
  have hp : 2 ^ (j + 1) = 2 * 2 ^ j := by rw [Nat.pow_succ]; omega
  have hp2 : 2 ^ (j + 2) = 4 * 2 ^ j := by rw [Nat.pow_succ, Nat.pow_succ]; omega
  have hrl := Nat.mod_lt (un m) (Nat.two_pow_pos (j + 1))
  have hj61 : 2 ^ j ≤ 2 ^ 61 := Nat.pow_le_pow_right (by decide) (by omega)
  have hkl : un m / 2 ^ (j + 1) ≤ un m := Nat.div_le_self _ _
  have hodd : (jl_ushr m d &&& (1 : Int64)) = (1 : Int64) ↔ un m / 2 ^ (j + 1) % 2 = 1 := by
    rw [un_iff, un_odd, hk, u1]
  have hq : (2 * un m + more.toInt.toNat) / 2 ^ (j + 2) = un m / 2 ^ (j + 1) := by
    have : 2 ^ (j + 2) = 2 * 2 ^ (j + 1) := by rw [hp, hp2]; omega
    rw [this, ← Nat.div_div_eq_div_mul]
    congr 1
    rcases hmore with h | h
    · rw [h, e0]; omega
    · rw [h, e1]; omega
  have hrr : (2 * un m + more.toInt.toNat) % 2 ^ (j + 2) = 2 * (un m % 2 ^ (j + 1)) + more.toInt.toNat := by
    have h5 := Nat.div_add_mod (2 * un m + more.toInt.toNat) (2 ^ (j + 2))
    have h6 := Nat.div_add_mod (un m) (2 ^ (j + 1))
    rw [hq] at h5
    have h7 : 2 ^ (j + 2) * (un m / 2 ^ (j + 1)) = 2 * (2 ^ (j + 1) * (un m / 2 ^ (j + 1))) := by
      rw [← Nat.mul_assoc, hp, hp2]
      congr 1
      omega
    omega
  have hup : un (jl_ushr m d + (1 : Int64)) = un m / 2 ^ (j + 1) + 1 := by
    rw [un_add, hk, u1, Nat.mod_eq_of_lt (by omega)]
  have hdn : un (jl_ushr m d + (0 : Int64)) = un m / 2 ^ (j + 1) := by
    rw [un_add, hk, u0, Nat.mod_eq_of_lt (by omega)]
    rfl
  have hlt : (jl_shl (1 : Int64) (d - (1 : Int32)) < m &&& (jl_shl (1 : Int64) d - (1 : Int64))) ↔ 2 ^ j < un m % 2 ^ (j + 1) := by
    rw [un_lt' (by omega) (by omega), hh, hr]
  have heq : ((m &&& (jl_shl (1 : Int64) d - (1 : Int64))) = jl_shl (1 : Int64) (d - (1 : Int32))) ↔ un m % 2 ^ (j + 1) = 2 ^ j := by
    rw [un_iff, hh, hr]
  have n10 : ¬ ((1 : Int32) = 0) := by decide
  unfold fX5_rounded_100
  rw [if_pos rfl]
  unfold fX5_rounded_115
  rw [if_pos rfl]
  unfold fX5_rounded_134
  rw [if_pos rfl]
  unfold fX5_rounded_151
  rw [if_pos rfl]
  unfold fX5_rounded_188 fX5_rounded_192 fX5_rounded_193 fX5_rounded_207
  rw [if_neg n10, if_pos rfl]
  by_cases c1 : jl_shl (1 : Int64) (d - (1 : Int32)) < m &&& (jl_shl (1 : Int64) d - (1 : Int64))
  · rw [if_pos c1]
    rw [hlt] at c1
    refine ⟨_, ?_, rfl⟩
    unfold rq
    rw [hup, hrr, hq, if_pos (Or.inl (by omega))]
  · rw [if_neg c1]
    rw [hlt] at c1
    by_cases c2 : (m &&& (jl_shl (1 : Int64) d - (1 : Int64))) = jl_shl (1 : Int64) (d - (1 : Int32))
    · rw [if_pos c2]
      rw [heq] at c2
      by_cases c3 : more = 0
      · rw [if_pos c3]
        have hm0 : more.toInt.toNat = 0 := by rw [c3, e0]; rfl
        by_cases c4 : (jl_ushr m d &&& (1 : Int64)) = (1 : Int64)
        · rw [if_pos c4]
          rw [hodd] at c4
          refine ⟨_, ?_, rfl⟩
          unfold rq
          rw [hup, hrr, hq, if_pos (Or.inr (by omega))]
        · rw [if_neg c4]
          rw [hodd] at c4
          refine ⟨_, ?_, rfl⟩
          unfold rq
          rw [hdn, hrr, hq, if_neg (by omega)]
      · rw [if_neg c3]
        have c4 := hmore.resolve_left c3
        have hm0 : more.toInt.toNat = 1 := by rw [c4, e1]; rfl
        refine ⟨_, ?_, rfl⟩
        unfold rq
        rw [hup, hrr, hq, if_pos (Or.inl (by omega))]
    · rw [if_neg c2]
      rw [heq] at c2
      refine ⟨_, ?_, rfl⟩
      unfold rq
      have hm1 : more.toInt.toNat ≤ 1 := by
        rcases hmore with h | h
        · rw [h, e0]; omega
        · rw [h, e1]; omega
      rw [hdn, hrr, hq, if_neg (by omega)]
theorem nb_twice {N b : Nat} (hN : 0 < N) (hb : b ≤ 1) : nb (2 * N + b) = nb N + 1 := by
  have h1 := nb_hi N
  have h2 := nb_lo hN
  have h3 := nb_pos hN
  obtain ⟨j, hj⟩ : ∃ j, nb N = j + 1 := ⟨nb N - 1, by omega⟩
  rw [hj] at h1 h2 ⊢
  rw [Nat.add_sub_cancel] at h2
  rw [Nat.pow_succ] at h1
  apply nb_eq
  · rw [Nat.pow_succ]; omega
  · rw [Nat.pow_succ, Nat.pow_succ]; omega
theorem roundB {w : Bool} {n e more : Int32} {m : Int64} (hm : 0 < un m) (hm2 : un m < 2 ^ 62) (he : -20000 ≤ e.toInt ∧ e.toInt ≤ 20000) (hmore : more = 0 ∨ (more = 1 ∧ 2 ^ (mt w + 1) ≤ un m)) : fX5_rounded n m e more (wi w) = (sg w n ||| ow (rw_ w (2 * un m + more.toInt.toNat) (e.toInt - 1))) := by
  have hmt : 23 ≤ mt w ∧ mt w ≤ 52 := by cases w <;> decide
  have hE : -1074 ≤ E0 w ∧ E0 w ≤ -149 := by cases w <;> decide
  have hbv := bias_v w
  have hfv := fr_mt w
  have e1 : (1 : Int32).toInt = 1 := by decide
  have e0 : (0 : Int32).toInt = 0 := by decide
  have e62 : (62 : Int32).toInt = 62 := by decide
  have u0 : un (0 : Int64) = 0 := by decide
  have hb : more.toInt.toNat ≤ 1 := by
    rcases hmore with h | h
    · rw [h, e0]; omega
    · rw [h.1, e1]; omega
  have hmo : more = 0 ∨ more = 1 := hmore.imp id (fun h => h.1)
  have hL := bits_v (x := m) (by omega)
  have hL1 := nb_pos hm
  have hL2 : nb (un m) ≤ 62 := nb_le.mpr hm2
  have hhi := nb_hi (un m)
  have hlo := nb_lo hm
  have hp : (fX5_mantissa (wi w) + (1 : Int32)).toInt = mt w + 1 := by
    rw [wi_mt, mi_add (by omega) (by omega), hfv, e1]
  have hleast : (((1 : Int32) - fX5_bias (wi w)) - fX5_mantissa (wi w)).toInt = E0 w := by
    have g1 : ((1 : Int32) - fX5_bias (wi w)).toInt = 1 - (1 - E0 w - mt w) := by rw [wi_bias, mi_sub (by omega) (by omega), e1, hbv]
    rw [mi_sub (by rw [wi_mt]; omega) (by rw [wi_mt]; omega), g1, wi_mt, hfv]
    omega
  have hdrop : (fX5_bitsOf m - (fX5_mantissa (wi w) + (1 : Int32))).toInt = nb (un m) - (mt w + 1) := by
    rw [mi_sub (by omega) (by omega), hL, hp]
  have hulp : ulp (mt w) (E0 w) (2 * un m + more.toInt.toNat) (e.toInt - 1) = max (nb (un m) + e.toInt - (mt w + 1)) (E0 w) := by
    unfold ulp
    rw [nb_twice hm hb]
    congr 1
    omega
  -- the tail, of a drop d
  have key : ∀ (d : Int32) (s : Int64), d.toInt = max (nb (un m) - (mt w + 1) : Int) (E0 w - e.toInt) → fX5_rounded_75 m e more (wi w) s (fX5_mantissa (wi w) + (1 : Int32)) d = (s ||| ow (rw_ w (2 * un m + more.toInt.toNat) (e.toInt - 1))) := by
    intro d s hd
    have hat : (e + d).toInt = max (nb (un m) + e.toInt - (mt w + 1)) (E0 w) := by
      rw [mi_add (by omega) (by omega), hd]
      omega
    unfold fX5_rounded_75 rw_ rn
    rw [hulp]
    by_cases c : d ≤ 0
    · rw [if_pos c]
      rw [mi_le, e0] at c
      have hm0 : more = 0 := by
        rcases hmore with h | h
        · exact h
        · have : nb (un m) ≤ mt w + 1 := by omega
          have := nb_le.mp this
          omega
      have hm00 : more.toInt.toNat = 0 := by rw [hm0, e0]; rfl
      have hnd : (-d).toInt = ((-d.toInt).toNat : Nat) := by rw [mi_neg (by omega)]; omega
      have hle : un m * 2 ^ (-d.toInt).toNat < 2 ^ (mt w + 1) := by
        have g1 : un m * 2 ^ (-d.toInt).toNat < 2 ^ nb (un m) * 2 ^ (-d.toInt).toNat := Nat.mul_lt_mul_of_pos_right hhi (Nat.two_pow_pos _)
        rw [← Nat.pow_add] at g1
        exact Nat.lt_of_lt_of_le g1 (Nat.pow_le_pow_right (by decide) (by omega))
      have hle2 : 2 ^ (mt w + 1) ≤ 2 ^ 53 := Nat.pow_le_pow_right (by decide) (by omega)
      have hk : un (jl_shl m (-d)) = un m * 2 ^ (-d.toInt).toNat := un_shl' hnd (by omega) (by omega)
      rw [rB_232 hp hk (by omega) hat (by omega) ?_]
      · congr 4
        unfold hv
        rw [hm00, Nat.add_zero]
        by_cases c2 : max (nb (un m) + e.toInt - (mt w + 1) : Int) (E0 w) - (e.toInt - 1) ≤ 0
        · rw [if_pos c2]
          have g3 : (-d.toInt).toNat = (-(max (nb (un m) + e.toInt - (mt w + 1) : Int) (E0 w) - (e.toInt - 1))).toNat + 1 := by omega
          rw [g3, Nat.pow_succ, Nat.mul_comm 2 (un m), Nat.mul_assoc, Nat.mul_comm 2]
        · rw [if_neg c2]
          have g3 : (-d.toInt).toNat = 0 := by omega
          have g4 : (max (nb (un m) + e.toInt - (mt w + 1) : Int) (E0 w) - (e.toInt - 1)).toNat = 1 := by omega
          rw [g3, g4]
          have := rq_exact (un m) 1 1 (Nat.le_refl _)
          rw [show 2 * un m = un m * 2 ^ 1 from by omega, this]
      · intro q
        have g1 : 2 ^ (nb (un m) - 1) * 2 ^ (-d.toInt).toNat ≤ un m * 2 ^ (-d.toInt).toNat := Nat.mul_le_mul_right _ hlo
        rw [← Nat.pow_add] at g1
        exact Nat.le_trans (Nat.pow_le_pow_right (by decide) (by omega)) g1
    · rw [if_neg c]
      rw [mi_le, e0] at c
      have hv0 : hv (2 * un m + more.toInt.toNat) (max (nb (un m) + e.toInt - (mt w + 1)) (E0 w) - (e.toInt - 1)) = rq (2 * un m + more.toInt.toNat) (d.toInt.toNat + 1) := by
        unfold hv
        rw [if_neg (by omega)]
        congr 1
        omega
      rw [hv0]
      by_cases c2 : d ≤ (62 : Int32)
      · rw [if_pos c2]
        rw [mi_le, e62] at c2
        obtain ⟨kept, hk, hq⟩ := rB_100 (w := w) (s := s) (e := e) (P := fX5_mantissa (wi w) + (1 : Int32)) (d := d) (j := d.toInt.toNat - 1) hm hm2 hp (by omega) (by omega) hmo
        rw [hq]
        have g0 : d.toInt.toNat - 1 + 2 = d.toInt.toNat + 1 := by omega
        rw [g0] at hk
        rw [rB_232 hp hk ?_ hat (by omega) ?_]
        · apply rq_le
          have g1 : 2 * un m + more.toInt.toNat < 2 ^ (nb (un m) + 1) := by rw [Nat.pow_succ]; omega
          exact Nat.lt_of_lt_of_le g1 (Nat.pow_le_pow_right (by decide) (by omega))
        · intro q
          refine Nat.le_trans ?_ (rq_ge _ _)
          rw [Nat.le_div_iff_mul_le (Nat.two_pow_pos _), ← Nat.pow_add]
          have g1 : 2 ^ (nb (un m)) ≤ 2 * un m + more.toInt.toNat := by
            have : 2 ^ nb (un m) = 2 * 2 ^ (nb (un m) - 1) := by
              rw [← Nat.pow_succ']
              congr 1
              omega
            omega
          exact Nat.le_trans (Nat.pow_le_pow_right (by decide) (by omega)) g1
      · rw [if_neg c2]
        rw [mi_le, e62] at c2
        have g1 : 2 ^ 64 ≤ 2 ^ (d.toInt.toNat + 1) := Nat.pow_le_pow_right (by decide) (by omega)
        rw [rq_small (by omega)]
        have n10 : ¬ ((1 : Int32) = 0) := by decide
        unfold fX5_rounded_100
        rw [if_neg n10]
        unfold fX5_rounded_115
        rw [if_neg n10]
        unfold fX5_rounded_134
        rw [if_neg n10]
        unfold fX5_rounded_151
        rw [if_neg n10]
        unfold fX5_rounded_192 fX5_rounded_193 fX5_rounded_207
        rw [if_pos rfl]
        rw [rB_232 (k := 0) hp (by decide) (Nat.zero_le _) hat (by omega) ?_]
        intro q
        omega
  have key13 : ∀ s : Int64, fX5_rounded_13 m e more (wi w) s = (s ||| ow (rw_ w (2 * un m + more.toInt.toNat) (e.toInt - 1))) := by
    intro s
    unfold fX5_rounded_13
    rw [if_neg (by rw [un_iff, u0]; omega)]
    have hsum : (e + (fX5_bitsOf m - (fX5_mantissa (wi w) + (1 : Int32)))).toInt = e.toInt + (nb (un m) - (mt w + 1)) := by
      rw [mi_add (by omega) (by omega), hdrop]
    by_cases c : (((1 : Int32) - fX5_bias (wi w)) - fX5_mantissa (wi w)) ≤ e + (fX5_bitsOf m - (fX5_mantissa (wi w) + (1 : Int32)))
    · rw [if_pos c]
      rw [mi_le, hleast, hsum] at c
      exact key _ s (by omega)
    · rw [if_neg c]
      rw [mi_le, hleast, hsum] at c
      apply key _ s
      rw [mi_sub (by omega) (by omega), hleast]
      omega
  unfold fX5_rounded sg
  by_cases c : n = 0
  · rw [if_pos c, if_pos c, key13]
  · rw [if_neg c, if_neg c, key13, dq_sign]
theorem roundB0 {w : Bool} {n e : Int32} {m : Int64} (hm : 0 < un m) (hm2 : un m < 2 ^ 62) (he : -20000 ≤ e.toInt ∧ e.toInt ≤ 20000) : fX5_rounded n m e 0 (wi w) = (sg w n ||| ow (rw_ w (un m) e.toInt)) := by
  rw [roundB hm hm2 he (Or.inl rfl)]
  congr 2
  have h : 2 * un m + (0 : Int32).toInt.toNat = un m * 2 ^ 1 := by
    have e0 : (0 : Int32).toInt = 0 := by decide
    rw [e0]
    show 2 * un m + 0 = un m * 2 ^ 1
    omega
  unfold rw_
  rw [h, rn_shift _ _ _ hm]
  congr 1
  omega
theorem roundBz {w : Bool} {n e more : Int32} {m : Int64} (hm : un m = 0) : fX5_rounded n m e more (wi w) = sg w n := by
  have u0 : un (0 : Int64) = 0 := by decide
  have h : m = 0 := by rw [un_iff, u0]; exact hm
  unfold fX5_rounded fX5_rounded_13 sg
  rw [if_pos h, if_pos h, dq_sign]
/-- where no bit is told to be lost the two roundings agree -/
theorem roundAB {w : Bool} {n s : Int32} {m : Int64} (hm : 0 < un m) (hm2 : un m < 2 ^ 62) (hs : -20000 ≤ s.toInt ∧ s.toInt ≤ 20000) : fX2_rounded w n s m = fX5_rounded n m s 0 (wi w) := by
  rw [roundA hm hs, roundB0 hm hm2 hs]
