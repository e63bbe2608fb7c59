/-- a number that is cut behind, with a mark where something was lost -/
theorem jam_cut {N K b : Nat} (hK : 0 < K) (hb : (b = 0 ∧ N % 2 ^ K = 0) ∨ (b = 1 ∧ N % 2 ^ K ≠ 0)) : jam N (K - 1) (2 * (N / 2 ^ K) + b) := by
  obtain ⟨k, rfl⟩ : ∃ k, K = k + 1 := ⟨K - 1, by omega⟩
  have e : 2 ^ (k + 1) = 2 * 2 ^ k := by rw [Nat.pow_succ, Nat.mul_comm]
  have hd := Nat.div_add_mod N (2 ^ (k + 1))
  have hr := Nat.mod_lt N (Nat.two_pow_pos (k + 1))
  rw [Nat.add_sub_cancel]
  unfold jam
  generalize N / 2 ^ (k + 1) = Q at *
  generalize N % 2 ^ (k + 1) = R at *
  rw [e] at hd hr
  have hP := Nat.two_pow_pos k
  generalize 2 ^ k = P at *
  rcases hb with ⟨rfl, h⟩ | ⟨rfl, h⟩
  · left
    rw [Nat.add_zero, ← hd, h, Nat.add_zero, Nat.mul_right_comm]
  · right
    refine ⟨by omega, ?_, ?_⟩
    · rw [show 2 * Q + 1 - 1 = 2 * Q from by omega, ← hd, Nat.mul_right_comm]
      omega
    · rw [← hd, Nat.mul_right_comm, show (2 * Q + 1 + 1) * P = 2 * Q * P + 2 * P from by rw [Nat.add_mul, Nat.add_mul, Nat.one_mul]; omega]
      omega
theorem div_two (N a b : Nat) : N / 2 ^ (a + b) = N / 2 ^ a / 2 ^ b := by
  rw [Nat.div_div_eq_div_mul, Nat.pow_add]
theorem mod_two (N a b : Nat) : N % 2 ^ (a + b) = 0 ↔ N % 2 ^ a = 0 ∧ N / 2 ^ a % 2 ^ b = 0 := by
  rw [Nat.pow_add, Nat.mod_mul]
  have hP := Nat.two_pow_pos a
  constructor
  · intro h
    refine ⟨by omega, ?_⟩
    rcases Nat.mul_eq_zero.mp (show 2 ^ a * (N / 2 ^ a % 2 ^ b) = 0 by omega) with q | q
    · omega
    · exact q
  · intro ⟨h1, h2⟩
    rw [h1, h2]
    rfl
/-- what lies above the cut goes through the reference's rounding -/
theorem sumR_in {w : Bool} {us : Nat → Int64} {N : Nat} (hd : ∀ j, j < 290 → N / 2 ^ (16 * j) % 65536 = (us j).toInt.toNat) (hdg : dig us) {n : Int32} {m : Int64} {b x : Int32} {i : Nat} (hN : 0 < N) (hx : x.toInt + 1 = i) (hi : i ≤ 290) (hm : un m = N / 2 ^ (16 * i)) (hb : b.toInt = nb (un m)) (hlt : un m < 2 ^ 61) (hend : i = 0 ∨ 61 < nb (un m) + 16) :
    (fX5_sumRounded_156 us (wi w) n m b x).1 = (sg w n ||| ow (rw_ w N (-2200))) := by
  have e0 : (0 : Int32).toInt = 0 := by decide
  have e1 : (1 : Int32).toInt = 1 := by decide
  have e16 : (16 : Int32).toInt = 16 := by decide
  have e61 : (61 : Int32).toInt = 61 := by decide
  have e2200 : (2200 : Int32).toInt = 2200 := by decide
  have hnb61 : nb (un m) ≤ 61 := nb_le.mpr hlt
  have hx1 : (x + (1 : Int32)).toInt = i := by rw [mi_add (by omega) (by omega), e1, hx]
  have hE : ((16 : Int32) * (x + (1 : Int32))).toInt = 16 * i := by rw [mi_mul (by rw [hx1, e16]; omega) (by rw [hx1, e16]; omega), hx1, e16]
  unfold fX5_sumRounded_156
  by_cases c : x < 0
  · rw [if_pos c]
    rw [mi_lt, e0] at c
    have hi0 : i = 0 := by omega
    subst hi0
    unfold fX5_sumRounded_240 fX5_sumRounded_280
    dsimp only
    have hml := more_loop (x8 := x) hd hdg ⟨by omega, by omega⟩ (Nat.succ ((Int32.toInt x + 1 - Int32.toInt (0 : Int32)).toNat)) 0 0 0 (by rw [e0]; exact Nat.lt_succ_self _) e0 (by omega) (Or.inl rfl)
    have hz : (gX5_sumRounded_243 us x (Nat.succ ((Int32.toInt x + 1 - Int32.toInt (0 : Int32)).toNat)) 0 0).1 = 0 := by
      rcases hml with ⟨h, _, _⟩ | ⟨_, h | h⟩
      · exact h
      · exact absurd h (by decide)
      · exfalso
        apply h
        rw [hx]
        exact Nat.mod_one N
    rw [hz]
    have hmN : un m = N := by rw [hm, Nat.mul_zero, Nat.pow_zero, Nat.div_one]
    have hEE : ((16 : Int32) * (x + (1 : Int32)) - (2200 : Int32)).toInt = -2200 := by rw [mi_sub (by rw [hE, e2200]; omega) (by rw [hE, e2200]; omega), hE, e2200]; omega
    rw [roundB0 (by omega) (Nat.lt_trans hlt (by decide)) (by rw [hEE]; omega), hEE, hmN]
  · rw [if_neg c]
    rw [mi_lt, e0] at c
    obtain ⟨k, rfl⟩ : ∃ k, i = k + 1 := ⟨i - 1, by omega⟩
    have hnb : 46 ≤ nb (un m) := by omega
    have hc : x.toNatClampNeg = k := by
      show x.toInt.toNat = k
      omega
    rw [hc]
    obtain ⟨r, hr⟩ : ∃ r : Nat, r = 61 - nb (un m) := ⟨_, rfl⟩
    have hr2 : r ≤ 15 := by omega
    have hR : ((61 : Int32) - b).toInt = r := by rw [mi_sub (by omega) (by omega), e61, hb]; omega
    have hR2 : ((16 : Int32) - ((61 : Int32) - b)).toInt = (16 - r : Nat) := by rw [mi_sub (by rw [hR, e16]; omega) (by rw [hR, e16]; omega), e16, hR]; omega
    obtain ⟨d1, d2⟩ := hdg k (by omega)
    have hu : un (us k) = (us k).toInt.toNat := un_of_int (by omega)
    have hmask := un_mask (x := us k) hR2 (by omega)
    have hcond : (us k &&& (jl_shl (1 : Int64) ((16 : Int32) - ((61 : Int32) - b)) - (1 : Int64))) = (0 : Int64) ↔ un (us k) % 2 ^ (16 - r) = 0 := by
      rw [un_iff, hmask]
      exact Iff.rfl
    have hml : un m * 2 ^ r < 2 ^ 61 := by
      have h1 := nb_hi (un m)
      calc un m * 2 ^ r < 2 ^ nb (un m) * 2 ^ r := Nat.mul_lt_mul_of_pos_right h1 (Nat.two_pow_pos r)
        _ = 2 ^ 61 := by rw [← Nat.pow_add]; congr 1; omega
    have hs1 : un (jl_shl m ((61 : Int32) - b)) = un m * 2 ^ r := un_shl' hR (by omega) (Nat.lt_trans hml (by decide))
    have hs2 : un (jl_ushr (us k) ((16 : Int32) - ((61 : Int32) - b))) = un (us k) / 2 ^ (16 - r) := un_ushr' hR2 (by omega)
    have hg := up16 (hd k (by omega))
    have hK : 16 * k + (16 - r) = 16 * (k + 1) - r := by omega
    have hp16 : (65536 : Nat) = 2 ^ r * 2 ^ (16 - r) := by
      rw [← Nat.pow_add, show r + (16 - r) = 16 from by omega]
    have hval : un (jl_shl m ((61 : Int32) - b) ||| jl_ushr (us k) ((16 : Int32) - ((61 : Int32) - b))) = N / 2 ^ (16 * (k + 1) - r) := by
      rw [un_or, hs1, hs2, or_add (k := r) (Nat.mul_mod_left _ _), ← hK, div_two, hg, ← hm, hu, hp16, ← Nat.mul_assoc, Nat.add_comm (un m * 2 ^ r * 2 ^ (16 - r)), Nat.add_mul_div_right _ _ (Nat.two_pow_pos _), Nat.add_comm]
      rw [Nat.div_lt_iff_lt_mul (Nat.two_pow_pos _), ← hp16, hu]
      omega
    have hv60 : 2 ^ 60 ≤ N / 2 ^ (16 * (k + 1) - r) := by
      rw [← hval, un_or, hs1, hs2]
      have h1 := nb_lo (n := un m) (by
        rcases Nat.eq_zero_or_pos (un m) with q | q
        · rw [q] at hnb
          exact absurd hnb (by decide)
        · exact q)
      have h2 : 2 ^ 60 ≤ un m * 2 ^ r := by
        calc 2 ^ 60 = 2 ^ (nb (un m) - 1) * 2 ^ r := by rw [← Nat.pow_add]; congr 1; omega
          _ ≤ un m * 2 ^ r := Nat.mul_le_mul_right _ h1
      exact Nat.le_trans h2 Nat.left_le_or
    have hv61 : N / 2 ^ (16 * (k + 1) - r) < 2 ^ 61 := by
      rw [← hval, un_or, hs1, hs2]
      refine Nat.or_lt_two_pow hml ?_
      refine Nat.lt_of_le_of_lt (Nat.div_le_self _ _) ?_
      rw [hu]
      omega
    obtain ⟨y, hy, hy1⟩ := dec1 (x := x) (by omega)
    have key : ∀ s0 : Int32, (s0 = 0 ∧ un (us k) % 2 ^ (16 - r) = 0) ∨ (s0 = 1 ∧ un (us k) % 2 ^ (16 - r) ≠ 0) →
        (fX5_sumRounded_228 us (wi w) n (jl_shl m ((61 : Int32) - b) ||| jl_ushr (us k) ((16 : Int32) - ((61 : Int32) - b))) x ((16 : Int32) * (x + (1 : Int32))) ((61 : Int32) - b) s0).1 = (sg w n ||| ow (rw_ w N (-2200))) := by
      intro s0 hs0
      unfold fX5_sumRounded_228
      rw [← hy]
      unfold fX5_sumRounded_240 fX5_sumRounded_280
      dsimp only
      have hml2 := more_loop (x8 := y) hd hdg ⟨by omega, by omega⟩ (Nat.succ ((Int32.toInt y + 1 - Int32.toInt (0 : Int32)).toNat)) s0 0 0 (by rw [e0]; exact Nat.lt_succ_self _) e0 (by omega) (by rcases hs0 with ⟨h, _⟩ | ⟨h, _⟩; exact Or.inl h; exact Or.inr h)
      have hyk : (y.toInt + 1).toNat = k := by omega
      rw [hyk, Nat.mul_zero, Nat.pow_zero, Nat.mod_one] at hml2
      have hmod : N % 2 ^ (16 * (k + 1) - r) = 0 ↔ N % 2 ^ (16 * k) = 0 ∧ un (us k) % 2 ^ (16 - r) = 0 := by
        rw [← hK, mod_two]
        have : N / 2 ^ (16 * k) % 2 ^ (16 - r) = un (us k) % 2 ^ (16 - r) := by
          rw [hg, hp16, ← Nat.mul_assoc, Nat.add_comm, Nat.add_mul_mod_self_right, hu]
        rw [this]
      generalize hG : (gX5_sumRounded_243 us y (Nat.succ ((Int32.toInt y + 1 - Int32.toInt (0 : Int32)).toNat)) s0 0).1 = g at *
      have hfl : (g = 0 ∧ N % 2 ^ (16 * (k + 1) - r) = 0) ∨ (g = 1 ∧ N % 2 ^ (16 * (k + 1) - r) ≠ 0) := by
        rcases hml2 with ⟨h1, h2, h3⟩ | ⟨h1, h2⟩
        · left
          refine ⟨h1, hmod.mpr ⟨h3, ?_⟩⟩
          rcases hs0 with ⟨_, h⟩ | ⟨h, _⟩
          · exact h
          · rw [h2] at h
            exact absurd h (by decide)
        · right
          refine ⟨h1, fun hz => ?_⟩
          obtain ⟨z1, z2⟩ := hmod.mp hz
          rcases h2 with h | h
          · rcases hs0 with ⟨h', _⟩ | ⟨_, h'⟩
            · rw [h'] at h
              exact absurd h (by decide)
            · exact h' z2
          · exact h z1
      clear hml2 hG
      have hE2 : ((16 : Int32) * (x + (1 : Int32)) - ((61 : Int32) - b)).toInt = (16 * (k + 1) - r : Nat) := by
        rw [mi_sub (by rw [hE, hR]; omega) (by rw [hE, hR]; omega), hE, hR]
        omega
      generalize (16 : Int32) * (x + (1 : Int32)) - ((61 : Int32) - b) = E at *
      have hE3 : (E - (2200 : Int32)).toInt = (16 * (k + 1) - r : Nat) - 2200 := by
        rw [mi_sub (by rw [hE2, e2200]; omega) (by rw [hE2, e2200]; omega), hE2, e2200]
      generalize E - (2200 : Int32) = E' at *
      generalize (jl_shl m ((61 : Int32) - b) ||| jl_ushr (us k) ((16 : Int32) - ((61 : Int32) - b))) = v at *
      have hKK : 0 < 16 * (k + 1) - r := by omega
      generalize 16 * (k + 1) - r = K at *
      have hg2 : g.toInt.toNat = 0 ∧ N % 2 ^ K = 0 ∨ g.toInt.toNat = 1 ∧ N % 2 ^ K ≠ 0 := by
        rcases hfl with ⟨h1, h2⟩ | ⟨h1, h2⟩
        · left
          rw [h1]
          exact ⟨rfl, h2⟩
        · right
          rw [h1]
          exact ⟨rfl, h2⟩
      have hmt : mt w ≤ 52 := by cases w <;> decide
      rw [roundB (by omega) (Nat.lt_trans (by rw [hval]; exact hv61) (by decide)) (by rw [hE3]; omega) (by
        rcases hfl with ⟨h1, _⟩ | ⟨h1, _⟩
        · exact Or.inl h1
        · refine Or.inr ⟨h1, ?_⟩
          rw [hval]
          exact Nat.le_trans (Nat.pow_le_pow_right (by decide) (by omega)) hv60), hval]
      have hj := jam_cut hKK hg2
      have hge : g.toInt.toNat ≤ 1 := by rcases hg2 with ⟨h, _⟩ | ⟨h, _⟩ <;> omega
      have hnbv : nb (N / 2 ^ K) = 61 := nb_eq (k := 60) hv60 hv61
      have hnb2 : nb (2 * (N / 2 ^ K) + g.toInt.toNat) = 62 := by rw [nb_twice (by omega) hge, hnbv]
      congr 2
      unfold rw_
      rw [rn_jam (e := -2200) (IN w) hj (by omega) (Or.inr (by
        unfold ulp
        rw [hnb2]
        omega))]
      rw [hE3]
      congr 1
      omega
    by_cases cz : (us k &&& (jl_shl (1 : Int64) ((16 : Int32) - ((61 : Int32) - b)) - (1 : Int64))) = (0 : Int64)
    · rw [if_pos cz]
      exact key 0 (Or.inl ⟨rfl, hcond.mp cz⟩)
    · rw [if_neg cz]
      exact key 1 (Or.inr ⟨rfl, fun h => cz (hcond.mpr h)⟩)
