theorem byte_v {c : Int32} (h : 0 ≤ c.toInt ∧ c.toInt ≤ 127) : ji_byte (ji_byte c) = c := by
  have h1 : ji_byte c = c := by
    rw [mi_eq]
    unfold ji_byte
    rw [Int8.toInt_toInt32, Int32.toInt_toInt8, Int.bmod_eq_of_le] <;> omega
  rw [h1, h1]
theorem put11 (uf : Nat → Int32) (ua : Nat → Nat → Int32) (c : Int32) : (fX5_put uf ua c).1 11 = uf 11 + 1 := rfl
theorem put10 (uf : Nat → Int32) (ua : Nat → Nat → Int32) (c : Int32) (i : Nat) : (fX5_put uf ua c).2 10 i = if i = (uf 11).toNatClampNeg then ji_byte (ji_byte c) else ua 10 i := rfl
theorem putK {uf : Nat → Int32} {ua : Nat → Nat → Int32} {c : Int32} {k : Nat} (h : k ≠ 11) : (fX5_put uf ua c).1 k = uf k := by
  show va_up uf 11 _ k = uf k
  unfold va_up
  rw [if_neg h]
theorem putA {uf : Nat → Int32} {ua : Nat → Nat → Int32} {c : Int32} {k : Nat} (h : k ≠ 10) : (fX5_put uf ua c).2 k = ua k := by
  show va_up ua 10 _ k = ua k
  unfold va_up
  rw [if_neg h]
theorem put_n {uf : Nat → Int32} {ua : Nat → Nat → Int32} {c : Int32} {o : Nat} (h : (uf 11).toInt = o) (ho : o ≤ 1000) : ((fX5_put uf ua c).1 11).toInt = (o + 1 : Nat) := by
  have e1 : (1 : Int32).toInt = 1 := by decide
  rw [put11, mi_add (by omega) (by omega), h, e1]
  omega
/-- the digits' row is put, the highest first -/
theorem pd_loop {V : Nat} : ∀ (f : Nat) (uf : Nat → Int32) (ua : Nat → Nat → Int32) (x5 : Int32) (j o : Nat), x5.toInt + 1 = j → j < f → (uf 11).toInt = o → o + j ≤ 1000 → (∀ i, i < j → (ua 12 i).toInt = (V / 10 ^ i % 10 : Nat)) →
    ((gX5_putWhole_87 f uf ua x5).1 11).toInt = (o + j : Nat) ∧ (∀ t, t < j → ((gX5_putWhole_87 f uf ua x5).2.1 10 (o + t)).toInt = (48 + V / 10 ^ (j - 1 - t) % 10 : Nat)) ∧ (∀ i, i < o → (gX5_putWhole_87 f uf ua x5).2.1 10 i = ua 10 i) ∧ (∀ k, k ≠ 11 → (gX5_putWhole_87 f uf ua x5).1 k = uf k) ∧ (∀ k, k ≠ 10 → (gX5_putWhole_87 f uf ua x5).2.1 k = ua k) := by
  have e0 : (0 : Int32).toInt = 0 := by decide
  have e48 : (48 : Int32).toInt = 48 := by decide
  intro f
  induction f with
  | zero => intro uf ua x5 j o _ h; omega
  | succ f ih =>
    intro uf ua x5 j o hx hf ho hoj hd
    rw [gX5_putWhole_87]
    by_cases c : x5 < 0
    · rw [if_pos c]
      rw [mi_lt, e0] at c
      have hj : j = 0 := by omega
      subst hj
      exact ⟨by omega, fun t ht => by omega, fun _ _ => rfl, fun _ _ => rfl, fun _ _ => rfl⟩
    · rw [if_neg c]
      rw [mi_lt, e0] at c
      obtain ⟨i, rfl⟩ : ∃ i, j = i + 1 := ⟨j - 1, by omega⟩
      have hcl : x5.toNatClampNeg = i := by
        show x5.toInt.toNat = i
        omega
      rw [hcl]
      have hdi := hd i (by omega)
      have hdl : V / 10 ^ i % 10 < 10 := Nat.mod_lt _ (by decide)
      have hcc : ((48 : Int32) + ua 12 i).toInt = (48 + V / 10 ^ i % 10 : Nat) := by
        generalize V / 10 ^ i % 10 = d at *
        rw [mi_add (by omega) (by omega), e48, hdi]
        omega
      have hby : ji_byte (ji_byte ((48 : Int32) + ua 12 i)) = (48 : Int32) + ua 12 i := byte_v (by
        rw [hcc]
        generalize V / 10 ^ i % 10 = d at *
        omega)
      obtain ⟨y, hy, hy1⟩ : ∃ y : Int32, y = x5 + (-1) ∧ y.toInt = x5.toInt - 1 := by
        have em : (-1 : Int32).toInt = -1 := by decide
        refine ⟨_, rfl, ?_⟩
        rw [mi_add (by omega) (by omega), em]
        omega
      rw [← hy]
      clear hy
      have hocl : (uf 11).toNatClampNeg = o := by
        show (uf 11).toInt.toNat = o
        omega
      have hn := put_n (ua := ua) (c := (48 : Int32) + ua 12 i) ho (by omega)
      have h10 := put10 uf ua ((48 : Int32) + ua 12 i)
      have hA := @putA uf ua ((48 : Int32) + ua 12 i)
      have hK := @putK uf ua ((48 : Int32) + ua 12 i)
      obtain ⟨r1, r2, r3, r4, r5⟩ := ih (fX5_put uf ua ((48 : Int32) + ua 12 i)).1 (fX5_put uf ua ((48 : Int32) + ua 12 i)).2 y i (o + 1) (by omega) (by omega) hn (by omega) (by
        intro k hk
        rw [hA (by decide)]
        exact hd k (by omega))
      generalize gX5_putWhole_87 f (fX5_put uf ua ((48 : Int32) + ua 12 i)).1 (fX5_put uf ua ((48 : Int32) + ua 12 i)).2 y = G at *
      refine ⟨by rw [r1]; omega, ?_, ?_, ?_, ?_⟩
      · intro t ht
        by_cases z : t = 0
        · subst z
          rw [Nat.add_zero, r3 o (by omega), h10, hocl, if_pos rfl, hby, hcc]
          rfl
        · obtain ⟨t', rfl⟩ : ∃ t', t = t' + 1 := ⟨t - 1, by omega⟩
          have := r2 t' (by omega)
          rw [show o + 1 + t' = o + (t' + 1) from by omega] at this
          rw [this, show i - 1 - t' = i + 1 - 1 - (t' + 1) from by omega]
      · intro k hk
        rw [r3 k (by omega), h10, hocl, if_neg (by omega)]
      · intro k hk
        rw [r4 k hk, hK hk]
      · intro k hk
        rw [r5 k hk, hA hk]
/-- so many decimal digits has the number, one at least -/
def dk (W k : Nat) : Prop := 1 ≤ k ∧ W < 10 ^ k ∧ (k = 1 ∨ 10 ^ (k - 1) ≤ W)
theorem dk_uniq {W a b : Nat} (ha : dk W a) (hb : dk W b) : a = b := by
  obtain ⟨a1, a2, a3⟩ := ha
  obtain ⟨b1, b2, b3⟩ := hb
  have h1 : a ≤ b := by
    rcases a3 with q | q
    · omega
    · have := (Nat.pow_lt_pow_iff_right (a := 10) (by decide)).mp (Nat.lt_of_le_of_lt q b2)
      omega
  have h2 : b ≤ a := by
    rcases b3 with q | q
    · omega
    · have := (Nat.pow_lt_pow_iff_right (a := 10) (by decide)).mp (Nat.lt_of_le_of_lt q a2)
      omega
  omega
theorem dk_40 {W k : Nat} (h : dk W k) (hW : W < 2 ^ 130) : k ≤ 40 := by
  rcases h.2.2 with q | q
  · omega
  · have := (Nat.pow_lt_pow_iff_right (a := 10) (by decide)).mp (Nat.lt_of_le_of_lt q (Nat.lt_trans hW (tw_10 (Nat.le_refl _))))
    omega
theorem pw_66 {V : Nat} {uf : Nat → Int32} {ua : Nat → Nat → Int32} {o : Nat} (h : tw_ok V uf ua) (hV : V < 2 ^ 130) (ho : (uf 11).toInt = o) (ho2 : o ≤ 100) :
    ∃ k, dk V k ∧ ((fX5_putWhole_66 uf ua).1 11).toInt = (o + k : Nat) ∧ (∀ t, t < k → ((fX5_putWhole_66 uf ua).2 10 (o + t)).toInt = (48 + V / 10 ^ (k - 1 - t) % 10 : Nat)) ∧ (∀ i, i < o → (fX5_putWhole_66 uf ua).2 10 i = ua 10 i) ∧ (∀ k, k ≠ 11 → (fX5_putWhole_66 uf ua).1 k = uf k) ∧ (∀ k, k ≠ 10 → (fX5_putWhole_66 uf ua).2 k = ua k) := by
  have e0 : (0 : Int32).toInt = 0 := by decide
  have e1 : (1 : Int32).toInt = 1 := by decide
  have e48 : (48 : Int32).toInt = 48 := by decide
  obtain ⟨n, h1, h2, h3, h4⟩ := h
  have hn : n ≤ 40 := by
    rcases h3 with q | q
    · omega
    · have := (Nat.pow_lt_pow_iff_right (a := 10) (by decide)).mp (Nat.lt_of_le_of_lt q (Nat.lt_trans hV (tw_10 (Nat.le_refl _))))
      omega
  unfold fX5_putWhole_66 fX5_putWhole_79 fX5_putWhole_112
  by_cases c : uf 13 = 0
  · rw [if_pos c]
    rw [mi_eq, e0] at c
    have hn0 : n = 0 := by omega
    subst hn0
    have hV0 : V = 0 := by
      rw [Nat.pow_zero] at h2
      omega
    have hs : ((fX5_put uf ua (48 : Int32)).1 13 - (1 : Int32)).toInt + 1 = (0 : Nat) := by
      rw [putK (by decide), mi_sub (by omega) (by omega), e1]
      omega
    have hn := put_n (ua := ua) (c := (48 : Int32)) ho (by omega)
    obtain ⟨r1, r2, r3, r4, r5⟩ := pd_loop (V := V) (Nat.succ ((Int32.toInt ((fX5_put uf ua (48 : Int32)).1 13 - (1 : Int32)) + 1).toNat)) (fX5_put uf ua (48 : Int32)).1 (fX5_put uf ua (48 : Int32)).2 ((fX5_put uf ua (48 : Int32)).1 13 - (1 : Int32)) 0 (o + 1) hs (by omega) hn (by omega) (fun i hi => by omega)
    have hocl : (uf 11).toNatClampNeg = o := by
      show (uf 11).toInt.toNat = o
      omega
    dsimp only
    refine ⟨1, ⟨by omega, by rw [hV0]; decide, Or.inl rfl⟩, ?_, ?_, ?_, ?_, ?_⟩
    · rw [r1]
    · intro t ht
      have ht0 : t = 0 := by omega
      subst ht0
      rw [Nat.add_zero, r3 o (by omega), put10, hocl, if_pos rfl, byte_v (by decide), hV0, Nat.zero_div]
      decide
    · intro i hi
      rw [r3 i (by omega), put10, hocl, if_neg (by omega)]
    · intro k hk
      rw [r4 k hk, putK hk]
    · intro k hk
      rw [r5 k hk, putA hk]
  · rw [if_neg c]
    rw [mi_eq, e0] at c
    have hs : (uf 13 - (1 : Int32)).toInt + 1 = n := by
      rw [mi_sub (by omega) (by omega), e1]
      omega
    obtain ⟨r1, r2, r3, r4, r5⟩ := pd_loop (V := V) (Nat.succ ((Int32.toInt (uf 13 - (1 : Int32)) + 1).toNat)) uf ua (uf 13 - (1 : Int32)) n o hs (by omega) ho (by omega) h4
    refine ⟨n, ⟨by omega, h2, ?_⟩, r1, r2, r3, r4, r5⟩
    rcases h3 with q | q
    · omega
    · exact Or.inr q
/-- the whole part of m * 2^e -/
def wpart (m : Nat) (e : Int) : Nat := if 0 ≤ e then m * 2 ^ e.toNat else m / 2 ^ (-e).toNat
theorem pw_17 {x1 : Int64} {x3 : Int32} (hz : pw_ok x1 x3) : ∀ (f : Nat) (uf : Nat → Int32) (ua : Nat → Nat → Int32) (x5 : Int32) (j : Nat), x5.toInt + 1 = j → j < f → j ≤ 24 → tw_ok (un x1 / 2 ^ j) uf ua → (¬ 0 ≤ x3.toInt + j → un x1 / 2 ^ j = 0) →
    tw_ok (un x1 / 2 ^ (-x3.toInt).toNat) (gX5_putWhole_17 x1 x3 f uf ua x5).1 (gX5_putWhole_17 x1 x3 f uf ua x5).2.1 ∧ (∀ k, k ≠ 13 → (gX5_putWhole_17 x1 x3 f uf ua x5).1 k = uf k) ∧ (∀ k, k ≠ 12 → (gX5_putWhole_17 x1 x3 f uf ua x5).2.1 k = ua k) := by
  have e0 : (0 : Int32).toInt = 0 := by decide
  have em : (-1 : Int32).toInt = -1 := by decide
  obtain ⟨z1, z2, z3⟩ := hz
  have hneg : (-x3).toInt = -x3.toInt := mi_neg (by omega)
  intro f
  induction f with
  | zero => intro uf ua x5 j _ h; omega
  | succ f ih =>
    intro uf ua x5 j hx hf hj hV hsm
    rw [gX5_putWhole_17]
    by_cases c : x5 < 0
    · rw [if_pos c]
      rw [mi_lt, e0] at c
      have hj0 : j = 0 := by omega
      subst hj0
      refine ⟨?_, fun _ _ => rfl, fun _ _ => rfl⟩
      by_cases q : 0 ≤ x3.toInt
      · rw [show (-x3.toInt).toNat = 0 from by omega]
        exact hV
      · have h0 := hsm (by omega)
        rw [Nat.pow_zero, Nat.div_one] at h0
        rw [h0, Nat.zero_div]
        rw [Nat.pow_zero, Nat.div_one, h0] at hV
        exact hV
    · rw [if_neg c]
      rw [mi_lt, e0] at c
      by_cases c2 : x5 < -x3
      · rw [if_pos c2]
        rw [mi_lt, hneg] at c2
        refine ⟨?_, fun _ _ => rfl, fun _ _ => rfl⟩
        by_cases q : (j : Int) = -x3.toInt
        · rw [show (-x3.toInt).toNat = j from by omega]
          exact hV
        · have h0 := hsm (by omega)
          have : un x1 / 2 ^ (-x3.toInt).toNat = 0 := by
            apply Nat.div_eq_of_lt
            rcases Nat.div_eq_zero_iff.mp h0 with r | r
            · have := Nat.two_pow_pos j
              omega
            · exact Nat.lt_of_lt_of_le r (Nat.pow_le_pow_right (by decide) (by omega))
          rw [this]
          rw [h0] at hV
          exact hV
      · rw [if_neg c2]
        rw [mi_lt, hneg] at c2
        obtain ⟨i, rfl⟩ : ∃ i, j = i + 1 := ⟨j - 1, by omega⟩
        have hxi : x5.toInt = i := by omega
        have hbit : (((jl_ushr x1 x5) &&& (1 : Int64)).toInt32).toInt = (un x1 / 2 ^ i % 2 : Nat) := by
          have h := un_odd (jl_ushr x1 x5)
          rw [un_ushr' hxi (by omega)] at h
          rw [mi_of_un (by omega), h]
        obtain ⟨r1, r2, r3⟩ := twice_v hV (tw_100 (n := 24) (by decide) (Nat.lt_of_le_of_lt (Nat.div_le_self _ _) z1)) hbit (by omega)
        have hv : 2 * (un x1 / 2 ^ (i + 1)) + un x1 / 2 ^ i % 2 = un x1 / 2 ^ i := by
          rw [Nat.pow_succ, ← Nat.div_div_eq_div_mul]
          omega
        rw [hv] at r1
        obtain ⟨y, hy, hy1⟩ : ∃ y : Int32, y = x5 + (-1) ∧ y.toInt = x5.toInt - 1 := by
          refine ⟨_, rfl, ?_⟩
          rw [mi_add (by omega) (by omega), em]
          omega
        rw [← hy]
        clear hy
        obtain ⟨s1, s2, s3⟩ := ih _ _ y i (by omega) (by omega) (by omega) r1 (fun q => absurd q (by omega))
        refine ⟨s1, ?_, ?_⟩
        · intro k hk
          rw [s2 k hk, r2 k hk]
        · intro k hk
          rw [s3 k hk, r3 k hk]
theorem pw_49 {x3 : Int32} {V : Nat} (hV : V < 2 ^ 24) (hz : x3.toInt ≤ 104) : ∀ (f : Nat) (uf : Nat → Int32) (ua : Nat → Nat → Int32) (x5 : Int32) (j : Nat), x5.toInt = j → (x3.toInt - j).toNat < f → (j = 0 ∨ (j : Int) ≤ x3.toInt) → tw_ok (V * 2 ^ j) uf ua →
    tw_ok (V * 2 ^ x3.toInt.toNat) (gX5_putWhole_49 x3 f uf ua x5).1 (gX5_putWhole_49 x3 f uf ua x5).2.1 ∧ (∀ k, k ≠ 13 → (gX5_putWhole_49 x3 f uf ua x5).1 k = uf k) ∧ (∀ k, k ≠ 12 → (gX5_putWhole_49 x3 f uf ua x5).2.1 k = ua k) := by
  have e0 : (0 : Int32).toInt = (0 : Nat) := by decide
  have e1 : (1 : Int32).toInt = 1 := by decide
  intro f
  induction f with
  | zero => intro uf ua x5 j _ h; omega
  | succ f ih =>
    intro uf ua x5 j hx hf hj hT
    rw [gX5_putWhole_49]
    by_cases c : x3 ≤ x5
    · rw [if_pos c]
      rw [mi_le] at c
      refine ⟨?_, fun _ _ => rfl, fun _ _ => rfl⟩
      rw [show x3.toInt.toNat = j from by omega]
      exact hT
    · rw [if_neg c]
      rw [mi_le] at c
      have hb : V * 2 ^ j < 2 ^ 130 := by
        calc V * 2 ^ j < 2 ^ 24 * 2 ^ j := Nat.mul_lt_mul_of_pos_right hV (Nat.two_pow_pos _)
          _ = 2 ^ (24 + j) := (Nat.pow_add ..).symm
          _ ≤ 2 ^ 130 := Nat.pow_le_pow_right (by decide) (by omega)
      obtain ⟨r1, r2, r3⟩ := twice_v hT (tw_100 (Nat.le_refl 130) hb) e0 (by omega)
      rw [show 2 * (V * 2 ^ j) + 0 = V * 2 ^ (j + 1) from by rw [Nat.pow_succ, Nat.add_zero, Nat.mul_comm 2, Nat.mul_assoc]] at r1
      have hx1 : (x5 + 1).toInt = (j + 1 : Nat) := by rw [mi_add (by omega) (by omega), e1]; omega
      obtain ⟨s1, s2, s3⟩ := ih _ _ (x5 + 1) (j + 1) hx1 (by omega) (Or.inr (by omega)) r1
      refine ⟨s1, ?_, ?_⟩
      · intro k hk
        rw [s2 k hk, r2 k hk]
      · intro k hk
        rw [s3 k hk, r3 k hk]
theorem wp_lt {m : Nat} {e : Int} (hm : m < 2 ^ 24) (he : e ≤ 104) : wpart m e < 2 ^ 130 := by
  unfold wpart
  split
  · calc m * 2 ^ e.toNat < 2 ^ 24 * 2 ^ e.toNat := Nat.mul_lt_mul_of_pos_right hm (Nat.two_pow_pos _)
      _ = 2 ^ (24 + e.toNat) := (Nat.pow_add ..).symm
      _ ≤ 2 ^ 130 := Nat.pow_le_pow_right (by decide) (by omega)
  · exact Nat.lt_of_le_of_lt (Nat.div_le_self _ _) (Nat.lt_trans hm (by decide))
/-- the whole part is put -/
theorem putWhole_v {uf : Nat → Int32} {ua : Nat → Nat → Int32} {x1 : Int64} {x3 : Int32} {o : Nat} (hz : pw_ok x1 x3) (ho : (uf 11).toInt = o) (ho2 : o ≤ 100) :
    ∃ k, dk (wpart (un x1) x3.toInt) k ∧ ((fX5_putWhole uf ua x1 x3).1 11).toInt = (o + k : Nat) ∧ (∀ t, t < k → ((fX5_putWhole uf ua x1 x3).2 10 (o + t)).toInt = (48 + wpart (un x1) x3.toInt / 10 ^ (k - 1 - t) % 10 : Nat)) ∧ (∀ i, i < o → (fX5_putWhole uf ua x1 x3).2 10 i = ua 10 i) ∧ (∀ k, k ≠ 11 → k ≠ 13 → (fX5_putWhole uf ua x1 x3).1 k = uf k) ∧ (∀ k, k ≠ 10 → k ≠ 12 → (fX5_putWhole uf ua x1 x3).2 k = ua k) := by
  have e0 : (0 : Int32).toInt = 0 := by decide
  have e1 : (1 : Int32).toInt = 1 := by decide
  have hb := bits_v (x := x1) (Nat.lt_trans hz.1 (by decide))
  have hn : nb (un x1) ≤ 24 := nb_le.mpr hz.1
  have hs : ((fX5_bitsOf x1) - (1 : Int32)).toInt + 1 = nb (un x1) := by rw [mi_sub (by omega) (by omega), hb, e1]; omega
  unfold fX5_putWhole fX5_putWhole_46
  have hz0 : un x1 / 2 ^ nb (un x1) = 0 := Nat.div_eq_of_lt (nb_hi _)
  have t0 : tw_ok (un x1 / 2 ^ nb (un x1)) (va_up uf 13 (0 : Int32)) ua := by
    rw [hz0]
    exact ⟨0, by show (0 : Int32).toInt = _; decide, by decide, Or.inl rfl, fun i hi => by omega⟩
  obtain ⟨a1, a2, a3⟩ := pw_17 hz (Nat.succ ((Int32.toInt ((fX5_bitsOf x1) - (1 : Int32)) + 1).toNat)) (va_up uf 13 (0 : Int32)) ua ((fX5_bitsOf x1) - (1 : Int32)) (nb (un x1)) hs (by omega) hn t0 (fun _ => hz0)
  generalize gX5_putWhole_17 x1 x3 (Nat.succ ((Int32.toInt ((fX5_bitsOf x1) - (1 : Int32)) + 1).toNat)) (va_up uf 13 (0 : Int32)) ua ((fX5_bitsOf x1) - (1 : Int32)) = G at *
  have hVl : un x1 / 2 ^ (-x3.toInt).toNat < 2 ^ 24 := Nat.lt_of_le_of_lt (Nat.div_le_self _ _) hz.1
  obtain ⟨b1, b2, b3⟩ := pw_49 (x3 := x3) hVl hz.2.2 (Nat.succ ((Int32.toInt x3 - Int32.toInt (0 : Int32)).toNat)) G.1 G.2.1 0 0 e0 (by rw [e0]; omega) (Or.inl rfl) (by rw [Nat.pow_zero, Nat.mul_one]; exact a1)
  generalize gX5_putWhole_49 x3 (Nat.succ ((Int32.toInt x3 - Int32.toInt (0 : Int32)).toNat)) G.1 G.2.1 0 = K at *
  have hW : un x1 / 2 ^ (-x3.toInt).toNat * 2 ^ x3.toInt.toNat = wpart (un x1) x3.toInt := by
    unfold wpart
    split
    · rw [show (-x3.toInt).toNat = 0 from by omega, Nat.pow_zero, Nat.div_one]
    · rw [show x3.toInt.toNat = 0 from by omega, Nat.pow_zero, Nat.mul_one]
  rw [hW] at b1
  have h11 : (K.1 11).toInt = o := by
    rw [b2 11 (by decide), a2 11 (by decide)]
    exact ho
  obtain ⟨k, c1, c2, c3, c4, c5, c6⟩ := pw_66 b1 (wp_lt hz.1 hz.2.2) h11 ho2
  refine ⟨k, c1, c2, c3, ?_, ?_, ?_⟩
  · intro i hi
    rw [c4 i hi, b3 10 (by decide), a3 10 (by decide)]
  · intro k hk hk3
    rw [c5 k hk, b2 k hk3, a2 k hk3]
    unfold va_up
    rw [if_neg hk3]
  · intro k hk hk2
    rw [c6 k hk, b3 k hk2, a3 k hk2]
theorem pr_o0 {uf : Nat → Int32} : 0 ≤ ((va_up uf 11 (0 : Int32)) 11).toInt ∧ ((va_up uf 11 (0 : Int32)) 11).toInt ≤ 1 := by
  show 0 ≤ (0 : Int32).toInt ∧ (0 : Int32).toInt ≤ 1
  decide
theorem pr_o1 {uf : Nat → Int32} {ua : Nat → Nat → Int32} : 0 ≤ ((fX5_put (va_up uf 11 (0 : Int32)) ua (45 : Int32)).1 11).toInt ∧ ((fX5_put (va_up uf 11 (0 : Int32)) ua (45 : Int32)).1 11).toInt ≤ 1 := by
  show 0 ≤ ((0 : Int32) + 1).toInt ∧ ((0 : Int32) + 1).toInt ≤ 1
  decide
theorem pr_n0 {uf : Nat → Int32} : 0 ≤ ((va_up uf 11 (0 : Int32)) 11).toInt ∧ ((va_up uf 11 (0 : Int32)) 11).toInt ≤ 100 := by
  show 0 ≤ (0 : Int32).toInt ∧ (0 : Int32).toInt ≤ 100
  decide
theorem pr_p0 {uf : Nat → Int32} : vp_in ((va_up uf 11 (0 : Int32)) 11) 120 := by
  rw [vp_in_iff]
  show 0 ≤ (0 : Int32).toInt ∧ (0 : Int32).toInt < (120 : Nat)
  decide
theorem pr_n {u : Int32} (h : 0 ≤ u.toInt ∧ u.toInt ≤ 1) : 0 ≤ u.toInt ∧ u.toInt ≤ 100 := by omega
theorem pr_pl {x : Int32} (h : ¬ fX5_in x (0 : Int32) (40 : Int32) = 0) : x.toInt ≤ 40 := (sd_fin h).2
theorem pr_sc {x : Int64} (h3 : 0 ≤ x.toInt) (hn : fX5_isNan x (0 : Int32) = 0) : ok false x ∧ fX5_exponentOf x (0 : Int32) = fX2_scale false x ∧ fX5_digitsOf x (0 : Int32) = fX2_plain false x ∧ -149 ≤ (fX2_scale false x).toInt ∧ (fX2_scale false x).toInt ≤ 105 := by
  have o := ok0 h3 hn
  have hN : fX2_isNan false x = 0 := by rw [← dq_isNan o]; exact hn
  have h1 : exN false x ≤ 255 := exN_top o hN
  have h2 := scale_v o
  have h4 : E0 false = -149 := rfl
  exact ⟨o, dq_scale (w := false) o, dq_dig (w := false) o, by omega, by omega⟩
theorem pr_e {x : Int64} (h3 : 0 ≤ x.toInt) (hn : fX5_isNan x (0 : Int32) = 0) : -160 ≤ (fX5_exponentOf x (0 : Int32)).toInt ∧ (fX5_exponentOf x (0 : Int32)).toInt ≤ 200 := by
  obtain ⟨_, e, _, a, b⟩ := pr_sc h3 hn
  rw [e]
  omega
theorem pr_pw {x : Int64} (h3 : 0 ≤ x.toInt) (hn : fX5_isNan x (0 : Int32) = 0) (hi : fX5_isInfinite x (0 : Int32) = 0) : pw_ok (fX5_digitsOf x (0 : Int32)) (fX5_exponentOf x (0 : Int32)) := by
  obtain ⟨o, e, d, a, b⟩ := pr_sc h3 hn
  have hN : fX2_isNan false x = 0 := by rw [← dq_isNan o]; exact hn
  have hI : fX2_isInfinite false x = 0 := by rw [← dq_isInf o]; exact hi
  have hh : (fX2_scale false x).toInt ≤ 104 := sc_hi (fin_of o hN hI)
  rw [e, d]
  exact ⟨pl_lt o, by omega, hh⟩
theorem pr_q {uf : Nat → Int32} {ua : Nat → Nat → Int32} {x1 : Int64} {x3 : Int32} (ho : 0 ≤ (uf 11).toInt ∧ (uf 11).toInt ≤ 1) (hz : pw_ok x1 x3) : 0 ≤ ((fX5_putWhole uf ua x1 x3).1 11).toInt ∧ ((fX5_putWhole uf ua x1 x3).1 11).toInt ≤ 41 := by
  obtain ⟨k, a, b, _⟩ := putWhole_v (uf := uf) (ua := ua) (o := (uf 11).toInt.toNat) hz (by omega) (by omega)
  have := dk_40 a (wp_lt hz.1 hz.2.2)
  rw [b]
  omega
theorem pr_q0 {uf : Nat → Int32} {ua : Nat → Nat → Int32} {x1 : Int64} {x3 : Int32} (ho : 0 ≤ (uf 11).toInt ∧ (uf 11).toInt ≤ 1) (hz : pw_ok x1 x3) : 0 ≤ ((fX5_putWhole uf ua x1 x3).1 11).toInt ∧ ((fX5_putWhole uf ua x1 x3).1 11).toInt ≤ 42 := by
  have := pr_q (ua := ua) ho hz
  omega
theorem pr_q1 {uf : Nat → Int32} {ua : Nat → Nat → Int32} {x1 : Int64} {x3 c : Int32} (ho : 0 ≤ (uf 11).toInt ∧ (uf 11).toInt ≤ 1) (hz : pw_ok x1 x3) : 0 ≤ ((fX5_put (fX5_putWhole uf ua x1 x3).1 (fX5_putWhole uf ua x1 x3).2 c).1 11).toInt ∧ ((fX5_put (fX5_putWhole uf ua x1 x3).1 (fX5_putWhole uf ua x1 x3).2 c).1 11).toInt ≤ 42 := by
  have h := pr_q (ua := ua) ho hz
  have e1 : (1 : Int32).toInt = 1 := by decide
  rw [put11, mi_add (by omega) (by omega), e1]
  omega
theorem pr_p1 {uf : Nat → Int32} {ua : Nat → Nat → Int32} {x1 : Int64} {x3 : Int32} (ho : 0 ≤ (uf 11).toInt ∧ (uf 11).toInt ≤ 1) (hz : pw_ok x1 x3) : vp_in ((fX5_putWhole uf ua x1 x3).1 11) 120 := by
  have h := pr_q (ua := ua) ho hz
  rw [vp_in_iff]
  omega
theorem pr_z {u : Int32} (ho : 0 ≤ u.toInt ∧ u.toInt ≤ 42) : (0 ≤ Int32.toInt (0 : Int32) ∧ 0 ≤ u.toInt) ∧ u.toInt ≤ 42 + Int32.toInt (0 : Int32) := by
  have e0 : (0 : Int32).toInt = 0 := by decide
  rw [e0]
  omega
theorem pr_s {uf : Nat → Int32} {ua : Nat → Nat → Int32} {x2 x5 c : Int32} (hi : (0 ≤ Int32.toInt x5 ∧ 0 ≤ (uf 11).toInt) ∧ (uf 11).toInt ≤ 42 + Int32.toInt x5) (h2 : x2.toInt ≤ 40) (h : ¬ x2 ≤ x5) : (0 ≤ Int32.toInt (x5 + 1) ∧ 0 ≤ ((fX5_put uf ua c).1 11).toInt) ∧ ((fX5_put uf ua c).1 11).toInt ≤ 42 + Int32.toInt (x5 + 1) := by
  have e1 : (1 : Int32).toInt = 1 := by decide
  rw [mi_le] at h
  have hx : (x5 + 1).toInt = x5.toInt + 1 := by rw [mi_add (by omega) (by omega), e1]
  have hu : (uf 11 + 1).toInt = (uf 11).toInt + 1 := by rw [mi_add (by omega) (by omega), e1]
  rw [put11, hu, hx]
  omega
theorem pr_p2 {uf : Nat → Int32} {x2 x5 : Int32} (hi : (0 ≤ Int32.toInt x5 ∧ 0 ≤ (uf 11).toInt) ∧ (uf 11).toInt ≤ 42 + Int32.toInt x5) (h2 : x2.toInt ≤ 40) (h : ¬ x2 ≤ x5) : vp_in (uf 11) 120 := by
  rw [mi_le] at h
  rw [vp_in_iff]
  omega
