/-! ===== MATH: printing, the class's whole part ===== -/
/-- the parts above the point, the lowest k of them -/
def hv5 (us : Nat → Int64) : Nat → Nat
  | 0 => 0
  | k + 1 => hv5 us k + un (us (5 + k)) * 2 ^ (32 * k)
def prt (us : Nat → Int64) : Prop := ∀ i, i < 10 → un (us i) < 4294967296
theorem hv5_upd {us : Nat → Int64} {v : Int64} : ∀ (k j : Nat), k ≤ j → hv5 (vp_updL us (5 + j) v) k = hv5 us k := by
  intro k
  induction k with
  | zero => intro j _; rfl
  | succ k ih =>
    intro j h
    rw [hv5, hv5, ih j (by omega)]
    congr 2
    unfold vp_updL
    rw [if_neg (by omega)]
theorem td_loop : ∀ (f : Nat) (us : Nat → Int64) (r : Int64) (x3 : Int32) (k : Nat), x3.toInt = k + 4 → k < f → k ≤ 5 → un r < 10 → prt us →
    prt (gX1_takeLastDigit_5 f us r x3).1 ∧ hv5 (gX1_takeLastDigit_5 f us r x3).1 k * 10 + un (gX1_takeLastDigit_5 f us r x3).2.1 = un r * 2 ^ (32 * k) + hv5 us k ∧ un (gX1_takeLastDigit_5 f us r x3).2.1 < 10 ∧ (∀ i, (i < 5 ∨ 5 + k ≤ i) → (gX1_takeLastDigit_5 f us r x3).1 i = us i) := by
  have e5 : (5 : Int32).toInt = 5 := by decide
  have e32 : (32 : Int32).toInt = (32 : Nat) := by decide
  have u10 : un (10 : Int64) = 10 := by decide
  intro f
  induction f with
  | zero => intro us r x3 k _ h; omega
  | succ f ih =>
    intro us r x3 k hx hf hk hr hp
    rw [gX1_takeLastDigit_5]
    by_cases c : x3 < (5 : Int32)
    · rw [if_pos c]
      rw [mi_lt, e5] at c
      have hk0 : k = 0 := by omega
      subst hk0
      refine ⟨hp, ?_, hr, fun _ _ => rfl⟩
      show hv5 us 0 * 10 + un r = un r * 2 ^ (32 * 0) + hv5 us 0
      rw [hv5, Nat.mul_zero, Nat.pow_zero]
      omega
    · rw [if_neg c]
      rw [mi_lt, e5] at c
      obtain ⟨j, rfl⟩ : ∃ j, k = j + 1 := ⟨k - 1, by omega⟩
      have hcl : x3.toNatClampNeg = 5 + j := by
        show x3.toInt.toNat = 5 + j
        omega
      rw [hcl]
      have hpj := hp (5 + j) (by omega)
      have hsh : un (jl_shl r (32 : Int32)) = un r * 2 ^ 32 := un_shl' e32 (by decide) (by omega)
      have hor : un (jl_shl r (32 : Int32) ||| us (5 + j)) = un r * 4294967296 + un (us (5 + j)) := by
        rw [un_or, hsh, or_add (k := 32) (Nat.mul_mod_left _ _) hpj]
      generalize jl_shl r (32 : Int32) ||| us (5 + j) = P at *
      have hq : un (P / (10 : Int64)) = un P / 10 := by rw [un_div (by omega) (by decide), u10]
      have hm : un (jl_rem P (10 : Int64)) = un P % 10 := by rw [un_rem (by omega) (by decide), u10]
      obtain ⟨y, hy, hy1⟩ := dec1 (x := x3) (by omega)
      rw [← hy]
      clear hy
      have hp1 : prt (vp_updL us (5 + j) (P / (10 : Int64))) := by
        intro i hi
        unfold vp_updL
        split
        · omega
        · exact hp i hi
      obtain ⟨r1, r2, r3, r4⟩ := ih (vp_updL us (5 + j) (P / (10 : Int64))) (jl_rem P (10 : Int64)) y j (by omega) (by omega) (by omega) (by omega) hp1
      generalize gX1_takeLastDigit_5 f (vp_updL us (5 + j) (P / (10 : Int64))) (jl_rem P (10 : Int64)) y = G at *
      refine ⟨r1, ?_, r3, ?_⟩
      · rw [hv5_upd j j (Nat.le_refl _), hm] at r2
        have hG : un (G.1 (5 + j)) = un P / 10 := by
          rw [r4 (5 + j) (by omega)]
          unfold vp_updL
          rw [if_pos rfl, hq]
        rw [hv5, hv5, hG, show 32 * (j + 1) = 32 * j + 32 from by omega, Nat.pow_add]
        have hPd := Nat.div_add_mod (un P) 10
        generalize 2 ^ (32 * j) = B at *
        have e1 : un r * (B * 2 ^ 32) + un (us (5 + j)) * B = un P * B := by
          rw [hor, Nat.add_mul, Nat.mul_comm B, ← Nat.mul_assoc]
        have e2 : un P * B = un P / 10 * B * 10 + un P % 10 * B := by
          rw [show un P / 10 * B * 10 = 10 * (un P / 10) * B from by rw [Nat.mul_right_comm, Nat.mul_comm (un P / 10)], ← Nat.add_mul, hPd]
        generalize un P / 10 * B = X at *
        generalize un P % 10 * B = Y at *
        generalize un r * (B * 2 ^ 32) = Z at *
        generalize un (us (5 + j)) * B = Q at *
        omega
      · intro i hi
        rw [r4 i (by omega)]
        unfold vp_updL
        rw [if_neg (by omega)]
theorem take_v {us : Nat → Int64} (hp : prt us) : prt (fX1_takeLastDigit us).2 ∧ hv5 (fX1_takeLastDigit us).2 5 = hv5 us 5 / 10 ∧ (fX1_takeLastDigit us).1.toInt = (hv5 us 5 % 10 : Nat) ∧ (∀ i, i < 5 → (fX1_takeLastDigit us).2 i = us i) := by
  unfold fX1_takeLastDigit fX1_takeLastDigit_48
  obtain ⟨r1, r2, r3, r4⟩ := td_loop (Nat.succ ((Int32.toInt (9 : Int32) + 1).toNat)) us (0 : Int64) (9 : Int32) 5 (by decide) (by decide) (by decide) (by decide) hp
  generalize gX1_takeLastDigit_5 (Nat.succ ((Int32.toInt (9 : Int32) + 1).toNat)) us (0 : Int64) (9 : Int32) = G at *
  have u0 : un (0 : Int64) = 0 := by decide
  rw [u0, Nat.zero_mul, Nat.zero_add] at r2
  dsimp only
  refine ⟨r1, by omega, ?_, fun i hi => r4 i (by omega)⟩
  rw [mi_of_un (by omega)]
  omega
theorem has_v {us : Nat → Int64} : fX1_hasWholePart us = if hv5 us 5 = 0 then 0 else 1 := by
  have hv : hv5 us 5 = un (us 5) + un (us 6) * 2 ^ 32 + un (us 7) * 2 ^ 64 + un (us 8) * 2 ^ 96 + un (us 9) * 2 ^ 128 := by
    show 0 + un (us 5) * 2 ^ 0 + un (us 6) * 2 ^ 32 + un (us 7) * 2 ^ 64 + un (us 8) * 2 ^ 96 + un (us 9) * 2 ^ 128 = _
    omega
  have z : ∀ i, us i = (0 : Int64) ↔ un (us i) = 0 := fun i => by rw [un_iff]; exact Iff.rfl
  unfold fX1_hasWholePart
  simp only [z]
  rw [hv]
  by_cases c5 : un (us 5) = 0
  · by_cases c6 : un (us 6) = 0
    · by_cases c7 : un (us 7) = 0
      · by_cases c8 : un (us 8) = 0
        · by_cases c9 : un (us 9) = 0
          · rw [if_pos c5, if_pos c6, if_pos c7, if_pos c8, if_pos c9, if_pos (by omega)]
          · rw [if_pos c5, if_pos c6, if_pos c7, if_pos c8, if_neg c9, if_neg (by omega)]
        · rw [if_pos c5, if_pos c6, if_pos c7, if_neg c8, if_neg (by omega)]
      · rw [if_pos c5, if_pos c6, if_neg c7, if_neg (by omega)]
    · rw [if_pos c5, if_neg c6, if_neg (by omega)]
  · rw [if_neg c5, if_neg (by omega)]
theorem cput_v {df : Nat → Int32} {da : Nat → Nat → Int32} {c : Int32} {o : Nat} (h : (df 1).toInt = o) (ho : o < 81) : fX1_put df da c = (va_up df 1 (df 1 + (1 : Int32)), va_up da 0 (upd (da 0) o (ji_byte (ji_byte c)))) := by
  have e0 : (0 : Int32).toInt = 0 := by decide
  have e81 : (81 : Int32).toInt = 81 := by decide
  have hcl : (df 1).toNatClampNeg = o := by
    show (df 1).toInt.toNat = o
    omega
  unfold fX1_put
  rw [if_neg (by rw [mi_lt]; omega), if_neg (by rw [mi_le]; omega), hcl]
theorem cp_n {df : Nat → Int32} {o : Nat} (h : (df 1).toInt = o) (ho : o < 81) : ((va_up df 1 (df 1 + (1 : Int32))) 1).toInt = (o + 1 : Nat) := by
  have e1 : (1 : Int32).toInt = 1 := by decide
  show (df 1 + (1 : Int32)).toInt = _
  rw [mi_add (by omega) (by omega), h, e1]
  omega
theorem cw_loop {W o : Nat} (hW : W < 10 ^ 39) (ho : o ≤ 1) : ∀ (f : Nat) (df : Nat → Int32) (da : Nat → Nat → Int32) (ds : Nat → Int64) (x2 x3 : Int32) (t : Nat), x3.toInt = t → 39 - t < f → t ≤ 39 → prt ds → hv5 ds 5 = W / 10 ^ t → (x2 = if t = 0 ∨ W / 10 ^ t ≠ 0 then 1 else 0) → (t ≤ 1 ∨ 10 ^ (t - 1) ≤ W) → (df 1).toInt = (o + t : Nat) → (∀ i, i < t → (da 0 (o + i)).toInt = (48 + W / 10 ^ i % 10 : Nat)) →
    ∃ k, dk W k ∧ ((gX1_putWhole_9 f df da ds x2 x3).1 1).toInt = (o + k : Nat) ∧ (∀ i, i < k → ((gX1_putWhole_9 f df da ds x2 x3).2.1 0 (o + i)).toInt = (48 + W / 10 ^ i % 10 : Nat)) ∧ (∀ i, i < o → (gX1_putWhole_9 f df da ds x2 x3).2.1 0 i = da 0 i) ∧ (∀ i, i < 5 → (gX1_putWhole_9 f df da ds x2 x3).2.2.1 i = ds i) ∧ prt (gX1_putWhole_9 f df da ds x2 x3).2.2.1 := by
  have e39 : (39 : Int32).toInt = 39 := by decide
  have e1 : (1 : Int32).toInt = 1 := by decide
  have e48 : (48 : Int32).toInt = 48 := by decide
  intro f
  induction f with
  | zero => intro df da ds x2 x3 t _ h; omega
  | succ f ih =>
    intro df da ds x2 x3 t hx hf ht hp hh hx2 hlo hd hdig
    rw [gX1_putWhole_9]
    have fin0 : 1 ≤ t → W / 10 ^ t = 0 → dk W t := by
      intro h1 h0
      refine ⟨h1, ?_, ?_⟩
      · rcases Nat.div_eq_zero_iff.mp h0 with q | q
        · have : 0 < 10 ^ t := Nat.pow_pos (by decide)
          omega
        · exact q
      · rcases hlo with q | q
        · exact Or.inl (by omega)
        · exact Or.inr q
    by_cases c : (39 : Int32) ≤ x3
    · rw [if_pos c]
      rw [mi_le, e39] at c
      have h39 : t = 39 := by omega
      subst h39
      exact ⟨39, fin0 (by decide) (Nat.div_eq_of_lt hW), hd, hdig, fun _ _ => rfl, fun _ _ => rfl, hp⟩
    · rw [if_neg c]
      rw [mi_le, e39] at c
      by_cases c2 : x2 = 0
      · rw [if_pos c2]
        have hz : ¬ (t = 0 ∨ W / 10 ^ t ≠ 0) := by
          intro q
          rw [if_pos q] at hx2
          rw [hx2] at c2
          exact absurd c2 (by decide)
        have h1 : 1 ≤ t := by omega
        have h0 : W / 10 ^ t = 0 := Classical.byContradiction (fun q => hz (Or.inr q))
        exact ⟨t, fin0 h1 h0, hd, hdig, fun _ _ => rfl, fun _ _ => rfl, hp⟩
      · rw [if_neg c2]
        have hgo : t = 0 ∨ W / 10 ^ t ≠ 0 := Classical.byContradiction (fun q => c2 (by rw [hx2, if_neg q]))
        obtain ⟨t1, t2, t3, t4⟩ := take_v hp
        rw [hh] at t2 t3
        have hdl : W / 10 ^ t % 10 < 10 := Nat.mod_lt _ (by decide)
        have hcc : ((48 : Int32) + (fX1_takeLastDigit ds).1).toInt = (48 + W / 10 ^ t % 10 : Nat) := by
          generalize W / 10 ^ t % 10 = d at *
          rw [mi_add (by omega) (by omega), e48, t3]
          omega
        have hby : ji_byte (ji_byte ((48 : Int32) + (fX1_takeLastDigit ds).1)) = (48 : Int32) + (fX1_takeLastDigit ds).1 := byte_v (by
          rw [hcc]
          generalize W / 10 ^ t % 10 = d at *
          omega)
        rw [cput_v hd (by omega), hby, has_v, t2, Nat.div_div_eq_div_mul, ← Nat.pow_succ]
        have hx31 : (x3 + 1).toInt = (t + 1 : Nat) := by rw [mi_add (by omega) (by omega), e1]; omega
        have hup : ∀ i, (va_up da 0 (upd (da 0) (o + t) ((48 : Int32) + (fX1_takeLastDigit ds).1))) 0 i = if i = o + t then (48 : Int32) + (fX1_takeLastDigit ds).1 else da 0 i := fun _ => rfl
        obtain ⟨k, a1, a2, a3, a4, a5, a6⟩ := ih (va_up df 1 (df 1 + (1 : Int32))) (va_up da 0 (upd (da 0) (o + t) ((48 : Int32) + (fX1_takeLastDigit ds).1))) (fX1_takeLastDigit ds).2 (if W / 10 ^ t.succ = 0 then 0 else 1) (x3 + 1) (t + 1) hx31 (by omega) (by omega) t1 (by rw [t2, Nat.div_div_eq_div_mul, ← Nat.pow_succ]) (by
          by_cases q : W / 10 ^ (t + 1) = 0
          · rw [if_pos q, if_neg (by omega)]
          · rw [if_neg q, if_pos (Or.inr q)]) (by
          rcases hgo with q | q
          · exact Or.inl (by omega)
          · right
            rw [Nat.add_sub_cancel]
            rcases Nat.lt_or_ge W (10 ^ t) with r | r
            · exact absurd (Nat.div_eq_of_lt r) q
            · exact r) (by rw [cp_n hd (by omega)]; omega) (by
          intro i hi
          rw [hup]
          by_cases z : i = t
          · rw [if_pos (by omega), z]
            exact hcc
          · rw [if_neg (by omega)]
            exact hdig i (by omega))
        refine ⟨k, a1, a2, a3, ?_, ?_, a6⟩
        · intro i hi
          rw [a4 i hi, hup, if_neg (by omega)]
        · intro i hi
          rw [a5 i hi]
          exact t4 i hi
