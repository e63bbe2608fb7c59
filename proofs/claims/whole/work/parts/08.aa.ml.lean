theorem sumR {w : Bool} {us : Nat → Int64} (hdg : dig us) {x1 n : Int32} : (fX5_sumRounded_57 us x1 (wi w) n).1 = if (sv us 290).toNat = 0 then (if x1 = 0 then 0 else fo_sign w) else (sg w n ||| ow (rw_ w (sv us 290).toNat (-2200))) := by
  have hd := sv_digit hdg 290 (Nat.le_refl _)
  obtain ⟨hlo1, hlo2⟩ := sv_lo hdg 290 (Nat.le_refl _)
  have h290 : (sv us 290).toNat / 2 ^ (16 * 290) = 0 := by
    apply Nat.div_eq_of_lt
    generalize 2 ^ (16 * 290) = P at *
    omega
  clear hlo1 hlo2
  generalize (sv us 290).toNat = N at *
  have e0 : (0 : Int32).toInt = 0 := by decide
  have hq : ∀ j, j < 290 → (fun j => N / 2 ^ (16 * j)) j = (fun j => N / 2 ^ (16 * j)) (j + 1) * 65536 + (us j).toInt.toNat := fun j hj => up16 (hd j hj)
  obtain ⟨y, i, hy, hyi, hi, hqi, hnz⟩ := top_loop hq (Nat.succ ((Int32.toInt (289 : Int32) + 1).toNat)) (289 : Int32) 290 (by decide) (by decide) (Nat.le_refl _) h290
  unfold fX5_sumRounded_57
  rw [hy]
  unfold fX5_sumRounded_85
  clear hy
  by_cases c : 0 ≤ y
  · rw [if_pos c]
    rw [mi_le, e0] at c
    obtain ⟨k, rfl⟩ : ∃ k, i = k + 1 := ⟨i - 1, by omega⟩
    have hN : 0 < N := by
      rcases Nat.eq_zero_or_pos N with h | h
      · exfalso
        apply hnz k rfl
        obtain ⟨d1, d2⟩ := hdg k (by omega)
        have := hd k (by omega)
        rw [h, Nat.zero_div, Nat.zero_mod] at this
        rw [ml_eq]
        show _ = 0
        omega
      · exact h
    rw [if_neg (by omega)]
    obtain ⟨m', b', x', i', hg, hx', hi', hm', hb', hlt', hend⟩ := take_loop hq hdg (Nat.succ ((Int32.toInt y + 1).toNat)) (0 : Int64) (0 : Int32) y (k + 1) hyi (by rw [hyi]; exact Nat.lt_succ_self _) hi (by rw [hqi]; rfl) (by decide) (by decide)
    rw [hg]
    exact sumR_in hd hdg hN hx' hi' hm' hb' hlt' hend
  · rw [if_neg c]
    rw [mi_le, e0] at c
    have hi0 : i = 0 := by
      have := mi_lo y
      omega
    subst hi0
    have hN : N = 0 := by
      have h : N / 2 ^ (16 * 0) = 0 := hqi
      rw [Nat.mul_zero, Nat.pow_zero, Nat.div_one] at h
      exact h
    rw [if_pos hN, dq_sign]
    by_cases c1 : x1 = 0
    · rw [if_pos c1, if_pos c1]
    · rw [if_neg c1, if_neg c1]
theorem ng_loop : ∀ (n : Nat) (us : Nat → Int64) (x : Int32) (j : Nat), x.toInt = j → 290 - j < n → ∀ k, (gX5_sumRounded_22 n us x).1 k = if j ≤ k ∧ k < 290 then -(us k) else us k := by
  have e290 : (290 : Int32).toInt = 290 := by decide
  have e1 : (1 : Int32).toInt = 1 := by decide
  intro n
  induction n with
  | zero => intro us x j _ h; omega
  | succ n ih =>
    intro us x j hx hn k
    rw [gX5_sumRounded_22]
    by_cases c : (290 : Int32) ≤ x
    · rw [if_pos c]
      rw [mi_le, e290] at c
      rw [if_neg (by omega)]
    · rw [if_neg c]
      rw [mi_le, e290] at c
      have hx1 : (x + 1).toInt = (j + 1 : Nat) := by rw [mi_add (by omega) (by omega), e1]; omega
      have hc : x.toNatClampNeg = j := by
        show x.toInt.toNat = j
        omega
      rw [hc, ih _ _ (j + 1) hx1 (by omega) k]
      unfold vp_updL
      by_cases cj : k = j
      · subst cj
        rw [if_neg (by omega), if_pos rfl, if_pos (by omega)]
      · rw [if_neg cj]
        by_cases c3 : j ≤ k ∧ k < 290
        · rw [if_pos c3, if_pos (by omega)]
        · rw [if_neg c3, if_neg (by omega)]
theorem sv_neg {us vs : Nat → Int64} : ∀ n, (∀ k, k < n → (vs k).toInt = -(us k).toInt) → sv vs n = -sv us n := by
  intro n
  induction n with
  | zero => intro _; rfl
  | succ n ih =>
    intro h
    rw [sv, sv, ih (fun k hk => h k (by omega)), h n (by omega), Int.neg_mul, Int.neg_add]
/-- a sign and a rounded size -/
def rv (w : Bool) (S e : Int) : Int64 := sg w (if S < 0 then 1 else 0) ||| ow (rw_ w S.natAbs e)
theorem over_v {PP : Nat} {a o S : Int} (h : a + o * (PP : Int) = S) (h1 : 0 ≤ a) (h2 : a < PP) (h3 : -(PP : Int) < S) (h4 : S < PP) : (0 ≤ S → o = 0 ∧ a = S) ∧ (S < 0 → o = -1 ∧ a = S + PP) := by
  have hP : (0 : Int) < PP := by omega
  have o1 : o < 1 := by
    apply Int.lt_of_mul_lt_mul_right (a := (PP : Int)) _ (Int.le_of_lt hP)
    omega
  have o2 : -2 < o := by
    apply Int.lt_of_mul_lt_mul_right (a := (PP : Int)) _ (Int.le_of_lt hP)
    omega
  have o3 : o = 0 ∨ o = -1 := by omega
  rcases o3 with rfl | rfl
  · constructor
    · intro _
      omega
    · intro _
      omega
  · constructor
    · intro _
      omega
    · intro _
      omega
theorem sumRounded_v {PP : Nat} (hPP : PP = 2 ^ (16 * 290)) {w : Bool} {us : Nat → Int64} {B : Int} (hb : bnd us B) (hB : 0 ≤ B ∧ B < 2 ^ 40) (h3 : -(PP : Int) < sv us 290) (h4 : sv us 290 < PP) {x1 : Int32} :
    (fX5_sumRounded us x1 (wi w)).1 = if sv us 290 = 0 then (if x1 = 0 then 0 else fo_sign w) else rv w (sv us 290) (-2200) := by
  have l0 : (0 : Int64).toInt = 0 := by decide
  obtain ⟨c1, c2⟩ := carry_v hPP hb hB
  obtain ⟨d1, d2⟩ := sv_lo c1 290 (Nat.le_refl _)
  rw [← hPP] at d2
  obtain ⟨k1, k2⟩ := over_v c2 d1 d2 h3 h4
  unfold fX5_sumRounded
  have hle : (0 : Int64) ≤ (fX5_carry us).1 ↔ 0 ≤ (fX5_carry us).1.toInt := by rw [un_le_iff, l0]
  by_cases cS : 0 ≤ sv us 290
  · obtain ⟨o, a⟩ := k1 cS
    rw [if_pos (hle.mpr (by omega))]
    unfold fX5_sumRounded_14
    rw [if_pos rfl, sumR c1, a]
    by_cases cz : sv us 290 = 0
    · rw [if_pos cz, if_pos (by omega)]
    · rw [if_neg cz, if_neg (by omega)]
      unfold rv
      rw [if_neg (by omega), show (sv us 290).toNat = (sv us 290).natAbs from by omega]
  · obtain ⟨o, a⟩ := k2 (by omega)
    rw [if_neg (fun h => by have := hle.mp h; omega)]
    unfold fX5_sumRounded_14
    rw [if_neg (by decide)]
    unfold fX5_sumRounded_51
    generalize (fX5_carry us).2 = vs at *
    have hng := ng_loop (Nat.succ ((Int32.toInt (290) - Int32.toInt (0 : Int32)).toNat)) vs (0 : Int32) 0 (by decide) (by decide)
    generalize (gX5_sumRounded_22 (Nat.succ ((Int32.toInt (290) - Int32.toInt (0 : Int32)).toNat)) vs (0 : Int32)).1 = us3 at *
    have hn2 : ∀ k, k < 290 → (us3 k).toInt = -(vs k).toInt := by
      intro k hk
      obtain ⟨q1, q2⟩ := c1 k hk
      rw [hng k, if_pos (by omega), ml_neg (by omega)]
    have hb3 : bnd us3 65536 := by
      intro k hk
      obtain ⟨q1, q2⟩ := c1 k hk
      rw [hn2 k hk]
      omega
    have hs3 : sv us3 290 = -sv us 290 - PP := by rw [sv_neg 290 hn2, a]; omega
    obtain ⟨f1, f2⟩ := carry_v hPP hb3 (by decide)
    obtain ⟨g1, g2⟩ := sv_lo f1 290 (Nat.le_refl _)
    rw [← hPP] at g2
    rw [hs3] at f2
    obtain ⟨_, k4⟩ := over_v f2 g1 g2 (by omega) (by omega)
    obtain ⟨_, a4⟩ := k4 (by omega)
    rw [sumR f1, a4, if_neg (by omega), if_neg (by omega)]
    unfold rv
    rw [if_pos (by omega), show (-sv us 290 - (PP : Int) + PP).toNat = (sv us 290).natAbs from by omega]
