/-! ===== MATH: the reference's long sum ===== -/
def sv (us : Nat → Int64) : Nat → Int
  | 0 => 0
  | n + 1 => sv us n + (us n).toInt * ((2 ^ (16 * n) : Nat) : Int)
theorem sv_upd_ge {us : Nat → Int64} {i : Nat} {v : Int64} : ∀ n, n ≤ i → sv (vp_updL us i v) n = sv us n := by
  intro n
  induction n with
  | zero => intro _; rfl
  | succ n ih =>
    intro h
    rw [sv, sv, ih (by omega)]
    have : vp_updL us i v n = us n := by
      unfold vp_updL
      rw [if_neg (by omega)]
    rw [this]
theorem sv_upd {us : Nat → Int64} {i : Nat} {v : Int64} : ∀ n, i < n → sv (vp_updL us i v) n = sv us n + (v.toInt - (us i).toInt) * ((2 ^ (16 * i) : Nat) : Int) := by
  intro n
  induction n with
  | zero => intro h; omega
  | succ n ih =>
    intro h
    rw [sv, sv]
    by_cases c : i = n
    · subst c
      have : vp_updL us i v i = v := by
        unfold vp_updL
        rw [if_pos rfl]
      rw [sv_upd_ge i (Nat.le_refl _), this, Int.sub_mul]
      omega
    · have : vp_updL us i v n = us n := by
        unfold vp_updL
        rw [if_neg (by omega)]
      rw [ih (by omega), this]
      omega
theorem sv_zero {us : Nat → Int64} : ∀ n, (∀ k, k < n → us k = 0) → sv us n = 0 := by
  intro n
  induction n with
  | zero => intro _; rfl
  | succ n ih =>
    intro h
    have e0 : (0 : Int64).toInt = 0 := by decide
    rw [sv, ih (fun k hk => h k (by omega)), h n (by omega), e0, Int.zero_mul]
    rfl
theorem clr_loop : ∀ (n : Nat) (us : Nat → Int64) (x : Int32) (j : Nat), x.toInt = j → 290 - j < n → ∀ k, (gX5_clearSum_2 n us x).1 k = if j ≤ k ∧ k < 290 then 0 else us k := by
  have e290 : (290 : Int32).toInt = 290 := by decide
  have e1 : (1 : Int32).toInt = 1 := by decide
  intro n
  induction n with
  | zero => intro us x j _ h; omega
  | succ n ih =>
    intro us x j hx hn k
    rw [gX5_clearSum_2]
    by_cases c : (290 : Int32) ≤ x
    · rw [if_pos c]
      rw [mi_le, e290] at c
      rw [if_neg (by omega)]
    · rw [if_neg c]
      rw [mi_le, e290] at c
      have hc : x.toNatClampNeg = j := by
        show x.toInt.toNat = j
        omega
      rw [ih _ (x + 1) (j + 1) (by rw [mi_add (by omega) (by omega), e1]; omega) (by omega) k, hc]
      unfold vp_updL
      by_cases q : k = j
      · subst q
        rw [if_neg (by omega), if_pos rfl, if_pos (by omega)]
      · by_cases q2 : j ≤ k ∧ k < 290
        · rw [if_pos (by omega), if_pos q2]
        · rw [if_neg (by omega), if_neg q, if_neg q2]
theorem clr_v (us : Nat → Int64) : ∀ k, k < 290 → fX5_clearSum us k = 0 := by
  intro k hk
  unfold fX5_clearSum fX5_clearSum_22
  rw [clr_loop _ us 0 0 (by decide) (by decide) k, if_pos (by omega)]
def sn (x : Int32) : Int := if x = 0 then 1 else -1
def bnd (us : Nat → Int64) (B : Int) : Prop := ∀ k, k < 290 → -B ≤ (us k).toInt ∧ (us k).toInt ≤ B
theorem sn_v {x1 : Int32} {v : Int64} {n : Nat} (h : un v = n) (hn : n < 2 ^ 40) : (if x1 = 0 then v else -v).toInt = sn x1 * n := by
  have h1 : v.toInt = n := by rw [un_pos (by omega), h]
  unfold sn
  split
  · omega
  · rw [ml_neg (by omega), h1]
    omega
/-- one piece of sixteen bits -/
theorem ad_step {us : Nat → Int64} {x1 : Int32} {lo hi : Int64} {i l h : Nat} {B : Int} (hi1 : i + 1 < 290) (hl : un lo = l) (hh : un hi = h) (hl2 : l < 65536) (hh2 : h < 65536) (hb : bnd us B) (hB : 0 ≤ B ∧ B < 2 ^ 40) :
    sv (vp_updL (vp_updL us i (us i + (if x1 = 0 then lo else -lo))) (i + 1) (us (i + 1) + (if x1 = 0 then hi else -hi))) 290 = sv us 290 + sn x1 * (((l + 65536 * h) * 2 ^ (16 * i) : Nat) : Int) ∧ bnd (vp_updL (vp_updL us i (us i + (if x1 = 0 then lo else -lo))) (i + 1) (us (i + 1) + (if x1 = 0 then hi else -hi))) (B + 65536) := by
  have hs : sn x1 = 1 ∨ sn x1 = -1 := by
    unfold sn
    split
    · exact Or.inl rfl
    · exact Or.inr rfl
  have a1 := sn_v (x1 := x1) hl (by omega)
  have a2 := sn_v (x1 := x1) hh (by omega)
  have b1 := hb i (by omega)
  have b2 := hb (i + 1) (by omega)
  have g1 : (us i + (if x1 = 0 then lo else -lo)).toInt = (us i).toInt + sn x1 * l := by
    rw [ml_add (by rw [a1]; rcases hs with q | q <;> rw [q] <;> omega) (by rw [a1]; rcases hs with q | q <;> rw [q] <;> omega), a1]
  have g2 : (us (i + 1) + (if x1 = 0 then hi else -hi)).toInt = (us (i + 1)).toInt + sn x1 * h := by
    rw [ml_add (by rw [a2]; rcases hs with q | q <;> rw [q] <;> omega) (by rw [a2]; rcases hs with q | q <;> rw [q] <;> omega), a2]
  constructor
  · rw [sv_upd 290 hi1, sv_upd 290 (by omega), g1, g2]
    have : vp_updL us i (us i + (if x1 = 0 then lo else -lo)) (i + 1) = us (i + 1) := by
      unfold vp_updL
      rw [if_neg (by omega)]
    rw [this]
    have e1 : (us i).toInt + sn x1 * (l : Int) - (us i).toInt = sn x1 * l := by omega
    have e2 : (us (i + 1)).toInt + sn x1 * (h : Int) - (us (i + 1)).toInt = sn x1 * h := by omega
    have e3 : (2 ^ (16 * (i + 1)) : Nat) = 65536 * 2 ^ (16 * i) := by
      rw [show 16 * (i + 1) = 16 + 16 * i from by omega, Nat.pow_add]
    rw [e1, e2, e3, Nat.add_mul]
    generalize 2 ^ (16 * i) = P
    simp only [Int.natCast_add, Int.natCast_mul]
    generalize ((65536 : Nat) : Int) = Q
    generalize sv us 290 = S0
    grind
  · intro k hk
    have b3 := hb k hk
    unfold vp_updL
    by_cases c1 : k = i + 1
    · rw [if_pos c1, g2]
      rcases hs with q | q <;> rw [q] <;> omega
    · rw [if_neg c1]
      by_cases c2 : k = i
      · rw [if_pos c2, g1]
        rcases hs with q | q <;> rw [q] <;> omega
      · rw [if_neg c2]
        omega
/-- both ways of a sign at once -/
theorem ad_form {us : Nat → Int64} {x1 x2i x7 x8 : Int32} {x2 lo hi : Int64} {n : Nat} (k : (Nat → Int64) → (Nat → Int64) × Int32) (i : Nat) :
    (if x1 = 0 then if x1 = 0 then k (vp_updL (vp_updL us i ((us i) + lo)) (i + 1) ((vp_updL us i ((us i) + lo)) (i + 1) + hi)) else k (vp_updL (vp_updL us i ((us i) + lo)) (i + 1) ((vp_updL us i ((us i) + lo)) (i + 1) + (-hi)))
      else if x1 = 0 then k (vp_updL (vp_updL us i ((us i) + (-lo))) (i + 1) ((vp_updL us i ((us i) + (-lo))) (i + 1) + hi)) else k (vp_updL (vp_updL us i ((us i) + (-lo))) (i + 1) ((vp_updL us i ((us i) + (-lo))) (i + 1) + (-hi)))) =
    k (vp_updL (vp_updL us i (us i + (if x1 = 0 then lo else -lo))) (i + 1) (us (i + 1) + (if x1 = 0 then hi else -hi))) := by
  have : ∀ v : Int64, vp_updL us i v (i + 1) = us (i + 1) := by
    intro v
    unfold vp_updL
    rw [if_neg (by omega)]
  by_cases c : x1 = 0
  · simp only [if_pos c, this]
  · simp only [if_neg c, this]
theorem sub_move {x a q : Nat} (h : a + q ≤ x) : q + (x - (a + q)) = x - a := by omega
theorem ad_loop {x1 x6 x7 : Int32} {m : Int64} {sh at_ : Nat} (h6 : x6.toInt = sh) (h6b : sh < 16) (h7 : x7.toInt = at_) (h7b : at_ ≤ 285) : ∀ (n : Nat) (us : Nat → Int64) (x8 : Int32) (j : Nat) (B : Int), x8.toInt = j → j ≤ 4 → 4 - j < n → bnd us B → (0 ≤ B ∧ B + (4 - (j : Int)) * 65536 < 2 ^ 38) →
    sv (gX5_addTo_25 x1 m x6 x7 n us x8).1 290 = sv us 290 + sn x1 * (((un m - un m % 2 ^ (16 * j)) * 2 ^ (16 * at_ + sh) : Nat) : Int) ∧ bnd (gX5_addTo_25 x1 m x6 x7 n us x8).1 (B + (4 - j) * 65536) := by
  have e4 : (4 : Int32).toInt = 4 := by decide
  have e1 : (1 : Int32).toInt = 1 := by decide
  have e16 : (16 : Int32).toInt = 16 := by decide
  have u16 : un (65535 : Int64) = 2 ^ 16 - 1 := by decide
  have hm := un_lt m
  intro n
  induction n with
  | zero => intro us x8 j B _ _ h; omega
  | succ n ih =>
    intro us x8 j B h8 hj hn hb hB
    rw [gX5_addTo_25]
    by_cases c : (4 : Int32) ≤ x8
    · rw [if_pos c]
      rw [mi_le, e4, h8] at c
      have : j = 4 := by omega
      subst this
      have h0 : un m - un m % 2 ^ (16 * 4) = 0 := by
        rw [Nat.mod_eq_of_lt (by omega), Nat.sub_self]
      rw [h0, Nat.zero_mul]
      refine ⟨by simp, ?_⟩
      intro k hk
      have h9 := hb k hk
      show -(B + (4 - ((4 : Nat) : Int)) * 65536) ≤ (us k).toInt ∧ (us k).toInt ≤ B + (4 - ((4 : Nat) : Int)) * 65536
      omega
    · rw [if_neg c]
      rw [mi_le, e4, h8] at c
      have hi1 : (x7 + x8).toNatClampNeg = at_ + j := by
        show (x7 + x8).toInt.toNat = _
        rw [mi_add (by omega) (by omega)]
        omega
      have hi2 : (x7 + x8 + (1 : Int32)).toNatClampNeg = at_ + j + 1 := by
        have g : (x7 + x8).toInt = x7.toInt + x8.toInt := mi_add (by omega) (by omega)
        show (x7 + x8 + (1 : Int32)).toInt.toNat = _
        rw [mi_add (by omega) (by omega), e1]
        omega
      have h16 : ((16 : Int32) * x8).toInt = (16 * j : Nat) := by
        rw [mi_mul (by rw [e16, h8]; omega) (by rw [e16, h8]; omega), e16, h8]
        omega
      have hp : un (jl_ushr m ((16 : Int32) * x8) &&& (65535 : Int64)) = un m / 2 ^ (16 * j) % 65536 := by
        rw [un_and, un_ushr' h16 (by omega), u16, Nat.and_two_pow_sub_one_eq_mod]
      have hpl : un m / 2 ^ (16 * j) % 65536 < 65536 := Nat.mod_lt _ (by decide)
      have hsh15 : 2 ^ sh ≤ 2 ^ 15 := Nat.pow_le_pow_right (by decide) (by omega)
      have hdb : un m / 2 ^ (16 * j) % 65536 * 2 ^ sh < 65536 * 2 ^ 15 := by
        have := Nat.mul_le_mul (Nat.le_of_lt_succ hpl) hsh15
        omega
      have hd : un (jl_shl (jl_ushr m ((16 : Int32) * x8) &&& (65535 : Int64)) x6) = un m / 2 ^ (16 * j) % 65536 * 2 ^ sh := by
        rw [un_shl' h6 (by omega) (by rw [hp]; omega), hp]
      have hlo : un (jl_shl (jl_ushr m ((16 : Int32) * x8) &&& (65535 : Int64)) x6 &&& (65535 : Int64)) = un m / 2 ^ (16 * j) % 65536 * 2 ^ sh % 65536 := by
        rw [un_and, hd, u16, Nat.and_two_pow_sub_one_eq_mod]
      have hhi : un (jl_ushr (jl_shl (jl_ushr m ((16 : Int32) * x8) &&& (65535 : Int64)) x6) (16 : Int32)) = un m / 2 ^ (16 * j) % 65536 * 2 ^ sh / 65536 := by
        rw [un_ushr' (k := 16) e16 (by decide), hd]
      rw [hi1, hi2, ad_form (x2i := 0) (x7 := 0) (x8 := 0) (x2 := 0) (n := 0) (fun u => gX5_addTo_25 x1 m x6 x7 n u (x8 + 1)) (at_ + j)]
      generalize jl_shl (jl_ushr m ((16 : Int32) * x8) &&& (65535 : Int64)) x6 &&& (65535 : Int64) = LO at *
      generalize jl_ushr (jl_shl (jl_ushr m ((16 : Int32) * x8) &&& (65535 : Int64)) x6) (16 : Int32) = HI at *
      obtain ⟨s1, s2⟩ := ad_step (us := us) (x1 := x1) (i := at_ + j) (by omega) hlo hhi (by omega) (by omega) hb (by omega)
      obtain ⟨r1, r2⟩ := ih _ (x8 + 1) (j + 1) (B + 65536) (by rw [mi_add (by omega) (by omega), e1]; omega) (by omega) (by omega) s2 (by omega)
      constructor
      · rw [r1, s1]
        have hpow : 2 ^ (16 * (j + 1)) = 2 ^ (16 * j) * 65536 := by
          rw [show 16 * (j + 1) = 16 * j + 16 from by omega, Nat.pow_add]
        have hmm : un m % 2 ^ (16 * (j + 1)) = un m % 2 ^ (16 * j) + 2 ^ (16 * j) * (un m / 2 ^ (16 * j) % 65536) := by
          rw [hpow, Nat.mod_mul]
        have hle := Nat.mod_le (un m) (2 ^ (16 * (j + 1)))
        have hsum : (un m / 2 ^ (16 * j) % 65536 * 2 ^ sh % 65536 + 65536 * (un m / 2 ^ (16 * j) % 65536 * 2 ^ sh / 65536)) * 2 ^ (16 * (at_ + j)) + (un m - un m % 2 ^ (16 * (j + 1))) * 2 ^ (16 * at_ + sh) = (un m - un m % 2 ^ (16 * j)) * 2 ^ (16 * at_ + sh) := by
          have e5 : un m / 2 ^ (16 * j) % 65536 * 2 ^ sh % 65536 + 65536 * (un m / 2 ^ (16 * j) % 65536 * 2 ^ sh / 65536) = un m / 2 ^ (16 * j) % 65536 * 2 ^ sh := Nat.mod_add_div _ _
          have e6 : un m / 2 ^ (16 * j) % 65536 * 2 ^ sh * 2 ^ (16 * (at_ + j)) = 2 ^ (16 * j) * (un m / 2 ^ (16 * j) % 65536) * 2 ^ (16 * at_ + sh) := by
            rw [show 16 * (at_ + j) = 16 * at_ + 16 * j from by omega, Nat.pow_add, Nat.pow_add]
            generalize un m / 2 ^ (16 * j) % 65536 = q
            generalize 2 ^ (16 * j) = a
            generalize 2 ^ (16 * at_) = b
            generalize 2 ^ sh = d
            grind
          have e7 : 2 ^ (16 * j) * (un m / 2 ^ (16 * j) % 65536) + (un m - un m % 2 ^ (16 * (j + 1))) = un m - un m % 2 ^ (16 * j) := by
            rw [hmm] at hle ⊢
            exact sub_move hle
          rw [e5, e6, ← Nat.add_mul, e7]
        rw [← hsum, Int.natCast_add, Int.mul_add]
        omega
      · intro k hk
        have := r2 k hk
        omega
