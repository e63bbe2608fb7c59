/-! ===== MATH: printing, turning round and loading ===== -/
theorem tr_loop {A : Nat → Int32} {a b : Nat} (hab : b < 81) (hA : ∀ p, a ≤ p → p ≤ b → 0 ≤ (A p).toInt ∧ (A p).toInt ≤ 127) : ∀ (f : Nat) (ua : Nat → Nat → Int32) (x3 x4 : Int32) (s : Nat), x3.toInt = (a + s : Nat) → x4.toInt = (b : Int) - s → ((b : Int) - s - (a + s)).toNat < f → (2 * s ≤ b - a + 1) → a ≤ b → (∀ p, ua 0 p = if (a ≤ p ∧ p < a + s) ∨ (b < p + s ∧ p ≤ b) then A (a + b - p) else A p) →
    ∀ p, (gX1_turnRound_5 f ua x3 x4).1 0 p = if a ≤ p ∧ p ≤ b then A (a + b - p) else A p := by
  have e0 : (0 : Int32).toInt = 0 := by decide
  have e1 : (1 : Int32).toInt = 1 := by decide
  have em : (-1 : Int32).toInt = -1 := by decide
  have e81 : (81 : Int32).toInt = 81 := by decide
  intro f
  induction f with
  | zero => intro ua x3 x4 s _ _ h; omega
  | succ f ih =>
    intro ua x3 x4 s h3 h4 hf hs hle hu p
    rw [gX1_turnRound_5]
    by_cases c : x4 ≤ x3
    · rw [if_pos c]
      rw [mi_le] at c
      show ua 0 p = _
      rw [hu p]
      by_cases q : a ≤ p ∧ p ≤ b
      · rw [if_pos q]
        by_cases r : (a ≤ p ∧ p < a + s) ∨ (b < p + s ∧ p ≤ b)
        · rw [if_pos r]
        · rw [if_neg r]
          congr 1
          omega
      · rw [if_neg q, if_neg (by omega)]
    · rw [if_neg c, if_neg (by rw [mi_lt, e0]; omega), if_neg (by rw [mi_le, e81]; omega)]
      rw [mi_le] at c
      have c3 : x3.toNatClampNeg = a + s := by
        show x3.toInt.toNat = _
        omega
      have c4 : x4.toNatClampNeg = b - s := by
        show x4.toInt.toNat = _
        omega
      rw [c3, c4]
      have u3 : ua 0 (a + s) = A (a + s) := by rw [hu, if_neg (by omega)]
      have u4 : ua 0 (b - s) = A (b - s) := by rw [hu, if_neg (by omega)]
      have b1 : ∀ {x : Int32}, 0 ≤ x.toInt ∧ x.toInt ≤ 127 → ji_byte x = x := by
        intro x hx
        rw [mi_eq]
        unfold ji_byte
        rw [Int8.toInt_toInt32, Int32.toInt_toInt8, Int.bmod_eq_of_le] <;> omega
      rw [u3, u4, b1 (hA (a + s) (by omega) (by omega)), b1 (hA (b - s) (by omega) (by omega))]
      obtain ⟨y, hy, hy1⟩ := dec1 (x := x4) (by omega)
      rw [← hy]
      clear hy
      have hx1 : (x3 + 1).toInt = (a + (s + 1) : Nat) := by rw [mi_add (by omega) (by omega), e1, h3]; omega
      apply ih _ (x3 + 1) y (s + 1) hx1 (by omega) (by omega) (by omega) hle
      intro p
      show upd (upd (ua 0) (a + s) (A (b - s))) (b - s) (A (a + s)) p = _
      unfold upd
      by_cases q1 : p = b - s
      · rw [if_pos q1, if_pos (by omega)]
        congr 1
        omega
      · rw [if_neg q1]
        by_cases q2 : p = a + s
        · rw [if_pos q2, if_pos (by omega)]
          congr 1
          omega
        · rw [if_neg q2, hu p]
          by_cases r : (a ≤ p ∧ p < a + s) ∨ (b < p + s ∧ p ≤ b)
          · rw [if_pos r, if_pos (by omega)]
          · rw [if_neg r, if_neg (by omega)]
theorem tr_keep {k : Nat} (hk : k ≠ 0) : ∀ (f : Nat) (ua : Nat → Nat → Int32) (x3 x4 : Int32), (gX1_turnRound_5 f ua x3 x4).1 k = ua k := by
  intro f
  induction f with
  | zero => intro ua x3 x4; rfl
  | succ f ih =>
    intro ua x3 x4
    rw [gX1_turnRound_5]
    split
    · rfl
    · split
      · rfl
      · split
        · rfl
        · rw [ih]
          unfold va_up
          rw [if_neg hk, if_neg hk]
/-- the class's whole part is put -/
theorem cWhole_v {df : Nat → Int32} {da : Nat → Nat → Int32} {ds : Nat → Int64} {W o : Nat} (hp : prt ds) (hv : hv5 ds 5 = W) (hW : W < 10 ^ 39) (ho : (df 1).toInt = o) (ho1 : o ≤ 1) :
    ∃ k, dk W k ∧ ((fX1_putWhole df da ds).1 1).toInt = (o + k : Nat) ∧ (∀ t, t < k → ((fX1_putWhole df da ds).2.1 0 (o + t)).toInt = (48 + W / 10 ^ (k - 1 - t) % 10 : Nat)) ∧ (∀ i, i < o → (fX1_putWhole df da ds).2.1 0 i = da 0 i) ∧ (∀ i, i < 5 → (fX1_putWhole df da ds).2.2 i = ds i) ∧ prt (fX1_putWhole df da ds).2.2 := by
  have e0 : (0 : Int32).toInt = (0 : Nat) := by decide
  have e1 : (1 : Int32).toInt = 1 := by decide
  have ho39 : W < 10 ^ 39 := hW
  unfold fX1_putWhole fX1_putWhole_41 fX1_turnRound fX1_turnRound_64
  obtain ⟨k, a1, a2, a3, a4, a5, a6⟩ := cw_loop hW ho1 (Nat.succ ((Int32.toInt (39) - Int32.toInt (0 : Int32)).toNat)) df da ds (1 : Int32) (0 : Int32) 0 e0 (by decide) (by decide) hp (by rw [Nat.pow_zero, Nat.div_one]; exact hv) (by rw [if_pos (Or.inl rfl)]) (Or.inl (by decide)) (by rw [ho]; omega) (fun i hi => by omega)
  generalize gX1_putWhole_9 (Nat.succ ((Int32.toInt (39) - Int32.toInt (0 : Int32)).toNat)) df da ds (1 : Int32) (0 : Int32) = G at *
  have hk : k ≤ 39 := by
    rcases a1.2.2 with q | q
    · omega
    · have := (Nat.pow_lt_pow_iff_right (a := 10) (by decide)).mp (Nat.lt_of_le_of_lt q hW)
      omega
  have hk1 := a1.1
  have hg : ((G.1 1) - (1 : Int32)).toInt = (o + k - 1 : Nat) := by rw [mi_sub (by omega) (by omega), e1, a2]; omega
  have hdl : ∀ i, W / 10 ^ i % 10 < 10 := fun i => Nat.mod_lt _ (by decide)
  have htr := tr_loop (A := G.2.1 0) (a := o) (b := o + k - 1) (by omega) (by
    intro p h1 h2
    have h3 := a3 (p - o) (by omega)
    have h4 := hdl (p - o)
    rw [show o + (p - o) = p from by omega] at h3
    rw [h3]
    generalize W / 10 ^ (p - o) % 10 = d at *
    omega) (Nat.succ ((Int32.toInt ((G.1 1) - (1 : Int32)) - Int32.toInt (df 1)).toNat)) G.2.1 (df 1) ((G.1 1) - (1 : Int32)) 0 (by rw [ho]; omega) (by rw [hg]; omega) (by rw [hg, ho]; omega) (by omega) (by omega) (by
    intro p
    rw [if_neg (by omega)])
  dsimp only
  refine ⟨k, a1, a2, ?_, ?_, a5, a6⟩
  · intro t ht
    rw [htr, if_pos (by omega)]
    have := a3 (k - 1 - t) (by omega)
    rw [show o + (k - 1 - t) = o + (o + k - 1) - (o + t) from by omega] at this
    exact this
  · intro i hi
    rw [htr, if_neg (by omega)]
    exact a4 i hi
theorem ld_loop : ∀ (n : Nat) (us : Nat → Int64) (x : Int32) (j : Nat), x.toInt = j → 10 - j < n → ∀ k, (gX1_load_3 n us x).1 k = if j ≤ k ∧ k < 10 then 0 else us k := by
  have e10 : (10 : Int32).toInt = 10 := by decide
  have e1 : (1 : Int32).toInt = 1 := by decide
  intro n
  induction n with
  | zero => intro us x j _ h; omega
  | succ n ih =>
    intro us x j hx hn k
    rw [gX1_load_3]
    by_cases c : (10 : Int32) ≤ x
    · rw [if_pos c]
      rw [mi_le, e10] at c
      rw [if_neg (by omega)]
    · rw [if_neg c]
      rw [mi_le, e10] at c
      have hc : x.toNatClampNeg = j := by
        show x.toInt.toNat = j
        omega
      rw [ih _ (x + 1) (j + 1) (by rw [mi_add (by omega) (by omega), e1]; omega) (by omega) k, hc]
      unfold vp_updL
      by_cases q : k = j
      · subst q
        rw [if_neg (by omega), if_pos rfl, if_pos (by omega)]
      · by_cases q2 : j ≤ k ∧ k < 10
        · rw [if_pos (by omega), if_pos q2]
        · rw [if_neg (by omega), if_neg q, if_neg q2]
/-- all ten parts as one number -/
def pv (us : Nat → Int64) : Nat → Nat
  | 0 => 0
  | k + 1 => pv us k + un (us k) * 2 ^ (32 * k)
theorem pv_zero {us : Nat → Int64} : ∀ n, (∀ k, k < n → us k = 0) → pv us n = 0 := by
  intro n
  induction n with
  | zero => intro _; rfl
  | succ n ih =>
    intro h
    rw [pv, ih (fun k hk => h k (by omega)), h n (by omega)]
    show 0 + 0 * _ = 0
    omega
theorem pv_two {us : Nat → Int64} {i : Nat} {v z : Int64} (h0 : ∀ k, k < 10 → us k = 0) : ∀ n, n ≤ 10 → i + 2 ≤ n → pv (vp_updL (vp_updL us i v) (i + 1) z) n = un v * 2 ^ (32 * i) + un z * 2 ^ (32 * (i + 1)) := by
  have u0 : un (0 : Int64) = 0 := by decide
  intro n
  induction n with
  | zero => intro _ h; omega
  | succ n ih =>
    intro hn hi
    rw [pv]
    by_cases c : i + 2 ≤ n
    · rw [ih (by omega) c]
      have : vp_updL (vp_updL us i v) (i + 1) z n = 0 := by
        unfold vp_updL
        rw [if_neg (by omega), if_neg (by omega)]
        exact h0 n (by omega)
      rw [this, u0, Nat.zero_mul, Nat.add_zero]
    · have hn1 : n = i + 1 := by omega
      subst hn1
      rw [pv]
      have p0 : pv (vp_updL (vp_updL us i v) (i + 1) z) i = 0 := by
        apply pv_zero
        intro k hk
        unfold vp_updL
        rw [if_neg (by omega), if_neg (by omega)]
        exact h0 k (by omega)
      have q1 : vp_updL (vp_updL us i v) (i + 1) z i = v := by
        unfold vp_updL
        rw [if_neg (by omega), if_pos rfl]
      have q2 : vp_updL (vp_updL us i v) (i + 1) z (i + 1) = z := by
        unfold vp_updL
        rw [if_pos rfl]
      rw [p0, q1, q2, Nat.zero_add]
theorem and31 (x : Int32) (h : 0 ≤ x.toInt) : (x &&& (31 : Int32)).toInt = (x.toInt.toNat % 32 : Nat) := mi_and (k := 5) h (by decide) (by decide)
theorem sh5 {x : Int32} (h : 0 ≤ x.toInt) : (ji_shr x (5 : Int32)).toInt = x.toInt / 32 := by
  show (x >>> ((5 : Int32) &&& 31)).toInt = _
  have h1 : ((5 : Int32) &&& 31 : Int32) = 5 := by decide
  rw [h1]
  have h2 : (x >>> (5 : Int32)).toBitVec = x.toBitVec.sshiftRight 5 := by
    rw [Int32.toBitVec_shiftRight]
    have h3 : (Int32.toBitVec 5).smod 32 = 5#32 := by decide
    rw [h3]
    rfl
  have h4 : (x >>> (5 : Int32)).toInt = (x.toBitVec.sshiftRight 5).toInt := by
    show (x >>> (5 : Int32)).toBitVec.toInt = _
    rw [h2]
  rw [h4, BitVec.toInt_sshiftRight, Int.shiftRight_eq_div_pow]
  rfl
theorem load_v {us : Nat → Int64} {m : Int64} {e : Int32} (hm : un m < 2 ^ 24) (he : -149 ≤ e.toInt ∧ e.toInt ≤ 104) : prt (fX1_load us m e) ∧ pv (fX1_load us m e) 10 = un m * 2 ^ (e.toInt + 160).toNat := by
  have e0 : (0 : Int32).toInt = (0 : Nat) := by decide
  have e1 : (1 : Int32).toInt = 1 := by decide
  have e10 : (10 : Int32).toInt = 10 := by decide
  have e160 : (160 : Int32).toInt = 160 := by decide
  have e32 : (32 : Int32).toInt = (32 : Nat) := by decide
  have hl := ld_loop (Nat.succ ((Int32.toInt (10) - Int32.toInt (0 : Int32)).toNat)) us (0 : Int32) 0 e0 (by decide)
  unfold fX1_load fX1_load_24
  have h0 : ∀ k, k < 10 → (gX1_load_3 (Nat.succ ((Int32.toInt (10) - Int32.toInt (0 : Int32)).toNat)) us (0 : Int32)).1 k = 0 := by
    intro k hk
    rw [hl k, if_pos (by omega)]
  generalize (gX1_load_3 (Nat.succ ((Int32.toInt (10) - Int32.toInt (0 : Int32)).toNat)) us (0 : Int32)).1 = vs at *
  have hp : ((160 : Int32) + e).toInt = e.toInt + 160 := by rw [mi_add (by omega) (by omega), e160]; omega
  obtain ⟨P, hP⟩ : ∃ P : Nat, P = (e.toInt + 160).toNat := ⟨_, rfl⟩
  have hs5 := sh5 (x := (160 : Int32) + e) (by omega)
  have ha5 := and31 ((160 : Int32) + e) (by omega)
  rw [hp] at hs5 ha5
  have hs5' : (ji_shr ((160 : Int32) + e) (5 : Int32)).toInt = (P / 32 : Nat) := by rw [hs5]; omega
  have ha5' : (((160 : Int32) + e) &&& (31 : Int32)).toInt = (P % 32 : Nat) := by rw [ha5, hP]
  generalize ji_shr ((160 : Int32) + e) (5 : Int32) = I at *
  generalize ((160 : Int32) + e) &&& (31 : Int32) = S at *
  have hI1 : (I + (1 : Int32)).toInt = (P / 32 + 1 : Nat) := by rw [mi_add (by omega) (by omega), e1, hs5']; omega
  rw [if_neg (by rw [mi_lt]; omega), if_pos (by rw [mi_lt, hI1]; omega)]
  have c1 : I.toNatClampNeg = P / 32 := by
    show I.toInt.toNat = _
    omega
  have c2 : (I + (1 : Int32)).toNatClampNeg = P / 32 + 1 := by
    show (I + (1 : Int32)).toInt.toNat = _
    omega
  rw [c1, c2]
  have hsm : un m * 2 ^ (P % 32) < 2 ^ 56 := by
    calc un m * 2 ^ (P % 32) < 2 ^ 24 * 2 ^ (P % 32) := Nat.mul_lt_mul_of_pos_right hm (Nat.two_pow_pos _)
      _ = 2 ^ (24 + P % 32) := (Nat.pow_add ..).symm
      _ ≤ 2 ^ 56 := Nat.pow_le_pow_right (by decide) (by omega)
  have hsh : un (jl_shl m S) = un m * 2 ^ (P % 32) := un_shl' ha5' (by omega) (Nat.lt_trans hsm (by decide))
  generalize jl_shl m S = Z at *
  have hlo : un (Z &&& (4294967295 : Int64)) = un Z % 2 ^ 32 := by
    rw [un_and, show un (4294967295 : Int64) = 2 ^ 32 - 1 from by decide, Nat.and_two_pow_sub_one_eq_mod]
  have hhi : un (jl_ushr Z (32 : Int32)) = un Z / 2 ^ 32 := un_ushr' e32 (by decide)
  constructor
  · intro i hi
    unfold vp_updL
    split
    · omega
    · split
      · omega
      · rw [h0 i hi]
        decide
  · rw [pv_two h0 10 (by omega) (by omega), hlo, hhi, ← hP]
    have hPd : 32 * (P / 32) + P % 32 = P := Nat.div_add_mod P 32
    rw [show 32 * (P / 32 + 1) = 32 + 32 * (P / 32) from by omega, Nat.pow_add, ← Nat.mul_assoc, ← Nat.add_mul, show un Z % 2 ^ 32 + un Z / 2 ^ 32 * 2 ^ 32 = un Z from by omega, hsh, Nat.mul_assoc, ← Nat.pow_add, show P % 32 + 32 * (P / 32) = P from by omega]
theorem pv_split {us : Nat → Int64} : pv us 10 = pv us 5 + hv5 us 5 * 2 ^ 160 := by
  show 0 + un (us 0) * 2 ^ 0 + un (us 1) * 2 ^ 32 + un (us 2) * 2 ^ 64 + un (us 3) * 2 ^ 96 + un (us 4) * 2 ^ 128 + un (us 5) * 2 ^ 160 + un (us 6) * 2 ^ 192 + un (us 7) * 2 ^ 224 + un (us 8) * 2 ^ 256 + un (us 9) * 2 ^ 288 = (0 + un (us 0) * 2 ^ 0 + un (us 1) * 2 ^ 32 + un (us 2) * 2 ^ 64 + un (us 3) * 2 ^ 96 + un (us 4) * 2 ^ 128) + (0 + un (us 5) * 2 ^ 0 + un (us 6) * 2 ^ 32 + un (us 7) * 2 ^ 64 + un (us 8) * 2 ^ 96 + un (us 9) * 2 ^ 128) * 2 ^ 160
  omega
theorem pv5_lt {us : Nat → Int64} (hp : prt us) : pv us 5 < 2 ^ 160 := by
  have h0 := hp 0 (by decide)
  have h1 := hp 1 (by decide)
  have h2 := hp 2 (by decide)
  have h3 := hp 3 (by decide)
  have h4 := hp 4 (by decide)
  show 0 + un (us 0) * 2 ^ 0 + un (us 1) * 2 ^ 32 + un (us 2) * 2 ^ 64 + un (us 3) * 2 ^ 96 + un (us 4) * 2 ^ 128 < 2 ^ 160
  omega
theorem wp_eq {m : Nat} {e : Int} (he : -149 ≤ e) : m * 2 ^ (e + 160).toNat / 2 ^ 160 = wpart m e := by
  unfold wpart
  split
  · rw [show (e + 160).toNat = e.toNat + 160 from by omega, Nat.pow_add, ← Nat.mul_assoc, Nat.mul_div_cancel _ (Nat.two_pow_pos 160)]
  · rw [show (160 : Nat) = (e + 160).toNat + (-e).toNat from by omega, Nat.pow_add, ← Nat.div_div_eq_div_mul, Nat.mul_div_cancel _ (Nat.two_pow_pos _)]
theorem wp_39 {m : Nat} {e : Int} (hm : m < 2 ^ 24) (he : e ≤ 104) : wpart m e < 10 ^ 39 := by
  unfold wpart
  split
  · calc m * 2 ^ e.toNat < 2 ^ 24 * 2 ^ e.toNat := Nat.mul_lt_mul_of_pos_right hm (Nat.two_pow_pos _)
      _ = 2 ^ (24 + e.toNat) := (Nat.pow_add ..).symm
      _ ≤ 2 ^ 128 := Nat.pow_le_pow_right (by decide) (by omega)
      _ < 10 ^ 39 := by decide
  · exact Nat.lt_of_le_of_lt (Nat.div_le_self _ _) (Nat.lt_trans hm (by decide))
