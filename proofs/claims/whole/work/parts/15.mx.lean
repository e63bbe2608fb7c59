theorem un_bits (x : Int32) : un (x.toInt64 &&& (4294967295 : Int64)) = un x.toInt64 % 4294967296 := un_m32 _
theorem shr32 (t : Int64) : (jl_shr t (32 : Int32)).toInt = t.toInt / 4294967296 := by
  show (t >>> ((32 : Int32).toInt64 &&& 63)).toInt = _
  have h1 : ((32 : Int32).toInt64 &&& 63 : Int64) = 32 := by decide
  rw [h1]
  have h2 : (t >>> (32 : Int64)).toBitVec = t.toBitVec.sshiftRight 32 := by
    rw [Int64.toBitVec_shiftRight]
    have h3 : (Int64.toBitVec 32).smod 64 = 32#64 := by decide
    rw [h3]
    rfl
  have h4 : (t >>> (32 : Int64)).toInt = (t.toBitVec.sshiftRight 32).toInt := by
    show (t >>> (32 : Int64)).toBitVec.toInt = _
    rw [h2]
  rw [h4, BitVec.toInt_sshiftRight, Int.shiftRight_eq_div_pow]
  rfl
theorem bm_up (x : Int) : Int.bmod (x + ((2 ^ 32 : Nat) : Int)) (2 ^ 32) = Int.bmod x (2 ^ 32) := by
  unfold Int.bmod
  rw [Int.add_emod_right]
theorem i64_un (x : Int32) : (un x.toInt64 : Int) = if 0 ≤ x.toInt then x.toInt else x.toInt + 18446744073709551616 := by
  have h := un_toInt x.toInt64
  rw [Int32.toInt_toInt64] at h
  have h1 := mi_lo x
  have h2 := mi_hi x
  have h3 := un_lt x.toInt64
  split at h <;> split <;> omega
theorem ext_v (x : Int32) : x.toInt64 = jl_shr (jl_shl (x.toInt64 &&& (4294967295 : Int64)) (32 : Int32)) (32 : Int32) := by
  rw [ml_eq, shr32, Int32.toInt_toInt64, un_toInt, un_shl _ _ (by decide) (by decide), un_bits, show ((32 : Int32).toInt.toNat) = 32 from by decide]
  have h := i64_un x
  have h1 := mi_lo x
  have h2 := mi_hi x
  split at h <;> split <;> omega
theorem shr0 (x : Int64) : jl_shr (jl_shl x (0 : Int32)) (0 : Int32) = x := by
  unfold jl_shr jl_shl
  have h : ((0 : Int32).toInt64 &&& 63) = 0 := by decide
  rw [h]
  simp
theorem b63 (x : Int32) : (x.toInt64 &&& (63 : Int64)) = ((x.toInt64 &&& (4294967295 : Int64)) &&& (63 : Int64)) := by
  apply un_inj
  have h63 : ∀ y : Int64, un (y &&& (63 : Int64)) = un y % 64 := by
    intro y
    rw [un_and, show un (63 : Int64) = 2 ^ 6 - 1 from by decide, Nat.and_two_pow_sub_one_eq_mod]
  rw [h63, h63, un_bits]
  omega
theorem back32 (x : Int32) : x.toInt64.toInt32 = x := by
  rw [mi_eq, Int64.toInt_toInt32, Int32.toInt_toInt64]
  have h1 := mi_lo x
  have h2 := mi_hi x
  rw [Int.bmod_eq_of_le] <;> omega
theorem bits32 (x : Int32) : (x.toInt64 &&& (4294967295 : Int64)).toInt32 = x := by
  have h := i64_un x
  have h1 := mi_lo x
  have h2 := mi_hi x
  have hb := un_bits x
  rw [mi_eq, Int64.toInt_toInt32, un_pos (by omega), hb]
  split at h
  · rw [show ((un x.toInt64 % 4294967296 : Nat) : Int) = x.toInt from by omega, Int.bmod_eq_of_le] <;> omega
  · rw [show ((un x.toInt64 % 4294967296 : Nat) : Int) = x.toInt + 4294967296 from by omega]
    rw [show (4294967296 : Int) = ((2 ^ 32 : Nat) : Int) from rfl, bm_up, Int.bmod_eq_of_le] <;> omega
theorem e_act {us : Nat → Int64} {x1 x2 x3 x4 : Int32} (hx : 0 ≤ x1.toInt ∧ x1.toInt ≤ 23) : fX4_act x1 x2 x3 x4 = (fX5_single us x1 x2 x3 x4).1 := by
  unfold fX4_act fX5_single fX5_single_21 fX5_single_40
  have key : ∀ a' b' : Int64, (x1 = 21 → a'.toInt32 = (x2.toInt64 &&& (4294967295 : Int64)).toInt32) → (¬ x1 = 21 → a' = (x2.toInt64 &&& (4294967295 : Int64))) → (x1 = 14 → b' = x3.toInt64) → (x1 = 15 → b' = x3.toInt64) → (¬ x1 = 14 → ¬ x1 = 15 → b' = (x3.toInt64 &&& (4294967295 : Int64))) → fX2_acted false x1 (x2.toInt64 &&& (4294967295 : Int64)) (x3.toInt64 &&& (4294967295 : Int64)) (x4.toInt64 &&& (4294967295 : Int64)) = (fX5_acted us x1 a' b' (fX5_bits x4) (0 : Int32)).1 := by
    intro a' b' h1 h2 h3 h4 h5
    exact e_acted (w := false) hx (bits_ok x2) (bits_ok x3) (bits_ok x4) h1 h2 (fun q => by rw [h3 q]; exact b63 x3) (fun q => by rw [h4 q]; exact ext_v x3) h5
  by_cases c14 : x1 = 14
  · have c21 : ¬ x1 = 21 := by rw [c14]; decide
    rw [if_pos c14, if_neg c21]
    dsimp only
    rw [key (fX5_bits x2) x3.toInt64 (fun q => absurd q c21) (fun _ => rfl) (fun _ => rfl) (fun _ => rfl) (fun q => absurd c14 q)]
  · rw [if_neg c14]
    by_cases c15 : x1 = 15
    · have c21 : ¬ x1 = 21 := by rw [c15]; decide
      rw [if_pos c15, if_neg c21]
      dsimp only
      rw [key (fX5_bits x2) x3.toInt64 (fun q => absurd q c21) (fun _ => rfl) (fun _ => rfl) (fun _ => rfl) (fun _ q => absurd c15 q)]
    · rw [if_neg c15]
      by_cases c21 : x1 = 21
      · rw [if_pos c21]
        dsimp only
        rw [key x2.toInt64 (fX5_bits x3) (fun _ => by rw [back32, bits32]) (fun q => absurd c21 q) (fun q => absurd q c14) (fun q => absurd q c15) (fun _ _ => rfl)]
      · rw [if_neg c21]
        dsimp only
        rw [key (fX5_bits x2) (fX5_bits x3) (fun q => absurd q c21) (fun _ => rfl) (fun q => absurd q c14) (fun q => absurd q c15) (fun _ _ => rfl)]
theorem e_wide {us : Nat → Int64} {x1 : Int32} {a b c : Int64} (hx : 0 ≤ x1.toInt ∧ x1.toInt ≤ 23) : fX4_wide x1 a b c = (fX5_acted us x1 a b c (1 : Int32)).1 :=
  e_acted (w := true) hx (ok_true a) (ok_true b) (ok_true c) (fun _ => rfl) (fun _ => rfl) (fun _ => rfl) (fun _ => (shr0 b).symm) (fun _ _ => rfl)
theorem e_test {us : Nat → Int64} {x1 x2 x3 x4 : Int32} (hx : 0 ≤ x1.toInt ∧ x1.toInt ≤ 7) : fX4_test x1 x2 x3 x4 = if (fX5_holds us x1 (fX5_bits x2) (fX5_bits x3) (fX5_bits x4) (0 : Int32)).1 = 0 then 0 else 1 := by
  unfold fX4_test
  have h : fX2_holds false x1 (x2.toInt64 &&& (4294967295 : Int64)) (x3.toInt64 &&& (4294967295 : Int64)) (x4.toInt64 &&& (4294967295 : Int64)) = (fX5_holds us x1 (fX5_bits x2) (fX5_bits x3) (fX5_bits x4) (0 : Int32)).1 := e_holds (w := false) hx (bits_ok x2) (bits_ok x3) (bits_ok x4)
  rw [h]
theorem e_wideTest {us : Nat → Int64} {x1 : Int32} {a b c : Int64} (hx : 0 ≤ x1.toInt ∧ x1.toInt ≤ 7) : fX4_wideTest x1 a b c = if (fX5_holds us x1 a b c (1 : Int32)).1 = 0 then 0 else 1 := by
  unfold fX4_wideTest
  have h : fX2_holds true x1 a b c = (fX5_holds us x1 a b c (1 : Int32)).1 := e_holds (w := true) hx (ok_true a) (ok_true b) (ok_true c)
  rw [h]
theorem e_widen (x : Int32) : fX4_widen x = fX5_widen x := by
  unfold fX4_widen fX5_widen
  exact e_conv (w := true) (w1 := false) (bits_ok x)
theorem e_narrow (x : Int64) : fX4_narrow x = fX5_narrow x := by
  unfold fX4_narrow fX5_narrow
  have h := e_conv (w := false) (w1 := true) (ok_true x)
  rw [h]
  have e1 : wi true = 1 := rfl
  have e0 : wi false = 0 := rfl
  rw [e1, e0]
  split
  · split <;> rfl
  · decide
theorem e_half (x : Int64) (n : Int32) : fX4_half x n = fX5_half x n := by
  unfold fX4_half fX5_half
  split
  · rfl
  · rw [mi_eq, Int64.toInt_toInt32, Int64.toInt_toInt32, shr32]
    have hu := un_ushr' (x := x) (y := (32 : Int32)) (k := 32) (by decide) (by decide)
    have hx := un_lt x
    have ht := un_toInt x
    have h1 : (jl_ushr x (32 : Int32)).toInt = (un x / 4294967296 : Nat) := by
      rw [un_pos (by omega), hu]
    rw [h1]
    split at ht
    · congr 1
      omega
    · rw [show ((un x / 4294967296 : Nat) : Int) = x.toInt / 4294967296 + ((2 ^ 32 : Nat) : Int) from by
        have : ((2 ^ 32 : Nat) : Int) = 4294967296 := rfl
        omega]
      exact bm_up _
theorem e_join (x y : Int32) : fX4_join x y = fX5_join x y := rfl
