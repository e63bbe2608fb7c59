theorem i81 : (81 : Int32).toInt = 81 := by decide
theorem i5 : (5 : Int32).toInt = 5 := by decide
theorem i10 : (10 : Int32).toInt = 10 := by decide
theorem i1 : (1 : Int32).toInt = 1 := by decide
theorem im1 : (-1 : Int32).toInt = -1 := by decide
theorem sd_in81 {x : Int32} (h : ¬ x < 0) (h2 : x < (81 : Int32)) : vp_in x 81 := by
  have h3 := sd_ltI h2
  rw [i81] at h3
  exact vp_in_iff.mpr ⟨sd_ge0 h, h3⟩
theorem sd_shr5 (x : Int32) : (ji_shr x (5 : Int32)).toInt = x.toInt / 32 := by
  unfold ji_shr
  rw [pk_shr x _ 5 (by decide), Int.shiftRight_eq_div_pow]
  rfl
theorem sd_ld {x : Int32} (h : ¬ (ji_shr x (5 : Int32)) < 0) (h2 : (ji_shr x (5 : Int32)) + (1 : Int32) < (10 : Int32)) : vp_in (ji_shr x (5 : Int32)) 10 ∧ vp_in ((ji_shr x (5 : Int32)) + (1 : Int32)) 10 := by
  have h3 := sd_ltI h2
  have h4 := sd_ge0 h
  have h5 := sd_shr5 x
  have h6 : x.toInt < 2 ^ 31 := Int32.toInt_lt x
  have h7 : ((ji_shr x (5 : Int32)) + (1 : Int32)).toInt = (ji_shr x (5 : Int32)).toInt + 1 := by
    rw [sd_add (by rw [i1]; omega) (by rw [i1]; omega), i1]
  rw [i10] at h3
  exact ⟨vp_in_iff.mpr ⟨h4, by omega⟩, vp_in_iff.mpr ⟨by omega, by omega⟩⟩
theorem lp_dn5 {k : Int32} {n : Nat} (h : ¬ k < (5 : Int32)) (hn : (k.toInt + 1).toNat < n + 1) : ((k + (-1)).toInt + 1).toNat < n := by
  have h1 := sd_nlt h
  rw [i5] at h1
  exact lp_dn (Int32.le_iff_toInt_le.mpr (by rw [show (0 : Int32).toInt = 0 from by decide]; omega)) hn
theorem sd_dec5 {k : Int32} {N : Int} (hi : k.toInt < N) (h : ¬ k < (5 : Int32)) : (k + (-1)).toInt < N := by
  have h1 := sd_nlt h
  have h3 : k.toInt < 2 ^ 31 := Int32.toInt_lt k
  rw [i5] at h1
  rw [sd_add (by rw [im1]; omega) (by rw [im1]; omega), im1]
  omega
theorem sd_in5 {k : Int32} (hi : k.toInt < 10) (h : ¬ k < (5 : Int32)) : vp_in k 10 := by
  have h1 := sd_nlt h
  rw [i5] at h1
  exact vp_in_iff.mpr ⟨by omega, hi⟩
theorem sd_tr0 {i k : Int32} (h1 : ¬ k ≤ i) (h2 : ¬ i < 0) (h3 : ¬ (81 : Int32) ≤ k) : vp_in i 81 ∧ vp_in k 81 := by
  have q1 := sd_lt h1
  have q2 := sd_ge0 h2
  have q3 := sd_lt h3
  rw [i81] at q3
  exact ⟨vp_in_iff.mpr ⟨q2, by omega⟩, vp_in_iff.mpr ⟨by omega, by omega⟩⟩
theorem lp_tr {i k : Int32} {n : Nat} (h1 : ¬ k ≤ i) (h2 : ¬ i < 0) (h3 : ¬ (81 : Int32) ≤ k) (hm : (k.toInt - i.toInt).toNat < n + 1) : ((k + (-1)).toInt - (i + 1).toInt).toNat < n := by
  have q1 := sd_lt h1
  have q2 := sd_ge0 h2
  have q3 := sd_lt h3
  rw [i81] at q3
  rw [sd_add (x := k) (by rw [im1]; omega) (by rw [im1]; omega), im1, sd_add (x := i) (by rw [i1]; omega) (by rw [i1]; omega), i1]
  omega
