theorem sd_ltI {a b : Int32} (h : a < b) : a.toInt < b.toInt := Int32.lt_iff_toInt_lt.mp h
theorem sd_p0 {u : Int32} (h : 0 ≤ u.toInt ∧ u.toInt ≤ 100) : vp_in u 120 := vp_in_iff.mpr ⟨h.1, by omega⟩
theorem sd_i1 {u : Int32} {B : Int} (hB : B ≤ 1000) (h : 0 ≤ u.toInt ∧ u.toInt ≤ B) : (u + 1).toInt = u.toInt + 1 := by
  have h1 : (1 : Int32).toInt = 1 := by decide
  rw [sd_add (by omega) (by omega), h1]
theorem sd_p1 {u : Int32} (h : 0 ≤ u.toInt ∧ u.toInt ≤ 100) : vp_in (u + 1) 120 := by
  rw [vp_in_iff, sd_i1 (by decide) h]
  omega
theorem sd_p2 {u : Int32} (h : 0 ≤ u.toInt ∧ u.toInt ≤ 100) : vp_in (u + 1 + 1) 120 := by
  have h1 := sd_i1 (by decide) h
  have h2 := sd_i1 (u := u + 1) (B := 200) (by decide) (by omega)
  rw [vp_in_iff, h2, h1]
  omega
theorem sd_neg32 {x : Int32} (h : -2 ^ 31 < x.toInt) : (-x).toInt = -x.toInt := by
  have h2 : x.toInt < 2 ^ 31 := Int32.toInt_lt x
  rw [Int32.toInt_neg, Int.bmod_eq_of_le] <;> omega
theorem sd_lb {e k : Int32} (he : -160 ≤ e.toInt ∧ e.toInt ≤ 200) (hi : 0 ≤ k.toInt) (h : ¬ (24 : Int32) ≤ k) (hp : ¬ ((-(e + k)) - (1 : Int32)) < 0) : vp_in (((-(e + k)) - (1 : Int32)) / (16 : Int32)) 12 := by
  have h1 := sd_lt h
  have h2 : (24 : Int32).toInt = 24 := by decide
  have h3 : (1 : Int32).toInt = 1 := by decide
  have h4 : (16 : Int32).toInt = 16 := by decide
  have h5 : (e + k).toInt = e.toInt + k.toInt := sd_add (by omega) (by omega)
  have h6 : (-(e + k)).toInt = -(e.toInt + k.toInt) := by rw [sd_neg32 (by omega), h5]
  have h7 : ((-(e + k)) - (1 : Int32)).toInt = -(e.toInt + k.toInt) - 1 := by rw [sd_sub (by omega) (by omega), h6, h3]
  have h8 := sd_ge0 hp
  rw [vp_in_iff, lg_idiv_nonneg h8 (by decide), h7, h4]
  omega
theorem sd_fin {x a b : Int32} (h : ¬ fX5_in x a b = 0) : a.toInt ≤ x.toInt ∧ x.toInt ≤ b.toInt := by
  unfold fX5_in at h
  split at h
  · exact absurd rfl h
  split at h
  · exact absurd rfl h
  exact ⟨sd_nlt (by assumption), sd_nlt (by assumption)⟩
theorem sd_at9 {x u : Int32} (ho : 0 ≤ u.toInt ∧ u.toInt ≤ 120) (h : ¬ fX5_in x (0 : Int32) (u - (1 : Int32)) = 0) : vp_in x 120 := by
  have h1 := sd_fin h
  have h2 : (1 : Int32).toInt = 1 := by decide
  have h3 : (0 : Int32).toInt = 0 := by decide
  have h4 : (u - (1 : Int32)).toInt = u.toInt - 1 := by rw [sd_sub (by omega) (by omega), h2]
  exact vp_in_iff.mpr ⟨by omega, by omega⟩
theorem sd_in16 {x : Int32} (h : ¬ fX5_in x (0 : Int32) (15 : Int32) = 0) : vp_in x 16 := by
  have h1 := sd_fin h
  have h2 : (15 : Int32).toInt = 15 := by decide
  have h3 : (0 : Int32).toInt = 0 := by decide
  exact vp_in_iff.mpr ⟨by omega, by omega⟩
theorem sd_thr {uf : Nat → Int32} {x : Int32} (h : (fX5_thrown0 uf x).1 ≤ 0) : x = 0 := by
  unfold fX5_thrown0 at h
  split at h
  · assumption
  · exact absurd (show (1 : Int32) ≤ 0 from h) (by decide)
theorem sd_st {u : Int32} (hk : 0 ≤ u.toInt ∧ u.toInt ≤ 40) (h : ¬ u = (40 : Int32)) : vp_in u 40 := by
  refine vp_in_iff.mpr ⟨hk.1, ?_⟩
  have h1 : (40 : Int32).toInt = 40 := by decide
  have h2 : u.toInt ≠ 40 := fun q => h (Int32.toInt_inj.mp (by rw [q, h1]))
  show u.toInt < 40
  omega
/-- a step that holds: its numbers fit its code -/
def st_ok (c t x y z : Int32) : Prop :=
  ((0 ≤ c.toInt ∧ c.toInt < 24 ∧ vp_in t 16 ∧ vp_in x 16 ∧ vp_in y 16 ∧ vp_in z 16) ∨ (30 ≤ c.toInt ∧ c.toInt < 38 ∧ vp_in t 40 ∧ vp_in x 16 ∧ vp_in y 16 ∧ vp_in z 16) ∨ c = 40 ∨ (c = 41 ∧ vp_in t 16) ∨ (c = 42 ∧ vp_in t 16 ∧ vp_in x 16 ∧ vp_in y 16) ∨ (c = 43 ∧ vp_in t 40))
theorem i40 : (40 : Int32).toInt = 40 := by decide
theorem i41 : (41 : Int32).toInt = 41 := by decide
theorem i42 : (42 : Int32).toInt = 42 := by decide
theorem i43 : (43 : Int32).toInt = 43 := by decide
theorem i24 : (24 : Int32).toInt = 24 := by decide
theorem st_41 {c t x y z : Int32} (h : st_ok c t x y z) (hc : c = 41) : vp_in t 16 := by
  rcases h with h | h | h | h | h | h
  · rw [hc, i41] at h; omega
  · rw [hc, i41] at h; omega
  · rw [hc] at h; exact absurd h (by decide)
  · exact h.2
  · rw [hc] at h; exact absurd h.1 (by decide)
  · rw [hc] at h; exact absurd h.1 (by decide)
theorem st_42 {c t x y z : Int32} (h : st_ok c t x y z) (hc : c = 42) : vp_in t 16 ∧ vp_in x 16 ∧ vp_in y 16 := by
  rcases h with h | h | h | h | h | h
  · rw [hc, i42] at h; omega
  · rw [hc, i42] at h; omega
  · rw [hc] at h; exact absurd h (by decide)
  · rw [hc] at h; exact absurd h.1 (by decide)
  · exact h.2
  · rw [hc] at h; exact absurd h.1 (by decide)
theorem st_act {c t x y z : Int32} (h : st_ok c t x y z) (hc : ¬ (24 : Int32) ≤ c) : vp_in t 16 ∧ vp_in x 16 ∧ vp_in y 16 ∧ vp_in z 16 := by
  have h1 := sd_lt hc
  rw [i24] at h1
  rcases h with h | h | h | h | h | h
  · exact h.2.2
  · omega
  · rw [h, i40] at h1; omega
  · rw [h.1, i41] at h1; omega
  · rw [h.1, i42] at h1; omega
  · rw [h.1, i43] at h1; omega
theorem st_tst {c t x y z : Int32} (h : st_ok c t x y z) (hc : (24 : Int32) ≤ c) (h0 : ¬ c = 40) (h1 : ¬ c = 41) (h2 : ¬ c = 42) (h3 : ¬ c = 43) : vp_in x 16 ∧ vp_in y 16 ∧ vp_in z 16 := by
  have h9 := Int32.le_iff_toInt_le.mp hc
  rw [i24] at h9
  rcases h with h | h | h | h | h | h
  · omega
  · exact h.2.2.2
  · exact absurd h h0
  · exact absurd h.1 h1
  · exact absurd h.1 h2
  · exact absurd h.1 h3
/-- the steps that there are, are good ones -/
def ms_ok (n : Int32) (ua : Nat → Nat → Int32) : Prop := (0 ≤ n.toInt ∧ n.toInt ≤ 40) ∧ ∀ i : Nat, (i : Int) < n.toInt → st_ok (ua 2 i) (ua 3 i) (ua 4 i) (ua 5 i) (ua 6 i)
theorem md_s {n x : Int32} {ua : Nat → Nat → Int32} (hi : ms_ok n ua ∧ (¬ x < 0 → x.toInt < n.toInt)) (h : ¬ x < 0) : vp_in x 40 := by
  have h1 := hi.2 h
  have h2 := hi.1.1
  exact vp_in_iff.mpr ⟨sd_ge0 h, by omega⟩
theorem md_k {n x : Int32} {ua : Nat → Nat → Int32} (hi : ms_ok n ua ∧ (¬ x < 0 → x.toInt < n.toInt)) (h : ¬ x < 0) : st_ok (ua 2 x.toNatClampNeg) (ua 3 x.toNatClampNeg) (ua 4 x.toNatClampNeg) (ua 5 x.toNatClampNeg) (ua 6 x.toNatClampNeg) := by
  have h1 := hi.2 h
  have h2 := sd_ge0 h
  exact hi.1.2 _ (by rw [show x.toNatClampNeg = x.toInt.toNat from rfl]; omega)
