theorem in_word (x : Int32) : fX5_in x 0 15 = fX3_isWord x := by
  have e15 : (15 : Int32).toInt = 15 := by decide
  have e16 : (16 : Int32).toInt = 16 := by decide
  unfold fX5_in fX3_isWord
  by_cases c : x < 0
  · rw [if_pos c, if_pos c]
  · rw [if_neg c, if_neg c]
    by_cases d : (16 : Int32) ≤ x
    · rw [if_pos d, if_pos (by rw [mi_le] at d; rw [mi_lt]; omega)]
    · rw [if_neg d, if_neg (by rw [mi_le] at d; rw [mi_lt]; omega)]
theorem in_step (x : Int32) : fX5_in x 0 39 = fX3_isStep x := by
  have e15 : (39 : Int32).toInt = 39 := by decide
  have e16 : (40 : Int32).toInt = 40 := by decide
  unfold fX5_in fX3_isStep
  by_cases c : x < 0
  · rw [if_pos c, if_pos c]
  · rw [if_neg c, if_neg c]
    by_cases d : (40 : Int32) ≤ x
    · rw [if_pos d, if_pos (by rw [mi_le] at d; rw [mi_lt]; omega)]
    · rw [if_neg d, if_neg (by rw [mi_le] at d; rw [mi_lt]; omega)]
theorem in_act (x : Int32) : fX5_in x 0 23 = fX3_isAct x := by
  have e15 : (23 : Int32).toInt = 23 := by decide
  have e16 : (24 : Int32).toInt = 24 := by decide
  unfold fX5_in fX3_isAct
  by_cases c : x < 0
  · rw [if_pos c, if_pos c]
  · rw [if_neg c, if_neg c]
    by_cases d : (24 : Int32) ≤ x
    · rw [if_pos d, if_pos (by rw [mi_le] at d; rw [mi_lt]; omega)]
    · rw [if_neg d, if_neg (by rw [mi_le] at d; rw [mi_lt]; omega)]
theorem in_jump (x : Int32) : fX5_in x 30 37 = fX3_isJump x := by
  have e15 : (37 : Int32).toInt = 37 := by decide
  have e16 : (38 : Int32).toInt = 38 := by decide
  unfold fX5_in fX3_isJump
  by_cases c : x < 30
  · rw [if_pos c, if_pos c]
  · rw [if_neg c, if_neg c]
    by_cases d : (38 : Int32) ≤ x
    · rw [if_pos d, if_pos (by rw [mi_le] at d; rw [mi_lt]; omega)]
    · rw [if_neg d, if_neg (by rw [mi_le] at d; rw [mi_lt]; omega)]
theorem word_v (x : Int32) : fX3_isWord x = 0 ↔ ¬ vp_in x 16 := by
  have e0 : (0 : Int32).toInt = 0 := by decide
  have e16 : (16 : Int32).toInt = 16 := by decide
  unfold fX3_isWord
  rw [vp_in_iff]
  by_cases c : x < 0
  · rw [if_pos c]
    rw [mi_lt] at c
    constructor
    · intro _
      omega
    · intro _
      rfl
  · rw [if_neg c]
    rw [mi_lt] at c
    by_cases d : (16 : Int32) ≤ x
    · rw [if_pos d]
      rw [mi_le] at d
      constructor
      · intro _
        omega
      · intro _
        rfl
    · rw [if_neg d]
      rw [mi_le] at d
      constructor
      · intro h
        exact absurd h (by decide)
      · intro h
        exact absurd ⟨by omega, by omega⟩ h
theorem step_v (x : Int32) : fX3_isStep x = 0 ↔ ¬ vp_in x 40 := by
  have e0 : (0 : Int32).toInt = 0 := by decide
  have e16 : (40 : Int32).toInt = 40 := by decide
  unfold fX3_isStep
  rw [vp_in_iff]
  by_cases c : x < 0
  · rw [if_pos c]
    rw [mi_lt] at c
    constructor
    · intro _
      omega
    · intro _
      rfl
  · rw [if_neg c]
    rw [mi_lt] at c
    by_cases d : (40 : Int32) ≤ x
    · rw [if_pos d]
      rw [mi_le] at d
      constructor
      · intro _
        omega
      · intro _
        rfl
    · rw [if_neg d]
      rw [mi_le] at d
      constructor
      · intro h
        exact absurd h (by decide)
      · intro h
        exact absurd ⟨by omega, by omega⟩ h
theorem in_v {x a b : Int32} : fX5_in x a b = 0 ↔ ¬ (a.toInt ≤ x.toInt ∧ x.toInt ≤ b.toInt) := by
  unfold fX5_in
  by_cases c : x < a
  · rw [if_pos c]
    rw [mi_lt] at c
    constructor
    · intro _
      omega
    · intro _
      rfl
  · rw [if_neg c]
    rw [mi_lt] at c
    by_cases d : b < x
    · rw [if_pos d]
      rw [mi_lt] at d
      constructor
      · intro _
        omega
      · intro _
        rfl
    · rw [if_neg d]
      rw [mi_lt] at d
      constructor
      · intro h
        exact absurd h (by decide)
      · intro h
        exact absurd ⟨by omega, by omega⟩ h
theorem act_v (x : Int32) : fX3_isAct x = 0 ↔ ¬ (0 ≤ x.toInt ∧ x.toInt ≤ 23) := by
  rw [← in_act, in_v]
  exact Iff.rfl
theorem jump_v (x : Int32) : fX3_isJump x = 0 ↔ ¬ (30 ≤ x.toInt ∧ x.toInt ≤ 37) := by
  rw [← in_jump, in_v]
  exact Iff.rfl
theorem op_v {x : Int32} (h : ¬ fX5_in x 40 43 = 0) : x = 40 ∨ x = 41 ∨ x = 42 ∨ x = 43 := by
  rw [in_v] at h
  have e40 : (40 : Int32).toInt = 40 := by decide
  have e43 : (43 : Int32).toInt = 43 := by decide
  have h' : 40 ≤ x.toInt ∧ x.toInt ≤ 43 := by omega
  have : x.toInt = 40 ∨ x.toInt = 41 ∨ x.toInt = 42 ∨ x.toInt = 43 := by omega
  rcases this with q | q | q | q
  · exact Or.inl (mi_eq.mpr (by rw [q]; decide))
  · exact Or.inr (Or.inl (mi_eq.mpr (by rw [q]; decide)))
  · exact Or.inr (Or.inr (Or.inl (mi_eq.mpr (by rw [q]; decide))))
  · exact Or.inr (Or.inr (Or.inr (mi_eq.mpr (by rw [q]; decide))))
theorem e_fits (uf : Nat → Int32) (ua : Nat → Nat → Int32) (c t x y z : Int32) : fX5_step uf ua c t x y z = fX5_step_204 uf ua c t x y z (fX3_fits c t x y z) := by
  unfold fX5_step fX5_step_40 fX5_step_45 fX5_step_71 fX5_step_78 fX5_step_84 fX5_step_88 fX5_step_89 fX5_step_124 fX5_step_128 fX5_step_129 fX5_step_165 fX5_step_169 fX5_step_170 fX5_step_199 fX5_step_203 fX3_fits fX3_fits_14 fX3_fits_32
  simp only [in_word, in_step, in_act, in_jump]
  have n1 : ¬ (1 : Int32) = 0 := by decide
  by_cases hop : fX5_in c 40 43 = 0
  · have h40 : ¬ c = 40 := fun q => by rw [q] at hop; exact absurd hop (by decide)
    have h41 : ¬ c = 41 := fun q => by rw [q] at hop; exact absurd hop (by decide)
    have h42 : ¬ c = 42 := fun q => by rw [q] at hop; exact absurd hop (by decide)
    have h43 : ¬ c = 43 := fun q => by rw [q] at hop; exact absurd hop (by decide)
    by_cases ha : fX3_isAct c = 0
    · by_cases hj : fX3_isJump c = 0
      · simp only [ha, hj, hop, h40, h41, h42, h43, if_true, if_false]
      · by_cases ht : fX3_isStep t = 0
        · simp only [ha, hj, hop, h40, h41, h42, h43, ht, n1, if_true, if_false]
        · by_cases hx : fX3_isWord x = 0
          · simp only [ha, hj, hop, h40, h41, h42, h43, ht, hx, n1, if_true, if_false]
          · by_cases hy : fX3_isWord y = 0
            · simp only [ha, hj, hop, h40, h41, h42, h43, ht, hx, hy, n1, if_true, if_false]
            · by_cases hz : fX3_isWord z = 0
              · simp only [ha, hj, hop, h40, h41, h42, h43, ht, hx, hy, hz, n1, if_true, if_false]
              · simp only [ha, hj, hop, h40, h41, h42, h43, ht, hx, hy, hz, n1, if_true, if_false]
    · have hj : fX3_isJump c = 0 := by
        rw [jump_v]
        rw [act_v] at ha
        omega
      by_cases ht : fX3_isWord t = 0
      · simp only [ha, hj, hop, h40, h41, h42, h43, ht, n1, if_true, if_false]
      · by_cases hx : fX3_isWord x = 0
        · simp only [ha, hj, hop, h40, h41, h42, h43, ht, hx, n1, if_true, if_false]
        · by_cases hy : fX3_isWord y = 0
          · simp only [ha, hj, hop, h40, h41, h42, h43, ht, hx, hy, n1, if_true, if_false]
          · by_cases hz : fX3_isWord z = 0
            · simp only [ha, hj, hop, h40, h41, h42, h43, ht, hx, hy, hz, n1, if_true, if_false]
            · simp only [ha, hj, hop, h40, h41, h42, h43, ht, hx, hy, hz, n1, if_true, if_false]
  · have z1 : ∀ v : Int32, ji_z v → ¬ v = 0 → v = 1 := fun v h q => by rcases h with r | r; exact absurd r q; exact r
    rcases op_v hop with rfl | rfl | rfl | rfl
    · simp (decide := true) only [if_true, if_false]
    · simp (decide := true) only [if_true, if_false]
      by_cases ht : fX3_isWord t = 0
      · simp (decide := true) only [ht, if_true, if_false]
      · have := z1 _ (zX3_isWord t) ht
        simp (decide := true) only [this, if_true, if_false]
    · simp (decide := true) only [if_true, if_false]
      by_cases ht : fX3_isWord t = 0
      · simp (decide := true) only [ht, if_true, if_false]
      · by_cases hx : fX3_isWord x = 0
        · simp (decide := true) only [ht, hx, if_true, if_false]
        · by_cases hy : fX3_isWord y = 0
          · simp (decide := true) only [ht, hx, hy, if_true, if_false]
          · simp (decide := true) only [ht, hx, hy, if_true, if_false]
    · simp (decide := true) only [if_true, if_false]
      by_cases ht : fX3_isStep t = 0
      · simp (decide := true) only [ht, if_true, if_false]
      · have := z1 _ (zX3_isStep t) ht
        simp (decide := true) only [this, if_true, if_false]
theorem fits_ok {c t x y z : Int32} (h : ¬ fX3_fits c t x y z = 0) : st_ok c t x y z := by
  have wv := word_v
  have sv' := step_v
  have W : ∀ {k : Int32}, ¬ fX3_isWord k = 0 → vp_in k 16 := fun q => Classical.byContradiction (fun r => q ((word_v _).mpr r))
  have S : ∀ {k : Int32}, ¬ fX3_isStep k = 0 → vp_in k 40 := fun q => Classical.byContradiction (fun r => q ((step_v _).mpr r))
  unfold fX3_fits fX3_fits_14 fX3_fits_32 at h
  by_cases ha : fX3_isAct c = 0
  · by_cases hj : fX3_isJump c = 0
    · simp only [ha, hj, if_true] at h
      by_cases h40 : c = 40
      · exact Or.inr (Or.inr (Or.inl h40))
      · by_cases h41 : c = 41
        · simp (decide := true) only [h41, if_true, if_false] at h
          exact Or.inr (Or.inr (Or.inr (Or.inl ⟨h41, W h⟩)))
        · by_cases h42 : c = 42
          · simp (decide := true) only [h42, if_true, if_false] at h
            by_cases ht : fX3_isWord t = 0
            · simp only [ht, if_true] at h
              exact absurd trivial h
            · by_cases hx : fX3_isWord x = 0
              · simp only [ht, hx, if_true, if_false] at h
                exact absurd trivial h
              · by_cases hy : fX3_isWord y = 0
                · simp only [ht, hx, hy, if_true, if_false] at h
                  exact absurd trivial h
                · exact Or.inr (Or.inr (Or.inr (Or.inr (Or.inl ⟨h42, W ht, W hx, W hy⟩))))
          · by_cases h43 : c = 43
            · simp (decide := true) only [h43, if_true, if_false] at h
              exact Or.inr (Or.inr (Or.inr (Or.inr (Or.inr ⟨h43, S h⟩))))
            · simp only [h40, h41, h42, h43, if_false] at h
              exact absurd trivial h
    · simp only [ha, hj, if_true, if_false] at h
      by_cases ht : fX3_isStep t = 0
      · simp only [ht, if_true] at h
        exact absurd trivial h
      · by_cases hx : fX3_isWord x = 0
        · simp only [ht, hx, if_true, if_false] at h
          exact absurd trivial h
        · by_cases hy : fX3_isWord y = 0
          · simp only [ht, hx, hy, if_true, if_false] at h
            exact absurd trivial h
          · by_cases hz : fX3_isWord z = 0
            · simp only [ht, hx, hy, hz, if_true, if_false] at h
              exact absurd trivial h
            · rw [jump_v] at hj
              exact Or.inr (Or.inl ⟨by omega, by omega, S ht, W hx, W hy, W hz⟩)
  · simp only [ha, if_false] at h
    by_cases ht : fX3_isWord t = 0
    · simp only [ht, if_true] at h
      exact absurd trivial h
    · by_cases hx : fX3_isWord x = 0
      · simp only [ht, hx, if_true, if_false] at h
        exact absurd trivial h
      · by_cases hy : fX3_isWord y = 0
        · simp only [ht, hx, hy, if_true, if_false] at h
          exact absurd trivial h
        · by_cases hz : fX3_isWord z = 0
          · simp only [ht, hx, hy, hz, if_true, if_false] at h
            exact absurd trivial h
          · rw [act_v] at ha
            exact Or.inl ⟨by omega, by omega, W ht, W hx, W hy, W hz⟩
