/-! ===== MATH: what each call of the law leaves behind ===== -/
theorem rl_8 {pf : Nat → Int32} {pa : Nat → Nat → Int32} {df : Nat → Int32} {da : Nat → Nat → Int32} {uf uf' : Nat → Int32} {ua : Nat → Nat → Int32} (h : rl pf pa df da uf ua) (hu : ∀ k, k ≠ 8 → uf' k = uf k) : rl pf pa df da uf' ua := by
  obtain ⟨h1, h2, h3, h4, h5, h6, h7⟩ := h
  have e1 := hu 1 (by decide)
  have e7 := hu 7 (by decide)
  have e11 := hu 11 (by decide)
  unfold rl
  rw [e1, e7, e11]
  exact ⟨h1, h2, h3, h4, h5, h6, h7⟩
theorem rl_rp {pf : Nat → Int32} {pa : Nat → Nat → Int32} {df : Nat → Int32} {da : Nat → Nat → Int32} {uf : Nat → Int32} {ua : Nat → Nat → Int32} (h : rl pf pa df da uf ua) : rp pf pa uf ua ∧ pf 7 = uf 7 ∧ ∃ o, orl df da uf ua o := by
  obtain ⟨⟨h1, h1'⟩, h2, h3, h4, h5, h6, h7⟩ := h
  refine ⟨⟨h1, h2, h3, h4⟩, h1', (uf 11).toInt.toNat, h5, by omega, by omega, fun i hi => h7 i (by omega)⟩
theorem rl_mk {pf : Nat → Int32} {pa : Nat → Nat → Int32} {df : Nat → Int32} {da : Nat → Nat → Int32} {uf : Nat → Int32} {ua : Nat → Nat → Int32} {o : Nat} (h : rp pf pa uf ua) (h7 : pf 7 = uf 7) (ho : orl df da uf ua o) : rl pf pa df da uf ua := by
  obtain ⟨a1, a2, a3, a4⟩ := h
  obtain ⟨b1, b2, b3, b4⟩ := ho
  exact ⟨⟨a1, h7⟩, a2, a3, a4, b1, by omega, fun i hi => b4 i (by omega)⟩
theorem orl_keep {df : Nat → Int32} {da : Nat → Nat → Int32} {uf uf' : Nat → Int32} {ua ua' : Nat → Nat → Int32} {o : Nat} (h : orl df da uf ua o) (h1 : uf' 11 = uf 11) (h2 : ua' 10 = ua 10) : orl df da uf' ua' o := by
  obtain ⟨b1, b2, b3, b4⟩ := h
  refine ⟨by rw [h1]; exact b1, by rw [h1]; exact b2, b3, fun i hi => by rw [h2]; exact b4 i hi⟩
theorem thr_v (uf : Nat → Int32) (s : Int32) : (fX5_thrown0 uf s).2 8 = (if s = 0 then 0 else 1) ∧ ((fX5_thrown0 uf s).1 ≤ 0 ↔ s = 0) ∧ (∀ k, k ≠ 8 → (fX5_thrown0 uf s).2 k = uf k) := by
  unfold fX5_thrown0
  by_cases c : s = 0
  · rw [if_pos c, if_pos c]
    refine ⟨rfl, ⟨fun _ => c, fun _ => show (0 : Int32) ≤ 0 by decide⟩, fun k hk => ?_⟩
    show va_up uf 8 0 k = uf k
    unfold va_up
    rw [if_neg hk]
  · rw [if_neg c, if_neg c]
    refine ⟨rfl, ⟨fun q => absurd q (show ¬ (1 : Int32) ≤ 0 by decide), fun q => absurd q c⟩, fun k hk => ?_⟩
    show va_up uf 8 1 k = uf k
    unfold va_up
    rw [if_neg hk]
theorem c_act {uf : Nat → Int32} {us : Nat → Int64} {x1 x2 x3 x4 : Int32} : ((0 ≤ x1.toInt ∧ x1.toInt < 24) → (fX5_act uf us x1 x2 x3 x4).2.1 8 = 0 ∧ (fX5_act uf us x1 x2 x3 x4).1 = fX4_act x1 x2 x3 x4) ∧ (¬ (0 ≤ x1.toInt ∧ x1.toInt < 24) → (fX5_act uf us x1 x2 x3 x4).2.1 8 = 1) ∧ (∀ k, k ≠ 8 → (fX5_act uf us x1 x2 x3 x4).2.1 k = uf k) := by
  have hin := in_v (x := x1) (a := 0) (b := 23)
  have e0 : (0 : Int32).toInt = 0 := by decide
  have e23 : (23 : Int32).toInt = 23 := by decide
  have n1 : ¬ (1 : Int32) = 0 := by decide
  unfold fX5_act fX5_act_16
  by_cases c : 0 ≤ x1.toInt ∧ x1.toInt < 24
  · obtain ⟨t1, t2, t3⟩ := thr_v uf 0
    rw [if_neg (fun q => hin.mp q (by omega)), if_pos (t2.mpr rfl)]
    exact ⟨fun _ => ⟨t1, (e_act (by omega)).symm⟩, fun q => absurd c q, t3⟩
  · obtain ⟨t1, t2, t3⟩ := thr_v uf 1
    rw [if_pos (hin.mpr (by omega)), if_neg (fun q => n1 (t2.mp q))]
    exact ⟨fun q => absurd q c, fun _ => t1, t3⟩
theorem c_wide {uf : Nat → Int32} {us : Nat → Int64} {x1 : Int32} {x2 x4 x6 : Int64} : ((0 ≤ x1.toInt ∧ x1.toInt < 24) → (fX5_wide uf us x1 x2 x4 x6).2.1 8 = 0 ∧ (fX5_wide uf us x1 x2 x4 x6).1 = fX4_wide x1 x2 x4 x6) ∧ (¬ (0 ≤ x1.toInt ∧ x1.toInt < 24) → (fX5_wide uf us x1 x2 x4 x6).2.1 8 = 1) ∧ (∀ k, k ≠ 8 → (fX5_wide uf us x1 x2 x4 x6).2.1 k = uf k) := by
  have hin := in_v (x := x1) (a := 0) (b := 23)
  have e0 : (0 : Int32).toInt = 0 := by decide
  have e23 : (23 : Int32).toInt = 23 := by decide
  have n1 : ¬ (1 : Int32) = 0 := by decide
  unfold fX5_wide fX5_wide_16
  by_cases c : 0 ≤ x1.toInt ∧ x1.toInt < 24
  · obtain ⟨t1, t2, t3⟩ := thr_v uf 0
    rw [if_neg (fun q => hin.mp q (by omega)), if_pos (t2.mpr rfl)]
    exact ⟨fun _ => ⟨t1, (e_wide (by omega)).symm⟩, fun q => absurd c q, t3⟩
  · obtain ⟨t1, t2, t3⟩ := thr_v uf 1
    rw [if_pos (hin.mpr (by omega)), if_neg (fun q => n1 (t2.mp q))]
    exact ⟨fun q => absurd q c, fun _ => t1, t3⟩
theorem c_test {uf : Nat → Int32} {us : Nat → Int64} {x1 x2 x3 x4 : Int32} : ((0 ≤ x1.toInt ∧ x1.toInt < 8) → (fX5_test uf us x1 x2 x3 x4).2.1 8 = 0 ∧ (fX5_test uf us x1 x2 x3 x4).1 = fX4_test x1 x2 x3 x4) ∧ (¬ (0 ≤ x1.toInt ∧ x1.toInt < 8) → (fX5_test uf us x1 x2 x3 x4).2.1 8 = 1) ∧ (∀ k, k ≠ 8 → (fX5_test uf us x1 x2 x3 x4).2.1 k = uf k) := by
  have hin := in_v (x := x1) (a := 0) (b := 7)
  have e0 : (0 : Int32).toInt = 0 := by decide
  have e23 : (7 : Int32).toInt = 7 := by decide
  have n1 : ¬ (1 : Int32) = 0 := by decide
  unfold fX5_test fX5_test_16
  by_cases c : 0 ≤ x1.toInt ∧ x1.toInt < 8
  · obtain ⟨t1, t2, t3⟩ := thr_v uf 0
    rw [if_neg (fun q => hin.mp q (by omega)), if_pos (t2.mpr rfl), e_test (us := us) (by omega)]
    by_cases z : (fX5_holds us x1 (fX5_bits x2) (fX5_bits x3) (fX5_bits x4) (0 : Int32)).1 = 0
    · rw [if_pos z, if_pos z]
      exact ⟨fun _ => ⟨t1, rfl⟩, fun q => absurd c q, t3⟩
    · rw [if_neg z, if_neg z]
      exact ⟨fun _ => ⟨t1, rfl⟩, fun q => absurd c q, t3⟩
  · obtain ⟨t1, t2, t3⟩ := thr_v uf 1
    rw [if_pos (hin.mpr (by omega)), if_neg (fun q => n1 (t2.mp q))]
    exact ⟨fun q => absurd q c, fun _ => t1, t3⟩
theorem c_wideTest {uf : Nat → Int32} {us : Nat → Int64} {x1 : Int32} {x2 x4 x6 : Int64} : ((0 ≤ x1.toInt ∧ x1.toInt < 8) → (fX5_wideTest uf us x1 x2 x4 x6).2.1 8 = 0 ∧ (fX5_wideTest uf us x1 x2 x4 x6).1 = fX4_wideTest x1 x2 x4 x6) ∧ (¬ (0 ≤ x1.toInt ∧ x1.toInt < 8) → (fX5_wideTest uf us x1 x2 x4 x6).2.1 8 = 1) ∧ (∀ k, k ≠ 8 → (fX5_wideTest uf us x1 x2 x4 x6).2.1 k = uf k) := by
  have hin := in_v (x := x1) (a := 0) (b := 7)
  have e0 : (0 : Int32).toInt = 0 := by decide
  have e23 : (7 : Int32).toInt = 7 := by decide
  have n1 : ¬ (1 : Int32) = 0 := by decide
  unfold fX5_wideTest fX5_wideTest_16
  by_cases c : 0 ≤ x1.toInt ∧ x1.toInt < 8
  · obtain ⟨t1, t2, t3⟩ := thr_v uf 0
    rw [if_neg (fun q => hin.mp q (by omega)), if_pos (t2.mpr rfl), e_wideTest (us := us) (by omega)]
    by_cases z : (fX5_holds us x1 x2 x4 x6 (1 : Int32)).1 = 0
    · rw [if_pos z, if_pos z]
      exact ⟨fun _ => ⟨t1, rfl⟩, fun q => absurd c q, t3⟩
    · rw [if_neg z, if_neg z]
      exact ⟨fun _ => ⟨t1, rfl⟩, fun q => absurd c q, t3⟩
  · obtain ⟨t1, t2, t3⟩ := thr_v uf 1
    rw [if_pos (hin.mpr (by omega)), if_neg (fun q => n1 (t2.mp q))]
    exact ⟨fun q => absurd q c, fun _ => t1, t3⟩
theorem c_word {pf : Nat → Int32} {pa : Nat → Nat → Int32} {df : Nat → Int32} {da : Nat → Nat → Int32} {uf : Nat → Int32} {ua : Nat → Nat → Int32} {x1 : Int32} (h : rl pf pa df da uf ua) : (¬ fX3_isWord x1 = 0 → (fX5_word uf ua x1).2 8 = 0 ∧ (fX5_word uf ua x1).1 = fX3_wordAt pa x1) ∧ (fX3_isWord x1 = 0 → (fX5_word uf ua x1).2 8 = 1) ∧ rl pf pa df da (fX5_word uf ua x1).2 ua := by
  have n1 : ¬ (1 : Int32) = 0 := by decide
  have hr := (rl_rp h).1
  unfold fX5_word fX5_word_16
  rw [in_word]
  by_cases c : fX3_isWord x1 = 0
  · obtain ⟨t1, t2, t3⟩ := thr_v uf 1
    rw [if_pos c, if_neg (fun q => n1 (t2.mp q))]
    exact ⟨fun q => absurd c q, fun _ => t1, rl_8 h t3⟩
  · obtain ⟨t1, t2, t3⟩ := thr_v uf 0
    rw [if_neg c, if_pos (t2.mpr rfl)]
    have hk : vp_in x1 16 := Classical.byContradiction (fun r => c ((word_v _).mpr r))
    exact ⟨fun _ => ⟨t1, (rp_word hr hk).symm⟩, fun q => absurd q c, rl_8 h t3⟩
theorem c_set {pf : Nat → Int32} {pa : Nat → Nat → Int32} {df : Nat → Int32} {da : Nat → Nat → Int32} {uf : Nat → Int32} {ua : Nat → Nat → Int32} {x1 x2 : Int32} (h : rl pf pa df da uf ua) : (¬ fX3_isWord x1 = 0 → (fX5_set uf ua x1 x2).2.1 8 = 0 ∧ (fX5_set uf ua x1 x2).1 = (fX3_replaced pa x1 x2).1 ∧ rl pf (fX3_replaced pa x1 x2).2 df da (fX5_set uf ua x1 x2).2.1 (fX5_set uf ua x1 x2).2.2) ∧ (fX3_isWord x1 = 0 → (fX5_set uf ua x1 x2).2.1 8 = 1 ∧ rl pf pa df da (fX5_set uf ua x1 x2).2.1 (fX5_set uf ua x1 x2).2.2) := by
  have n1 : ¬ (1 : Int32) = 0 := by decide
  obtain ⟨hr, h7, o, ho⟩ := rl_rp h
  unfold fX5_set fX5_set_16
  rw [in_word]
  by_cases c : fX3_isWord x1 = 0
  · obtain ⟨t1, t2, t3⟩ := thr_v uf 1
    rw [if_pos c, if_neg (fun q => n1 (t2.mp q))]
    exact ⟨fun q => absurd c q, fun _ => ⟨t1, rl_8 h t3⟩⟩
  · obtain ⟨t1, t2, t3⟩ := thr_v uf 0
    rw [if_neg c, if_pos (t2.mpr rfl)]
    have hk : vp_in x1 16 := Classical.byContradiction (fun r => c ((word_v _).mpr r))
    refine ⟨fun _ => ⟨t1, (e_set hr hk).symm, ?_⟩, fun q => absurd q c⟩
    have hp := rp_put (v := x2) hr hk
    exact rl_8 (rl_mk hp h7 (orl_keep ho rfl rfl)) t3
theorem c_step {pf : Nat → Int32} {pa : Nat → Nat → Int32} {df : Nat → Int32} {da : Nat → Nat → Int32} {uf : Nat → Int32} {ua : Nat → Nat → Int32} (h : rl pf pa df da uf ua) (c t x y z : Int32) : (fX4_step pf pa c t x y z).1 = (fX5_step uf ua c t x y z).1 ∧ rl (fX4_step pf pa c t x y z).2.1 (fX4_step pf pa c t x y z).2.2 df da (fX5_step uf ua c t x y z).2.1 (fX5_step uf ua c t x y z).2.2 := by
  obtain ⟨hr, h7, o, ho⟩ := rl_rp h
  obtain ⟨a1, a2, a3, a4, a5⟩ := e_step hr c t x y z
  exact ⟨a1, rl_mk a2 (by rw [a3 7 (by decide), a4 7 (by decide)]; exact h7) (orl_keep ho (a4 11 (by decide)) (a5 10 (by decide)))⟩
theorem c_drop {pf : Nat → Int32} {pa : Nat → Nat → Int32} {df : Nat → Int32} {da : Nat → Nat → Int32} {uf : Nat → Int32} {ua : Nat → Nat → Int32} (h : rl pf pa df da uf ua) : (fX4_drop pf).1 = (fX5_drop uf).1 ∧ rl (fX4_drop pf).2 pa df da (fX5_drop uf).2 ua := by
  obtain ⟨hr, h7, o, ho⟩ := rl_rp h
  unfold fX4_drop fX3_forgetSteps fX5_drop
  refine ⟨hr.1, rl_mk ⟨rfl, hr.2.1, ?_, ?_⟩ h7 (orl_keep ho rfl rfl)⟩
  · intro i hi
    exfalso
    have : (i : Int) < (0 : Int32).toInt := hi
    have e0 : (0 : Int32).toInt = 0 := by decide
    omega
  · refine ⟨by show 0 ≤ (0 : Int32).toInt ∧ (0 : Int32).toInt ≤ 40; decide, fun i hi => ?_⟩
    exfalso
    have : (i : Int) < (0 : Int32).toInt := hi
    have e0 : (0 : Int32).toInt = 0 := by decide
    omega
theorem c_run {pf : Nat → Int32} {pa : Nat → Nat → Int32} {df : Nat → Int32} {da : Nat → Nat → Int32} {uf : Nat → Int32} {ua : Nat → Nat → Int32} {us : Nat → Int64} (h : rl pf pa df da uf ua) (x1 x2 : Int32) : (fX4_run pf pa x1 x2).1 = (fX5_run uf ua us x1 x2).1 ∧ rl (fX4_run pf pa x1 x2).2.1 (fX4_run pf pa x1 x2).2.2 df da (fX5_run uf ua us x1 x2).2.1 (fX5_run uf ua us x1 x2).2.2.1 := by
  obtain ⟨hr, h7, o, ho⟩ := rl_rp h
  obtain ⟨a1, a2, a3, a4, a5⟩ := e_run (us := us) hr h7 x1 x2
  exact ⟨a1, rl_mk a2 a3 (orl_keep ho (a4 11 (by decide)) (a5 10 (by decide)))⟩
theorem c_print {pf : Nat → Int32} {pa : Nat → Nat → Int32} {df : Nat → Int32} {da : Nat → Nat → Int32} {ds : Nat → Int64} {uf : Nat → Int32} {ua : Nat → Nat → Int32} (h : rl pf pa df da uf ua) (a p : Int32) : (fX4_print df da ds a p).1 = (fX5_print uf ua a p).1 ∧ rl pf pa (fX4_print df da ds a p).2.1 (fX4_print df da ds a p).2.2.1 (fX5_print uf ua a p).2.1 (fX5_print uf ua a p).2.2 := by
  obtain ⟨hr, h7, o, ho⟩ := rl_rp h
  obtain ⟨a1, ⟨o', a2⟩, a3, a4⟩ := e_print (ds := ds) ho a p
  refine ⟨a1, rl_mk ⟨?_, ?_, ?_, ?_⟩ (by rw [a3 7 (by decide) (by decide)]; exact h7) a2⟩
  · rw [a3 1 (by decide) (by decide)]
    exact hr.1
  · rw [a4 0 (by decide) (by decide) (by decide)]
    exact hr.2.1
  · rw [a3 1 (by decide) (by decide), a4 2 (by decide) (by decide) (by decide), a4 3 (by decide) (by decide) (by decide), a4 4 (by decide) (by decide) (by decide), a4 5 (by decide) (by decide) (by decide), a4 6 (by decide) (by decide) (by decide)]
    exact hr.2.2.1
  · rw [a3 1 (by decide) (by decide)]
    refine ⟨hr.2.2.2.1, ?_⟩
    rw [a4 2 (by decide) (by decide) (by decide), a4 3 (by decide) (by decide) (by decide), a4 4 (by decide) (by decide) (by decide), a4 5 (by decide) (by decide) (by decide), a4 6 (by decide) (by decide) (by decide)]
    exact hr.2.2.2.2
theorem c_at {pf : Nat → Int32} {pa : Nat → Nat → Int32} {df : Nat → Int32} {da : Nat → Nat → Int32} {uf : Nat → Int32} {ua : Nat → Nat → Int32} (h : rl pf pa df da uf ua) (x : Int32) : fX4_at df da x = fX5_at uf ua x := by
  obtain ⟨_, _, o, b1, b2, b3, b4⟩ := rl_rp h
  have e0 : (0 : Int32).toInt = 0 := by decide
  have e1 : (1 : Int32).toInt = 1 := by decide
  have e81 : (81 : Int32).toInt = 81 := by decide
  have hs : (uf 11 - (1 : Int32)).toInt = (o : Int) - 1 := by rw [mi_sub (by omega) (by omega), b2, e1]
  have hin := in_v (x := x) (a := 0) (b := uf 11 - (1 : Int32))
  rw [hs, e0] at hin
  unfold fX4_at fX1_byteAt fX5_at
  rw [b1]
  by_cases c1 : x < 0
  · rw [if_pos c1, if_pos (hin.mpr (by rw [mi_lt] at c1; omega))]
  · rw [if_neg c1]
    rw [mi_lt] at c1
    by_cases c2 : uf 11 ≤ x
    · rw [if_pos c2, if_pos (hin.mpr (by rw [mi_le] at c2; omega))]
    · rw [if_neg c2]
      rw [mi_le] at c2
      rw [if_pos (by rw [mi_lt]; omega), if_neg (fun q => hin.mp q (by omega))]
      have hcl : x.toNatClampNeg < o := by
        show x.toInt.toNat < o
        omega
      exact b4 _ hcl
theorem cl_loop : ∀ (n : Nat) (ua : Nat → Nat → Int32) (x : Int32) (j : Nat), x.toInt = j → 16 - j < n → (∀ k, (gX5_clear_23 n ua x).1 0 k = if j ≤ k ∧ k < 16 then 0 else ua 0 k) ∧ (∀ k, k ≠ 0 → (gX5_clear_23 n ua x).1 k = ua k) := by
  have e16 : (16 : Int32).toInt = 16 := by decide
  have e1 : (1 : Int32).toInt = 1 := by decide
  intro n
  induction n with
  | zero => intro ua x j _ h; omega
  | succ n ih =>
    intro ua x j hx hn
    rw [gX5_clear_23]
    by_cases c : (16 : Int32) ≤ x
    · rw [if_pos c]
      rw [mi_le, e16] at c
      exact ⟨fun k => by rw [if_neg (by omega)], fun _ _ => rfl⟩
    · rw [if_neg c]
      rw [mi_le, e16] at c
      have hc : x.toNatClampNeg = j := by
        show x.toInt.toNat = j
        omega
      rw [hc]
      obtain ⟨r1, r2⟩ := ih (va_up ua 0 (upd (ua 0) j (0 : Int32))) (x + 1) (j + 1) (by rw [mi_add (by omega) (by omega), e1]; omega) (by omega)
      have hup : ∀ k, (va_up ua 0 (upd (ua 0) j (0 : Int32))) 0 k = if k = j then 0 else ua 0 k := fun _ => rfl
      constructor
      · intro k
        rw [r1 k, hup]
        by_cases q : k = j
        · subst q
          rw [if_neg (by omega), if_pos rfl, if_pos (by omega)]
        · by_cases q2 : j ≤ k ∧ k < 16
          · rw [if_pos (by omega), if_pos q2]
          · rw [if_neg (by omega), if_neg q, if_neg q2]
      · intro k hk
        rw [r2 k hk]
        unfold va_up
        rw [if_neg hk]
theorem cl_same : ∀ (n : Nat) (ua : Nat → Nat → Int32) (x : Int32), gX3_forgetAll_2 n ua x = gX5_clear_23 n ua x := by
  intro n
  induction n with
  | zero => intro ua x; rfl
  | succ n ih =>
    intro ua x
    rw [gX3_forgetAll_2, gX5_clear_23]
    split
    · rfl
    · exact ih _ _
theorem c_clear {pf : Nat → Int32} {pa : Nat → Nat → Int32} {df : Nat → Int32} {da : Nat → Nat → Int32} {uf : Nat → Int32} {ua : Nat → Nat → Int32} (h : rl pf pa df da uf ua) : (fX4_clear pf pa df).1 = (fX5_clear uf ua).1 ∧ rl (fX4_clear pf pa df).2.1 (fX4_clear pf pa df).2.2.1 (fX4_clear pf pa df).2.2.2 da (fX5_clear uf ua).2.1 (fX5_clear uf ua).2.2 := by
  obtain ⟨hr, h7, o, ho⟩ := rl_rp h
  have e0 : (0 : Int32).toInt = 0 := by decide
  obtain ⟨a1, a2⟩ := cl_loop (Nat.succ ((Int32.toInt (16) - Int32.toInt (0 : Int32)).toNat)) pa (0 : Int32) 0 e0 (by decide)
  obtain ⟨b1, b2⟩ := cl_loop (Nat.succ ((Int32.toInt (16) - Int32.toInt (0 : Int32)).toNat)) ua (0 : Int32) 0 e0 (by decide)
  unfold fX4_clear fX3_forgetAll fX3_forgetAll_21 fX3_forgetSteps fX1_forget fX5_clear fX5_clear_42
  rw [cl_same]
  generalize (gX5_clear_23 (Nat.succ ((Int32.toInt (16) - Int32.toInt (0 : Int32)).toNat)) pa (0 : Int32)).1 = PA at *
  generalize (gX5_clear_23 (Nat.succ ((Int32.toInt (16) - Int32.toInt (0 : Int32)).toNat)) ua (0 : Int32)).1 = UA at *
  refine ⟨hr.1, rl_mk (o := 0) ⟨rfl, ?_, ?_, ?_⟩ rfl ⟨rfl, by show (0 : Int32).toInt = _; decide, by decide, fun i hi => by omega⟩⟩
  · intro i hi
    show PA 0 i = UA 0 i
    rw [a1 i, b1 i, if_pos (by omega), if_pos (by omega)]
  · intro i hi
    exfalso
    have : (i : Int) < (0 : Int32).toInt := hi
    omega
  · refine ⟨by show 0 ≤ (0 : Int32).toInt ∧ (0 : Int32).toInt ≤ 40; decide, fun i hi => ?_⟩
    exfalso
    have : (i : Int) < (0 : Int32).toInt := hi
    omega
