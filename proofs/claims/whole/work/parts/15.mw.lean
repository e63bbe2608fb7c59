theorem xor_size {w : Bool} (x : Int64) : fX2_size w (x ^^^ fo_sign w) = fX2_size w x := by
  unfold fX2_size
  apply un_inj
  rw [un_and, un_and, un_xor, Nat.and_xor_distrib_right]
  have : un (fo_sign w) &&& un (fo_sign w - 1) = 0 := by cases w <;> decide
  rw [this, Nat.xor_zero]
theorem xor_sign {w : Bool} (x : Int64) : fX2_isNegative w (x ^^^ fo_sign w) = if fX2_isNegative w x = 0 then 1 else 0 := by
  have h1 : ((x ^^^ fo_sign w) &&& fo_sign w) = (0 : Int64) ↔ ¬ (x &&& fo_sign w) = (0 : Int64) := by
    rw [un_iff, un_iff, un_and, un_and, un_xor, Nat.and_xor_distrib_right, sign_bits, Nat.and_self, and_pow, show un (0 : Int64) = 0 from by decide]
    have hp := Nat.two_pow_pos (sgb w)
    split
    · rw [Nat.xor_self]
      constructor
      · intro _ h
        omega
      · intro _
        rfl
    · rw [Nat.zero_xor]
      constructor
      · intro h
        omega
      · intro h
        exact absurd rfl h
  unfold fX2_isNegative
  by_cases c : (x &&& fo_sign w) = (0 : Int64)
  · rw [if_neg (fun q => (h1.mp q) c), if_pos c, if_pos rfl]
  · rw [if_pos (h1.mpr c), if_neg c, if_neg (by decide)]
theorem xor_mod {w : Bool} {x : Int64} (h : ok w x) : un (x ^^^ fo_sign w) % SG w = un x % SG w := by
  rw [← un_size h, ← un_size (ok_xor h), xor_size]
theorem xor_plain {w : Bool} {x : Int64} (h : ok w x) : un (fX2_plain w (x ^^^ fo_sign w)) = un (fX2_plain w x) ∧ (fX2_scale w (x ^^^ fo_sign w)).toInt = (fX2_scale w x).toInt := by
  have e := xor_mod h
  have he : exN w (x ^^^ fo_sign w) = exN w x := by
    unfold exN
    rw [e]
  have hd : 2 ^ mt w ∣ SG w := Nat.dvd_of_mod_eq_zero (mt_div w)
  have hm : un (x ^^^ fo_sign w) % 2 ^ mt w = un x % 2 ^ mt w := by
    rw [← Nat.mod_mod_of_dvd (un (x ^^^ fo_sign w)) hd, e, Nat.mod_mod_of_dvd (un x) hd]
  rw [plain_v h, plain_v (ok_xor h), scale_v h, scale_v (ok_xor h), he, hm]
  exact ⟨rfl, rfl⟩
theorem ex_neg {w : Bool} {x : Int64} (h : ok w x) : ex w (x ^^^ fo_sign w) = -ex w x := by
  obtain ⟨p, s⟩ := xor_plain h
  unfold ex
  rw [p, s, xor_sign]
  generalize un (fX2_plain w x) * 2 ^ ((fX2_scale w x).toInt + 2200).toNat = V
  rcases z_neg w x with c | c <;> rw [c]
  · show (-1 : Int) * V = -((1 : Int) * V)
    omega
  · show (1 : Int) * V = -((-1 : Int) * V)
    omega
theorem rank_v {w : Bool} {x : Int64} (h : ok w x) : (fX2_rank w x).toInt = sn (fX2_isNegative w x) * ((un x % SG w : Nat) : Int) := by
  have hs := size_lt h
  have hu := un_size h
  unfold fX2_rank sn
  by_cases c : fX2_isNegative w x = 0
  · rw [if_pos c, if_pos c, un_pos hs, hu]
    omega
  · rw [if_neg c, if_neg c, ml_neg (by rw [un_pos hs]; omega), un_pos hs, hu]
    omega
theorem rank_ex {w : Bool} {a b : Int64} (ha : ok w a) (hb : ok w b) (h : fX2_rank w a = fX2_rank w b) : ex w a = ex w b := by
  rw [ml_eq, rank_v ha, rank_v hb] at h
  by_cases c : fX2_isNegative w a = fX2_isNegative w b
  · have e : un a % SG w = un b % SG w := by
      rw [c] at h
      rcases sn_or (fX2_isNegative w b) with q | q <;> rw [q] at h <;> omega
    have : a = b := by
      apply un_inj
      rw [sg_un w a ha, sg_un w b hb, e, c]
    rw [this]
  · have e : un a % SG w = 0 ∧ un b % SG w = 0 := by
      rcases z_neg w a with q | q <;> rcases z_neg w b with r | r <;> rw [q, r] at h c
      · exact absurd rfl c
      · have h' : (1 : Int) * ((un a % SG w : Nat) : Int) = -1 * ((un b % SG w : Nat) : Int) := h
        omega
      · have h' : (-1 : Int) * ((un a % SG w : Nat) : Int) = 1 * ((un b % SG w : Nat) : Int) := h
        omega
      · exact absurd rfl c
    rw [ex_zero ha (fun q => (zero0 ha).mp q e.1), ex_zero hb (fun q => (zero0 hb).mp q e.2)]
theorem near_zero {w : Bool} {a b : Int64} (ha : fin w a) (hb : fin w b) (na : fX2_isNan w a = 0) (nb' : fX2_isNan w b = 0) (ia : fX2_isInfinite w a = 0) (ib : fX2_isInfinite w b = 0) (h : fX2_rank w a = fX2_rank w b) : fX2_size w (fX2_sum w a (b ^^^ fo_sign w)) = 0 := by
  have hb' := ok_xor hb.1
  have hfb : fin w (b ^^^ fo_sign w) := ⟨hb', by rw [xor_mod hb.1]; exact hb.2⟩
  have nb2 : fX2_isNan w (b ^^^ fo_sign w) = 0 := by rw [xor_neg hb.1]; exact nb'
  have ib2 : fX2_isInfinite w (b ^^^ fo_sign w) = 0 := by
    rw [inf0 hb', xor_mod hb.1]
    exact (inf0 hb.1).mp ib
  rw [e_sum (us := fun _ => 0) ha.1 hb', add_v ha hfb na nb2 ia ib2, if_pos (by rw [ex_neg hb.1, rank_ex ha.1 hb.1 h]; omega)]
  split
  · cases w <;> decide
  · split
    · cases w <;> decide
    · cases w <;> decide
theorem inf_rank {w : Bool} {a b : Int64} (ha : ok w a) (hb : ok w b) (ia : ¬ fX2_isInfinite w a = 0) (ib : fX2_isInfinite w b = 0) : ¬ fX2_rank w a = fX2_rank w b := by
  intro h
  rw [ml_eq, rank_v ha, rank_v hb] at h
  have h1 : un a % SG w = IN w := by
    rcases Nat.decEq (un a % SG w) (IN w) with q | q
    · exact absurd ((inf0 ha).mpr q) ia
    · exact q
  have h2 := (inf0 hb).mp ib
  have h3 : 0 < IN w := by cases w <;> decide
  rw [h1] at h
  rcases sn_or (fX2_isNegative w a) with q | q <;> rcases sn_or (fX2_isNegative w b) with r | r <;> rw [q, r] at h <;> omega
theorem e_near {w : Bool} {us : Nat → Int64} {a b y : Int64} (ha : ok w a) (hb : ok w b) (hy : ok w y) : fX2_isNear w a b y = (fX5_near us a b y (wi w)).1 := by
  unfold fX2_isNear fX5_near
  rw [dq_isNan ha, dq_isNan hb, dq_isNan hy, dq_isInf ha, dq_isInf hb]
  by_cases na : fX2_isNan w a = 0
  · rw [if_pos na, if_pos na]
    by_cases nb' : fX2_isNan w b = 0
    · rw [if_pos nb', if_pos nb']
      by_cases ny : fX2_isNan w y = 0
      · rw [if_pos ny, if_pos ny]
        have key : ¬ (¬ fX2_isInfinite w a = 0 ∧ ¬ fX2_isInfinite w b = 0) → fX2_isNear_55 w a b y = (fX5_near_60 us a b y (wi w)).1 := by
          intro hni
          unfold fX2_isNear_55 fX5_near_60
          rw [dq_isInf hy]
          by_cases iy : fX2_isInfinite w y = 0
          · rw [if_pos iy, if_pos iy]
            unfold fX5_negated
            rw [dq_sign, dq_size hy, e_order ha hb]
            have hns := (nice_sum ha (ok_xor hb)).1
            by_cases hr : fX2_rank w a = fX2_rank w b
            · have ia : fX2_isInfinite w a = 0 := by
                by_cases q : fX2_isInfinite w a = 0
                · exact q
                · exfalso
                  by_cases r : fX2_isInfinite w b = 0
                  · exact inf_rank ha hb q r hr
                  · exact hni ⟨q, r⟩
              have ib : fX2_isInfinite w b = 0 := by
                by_cases q : fX2_isInfinite w b = 0
                · exact q
                · exact absurd hr.symm (inf_rank hb ha q ia)
              have hz := near_zero (fin_of ha na ia) (fin_of hb nb' ib) na nb' ia ib hr
              have hord : (if fX2_rank w b ≤ fX2_rank w a then if fX2_rank w a = fX2_rank w b then (0 : Int32) else 1 else -1) = 0 := by
                rw [if_pos (by rw [hr, un_le_iff]; omega), if_pos hr]
              rw [hord, if_pos (show (0 : Int32) = 0 from rfl), hz]
              have hlt : ¬ fX2_size w y < (0 : Int64) := by
                rw [un_lt' (size_lt hy) (by decide), show un (0 : Int64) = 0 from by decide]
                omega
              rw [if_neg hlt]
            · have hord : ¬ (if fX2_rank w b ≤ fX2_rank w a then if fX2_rank w a = fX2_rank w b then (0 : Int32) else 1 else -1) = 0 := by
                rw [if_neg hr]
                split <;> decide
              rw [if_neg hord, ← e_sum ha (ok_xor hb), dq_size hns]
              by_cases q : fX2_size w y < fX2_size w (fX2_sum w a (b ^^^ fo_sign w))
              · rw [if_pos q, if_pos q]
              · rw [if_neg q, if_neg q]
          · rw [if_neg iy, if_neg iy]
        by_cases ia : fX2_isInfinite w a = 0
        · rw [if_pos ia, if_pos ia]
          exact key (fun q => q.1 ia)
        · rw [if_neg ia, if_neg ia]
          by_cases ib : fX2_isInfinite w b = 0
          · rw [if_pos ib, if_pos ib]
            exact key (fun q => q.2 ib)
          · rw [if_neg ib, if_neg ib]
            by_cases q : a = b
            · rw [if_pos q, if_pos q]
            · rw [if_neg q, if_neg q]
      · rw [if_neg ny, if_neg ny]
    · rw [if_neg nb', if_neg nb']
  · rw [if_neg na, if_neg na]
theorem e_holds {w : Bool} {us : Nat → Int64} {x1 : Int32} {a b y : Int64} (hx : 0 ≤ x1.toInt ∧ x1.toInt ≤ 7) (ha : ok w a) (hb : ok w b) (hy : ok w y) : fX2_holds w x1 a b y = (fX5_holds us x1 a b y (wi w)).1 := by
  have hk3 : x1.toInt = 0 ∨ x1.toInt = 1 ∨ x1.toInt = 2 ∨ x1.toInt = 3 ∨ x1.toInt = 4 ∨ x1.toInt = 5 ∨ x1.toInt = 6 ∨ x1.toInt = 7 := by omega
  clear hx
  have hnear := e_near (us := us) ha hb hy
  have hz := zX2_isNear w a b y
  have hord := e_order ha hb
  have tot : ¬ fX2_rank w b ≤ fX2_rank w a → ¬ fX2_rank w a = fX2_rank w b ∧ fX2_rank w a ≤ fX2_rank w b ∧ fX2_rank w a < fX2_rank w b := by
    intro h
    rw [un_le_iff] at h
    refine ⟨fun q => h (by rw [q]; omega), ?_, ?_⟩
    · rw [un_le_iff]
      omega
    · rw [un_lt_iff]
      omega
  have tot2 : fX2_rank w b ≤ fX2_rank w a → ¬ fX2_rank w a = fX2_rank w b → ¬ fX2_rank w a ≤ fX2_rank w b ∧ fX2_rank w b < fX2_rank w a ∧ ¬ fX2_rank w a < fX2_rank w b := by
    intro h g
    rw [un_le_iff] at h
    rw [ml_eq] at g
    refine ⟨?_, ?_, ?_⟩
    · rw [un_le_iff]
      omega
    · rw [un_lt_iff]
      omega
    · rw [un_lt_iff]
      omega
  have tot3 : fX2_rank w a = fX2_rank w b → fX2_rank w b ≤ fX2_rank w a ∧ fX2_rank w a ≤ fX2_rank w b ∧ ¬ fX2_rank w b < fX2_rank w a ∧ ¬ fX2_rank w a < fX2_rank w b := by
    intro h
    rw [h, un_le_iff, un_lt_iff]
    omega
  have tot4 : ¬ fX2_rank w b ≤ fX2_rank w a → ¬ fX2_rank w b < fX2_rank w a := by
    intro h
    rw [un_le_iff] at h
    rw [un_lt_iff]
    omega
  unfold fX2_holds fX2_holds_21 fX2_holds_22 fX5_holds fX5_holds_25
  rw [← hnear, dq_isNan ha, dq_isNan hb, dq_isInf ha, hord]
  rcases hk3 with q | q | q | q | q | q | q | q
  · have hx : x1 = (0 : Int32) := mi_eq.mpr (by rw [q]; decide)
    subst hx
    simp (decide := true) only [if_true, if_false]
    rcases hz with r | r <;> rw [r] <;> simp (decide := true) only [if_true, if_false] <;> split <;> first | rfl | (split <;> rfl)
  · have hx : x1 = (1 : Int32) := mi_eq.mpr (by rw [q]; decide)
    subst hx
    simp (decide := true) only [if_true, if_false]
    rcases hz with r | r <;> rw [r] <;> simp (decide := true) only [if_true, if_false] <;> split <;> first | rfl | (split <;> rfl)
  · have hx : x1 = (2 : Int32) := mi_eq.mpr (by rw [q]; decide)
    subst hx
    simp (decide := true) only [if_true, if_false]
    by_cases na : fX2_isNan w a = 0
    · by_cases nb' : fX2_isNan w b = 0
      · simp only [na, nb', if_true]
        by_cases h : fX2_rank w b ≤ fX2_rank w a
        · by_cases g : fX2_rank w a = fX2_rank w b
          · simp (decide := true) only [h, if_true, if_false]
            rw [if_pos g]
            rfl
          · simp (decide := true) only [h, g, if_true, if_false]
        · simp (decide := true) only [h, if_true, if_false]
      · simp only [na, nb', if_true, if_false]
    · simp only [na, if_false]
  · have hx : x1 = (3 : Int32) := mi_eq.mpr (by rw [q]; decide)
    subst hx
    simp (decide := true) only [if_true, if_false]
    by_cases na : fX2_isNan w a = 0
    · by_cases nb' : fX2_isNan w b = 0
      · simp only [na, nb', if_true]
        by_cases h : fX2_rank w b ≤ fX2_rank w a
        · by_cases g : fX2_rank w a = fX2_rank w b
          · have := tot3 g
            simp (decide := true) only [this.2.2.1, h, if_true, if_false]
            rw [if_pos g]
            rfl
          · have := tot2 h g
            simp (decide := true) only [this.2.1, h, g, if_true, if_false]
        · have := tot4 h
          simp (decide := true) only [this, h, if_true, if_false]
      · simp only [na, nb', if_true, if_false]
    · simp only [na, if_false]
  · have hx : x1 = (4 : Int32) := mi_eq.mpr (by rw [q]; decide)
    subst hx
    simp (decide := true) only [if_true, if_false]
    by_cases na : fX2_isNan w a = 0
    · by_cases nb' : fX2_isNan w b = 0
      · simp only [na, nb', if_true]
        by_cases h : fX2_rank w b ≤ fX2_rank w a
        · by_cases g : fX2_rank w a = fX2_rank w b
          · have := tot3 g
            simp (decide := true) only [this.2.1, h, if_true, if_false]
            rw [if_pos g]
            rfl
          · have := tot2 h g
            simp (decide := true) only [this.1, h, g, if_true, if_false]
        · have := tot h
          simp (decide := true) only [this.2.1, h, if_true, if_false]
      · simp only [na, nb', if_true, if_false]
    · simp only [na, if_false]
  · have hx : x1 = (5 : Int32) := mi_eq.mpr (by rw [q]; decide)
    subst hx
    simp (decide := true) only [if_true, if_false]
    by_cases na : fX2_isNan w a = 0
    · by_cases nb' : fX2_isNan w b = 0
      · simp only [na, nb', if_true]
        by_cases h : fX2_rank w b ≤ fX2_rank w a
        · by_cases g : fX2_rank w a = fX2_rank w b
          · have := tot3 g
            simp (decide := true) only [this.2.2.2, h, if_true, if_false]
            rw [if_pos g]
            rfl
          · have := tot2 h g
            simp (decide := true) only [this.2.2, h, g, if_true, if_false]
        · have := tot h
          simp (decide := true) only [this.2.2, h, if_true, if_false]
      · simp only [na, nb', if_true, if_false]
    · simp only [na, if_false]
  · have hx : x1 = (6 : Int32) := mi_eq.mpr (by rw [q]; decide)
    subst hx
    simp (decide := true) only [if_true, if_false]
    split <;> first | rfl | (split <;> rfl)
  · have hx : x1 = (7 : Int32) := mi_eq.mpr (by rw [q]; decide)
    subst hx
    simp (decide := true) only [if_true, if_false]
    split <;> first | rfl | (split <;> rfl)
