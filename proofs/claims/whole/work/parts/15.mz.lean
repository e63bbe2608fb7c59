theorem nz_one {x : Int32} (h : ji_z x) (q : ¬ x = 0) : x = 1 := by
  rcases h with r | r
  · exact absurd r q
  · exact r
theorem wd_in {k : Int32} (h : vp_in k 16) : ¬ fX3_isWord k = 0 := fun q => (word_v k).mp q h
theorem vp_nat {k : Int32} {n : Nat} (h : vp_in k n) : k.toNatClampNeg < n := by
  rw [vp_in_iff] at h
  show k.toInt.toNat < n
  omega
/-- the words agree, the steps agree -/
def rp (pf : Nat → Int32) (pa : Nat → Nat → Int32) (uf : Nat → Int32) (ua : Nat → Nat → Int32) : Prop :=
  pf 6 = uf 1 ∧ (∀ i : Nat, i < 16 → pa 0 i = ua 0 i) ∧ (∀ i : Nat, (i : Int) < (uf 1).toInt → pa 1 i = ua 2 i ∧ pa 2 i = ua 3 i ∧ pa 3 i = ua 4 i ∧ pa 4 i = ua 5 i ∧ pa 5 i = ua 6 i) ∧ ms_ok (uf 1) ua
theorem rp_word {pf : Nat → Int32} {pa : Nat → Nat → Int32} {uf : Nat → Int32} {ua : Nat → Nat → Int32} (h : rp pf pa uf ua) {k : Int32} (hk : vp_in k 16) : fX3_wordAt pa k = ua 0 k.toNatClampNeg := by
  unfold fX3_wordAt
  rw [if_neg (wd_in hk)]
  exact h.2.1 _ (vp_nat hk)
theorem rp_put {pf : Nat → Int32} {pa : Nat → Nat → Int32} {uf : Nat → Int32} {ua : Nat → Nat → Int32} (h : rp pf pa uf ua) {k v : Int32} (hk : vp_in k 16) : rp pf (fX3_replaced pa k v).2 uf (va_up ua 0 (upd (ua 0) k.toNatClampNeg v)) := by
  unfold fX3_replaced
  rw [if_neg (wd_in hk)]
  refine ⟨h.1, ?_, ?_, h.2.2.2.1, ?_⟩
  · intro i hi
    show upd (pa 0) k.toNatClampNeg v i = upd (ua 0) k.toNatClampNeg v i
    unfold upd
    split
    · rfl
    · exact h.2.1 i hi
  · intro i hi
    exact h.2.2.1 i hi
  · intro i hi
    exact h.2.2.2.2 i hi
theorem e_set {pf : Nat → Int32} {pa : Nat → Nat → Int32} {uf : Nat → Int32} {ua : Nat → Nat → Int32} (h : rp pf pa uf ua) {k v : Int32} (hk : vp_in k 16) : (fX3_replaced pa k v).1 = ua 0 k.toNatClampNeg := by
  unfold fX3_replaced
  rw [if_neg (wd_in hk)]
  exact rp_word h hk
theorem there_v {pf : Nat → Int32} {x n : Int32} (hn : pf 6 = n) (hb : 0 ≤ n.toInt ∧ n.toInt ≤ 40) : fX3_isThere pf x = 0 ↔ ¬ (0 ≤ x.toInt ∧ x.toInt < n.toInt) := by
  unfold fX3_isThere
  rw [hn]
  by_cases c : fX3_isStep x = 0
  · rw [if_pos c]
    rw [step_v, vp_in_iff] at c
    constructor
    · intro _
      omega
    · intro _
      rfl
  · rw [if_neg c]
    have c' : vp_in x 40 := Classical.byContradiction (fun r => c ((step_v _).mpr r))
    rw [vp_in_iff] at c'
    by_cases d : n ≤ x
    · rw [if_pos d]
      rw [mi_le] at d
      constructor
      · intro _
        omega
      · intro _
        rfl
    · rw [if_neg d]
      rw [mi_le] at d
      constructor
      · intro q
        exact absurd q (by decide)
      · intro q
        exact absurd ⟨by omega, by omega⟩ q
theorem e_step {pf : Nat → Int32} {pa : Nat → Nat → Int32} {uf : Nat → Int32} {ua : Nat → Nat → Int32} (h : rp pf pa uf ua) (c t x y z : Int32) :
    (fX4_step pf pa c t x y z).1 = (fX5_step uf ua c t x y z).1 ∧ rp (fX4_step pf pa c t x y z).2.1 (fX4_step pf pa c t x y z).2.2 (fX5_step uf ua c t x y z).2.1 (fX5_step uf ua c t x y z).2.2 ∧ (∀ k, k ≠ 6 → (fX4_step pf pa c t x y z).2.1 k = pf k) ∧ (∀ k, k ≠ 1 → (fX5_step uf ua c t x y z).2.1 k = uf k) ∧ (∀ k, 7 ≤ k → (fX5_step uf ua c t x y z).2.2 k = ua k) := by
  have e40 : (40 : Int32).toInt = 40 := by decide
  have e1 : (1 : Int32).toInt = 1 := by decide
  rw [e_fits]
  unfold fX4_step fX5_step_204
  by_cases hf : fX3_fits c t x y z = 0
  · rw [if_pos hf, if_pos hf]
    exact ⟨rfl, h, fun _ _ => rfl, fun _ _ => rfl, fun _ _ => rfl⟩
  · rw [if_neg hf, if_neg hf]
    have hst := fits_ok hf
    obtain ⟨h1, h2, h3, ⟨h4, h4'⟩, h5⟩ := h
    unfold fX3_add
    have hiff : fX3_isStep (pf 6) = 0 ↔ uf 1 = 40 := by
      rw [h1, step_v, vp_in_iff, mi_eq, e40]
      omega
    by_cases c4 : uf 1 = 40
    · rw [if_pos (hiff.mpr c4), if_pos c4]
      exact ⟨rfl, ⟨h1, h2, h3, ⟨h4, h4'⟩, h5⟩, fun _ _ => rfl, fun _ _ => rfl, fun _ _ => rfl⟩
    · rw [if_neg (fun q => c4 (hiff.mp q)), if_neg c4, h1]
      have c4' : (uf 1).toInt ≠ 40 := fun q => c4 (mi_eq.mpr (by rw [q, e40]))
      have hinc : (uf 1 + (1 : Int32)).toInt = (uf 1).toInt + 1 := by rw [mi_add (by omega) (by omega), e1]
      have hcl : ((uf 1).toNatClampNeg : Int) = (uf 1).toInt := by
        show ((uf 1).toInt.toNat : Int) = _
        omega
      refine ⟨rfl, ⟨rfl, ?_, ?_, ?_, ?_⟩, ?_, ?_, ?_⟩
      · intro i hi
        exact h2 i hi
      · intro i hi
        have hi' : (i : Int) < (uf 1 + (1 : Int32)).toInt := hi
        show upd (pa 1) (uf 1).toNatClampNeg c i = upd (ua 2) (uf 1).toNatClampNeg c i ∧ upd (pa 2) (uf 1).toNatClampNeg t i = upd (ua 3) (uf 1).toNatClampNeg t i ∧ upd (pa 3) (uf 1).toNatClampNeg x i = upd (ua 4) (uf 1).toNatClampNeg x i ∧ upd (pa 4) (uf 1).toNatClampNeg y i = upd (ua 5) (uf 1).toNatClampNeg y i ∧ upd (pa 5) (uf 1).toNatClampNeg z i = upd (ua 6) (uf 1).toNatClampNeg z i
        unfold upd
        by_cases q : i = (uf 1).toNatClampNeg
        · rw [if_pos q, if_pos q, if_pos q, if_pos q, if_pos q, if_pos q, if_pos q, if_pos q, if_pos q, if_pos q]
          exact ⟨rfl, rfl, rfl, rfl, rfl⟩
        · simp only [if_neg q]
          exact h3 i (by omega)
      · show 0 ≤ (uf 1 + (1 : Int32)).toInt ∧ (uf 1 + (1 : Int32)).toInt ≤ 40
        omega
      · intro i hi
        have hi' : (i : Int) < (uf 1 + (1 : Int32)).toInt := hi
        show st_ok (upd (ua 2) (uf 1).toNatClampNeg c i) (upd (ua 3) (uf 1).toNatClampNeg t i) (upd (ua 4) (uf 1).toNatClampNeg x i) (upd (ua 5) (uf 1).toNatClampNeg y i) (upd (ua 6) (uf 1).toNatClampNeg z i)
        unfold upd
        by_cases q : i = (uf 1).toNatClampNeg
        · simp only [if_pos q]
          exact hst
        · simp only [if_neg q]
          exact h5 i (by omega)
      · intro k hk
        show va_up pf 6 _ k = pf k
        unfold va_up
        rw [if_neg hk]
      · intro k hk
        show va_up uf 1 _ k = uf k
        unfold va_up
        rw [if_neg hk]
      · intro k hk
        show va_up (va_up (va_up (va_up (va_up ua 2 _) 3 _) 4 _) 5 _) 6 _ k = ua k
        unfold va_up
        rw [if_neg (by omega), if_neg (by omega), if_neg (by omega), if_neg (by omega), if_neg (by omega)]
/-- where a program goes on, in the class and in the reference -/
def pr (n x y : Int32) : Prop := (0 ≤ x.toInt ∧ x.toInt < n.toInt ∧ y = x) ∨ (¬ (0 ≤ x.toInt ∧ x.toInt < n.toInt) ∧ y = -109)
def nrm (n y : Int32) : Int32 := if y < n then y else -109
theorem e_follow {pf : Nat → Int32} {pa : Nat → Nat → Int32} {uf : Nat → Int32} {ua : Nat → Nat → Int32} {us : Nat → Int64} (h : rp pf pa uf ua) {x : Int32} (hx : 0 ≤ x.toInt ∧ x.toInt < (uf 1).toInt) :
    rp pf (fX3_follow pf pa x).2 uf (fX5_done ua us x).2.1 ∧ pr (uf 1) (fX3_follow pf pa x).1 (nrm (uf 1) (fX5_done ua us x).1) := by
  have e1 : (1 : Int32).toInt = 1 := by decide
  have h40 := h.2.2.2.1
  have hcl : (x.toNatClampNeg : Int) = x.toInt := by
    show (x.toInt.toNat : Int) = _
    omega
  have hi : (x.toNatClampNeg : Int) < (uf 1).toInt := by omega
  obtain ⟨a1, a2, a3, a4, a5⟩ := h.2.2.1 _ hi
  have hst := h.2.2.2.2 _ hi
  have hth : ¬ fX3_isThere pf x = 0 := fun q => (there_v h.1 h40).mp q hx
  have hx1 : (x + (1 : Int32)).toInt = x.toInt + 1 := by rw [mi_add (by omega) (by omega), e1]
  have m109 : (-109 : Int32).toInt = -109 := by decide
  have m1 : (-1 : Int32).toInt = -1 := by decide
  have prS : pr (uf 1) (x + (1 : Int32)) (nrm (uf 1) (x + (1 : Int32))) := by
    unfold pr nrm
    by_cases c : x + (1 : Int32) < uf 1
    · rw [if_pos c]
      rw [mi_lt] at c
      exact Or.inl ⟨by omega, by omega, rfl⟩
    · rw [if_neg c]
      rw [mi_lt] at c
      exact Or.inr ⟨by omega, rfl⟩
  have prT : ∀ {t : Int32}, vp_in t 40 → pr (uf 1) t (nrm (uf 1) t) := by
    intro t ht
    rw [vp_in_iff] at ht
    unfold pr nrm
    by_cases c : t < uf 1
    · rw [if_pos c]
      rw [mi_lt] at c
      exact Or.inl ⟨by omega, by omega, rfl⟩
    · rw [if_neg c]
      rw [mi_lt] at c
      exact Or.inr ⟨by omega, rfl⟩
  have prE : pr (uf 1) (-1) (nrm (uf 1) (-109)) := by
    unfold pr nrm
    rw [if_pos (by rw [mi_lt, m109]; omega)]
    exact Or.inr ⟨by omega, rfl⟩
  unfold fX3_follow fX5_done
  rw [if_neg hth, a1, a2, a3, a4, a5]
  generalize ua 2 x.toNatClampNeg = c at *
  generalize ua 3 x.toNatClampNeg = t at *
  generalize ua 4 x.toNatClampNeg = p at *
  generalize ua 5 x.toNatClampNeg = q at *
  generalize ua 6 x.toNatClampNeg = z at *
  rcases hst with ⟨c1, c2, ht, hp, hq, hz⟩ | ⟨c1, c2, ht, hp, hq, hz⟩ | hc | ⟨hc, ht⟩ | ⟨hc, ht, hp, hq⟩ | ⟨hc, ht⟩
  · have n0 : ¬ fX3_isAct c = 0 := by rw [act_v]; omega
    have n40 : ¬ c = 40 := fun r => by rw [r] at c2; exact absurd c2 (by decide)
    have n41 : ¬ c = 41 := fun r => by rw [r] at c2; exact absurd c2 (by decide)
    have n42 : ¬ c = 42 := fun r => by rw [r] at c2; exact absurd c2 (by decide)
    have n43 : ¬ c = 43 := fun r => by rw [r] at c2; exact absurd c2 (by decide)
    have n24 : ¬ (24 : Int32) ≤ c := by
      rw [mi_le]
      have : (24 : Int32).toInt = 24 := by decide
      omega
    rw [if_neg n0, if_neg n40, if_neg n43, if_neg n41, if_neg n42, if_neg n24]
    refine ⟨?_, prS⟩
    have he : (fX2_acted false c (fX3_read pa p) (fX3_read pa q) (fX3_read pa z)).toInt32 = (fX5_single us c (ua 0 p.toNatClampNeg) (ua 0 q.toNatClampNeg) (ua 0 z.toNatClampNeg)).1 := by
      rw [← e_act (by omega)]
      unfold fX4_act fX3_read
      rw [rp_word h hp, rp_word h hq, rp_word h hz]
    rw [he]
    exact rp_put h ht
  · have n0 : fX3_isAct c = 0 := by rw [act_v]; omega
    have n1 : ¬ fX3_isJump c = 0 := by rw [jump_v]; omega
    have n40 : ¬ c = 40 := fun r => by rw [r] at c2; exact absurd c2 (by decide)
    have n41 : ¬ c = 41 := fun r => by rw [r] at c2; exact absurd c2 (by decide)
    have n42 : ¬ c = 42 := fun r => by rw [r] at c2; exact absurd c2 (by decide)
    have n43 : ¬ c = 43 := fun r => by rw [r] at c2; exact absurd c2 (by decide)
    have n24 : (24 : Int32) ≤ c := by
      rw [mi_le]
      have : (24 : Int32).toInt = 24 := by decide
      omega
    rw [if_pos n0, if_neg n1, if_neg n40, if_neg n43, if_neg n41, if_neg n42, if_pos n24]
    have e30 : (30 : Int32).toInt = 30 := by decide
    have hc30 : (c - (30 : Int32)).toInt = c.toInt - 30 := by rw [mi_sub (by omega) (by omega), e30]
    have he : fX2_holds false (c - (30 : Int32)) (fX3_read pa p) (fX3_read pa q) (fX3_read pa z) = (fX5_holds us (c - (30 : Int32)) (fX5_bits (ua 0 p.toNatClampNeg)) (fX5_bits (ua 0 q.toNatClampNeg)) (fX5_bits (ua 0 z.toNatClampNeg)) (0 : Int32)).1 := by
      unfold fX3_read
      rw [rp_word h hp, rp_word h hq, rp_word h hz]
      exact e_holds (w := false) (by omega) (bits_ok _) (bits_ok _) (bits_ok _)
    rw [he]
    by_cases cz : (fX5_holds us (c - (30 : Int32)) (fX5_bits (ua 0 p.toNatClampNeg)) (fX5_bits (ua 0 q.toNatClampNeg)) (fX5_bits (ua 0 z.toNatClampNeg)) (0 : Int32)).1 = 0
    · rw [if_pos cz, if_pos cz]
      exact ⟨h, prS⟩
    · rw [if_neg cz, if_neg cz]
      exact ⟨h, prT ht⟩
  · subst hc
    rw [if_pos (show fX3_isAct 40 = 0 by decide), if_pos (show fX3_isJump 40 = 0 by decide), if_neg (show ¬ (40 : Int32) = 41 by decide), if_neg (show ¬ (40 : Int32) = 42 by decide), if_neg (show ¬ (40 : Int32) = 43 by decide), if_pos (show (40 : Int32) = 40 from rfl)]
    exact ⟨h, prE⟩
  · subst hc
    rw [if_pos (show fX3_isAct 41 = 0 by decide), if_pos (show fX3_isJump 41 = 0 by decide), if_pos (show (41 : Int32) = 41 from rfl), if_neg (show ¬ (41 : Int32) = 40 by decide), if_neg (show ¬ (41 : Int32) = 43 by decide), if_pos (show (41 : Int32) = 41 from rfl)]
    exact ⟨rp_put h ht, prS⟩
  · subst hc
    rw [if_pos (show fX3_isAct 42 = 0 by decide), if_pos (show fX3_isJump 42 = 0 by decide), if_neg (show ¬ (42 : Int32) = 41 by decide), if_pos (show (42 : Int32) = 42 from rfl), if_neg (show ¬ (42 : Int32) = 40 by decide), if_neg (show ¬ (42 : Int32) = 43 by decide), if_neg (show ¬ (42 : Int32) = 41 by decide), if_pos (show (42 : Int32) = 42 from rfl)]
    rw [rp_word h hp, rp_word h hq]
    exact ⟨rp_put h ht, prS⟩
  · subst hc
    rw [if_pos (show fX3_isAct 43 = 0 by decide), if_pos (show fX3_isJump 43 = 0 by decide), if_neg (show ¬ (43 : Int32) = 41 by decide), if_neg (show ¬ (43 : Int32) = 42 by decide), if_pos (show (43 : Int32) = 43 from rfl), if_neg (show ¬ (43 : Int32) = 40 by decide), if_pos (show (43 : Int32) = 43 from rfl)]
    exact ⟨h, prT ht⟩
theorem run_loop {pf : Nat → Int32} {uf : Nat → Int32} {x2 : Int32} (h2 : 1 ≤ x2.toInt ∧ x2.toInt ≤ 2000) : ∀ (n : Nat) (pa : Nat → Nat → Int32) (ua : Nat → Nat → Int32) (us : Nat → Int64) (x y k : Int32), (x2.toInt - k.toInt).toNat < n → 0 ≤ k.toInt → rp pf pa uf ua → pr (uf 1) x y →
    (gX4_run_27 pf x2 n pa x k).2.2 = (gX5_run_42 uf x2 n ua us y k).2.2.2 ∧ rp pf (gX4_run_27 pf x2 n pa x k).1 uf (gX5_run_42 uf x2 n ua us y k).1 ∧ pr (uf 1) (gX4_run_27 pf x2 n pa x k).2.1 (gX5_run_42 uf x2 n ua us y k).2.2.1 := by
  have e0 : (0 : Int32).toInt = 0 := by decide
  have e1 : (1 : Int32).toInt = 1 := by decide
  have m109 : (-109 : Int32).toInt = -109 := by decide
  intro n
  induction n with
  | zero => intro pa ua us x y k h; omega
  | succ n ih =>
    intro pa ua us x y k hn hk h hp
    have h40 := h.2.2.2.1
    rw [gX4_run_27, gX5_run_42]
    have hth := there_v (x := x) h.1 h40
    rcases hp with ⟨p1, p2, rfl⟩ | ⟨p1, rfl⟩
    · have hy : ¬ y < 0 := by rw [mi_lt, e0]; omega
      rw [if_neg hy]
      by_cases c : x2 ≤ k
      · rw [if_pos c, if_pos c]
        exact ⟨rfl, h, Or.inl ⟨p1, p2, rfl⟩⟩
      · rw [if_neg c, if_neg c, if_neg (fun q => hth.mp q ⟨p1, p2⟩)]
        rw [mi_le] at c
        have hk1 : (k + 1).toInt = k.toInt + 1 := by rw [mi_add (by omega) (by omega), e1]
        obtain ⟨f1, f2⟩ := e_follow (us := us) h ⟨p1, p2⟩
        have e : (if (fX5_done ua us y).1 < uf 1 then gX5_run_42 uf x2 n (fX5_done ua us y).2.1 (fX5_done ua us y).2.2 (fX5_done ua us y).1 (k + 1) else gX5_run_42 uf x2 n (fX5_done ua us y).2.1 (fX5_done ua us y).2.2 (-109 : Int32) (k + 1)) = gX5_run_42 uf x2 n (fX5_done ua us y).2.1 (fX5_done ua us y).2.2 (nrm (uf 1) (fX5_done ua us y).1) (k + 1) := by
          unfold nrm
          split <;> rfl
        rw [e]
        exact ih _ _ _ _ _ (k + 1) (by omega) (by omega) f1 f2
    · have hy : (-109 : Int32) < 0 := by decide
      rw [if_pos hy]
      by_cases c : x2 ≤ k
      · rw [if_pos c]
        exact ⟨rfl, h, Or.inr ⟨p1, rfl⟩⟩
      · rw [if_neg c, if_pos (hth.mpr p1)]
        exact ⟨rfl, h, Or.inr ⟨p1, rfl⟩⟩
theorem e_run {pf : Nat → Int32} {pa : Nat → Nat → Int32} {uf : Nat → Int32} {ua : Nat → Nat → Int32} {us : Nat → Int64} (h : rp pf pa uf ua) (h7 : pf 7 = uf 7) (x1 x2 : Int32) :
    (fX4_run pf pa x1 x2).1 = (fX5_run uf ua us x1 x2).1 ∧ rp (fX4_run pf pa x1 x2).2.1 (fX4_run pf pa x1 x2).2.2 (fX5_run uf ua us x1 x2).2.1 (fX5_run uf ua us x1 x2).2.2.1 ∧ (fX4_run pf pa x1 x2).2.1 7 = (fX5_run uf ua us x1 x2).2.1 7 ∧ (∀ k, k ≠ 7 → (fX5_run uf ua us x1 x2).2.1 k = uf k) ∧ (∀ k, k ≠ 0 → (fX5_run uf ua us x1 x2).2.2.1 k = ua k) := by
  have e0 : (0 : Int32).toInt = 0 := by decide
  have e1 : (1 : Int32).toInt = 1 := by decide
  have e2000 : (2000 : Int32).toInt = 2000 := by decide
  have h40 := h.2.2.2.1
  unfold fX4_run fX5_run
  rw [in_step]
  by_cases cs : fX3_isStep x1 = 0
  · rw [if_pos cs, if_pos cs]
    exact ⟨rfl, h, h7, fun _ _ => rfl, fun _ _ => rfl⟩
  · rw [if_neg cs, if_neg cs]
    have hin := in_v (x := x2) (a := 1) (b := 2000)
    by_cases c1 : x2 < (1 : Int32)
    · rw [if_pos c1, if_pos (hin.mpr (by rw [mi_lt] at c1; omega))]
      exact ⟨rfl, h, h7, fun _ _ => rfl, fun _ _ => rfl⟩
    · rw [if_neg c1]
      by_cases c2 : x2 ≤ (2000 : Int32)
      · rw [if_pos c2, if_neg (fun q => hin.mp q (by rw [mi_lt] at c1; rw [mi_le] at c2; omega))]
        rw [mi_lt] at c1
        rw [mi_le] at c2
        have hs : vp_in x1 40 := Classical.byContradiction (fun r => cs ((step_v _).mpr r))
        rw [vp_in_iff] at hs
        have e38 : (if uf 1 ≤ x1 then fX5_run_38 uf ua us x2 (-109 : Int32) else fX5_run_38 uf ua us x2 x1) = fX5_run_38 uf ua us x2 (nrm (uf 1) x1) := by
          unfold nrm
          by_cases q : uf 1 ≤ x1
          · rw [if_pos q, if_neg (by rw [mi_le] at q; rw [mi_lt]; omega)]
          · rw [if_neg q, if_pos (by rw [mi_le] at q; rw [mi_lt]; omega)]
        rw [e38]
        have hp0 : pr (uf 1) x1 (nrm (uf 1) x1) := by
          unfold pr nrm
          by_cases c : x1 < uf 1
          · rw [if_pos c]
            rw [mi_lt] at c
            exact Or.inl ⟨by omega, by omega, rfl⟩
          · rw [if_neg c]
            rw [mi_lt] at c
            exact Or.inr ⟨by omega, rfl⟩
        obtain ⟨r1, r2, r3⟩ := run_loop (by omega) (Nat.succ ((Int32.toInt x2 - Int32.toInt (0 : Int32)).toNat)) pa ua us x1 (nrm (uf 1) x1) 0 (Nat.lt_succ_self _) (by omega) h hp0
        have keep : ∀ (n : Nat) (ua : Nat → Nat → Int32) (us : Nat → Int64) (y k : Int32) (j : Nat), j ≠ 0 → (gX5_run_42 uf x2 n ua us y k).1 j = ua j := by
          intro n
          induction n with
          | zero => intro ua us y k j hj; rfl
          | succ n ih =>
            intro ua us y k j hj
            rw [gX5_run_42]
            split
            · rfl
            · split
              · rfl
              · split
                · rw [ih _ _ _ _ _ hj, md_done_k hj]
                · rw [ih _ _ _ _ _ hj, md_done_k hj]
        unfold fX4_run_59 fX5_run_38 fX5_run_79 fX3_restAt
        dsimp only
        have kk := keep (Nat.succ ((Int32.toInt x2 - Int32.toInt (0 : Int32)).toNat)) ua us (nrm (uf 1) x1) 0
        generalize gX4_run_27 pf x2 (Nat.succ ((Int32.toInt x2 - Int32.toInt (0 : Int32)).toNat)) pa x1 0 = G4 at *
        generalize gX5_run_42 uf x2 (Nat.succ ((Int32.toInt x2 - Int32.toInt (0 : Int32)).toNat)) ua us (nrm (uf 1) x1) 0 = G5 at *
        have hth := there_v (x := G4.2.1) r2.1 r2.2.2.2.1
        have e7 : (if fX3_isThere pf G4.2.1 = 0 then va_up pf 7 (-109 : Int32) else va_up pf 7 G4.2.1) = va_up pf 7 G5.2.2.1 := by
          rcases r3 with ⟨p1, p2, p3⟩ | ⟨p1, p2⟩
          · rw [if_neg (fun q => hth.mp q ⟨p1, p2⟩), p3]
          · rw [if_pos (hth.mpr p1), p2]
        rw [e7]
        refine ⟨r1, ⟨r2.1, r2.2.1, r2.2.2.1, r2.2.2.2⟩, rfl, ?_, fun k hk => kk k hk⟩
        intro k hk
        unfold va_up
        rw [if_neg hk]
      · rw [if_neg c2, if_pos (hin.mpr (by rw [mi_le] at c2; omega))]
        exact ⟨rfl, h, h7, fun _ _ => rfl, fun _ _ => rfl⟩
