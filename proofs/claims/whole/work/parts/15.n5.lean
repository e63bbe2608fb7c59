/-- both outputs are one -/
def orl (df : Nat → Int32) (da : Nat → Nat → Int32) (uf : Nat → Int32) (ua : Nat → Nat → Int32) (o : Nat) : Prop := df 1 = uf 11 ∧ (uf 11).toInt = o ∧ o ≤ 81 ∧ ∀ i : Nat, i < o → da 0 i = ua 10 i
theorem orl_put {df : Nat → Int32} {da : Nat → Nat → Int32} {uf : Nat → Int32} {ua : Nat → Nat → Int32} {o : Nat} (h : orl df da uf ua o) (ho : o < 81) (c : Int32) : orl (fX1_put df da c).1 (fX1_put df da c).2 (fX5_put uf ua c).1 (fX5_put uf ua c).2 (o + 1) := by
  obtain ⟨h1, h2, h3, h4⟩ := h
  have hd : (df 1).toInt = o := by rw [h1]; exact h2
  have hcl : (uf 11).toNatClampNeg = o := by
    show (uf 11).toInt.toNat = o
    omega
  rw [cput_v hd ho]
  refine ⟨?_, ?_, by omega, ?_⟩
  · show df 1 + (1 : Int32) = uf 11 + (1 : Int32)
    rw [h1]
  · exact put_n h2 (by omega)
  · intro i hi
    rw [put10, hcl]
    show upd (da 0) o (ji_byte (ji_byte c)) i = _
    unfold upd
    by_cases q : i = o
    · rw [if_pos q, if_pos q]
    · rw [if_neg q, if_neg q]
      exact h4 i (by omega)
theorem orl_three {df : Nat → Int32} {da : Nat → Nat → Int32} {uf : Nat → Int32} {ua : Nat → Nat → Int32} {o : Nat} (h : orl df da uf ua o) (ho : o + 3 ≤ 81) (a b c : Int32) : orl (fX1_putThree df da a b c).1 (fX1_putThree df da a b c).2 (fX5_putName uf ua a b c).1 (fX5_putName uf ua a b c).2 (o + 3) := by
  unfold fX1_putThree fX5_putName
  exact orl_put (orl_put (orl_put h (by omega) a) (by omega) b) (by omega) c
theorem name_k {uf : Nat → Int32} {ua : Nat → Nat → Int32} {a b c : Int32} : (∀ k, k ≠ 11 → (fX5_putName uf ua a b c).1 k = uf k) ∧ (∀ k, k ≠ 10 → (fX5_putName uf ua a b c).2 k = ua k) := by
  unfold fX5_putName
  constructor
  · intro k hk
    show (fX5_put _ _ _).1 k = _
    rw [putK hk, putK hk, putK hk]
  · intro k hk
    show (fX5_put _ _ _).2 k = _
    rw [putA hk, putA hk, putA hk]
theorem orl_zero (df : Nat → Int32) (da : Nat → Nat → Int32) (uf : Nat → Int32) (ua : Nat → Nat → Int32) : orl (va_up df 1 (0 : Int32)) da (va_up uf 11 (0 : Int32)) ua 0 := ⟨rfl, by show (0 : Int32).toInt = _; decide, by decide, fun i hi => by omega⟩
theorem orl_whole {df : Nat → Int32} {da : Nat → Nat → Int32} {ds : Nat → Int64} {uf : Nat → Int32} {ua : Nat → Nat → Int32} {o : Nat} {m : Int64} {e : Int32} (h : orl df da uf ua o) (ho : o ≤ 1) (hz : pw_ok m e) (hp : prt ds) (hv : hv5 ds 5 = wpart (un m) e.toInt) :
    ∃ k, k ≤ 39 ∧ orl (fX1_putWhole df da ds).1 (fX1_putWhole df da ds).2.1 (fX5_putWhole uf ua m e).1 (fX5_putWhole uf ua m e).2 (o + k) ∧ (∀ i, i < 5 → (fX1_putWhole df da ds).2.2 i = ds i) ∧ prt (fX1_putWhole df da ds).2.2 ∧ (∀ k, k ≠ 11 → k ≠ 13 → (fX5_putWhole uf ua m e).1 k = uf k) ∧ (∀ k, k ≠ 10 → k ≠ 12 → (fX5_putWhole uf ua m e).2 k = ua k) := by
  obtain ⟨h1, h2, h3, h4⟩ := h
  have hW := wp_39 hz.1 hz.2.2
  obtain ⟨k, a1, a2, a3, a4, a5, a6⟩ := cWhole_v (df := df) (da := da) hp hv hW (by rw [h1]; exact h2) ho
  obtain ⟨k', b1, b2, b3, b4, b5, b6⟩ := putWhole_v (uf := uf) (ua := ua) hz h2 (by omega)
  have hkk := dk_uniq a1 b1
  subst hkk
  have hk : k ≤ 39 := by
    rcases a1.2.2 with q | q
    · omega
    · have := (Nat.pow_lt_pow_iff_right (a := 10) (by decide)).mp (Nat.lt_of_le_of_lt q hW)
      omega
  refine ⟨k, hk, ⟨?_, b2, by omega, ?_⟩, a5, a6, b5, b6⟩
  · rw [mi_eq, a2, b2]
  · intro i hi
    by_cases q : i < o
    · rw [a4 i q, b4 i q]
      exact h4 i q
    · have r1 := a3 (i - o) (by omega)
      have r2 := b3 (i - o) (by omega)
      rw [show o + (i - o) = i from by omega] at r1 r2
      rw [mi_eq, r1, r2]
theorem pl_loop {p : Int32} (hp : 0 ≤ p.toInt ∧ p.toInt ≤ 40) : ∀ (n : Nat) (df : Nat → Int32) (da : Nat → Nat → Int32) (ds : Nat → Int64) (uf : Nat → Int32) (ua : Nat → Nat → Int32) (x : Int32) (k o : Nat), x.toInt = k → (p.toInt - k).toNat < n → (k : Int) ≤ p.toInt → (o : Int) + (p.toInt - k) ≤ 81 → orl df da uf ua o → prt ds → bk (ua 14) → gv (ua 14) 12 = pv ds 5 * 2 ^ 32 →
    (∃ o', orl (gX1_putFraction_2 p n df da ds x).1 (gX1_putFraction_2 p n df da ds x).2.1 (gX5_print_124 p n uf ua x).1 (gX5_print_124 p n uf ua x).2.1 o') ∧ (∀ k, k ≠ 11 → (gX5_print_124 p n uf ua x).1 k = uf k) ∧ (∀ k, k ≠ 10 → k ≠ 14 → (gX5_print_124 p n uf ua x).2.1 k = ua k) := by
  have e1 : (1 : Int32).toInt = 1 := by decide
  intro n
  induction n with
  | zero => intro df da ds uf ua x k o _ h; omega
  | succ n ih =>
    intro df da ds uf ua x k o hx hn hk ho h hprt hbk hg
    rw [pf_step, gX5_print_124]
    by_cases c : p ≤ x
    · rw [if_pos c, if_pos c]
      exact ⟨⟨o, h⟩, fun _ _ => rfl, fun _ _ _ => rfl⟩
    · rw [if_neg c, if_neg c]
      rw [mi_le] at c
      obtain ⟨f1, f2, f3, f4⟩ := ff_v hprt
      obtain ⟨d1, d2, d3, d4, d5⟩ := next_v hbk
      rw [hg] at d2 d3
      have hl := pv5_lt hprt
      have hd : (ff ds).1.toInt32 = (fX5_nextDigit ua).1 := by
        rw [mi_eq, mi_of_un (by omega), f2, d2]
        congr 1
        omega
      rw [hd]
      have h' : orl df da uf (fX5_nextDigit ua).2 o := ⟨h.1, h.2.1, h.2.2.1, fun i hi => by rw [d5 10 (by decide)]; exact h.2.2.2 i hi⟩
      have hx1 : (x + 1).toInt = (k + 1 : Nat) := by rw [mi_add (by omega) (by omega), e1]; omega
      have hput := orl_put h' (by omega) ((48 : Int32) + (fX5_nextDigit ua).1)
      have hA14 := @putA uf (fX5_nextDigit ua).2 ((48 : Int32) + (fX5_nextDigit ua).1) 14 (by decide)
      obtain ⟨r1, r2, r3⟩ := ih _ _ (ff ds).2 _ _ (x + 1) (k + 1) (o + 1) hx1 (by omega) (by omega) (by omega) hput f1 (by rw [hA14]; exact d1) (by
        rw [hA14, d3, f3]
        omega)
      refine ⟨r1, ?_, ?_⟩
      · intro j hj
        rw [r2 j hj, putK hj]
      · intro j hj hj2
        rw [r3 j hj hj2, putA hj, d5 j hj2]
theorem print46 {df : Nat → Int32} {da : Nat → Nat → Int32} {ds : Nat → Int64} {uf : Nat → Int32} {ua : Nat → Nat → Int32} {o : Nat} {x : Int64} {p : Int32} (h : orl df da uf ua o) (ho : o ≤ 1) (hx : ok false x) (hn : fX2_isNan false x = 0) (hp : 0 ≤ p.toInt ∧ p.toInt ≤ 40) :
    (fX1_write_46 df da ds x p).1 = (fX5_print_60 uf ua p x).1 ∧ (∃ o', orl (fX1_write_46 df da ds x p).2.1 (fX1_write_46 df da ds x p).2.2.1 (fX5_print_60 uf ua p x).2.1 (fX5_print_60 uf ua p x).2.2 o') ∧ (∀ k, k ≠ 11 → k ≠ 13 → (fX5_print_60 uf ua p x).2.1 k = uf k) ∧ (∀ k, k ≠ 10 → k ≠ 12 → k ≠ 14 → (fX5_print_60 uf ua p x).2.2 k = ua k) := by
  have e0 : (0 : Int32).toInt = (0 : Nat) := by decide
  have x0 : 0 ≤ x.toInt := by
    have := hx rfl
    rw [un_pos (by omega)]
    omega
  have hn5 : fX5_isNan x (0 : Int32) = 0 := by
    have : fX5_isNan x (0 : Int32) = fX2_isNan false x := dq_isNan (w := false) hx
    rw [this]
    exact hn
  have hi5 : fX5_isInfinite x (0 : Int32) = fX2_isInfinite false x := dq_isInf (w := false) hx
  obtain ⟨_, eE, eD, s1, s2⟩ := pr_sc x0 hn5
  unfold fX1_write_46 fX5_print_60
  rw [hi5]
  by_cases ci : fX2_isInfinite false x = 0
  · rw [if_pos ci, if_pos ci]
    have hpw := pr_pw x0 hn5 (by rw [hi5]; exact ci)
    unfold fX5_print_107 fX5_print_147
    rw [eE, eD] at hpw ⊢
    have hm : un (fX2_plain false x) < 2 ^ 24 := hpw.1
    have hsc : (fX2_scale false x).toInt ≤ 104 := hpw.2.2
    obtain ⟨l1, l2⟩ := load_v (us := ds) (m := fX2_plain false x) (e := fX2_scale false x) hm ⟨s1, hsc⟩
    have hF := pv5_lt l1
    have hsp := pv_split (us := fX1_load ds (fX2_plain false x) (fX2_scale false x))
    have hWv : hv5 (fX1_load ds (fX2_plain false x) (fX2_scale false x)) 5 = wpart (un (fX2_plain false x)) (fX2_scale false x).toInt := by
      rw [← wp_eq s1, ← l2, hsp, Nat.add_mul_div_right _ _ (Nat.two_pow_pos 160), Nat.div_eq_of_lt hF, Nat.zero_add]
    have hFv : pv (fX1_load ds (fX2_plain false x) (fX2_scale false x)) 5 = un (fX2_plain false x) * 2 ^ ((fX2_scale false x).toInt + 160).toNat % 2 ^ 160 := by
      rw [← l2, hsp, Nat.add_mul_mod_self_right, Nat.mod_eq_of_lt hF]
    generalize fX1_load ds (fX2_plain false x) (fX2_scale false x) = ls at *
    obtain ⟨k, k1, k2, k3, k4, k5, k6⟩ := orl_whole h ho hpw l1 hWv
    have hF2 : pv (fX1_putWhole df da ls).2.2 5 = pv ls 5 := by
      show 0 + un ((fX1_putWhole df da ls).2.2 0) * 2 ^ 0 + un ((fX1_putWhole df da ls).2.2 1) * 2 ^ 32 + un ((fX1_putWhole df da ls).2.2 2) * 2 ^ 64 + un ((fX1_putWhole df da ls).2.2 3) * 2 ^ 96 + un ((fX1_putWhole df da ls).2.2 4) * 2 ^ 128 = _
      rw [k3 0 (by decide), k3 1 (by decide), k3 2 (by decide), k3 3 (by decide), k3 4 (by decide)]
      rfl
    generalize fX1_putWhole df da ls = CW at *
    generalize fX5_putWhole uf ua (fX2_plain false x) (fX2_scale false x) = RW at *
    by_cases c0 : p ≤ 0
    · rw [if_pos c0, if_pos c0]
      rw [mi_le] at c0
      obtain ⟨y1, y2, y3⟩ := lay_v (ua := RW.2) (m := fX2_plain false x) (e := fX2_scale false x) hm ⟨s1, hsc⟩
      have hgo : gX5_print_124 p (Nat.succ ((Int32.toInt p - Int32.toInt (0 : Int32)).toNat)) RW.1 (fX5_layBehind RW.2 (fX2_plain false x) (fX2_scale false x)) (0 : Int32) = (RW.1, fX5_layBehind RW.2 (fX2_plain false x) (fX2_scale false x), 0) := by
        rw [gX5_print_124, if_pos (by rw [mi_le]; omega)]
      rw [hgo]
      refine ⟨k2.1, ⟨o + k, k2.1, k2.2.1, k2.2.2.1, fun i hi => ?_⟩, k5, ?_⟩
      · show CW.2.1 0 i = fX5_layBehind RW.2 (fX2_plain false x) (fX2_scale false x) 10 i
        rw [y3 10 (by decide)]
        exact k2.2.2.2 i hi
      · intro j j1 j2 j3
        show fX5_layBehind RW.2 (fX2_plain false x) (fX2_scale false x) j = _
        rw [y3 j j3]
        exact k6 j j1 j2
    · rw [if_neg c0, if_neg c0]
      rw [mi_le] at c0
      have hdot := orl_put k2 (by omega) (46 : Int32)
      have hK := fun {j : Nat} => @putK RW.1 RW.2 (46 : Int32) j
      have hA := fun {j : Nat} => @putA RW.1 RW.2 (46 : Int32) j
      generalize fX5_put RW.1 RW.2 (46 : Int32) = RD at *
      generalize fX1_put CW.1 CW.2.1 (46 : Int32) = CD at *
      obtain ⟨y1, y2, y3⟩ := lay_v (ua := RD.2) (m := fX2_plain false x) (e := fX2_scale false x) hm ⟨s1, hsc⟩
      have hor : orl CD.1 CD.2 RD.1 (fX5_layBehind RD.2 (fX2_plain false x) (fX2_scale false x)) (o + k + 1) := ⟨hdot.1, hdot.2.1, hdot.2.2.1, fun i hi => by rw [y3 10 (by decide)]; exact hdot.2.2.2 i hi⟩
      obtain ⟨⟨o', z1⟩, z2, z3⟩ := pl_loop hp (Nat.succ ((Int32.toInt p - Int32.toInt (0 : Int32)).toNat)) CD.1 CD.2 CW.2.2 RD.1 (fX5_layBehind RD.2 (fX2_plain false x) (fX2_scale false x)) (0 : Int32) 0 (o + k + 1) e0 (by rw [e0]; omega) (by omega) (by omega) hor k4 y1 (by rw [y2, hF2, hFv])
      unfold fX1_putFraction fX1_putFraction_73
      dsimp only
      refine ⟨z1.1, ⟨o', z1⟩, ?_, ?_⟩
      · intro j j1 j2
        rw [z2 j j1, hK j1]
        exact k5 j j1 j2
      · intro j j1 j2 j3
        rw [z3 j j1 j3, y3 j j3, hA j1]
        exact k6 j j1 j2
  · rw [if_neg ci, if_neg ci]
    have ht := orl_three h (by omega) (105 : Int32) (110 : Int32) (102 : Int32)
    refine ⟨ht.1, ⟨o + 3, ht⟩, fun k k1 _ => name_k.1 k k1, fun k k1 _ _ => name_k.2 k k1⟩
theorem e_print {df : Nat → Int32} {da : Nat → Nat → Int32} {ds : Nat → Int64} {uf : Nat → Int32} {ua : Nat → Nat → Int32} {o : Nat} (h : orl df da uf ua o) (a p : Int32) :
    (fX4_print df da ds a p).1 = (fX5_print uf ua a p).1 ∧ (∃ o', orl (fX4_print df da ds a p).2.1 (fX4_print df da ds a p).2.2.1 (fX5_print uf ua a p).2.1 (fX5_print uf ua a p).2.2 o') ∧ (∀ k, k ≠ 11 → k ≠ 13 → (fX5_print uf ua a p).2.1 k = uf k) ∧ (∀ k, k ≠ 10 → k ≠ 12 → k ≠ 14 → (fX5_print uf ua a p).2.2 k = ua k) := by
  have e0 : (0 : Int32).toInt = 0 := by decide
  have e40 : (40 : Int32).toInt = 40 := by decide
  have hin := in_v (x := p) (a := 0) (b := 40)
  have hx := bits_ok a
  have hN : fX5_isNan (fX5_bits a) (0 : Int32) = fX2_isNan false (fX5_bits a) := dq_isNan (w := false) hx
  have hG : fX5_isNegative (fX5_bits a) (0 : Int32) = fX2_isNegative false (fX5_bits a) := dq_isNeg false (fX5_bits a)
  have up11 : ∀ {v : Int32} {k : Nat}, k ≠ 11 → va_up uf 11 v k = uf k := by
    intro v k hk
    unfold va_up
    rw [if_neg hk]
  unfold fX4_print fX5_print
  by_cases c1 : p < 0
  · rw [if_pos c1, if_pos (hin.mpr (by rw [mi_lt] at c1; omega))]
    exact ⟨rfl, ⟨o, h⟩, fun _ _ _ => rfl, fun _ _ _ _ => rfl⟩
  · rw [if_neg c1]
    by_cases c2 : p ≤ (40 : Int32)
    · rw [if_pos c2, if_neg (fun q => hin.mp q (by rw [mi_lt] at c1; rw [mi_le] at c2; omega))]
      have hp : 0 ≤ p.toInt ∧ p.toInt ≤ 40 := by
        rw [mi_lt] at c1
        rw [mi_le] at c2
        omega
      have hb : (a.toInt64 &&& (4294967295 : Int64)) = fX5_bits a := rfl
      rw [hb, hN, hG]
      unfold fX1_write
      have hz := orl_zero df da uf ua
      by_cases cn : fX2_isNan false (fX5_bits a) = 0
      · rw [if_pos cn, if_pos cn]
        by_cases cg : fX2_isNegative false (fX5_bits a) = 0
        · rw [if_pos cg, if_pos cg]
          obtain ⟨r1, r2, r3, r4⟩ := print46 (ds := ds) hz (by decide) hx cn hp
          exact ⟨r1, r2, fun k k1 k2 => by rw [r3 k k1 k2, up11 k1], r4⟩
        · rw [if_neg cg, if_neg cg]
          have hm := orl_put hz (by decide) (45 : Int32)
          obtain ⟨r1, r2, r3, r4⟩ := print46 (ds := ds) hm (by decide) hx cn hp
          exact ⟨r1, r2, fun k k1 k2 => by rw [r3 k k1 k2, putK k1, up11 k1], fun k k1 k2 k3 => by rw [r4 k k1 k2 k3, putA k1]⟩
      · rw [if_neg cn, if_neg cn]
        have ht := orl_three hz (by decide) (110 : Int32) (97 : Int32) (110 : Int32)
        exact ⟨ht.1, ⟨0 + 3, ht⟩, fun k k1 _ => by rw [name_k.1 k k1, up11 k1], fun k k1 _ _ => name_k.2 k k1⟩
    · rw [if_neg c2, if_pos (hin.mpr (by rw [mi_le] at c2; omega))]
      exact ⟨rfl, ⟨o, h⟩, fun _ _ _ => rfl, fun _ _ _ _ => rfl⟩
