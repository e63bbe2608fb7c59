def gX5_putWhole_17 (x1 : Int64) (x3 : Int32) : Nat → (Nat → Int32) → (Nat → Nat → Int32) → Int32 → (Nat → Int32) × (Nat → Nat → Int32) × Int32
  | 0, uf, ua, x5 => (uf, ua, x5)
  | n + 1, uf, ua, x5 =>
  if x5 < 0 then (uf, ua, x5)
  else if x5 < (-x3) then (uf, ua, x5)
    else gX5_putWhole_17 x1 x3 n ((fX5_twice uf ua (((jl_ushr x1 x5) &&& (1 : Int64)).toInt32)).1) ((fX5_twice uf ua (((jl_ushr x1 x5) &&& (1 : Int64)).toInt32)).2) (x5 + (-1))
def gX5_putWhole_49 (x3 : Int32) : Nat → (Nat → Int32) → (Nat → Nat → Int32) → Int32 → (Nat → Int32) × (Nat → Nat → Int32) × Int32
  | 0, uf, ua, x5 => (uf, ua, x5)
  | n + 1, uf, ua, x5 =>
  if x3 ≤ x5 then (uf, ua, x5)
  else gX5_putWhole_49 x3 n ((fX5_twice uf ua (0 : Int32)).1) ((fX5_twice uf ua (0 : Int32)).2) (x5 + 1)
def gX5_putWhole_87 : Nat → (Nat → Int32) → (Nat → Nat → Int32) → Int32 → (Nat → Int32) × (Nat → Nat → Int32) × Int32
  | 0, uf, ua, x5 => (uf, ua, x5)
  | n + 1, uf, ua, x5 =>
  if x5 < 0 then (uf, ua, x5)
  else gX5_putWhole_87 n ((fX5_put uf ua ((48 : Int32) + ((ua 12) x5.toNatClampNeg))).1) ((fX5_put uf ua ((48 : Int32) + ((ua 12) x5.toNatClampNeg))).2) (x5 + (-1))
def fX5_putWhole_112 (uf : Nat → Int32) (ua : Nat → Nat → Int32) : (Nat → Int32) × (Nat → Nat → Int32) :=
  (uf, ua)
def fX5_putWhole_79 (uf : Nat → Int32) (ua : Nat → Nat → Int32) : (Nat → Int32) × (Nat → Nat → Int32) :=
  fX5_putWhole_112 ((gX5_putWhole_87 (Nat.succ ((Int32.toInt ((uf 13) - (1 : Int32)) + 1).toNat)) uf ua ((uf 13) - (1 : Int32))).1) ((gX5_putWhole_87 (Nat.succ ((Int32.toInt ((uf 13) - (1 : Int32)) + 1).toNat)) uf ua ((uf 13) - (1 : Int32))).2.1)
def fX5_putWhole_66 (uf : Nat → Int32) (ua : Nat → Nat → Int32) : (Nat → Int32) × (Nat → Nat → Int32) :=
  if (uf 13) = 0 then fX5_putWhole_79 ((fX5_put uf ua (48 : Int32)).1) ((fX5_put uf ua (48 : Int32)).2)
  else fX5_putWhole_79 uf ua
def fX5_putWhole_46 (uf : Nat → Int32) (ua : Nat → Nat → Int32) (x3 : Int32) : (Nat → Int32) × (Nat → Nat → Int32) :=
  fX5_putWhole_66 ((gX5_putWhole_49 x3 (Nat.succ ((Int32.toInt (x3) - Int32.toInt (0 : Int32)).toNat)) uf ua (0 : Int32)).1) ((gX5_putWhole_49 x3 (Nat.succ ((Int32.toInt (x3) - Int32.toInt (0 : Int32)).toNat)) uf ua (0 : Int32)).2.1)
def fX5_putWhole (uf : Nat → Int32) (ua : Nat → Nat → Int32) (x1 : Int64) (x3 : Int32) : (Nat → Int32) × (Nat → Nat → Int32) :=
  fX5_putWhole_46 ((gX5_putWhole_17 x1 x3 (Nat.succ ((Int32.toInt ((fX5_bitsOf x1) - (1 : Int32)) + 1).toNat)) (va_up uf 13 (0 : Int32)) ua ((fX5_bitsOf x1) - (1 : Int32))).1) ((gX5_putWhole_17 x1 x3 (Nat.succ ((Int32.toInt ((fX5_bitsOf x1) - (1 : Int32)) + 1).toNat)) (va_up uf 13 (0 : Int32)) ua ((fX5_bitsOf x1) - (1 : Int32))).2.1) x3
abbrev rmX5_putWhole : Room := { frames := 1, cells := 0, slots := 0, locals := 23 }
theorem mbX5_putWhole : mb_V RX5 yX5_putWhole cX5_putWhole 6 none 2 := ⟨⟨tw_instanceMethod_yX5_putWhole, tw_selects_RX5_yX5_putWhole_yX5_putWhole, tw_initialized_RX5, tw_code_yX5_putWhole⟩, rfl, by decide +kernel, by decide +kernel, by decide +kernel⟩
set_option maxRecDepth 20000 in
theorem lX5_putWhole_17 (x1 : Int64) (x3 : Int32) {p : Program} {l : Launch} {e : Env} {s : State} {m : MethodId} {args : Array Value} {below : List Frame} {meth : Method} {c : Code} {dC : Nat → ClassId} {dI : Nat → Nat → Nat} {r : Nat → Nat} {cA : Nat → ClassId} {Rg : Nat → Prop} {us : Nat → Int64} {h0 : Nat} {Q : State → Prop} (C : bx_C p s m args meth c cX5_putWhole 6 none RX5) (post : ((Nat → Int32) × (Nat → Nat → Int32) × Int32) → Prop) (kx : ∀ (ouf : Nat → Int32) (oua : Nat → Nat → Int32) (o5 : Int32) (ls : Array Slot) (H : Heap) (locs : List Loc), ((-1 ≤ Int32.toInt o5 ∧ Int32.toInt o5 ≤ 23) ∧ tw_lt (23 - Int32.toInt o5).toNat ouf oua) → lv_has ls 6 [(0, .ref h0), (3, .int x3), (5, .int o5)] → hW (dC, dI) (md_T cA) Rg s H locs (md_W h0 r cA ouf oua us) → post (ouf, oua, o5) → W p l e rmX5_putWhole s m args below meth c H locs 0 0 Q (F0 m 46 ls [])) :
    ∀ (n : Nat) (uf : Nat → Int32) (ua : Nat → Nat → Int32) (x5 : Int32) (ls : Array Slot) (H : Heap) (locs : List Loc), (Int32.toInt x5 + 1).toNat < n → ((-1 ≤ Int32.toInt x5 ∧ Int32.toInt x5 ≤ 23) ∧ tw_lt (23 - Int32.toInt x5).toNat uf ua) → lv_has ls 6 [(0, .ref h0), (1, .long x1), (3, .int x3), (5, .int x5)] → hW (dC, dI) (md_T cA) Rg s H locs (md_W h0 r cA uf ua us) → post (gX5_putWhole_17 x1 x3 n uf ua x5) → W p l e rmX5_putWhole s m args below meth c H locs 0 0 Q (F0 m 17 ls []) := by
  obtain ⟨hx, hb, hml, hr, hlocks, hown, hts⟩ := id C
  intro n
  induction n with
  | zero =>
    intro uf ua x5 ls H locs hm
    exact absurd hm (Nat.not_lt_zero _)
  | succ n ih =>
    intro uf ua x5 ls H locs hm hi hl hw hq
    rw [gX5_putWhole_17] at hq
    refine lv_iload hx hb dX5_putWhole_17 (lv_at hl 3 rfl) ?_
    refine lv_if_lt (tgt := 46) hx hb dX5_putWhole_19 (by decide) (fun c1 => ?_) (fun c1 => ?_)
    · rw [if_pos c1] at hq
      exact kx uf ua x5 _ _ _ hi (lv_sub hl [0, 2, 3] rfl) hw hq
    · rw [if_neg c1] at hq
      refine lv_iload hx hb dX5_putWhole_22 (lv_at hl 3 rfl) ?_
      refine lv_iload_n hx hb dX5_putWhole_24 rfl (lv_at hl 2 rfl) ?_
      refine lv_ineg hx hb dX5_putWhole_25 ?_
      refine lv_icmp_lt (tgt := 46) hx hb dX5_putWhole_26 (by decide) (fun c2 => ?_) (fun c2 => ?_)
      · rw [if_pos c2] at hq
        exact kx uf ua x5 _ _ _ hi (lv_sub hl [0, 2, 3] rfl) hw hq
      · rw [if_neg c2] at hq
        refine lv_aload_n hx hb dX5_putWhole_29 rfl (lv_at hl 0 rfl) ?_
        refine lv_lload_n hx hb dX5_putWhole_30 rfl (lv_at hl 1 rfl) ?_
        refine lv_iload hx hb dX5_putWhole_31 (lv_at hl 3 rfl) ?_
        refine bx_lushr hx hb dX5_putWhole_33 ?_
        refine lv_lconst (v := 1) hx hb dX5_putWhole_34 (by decide) ?_
        refine lv_land hx hb dX5_putWhole_35 ?_
        refine bx_l2i hx hb dX5_putWhole_36 ?_
        refine hx_cv (Wf := (fun u => md_W h0 r cA u.1 u.2 us)) (u0 := (uf, ua)) (F := (fX5_twice uf ua (((jl_ushr x1 x5) &&& (1 : Int64)).toInt32))) C (fun sz => kX5_twice l dC dI h0 r cA sz uf ua us (((jl_ushr x1 x5) &&& (1 : Int64)).toInt32) (tw_d1 hi)) (fun _ => bx_B_true) (fun _ _ _ => trivial) hw rfl rfl tw_methodLink_RX5_251_yX5_twice mbX5_twice rfl ⟨rfl, rfl⟩ ⟨Nat.le_of_ble_eq_true rfl, Nat.le_of_ble_eq_true rfl⟩ ⟨Nat.zero_le _, Nat.zero_le _⟩ hl.1 rfl (Nat.le_of_ble_eq_true rfl) dX5_putWhole_37 (fun H locs hw => ?_)
        have hw : hW (dC, dI) (md_T cA) Rg s H locs (md_W h0 r cA ((fX5_twice uf ua (((jl_ushr x1 x5) &&& (1 : Int64)).toInt32)).1) ((fX5_twice uf ua (((jl_ushr x1 x5) &&& (1 : Int64)).toInt32)).2) us) := hw
        refine lv_iinc (v := (x5 + (-1))) (lv' := [(5, .int (x5 + (-1))), (0, .ref h0), (1, .long x1), (3, .int x3)]) hx hb dX5_putWhole_40 hl (k := 3) rfl rfl (by decide) rfl (fun ls hl => ?_)
        refine lv_goto (tgt := 17) hx hb dX5_putWhole_43 (by decide) ?_
        exact ih ((fX5_twice uf ua (((jl_ushr x1 x5) &&& (1 : Int64)).toInt32)).1) ((fX5_twice uf ua (((jl_ushr x1 x5) &&& (1 : Int64)).toInt32)).2) (x5 + (-1)) _ _ _ (lp_dn2 (by assumption) hm) (tw_s1 hi (by assumption)) (lv_sub hl [1, 2, 3, 0] rfl) hw hq
set_option maxRecDepth 20000 in
theorem lX5_putWhole_49 (x3 : Int32) {p : Program} {l : Launch} {e : Env} {s : State} {m : MethodId} {args : Array Value} {below : List Frame} {meth : Method} {c : Code} {dC : Nat → ClassId} {dI : Nat → Nat → Nat} {r : Nat → Nat} {cA : Nat → ClassId} {Rg : Nat → Prop} {us : Nat → Int64} {h0 : Nat} {Q : State → Prop} (C : bx_C p s m args meth c cX5_putWhole 6 none RX5) (hz : -200 ≤ x3.toInt ∧ x3.toInt ≤ 104) (post : ((Nat → Int32) × (Nat → Nat → Int32) × Int32) → Prop) (kx : ∀ (ouf : Nat → Int32) (oua : Nat → Nat → Int32) (o5 : Int32) (ls : Array Slot) (H : Heap) (locs : List Loc), ((0 ≤ Int32.toInt o5 ∧ Int32.toInt o5 ≤ 104) ∧ tw_lt (24 + Int32.toInt o5).toNat ouf oua) → lv_has ls 6 [(0, .ref h0), (5, .int o5)] → hW (dC, dI) (md_T cA) Rg s H locs (md_W h0 r cA ouf oua us) → post (ouf, oua, o5) → W p l e rmX5_putWhole s m args below meth c H locs 0 0 Q (F0 m 66 ls [])) :
    ∀ (n : Nat) (uf : Nat → Int32) (ua : Nat → Nat → Int32) (x5 : Int32) (ls : Array Slot) (H : Heap) (locs : List Loc), (Int32.toInt (x3) - Int32.toInt x5).toNat < n → ((0 ≤ Int32.toInt x5 ∧ Int32.toInt x5 ≤ 104) ∧ tw_lt (24 + Int32.toInt x5).toNat uf ua) → lv_has ls 6 [(0, .ref h0), (3, .int x3), (5, .int x5)] → hW (dC, dI) (md_T cA) Rg s H locs (md_W h0 r cA uf ua us) → post (gX5_putWhole_49 x3 n uf ua x5) → W p l e rmX5_putWhole s m args below meth c H locs 0 0 Q (F0 m 49 ls []) := by
  obtain ⟨hx, hb, hml, hr, hlocks, hown, hts⟩ := id C
  intro n
  induction n with
  | zero =>
    intro uf ua x5 ls H locs hm
    exact absurd hm (Nat.not_lt_zero _)
  | succ n ih =>
    intro uf ua x5 ls H locs hm hi hl hw hq
    rw [gX5_putWhole_49] at hq
    refine lv_iload hx hb dX5_putWhole_49 (lv_at hl 2 rfl) ?_
    refine lv_iload_n hx hb dX5_putWhole_51 rfl (lv_at hl 1 rfl) ?_
    refine lv_icmp_ge (tgt := 66) hx hb dX5_putWhole_52 (by decide) (fun c3 => ?_) (fun c3 => ?_)
    · rw [if_pos c3] at hq
      exact kx uf ua x5 _ _ _ hi (lv_sub hl [0, 2] rfl) hw hq
    · rw [if_neg c3] at hq
      refine lv_aload_n hx hb dX5_putWhole_55 rfl (lv_at hl 0 rfl) ?_
      refine lv_iconst (v := 0) hx hb dX5_putWhole_56 (by decide) ?_
      refine hx_cv (Wf := (fun u => md_W h0 r cA u.1 u.2 us)) (u0 := (uf, ua)) (F := (fX5_twice uf ua (0 : Int32))) C (fun sz => kX5_twice l dC dI h0 r cA sz uf ua us (0 : Int32) (tw_d2 hi)) (fun _ => bx_B_true) (fun _ _ _ => trivial) hw rfl rfl tw_methodLink_RX5_251_yX5_twice mbX5_twice rfl ⟨rfl, rfl⟩ ⟨Nat.le_of_ble_eq_true rfl, Nat.le_of_ble_eq_true rfl⟩ ⟨Nat.zero_le _, Nat.zero_le _⟩ hl.1 rfl (Nat.le_of_ble_eq_true rfl) dX5_putWhole_57 (fun H locs hw => ?_)
      have hw : hW (dC, dI) (md_T cA) Rg s H locs (md_W h0 r cA ((fX5_twice uf ua (0 : Int32)).1) ((fX5_twice uf ua (0 : Int32)).2) us) := hw
      refine lv_iinc (v := (x5 + 1)) (lv' := [(5, .int (x5 + 1)), (0, .ref h0), (3, .int x3)]) hx hb dX5_putWhole_60 hl (k := 2) rfl rfl (by decide) rfl (fun ls hl => ?_)
      refine lv_goto (tgt := 49) hx hb dX5_putWhole_63 (by decide) ?_
      exact ih ((fX5_twice uf ua (0 : Int32)).1) ((fX5_twice uf ua (0 : Int32)).2) (x5 + 1) _ _ _ (lp_up (by assumption) hm) (tw_s2 hz hi (by assumption)) (lv_sub hl [1, 2, 0] rfl) hw hq
set_option maxRecDepth 20000 in
theorem lX5_putWhole_87 {p : Program} {l : Launch} {e : Env} {s : State} {m : MethodId} {args : Array Value} {below : List Frame} {meth : Method} {c : Code} {dC : Nat → ClassId} {dI : Nat → Nat → Nat} {r : Nat → Nat} {cA : Nat → ClassId} {Rg : Nat → Prop} {us : Nat → Int64} {h0 : Nat} {Q : State → Prop} (C : bx_C p s m args meth c cX5_putWhole 6 none RX5) (post : ((Nat → Int32) × (Nat → Nat → Int32) × Int32) → Prop) (kx : ∀ (ouf : Nat → Int32) (oua : Nat → Nat → Int32) (o5 : Int32) (ls : Array Slot) (H : Heap) (locs : List Loc), ((0 ≤ (ouf 11).toInt ∧ -1 ≤ Int32.toInt o5) ∧ (Int32.toInt o5 ≤ 39 ∧ (ouf 11).toInt + Int32.toInt o5 + 1 ≤ 41)) → lv_has ls 6 [(5, .int o5)] → hW (dC, dI) (md_T cA) Rg s H locs (md_W h0 r cA ouf oua us) → post (ouf, oua, o5) → W p l e rmX5_putWhole s m args below meth c H locs 0 0 Q (F0 m 112 ls [])) :
    ∀ (n : Nat) (uf : Nat → Int32) (ua : Nat → Nat → Int32) (x5 : Int32) (ls : Array Slot) (H : Heap) (locs : List Loc), (Int32.toInt x5 + 1).toNat < n → ((0 ≤ (uf 11).toInt ∧ -1 ≤ Int32.toInt x5) ∧ (Int32.toInt x5 ≤ 39 ∧ (uf 11).toInt + Int32.toInt x5 + 1 ≤ 41)) → lv_has ls 6 [(0, .ref h0), (5, .int x5)] → hW (dC, dI) (md_T cA) Rg s H locs (md_W h0 r cA uf ua us) → post (gX5_putWhole_87 n uf ua x5) → W p l e rmX5_putWhole s m args below meth c H locs 0 0 Q (F0 m 87 ls []) := by
  obtain ⟨hx, hb, hml, hr, hlocks, hown, hts⟩ := id C
  intro n
  induction n with
  | zero =>
    intro uf ua x5 ls H locs hm
    exact absurd hm (Nat.not_lt_zero _)
  | succ n ih =>
    intro uf ua x5 ls H locs hm hi hl hw hq
    rw [gX5_putWhole_87] at hq
    refine lv_iload hx hb dX5_putWhole_87 (lv_at hl 1 rfl) ?_
    refine lv_if_lt (tgt := 112) hx hb dX5_putWhole_89 (by decide) (fun c5 => ?_) (fun c5 => ?_)
    · rw [if_pos c5] at hq
      exact kx uf ua x5 _ _ _ hi (lv_sub hl [1] rfl) hw hq
    · rw [if_neg c5] at hq
      refine lv_aload_n hx hb dX5_putWhole_92 rfl (lv_at hl 0 rfl) ?_
      refine lv_bipush (v := 48) hx hb dX5_putWhole_93 (by decide) ?_
      refine lv_aload_n hx hb dX5_putWhole_95 rfl (lv_at hl 0 rfl) ?_
      refine hx_get (v := .ref (r 12)) hx hb hts inX5 hown hw.1 hw.2.2.2.1 0 rfl rfl 12 (by decide) tw_fieldLink_RX5_40_GlulxFloatsModel_decimals_I rfl rfl dX5_putWhole_96 ?_
      refine lv_iload hx hb dX5_putWhole_99 (lv_at hl 1 rfl) ?_
      refine hx_iald hx hb hw.1 hw.2.2.2.1 9 8 rfl rfl (pw_i3 hi (by assumption)) dX5_putWhole_101 ?_
      refine lv_iadd hx hb dX5_putWhole_102 ?_
      refine hx_cv (Wf := (fun u => md_W h0 r cA u.1 u.2 us)) (u0 := (uf, ua)) (F := (fX5_put uf ua ((48 : Int32) + ((ua 12) x5.toNatClampNeg)))) C (fun sz => kX5_put l dC dI h0 r cA sz uf ua us ((48 : Int32) + ((ua 12) x5.toNatClampNeg)) (pw_p3 hi (by assumption))) (fun _ => bx_B_true) (fun _ _ _ => trivial) hw rfl rfl tw_methodLink_RX5_255_yX5_put mbX5_put rfl ⟨rfl, rfl⟩ ⟨Nat.le_of_ble_eq_true rfl, Nat.le_of_ble_eq_true rfl⟩ ⟨Nat.zero_le _, Nat.zero_le _⟩ hl.1 rfl (Nat.le_of_ble_eq_true rfl) dX5_putWhole_103 (fun H locs hw => ?_)
      have hw : hW (dC, dI) (md_T cA) Rg s H locs (md_W h0 r cA ((fX5_put uf ua ((48 : Int32) + ((ua 12) x5.toNatClampNeg))).1) ((fX5_put uf ua ((48 : Int32) + ((ua 12) x5.toNatClampNeg))).2) us) := hw
      refine lv_iinc (v := (x5 + (-1))) (lv' := [(5, .int (x5 + (-1))), (0, .ref h0)]) hx hb dX5_putWhole_106 hl (k := 1) rfl rfl (by decide) rfl (fun ls hl => ?_)
      refine lv_goto (tgt := 87) hx hb dX5_putWhole_109 (by decide) ?_
      exact ih ((fX5_put uf ua ((48 : Int32) + ((ua 12) x5.toNatClampNeg))).1) ((fX5_put uf ua ((48 : Int32) + ((ua 12) x5.toNatClampNeg))).2) (x5 + (-1)) _ _ _ (lp_dn2 (by assumption) hm) (pw_s3 hi (by assumption)) (lv_sub hl [1, 0] rfl) hw hq
set_option maxRecDepth 20000 in
theorem bX5_putWhole_112 (uf : Nat → Int32) (ua : Nat → Nat → Int32) {p : Program} {l : Launch} {e : Env} {s : State} {m : MethodId} {args : Array Value} {below : List Frame} {meth : Method} {c : Code} {dC : Nat → ClassId} {dI : Nat → Nat → Nat} {r : Nat → Nat} {cA : Nat → ClassId} {Rg : Nat → Prop} {H : Heap} {locs : List Loc} {us : Nat → Int64} {h0 : Nat} {ls : Array Slot} (C : bx_C p s m args meth c cX5_putWhole 6 none RX5) (hl : lv_has ls 6 []) (hw : hW (dC, dI) (md_T cA) Rg s H locs (md_W h0 r cA uf ua us)) (post : ((Nat → Int32) × (Nat → Nat → Int32)) → Prop) (hq : post (fX5_putWhole_112 uf ua)) : W p l e rmX5_putWhole s m args below meth c H locs 0 0 (MQ below (va_Qv post (hBk (dC, dI) (md_T cA) Rg (fun u => md_W h0 r cA u.1 u.2 us)) Rg) args s 0 0 Rg) (F0 m 112 ls []) := by
  obtain ⟨hx, hb, hml, hr, hlocks, hown, hts⟩ := id C
  unfold fX5_putWhole_112 at hq
  exact hx_vret (Wf := (fun u => md_W h0 r cA u.1 u.2 us)) (u := (uf, ua)) hx hb hr hlocks hw hq dX5_putWhole_112
set_option maxRecDepth 20000 in
theorem bX5_putWhole_79 (uf : Nat → Int32) (ua : Nat → Nat → Int32) {p : Program} {l : Launch} {e : Env} {s : State} {m : MethodId} {args : Array Value} {below : List Frame} {meth : Method} {c : Code} {dC : Nat → ClassId} {dI : Nat → Nat → Nat} {r : Nat → Nat} {cA : Nat → ClassId} {Rg : Nat → Prop} {H : Heap} {locs : List Loc} {us : Nat → Int64} {h0 : Nat} {ls : Array Slot} (C : bx_C p s m args meth c cX5_putWhole 6 none RX5) (hl : lv_has ls 6 [(0, .ref h0)]) (hw : hW (dC, dI) (md_T cA) Rg s H locs (md_W h0 r cA uf ua us)) (hv : pw_out uf) (post : ((Nat → Int32) × (Nat → Nat → Int32)) → Prop) (hq : post (fX5_putWhole_79 uf ua)) : W p l e rmX5_putWhole s m args below meth c H locs 0 0 (MQ below (va_Qv post (hBk (dC, dI) (md_T cA) Rg (fun u => md_W h0 r cA u.1 u.2 us)) Rg) args s 0 0 Rg) (F0 m 79 ls []) := by
  obtain ⟨hx, hb, hml, hr, hlocks, hown, hts⟩ := id C
  unfold fX5_putWhole_79 at hq
  refine lv_aload_n hx hb dX5_putWhole_79 rfl (lv_at hl 0 rfl) ?_
  refine hx_get (v := .int (uf 13)) hx hb hts inX5 hown hw.1 hw.2.2.2.1 0 rfl rfl 13 (by decide) tw_fieldLink_RX5_248_GlulxFloatsModel_decimalMany_I rfl rfl dX5_putWhole_80 ?_
  refine lv_iconst (v := 1) hx hb dX5_putWhole_83 (by decide) ?_
  refine lv_isub hx hb dX5_putWhole_84 ?_
  refine lv_istore (lv' := [(5, .int ((uf 13) - (1 : Int32))), (0, .ref h0)]) hx hb dX5_putWhole_85 hl (by decide) rfl (fun ls hl => ?_)
  exact lX5_putWhole_87 C (fun t => post (fX5_putWhole_112 t.1 t.2.1)) (fun ouf oua o5 ls H locs hi hl hw hq => bX5_putWhole_112 ouf oua C (lv_sub hl [] rfl) hw post hq) (Nat.succ ((Int32.toInt ((uf 13) - (1 : Int32)) + 1).toNat)) uf ua ((uf 13) - (1 : Int32)) _ _ _ (Nat.lt_succ_self _) (pw_z3 hv) (lv_sub hl [1, 0] rfl) hw hq
set_option maxRecDepth 20000 in
theorem bX5_putWhole_66 (uf : Nat → Int32) (ua : Nat → Nat → Int32) {p : Program} {l : Launch} {e : Env} {s : State} {m : MethodId} {args : Array Value} {below : List Frame} {meth : Method} {c : Code} {dC : Nat → ClassId} {dI : Nat → Nat → Nat} {r : Nat → Nat} {cA : Nat → ClassId} {Rg : Nat → Prop} {H : Heap} {locs : List Loc} {us : Nat → Int64} {h0 : Nat} {ls : Array Slot} (C : bx_C p s m args meth c cX5_putWhole 6 none RX5) (hl : lv_has ls 6 [(0, .ref h0)]) (hw : hW (dC, dI) (md_T cA) Rg s H locs (md_W h0 r cA uf ua us)) (hv : tw_lt 130 uf ua) (post : ((Nat → Int32) × (Nat → Nat → Int32)) → Prop) (hq : post (fX5_putWhole_66 uf ua)) : W p l e rmX5_putWhole s m args below meth c H locs 0 0 (MQ below (va_Qv post (hBk (dC, dI) (md_T cA) Rg (fun u => md_W h0 r cA u.1 u.2 us)) Rg) args s 0 0 Rg) (F0 m 66 ls []) := by
  obtain ⟨hx, hb, hml, hr, hlocks, hown, hts⟩ := id C
  unfold fX5_putWhole_66 at hq
  refine lv_aload_n hx hb dX5_putWhole_66 rfl (lv_at hl 0 rfl) ?_
  refine hx_get (v := .int (uf 13)) hx hb hts inX5 hown hw.1 hw.2.2.2.1 0 rfl rfl 13 (by decide) tw_fieldLink_RX5_248_GlulxFloatsModel_decimalMany_I rfl rfl dX5_putWhole_67 ?_
  refine lv_if_ne (tgt := 79) hx hb dX5_putWhole_70 (by decide) (fun c4 => ?_) (fun c4 => ?_)
  · rw [if_neg c4] at hq
    exact bX5_putWhole_79 uf ua C (lv_sub hl [0] rfl) hw (by first | exact pw_o1 hv (by assumption) | exact pw_o2 hv) post hq
  · rw [if_pos c4] at hq
    refine lv_aload_n hx hb dX5_putWhole_73 rfl (lv_at hl 0 rfl) ?_
    refine lv_bipush (v := 48) hx hb dX5_putWhole_74 (by decide) ?_
    refine hx_cv (Wf := (fun u => md_W h0 r cA u.1 u.2 us)) (u0 := (uf, ua)) (F := (fX5_put uf ua (48 : Int32))) C (fun sz => kX5_put l dC dI h0 r cA sz uf ua us (48 : Int32) (pw_p0 hv)) (fun _ => bx_B_true) (fun _ _ _ => trivial) hw rfl rfl tw_methodLink_RX5_255_yX5_put mbX5_put rfl ⟨rfl, rfl⟩ ⟨Nat.le_of_ble_eq_true rfl, Nat.le_of_ble_eq_true rfl⟩ ⟨Nat.zero_le _, Nat.zero_le _⟩ hl.1 rfl (Nat.le_of_ble_eq_true rfl) dX5_putWhole_76 (fun H locs hw => ?_)
    have hw : hW (dC, dI) (md_T cA) Rg s H locs (md_W h0 r cA ((fX5_put uf ua (48 : Int32)).1) ((fX5_put uf ua (48 : Int32)).2) us) := hw
    exact bX5_putWhole_79 ((fX5_put uf ua (48 : Int32)).1) ((fX5_put uf ua (48 : Int32)).2) C (lv_sub hl [0] rfl) hw (by first | exact pw_o1 hv (by assumption) | exact pw_o2 hv) post hq
set_option maxRecDepth 20000 in
theorem bX5_putWhole_46 (uf : Nat → Int32) (ua : Nat → Nat → Int32) (x3 : Int32) {p : Program} {l : Launch} {e : Env} {s : State} {m : MethodId} {args : Array Value} {below : List Frame} {meth : Method} {c : Code} {dC : Nat → ClassId} {dI : Nat → Nat → Nat} {r : Nat → Nat} {cA : Nat → ClassId} {Rg : Nat → Prop} {H : Heap} {locs : List Loc} {us : Nat → Int64} {h0 : Nat} {ls : Array Slot} (C : bx_C p s m args meth c cX5_putWhole 6 none RX5) (hl : lv_has ls 6 [(0, .ref h0), (3, .int x3)]) (hw : hW (dC, dI) (md_T cA) Rg s H locs (md_W h0 r cA uf ua us)) (hz : -200 ≤ x3.toInt ∧ x3.toInt ≤ 104) (hv : tw_lt 24 uf ua) (post : ((Nat → Int32) × (Nat → Nat → Int32)) → Prop) (hq : post (fX5_putWhole_46 uf ua x3)) : W p l e rmX5_putWhole s m args below meth c H locs 0 0 (MQ below (va_Qv post (hBk (dC, dI) (md_T cA) Rg (fun u => md_W h0 r cA u.1 u.2 us)) Rg) args s 0 0 Rg) (F0 m 46 ls []) := by
  obtain ⟨hx, hb, hml, hr, hlocks, hown, hts⟩ := id C
  unfold fX5_putWhole_46 at hq
  refine lv_iconst (v := 0) hx hb dX5_putWhole_46 (by decide) ?_
  refine lv_istore (lv' := [(5, .int (0 : Int32)), (0, .ref h0), (3, .int x3)]) hx hb dX5_putWhole_47 hl (by decide) rfl (fun ls hl => ?_)
  exact lX5_putWhole_49 x3 C hz (fun t => post (fX5_putWhole_66 t.1 t.2.1)) (fun ouf oua o5 ls H locs hi hl hw hq => bX5_putWhole_66 ouf oua C (lv_sub hl [0] rfl) hw (tw_e2 hi) post hq) (Nat.succ ((Int32.toInt (x3) - Int32.toInt (0 : Int32)).toNat)) uf ua (0 : Int32) _ _ _ (Nat.lt_succ_self _) (tw_z2 hv) (lv_sub hl [1, 2, 0] rfl) hw hq
set_option maxRecDepth 20000 in
theorem bX5_putWhole_0 (uf : Nat → Int32) (ua : Nat → Nat → Int32) (x1 : Int64) (x3 : Int32) {p : Program} {l : Launch} {e : Env} {s : State} {m : MethodId} {args : Array Value} {below : List Frame} {meth : Method} {c : Code} {dC : Nat → ClassId} {dI : Nat → Nat → Nat} {r : Nat → Nat} {cA : Nat → ClassId} {Rg : Nat → Prop} {H : Heap} {locs : List Loc} {us : Nat → Int64} {h0 : Nat} {ls : Array Slot} (C : bx_C p s m args meth c cX5_putWhole 6 none RX5) (hl : lv_has ls 6 [(0, .ref h0), (1, .long x1), (3, .int x3)]) (hw : hW (dC, dI) (md_T cA) Rg s H locs (md_W h0 r cA uf ua us)) (ho : 0 ≤ (uf 11).toInt ∧ (uf 11).toInt ≤ 1) (hz : pw_ok x1 x3) (post : ((Nat → Int32) × (Nat → Nat → Int32)) → Prop) (hq : post (fX5_putWhole uf ua x1 x3)) : W p l e rmX5_putWhole s m args below meth c H locs 0 0 (MQ below (va_Qv post (hBk (dC, dI) (md_T cA) Rg (fun u => md_W h0 r cA u.1 u.2 us)) Rg) args s 0 0 Rg) (F0 m 0 ls []) := by
  obtain ⟨hx, hb, hml, hr, hlocks, hown, hts⟩ := id C
  unfold fX5_putWhole at hq
  refine lv_aload_n hx hb dX5_putWhole_0 rfl (lv_at hl 0 rfl) ?_
  refine lv_iconst (v := 0) hx hb dX5_putWhole_1 (by decide) ?_
  refine hx_put (ws' := (md_W h0 r cA (va_up uf 13 (0 : Int32)) ua us)) hx hb hts inX5 tyX5 tyX5_ok nmX5 hown hw 0 rfl rfl 13 (by decide) tw_fieldLink_RX5_248_GlulxFloatsModel_decimalMany_I rfl rfl (by decide +kernel) (Nat.le_of_ble_eq_true rfl) dX5_putWhole_2 rfl (fun H locs hw => ?_)
  refine lv_lload_n hx hb dX5_putWhole_5 rfl (lv_at hl 1 rfl) ?_
  refine bx_si C (kX5_bitsOf l x1) bx_B_true (fun _ _ _ => trivial) tw_methodLink_RX5_82_yX5_bitsOf mbX5_bitsOf rfl ⟨rfl, rfl⟩ ⟨Nat.le_of_ble_eq_true rfl, Nat.le_of_ble_eq_true rfl⟩ ⟨Nat.zero_le _, Nat.zero_le _⟩ hl.1 rfl (Nat.le_of_ble_eq_true rfl) dX5_putWhole_6 ?_
  refine lv_istore (lv' := [(4, .int (fX5_bitsOf x1)), (0, .ref h0), (1, .long x1), (3, .int x3)]) hx hb dX5_putWhole_9 hl (by decide) rfl (fun ls hl => ?_)
  refine lv_iload hx hb dX5_putWhole_11 (lv_at hl 0 rfl) ?_
  refine lv_iconst (v := 1) hx hb dX5_putWhole_13 (by decide) ?_
  refine lv_isub hx hb dX5_putWhole_14 ?_
  refine lv_istore (lv' := [(5, .int ((fX5_bitsOf x1) - (1 : Int32))), (4, .int (fX5_bitsOf x1)), (0, .ref h0), (1, .long x1), (3, .int x3)]) hx hb dX5_putWhole_15 hl (by decide) rfl (fun ls hl => ?_)
  exact lX5_putWhole_17 x1 x3 C (fun t => post (fX5_putWhole_46 t.1 t.2.1 x3)) (fun ouf oua o5 ls H locs hi hl hw hq => bX5_putWhole_46 ouf oua x3 C (lv_sub hl [0, 1] rfl) hw hz.2 (tw_e1 hi) post hq) (Nat.succ ((Int32.toInt ((fX5_bitsOf x1) - (1 : Int32)) + 1).toNat)) (va_up uf 13 (0 : Int32)) ua ((fX5_bitsOf x1) - (1 : Int32)) _ _ _ (Nat.lt_succ_self _) (tw_z1 ho hz) (lv_sub hl [2, 3, 4, 0] rfl) hw hq
theorem kX5_putWhole (l : Launch) (dC : Nat → ClassId) (dI : Nat → Nat → Nat) (h0 : Nat) (r : Nat → Nat) (cA : Nat → ClassId) (sz : Nat) (uf : Nat → Int32) (ua : Nat → Nat → Int32) (us : Nat → Int64) (x1 : Int64) (x3 : Int32) (ho : 0 ≤ (uf 11).toInt ∧ (uf 11).toInt ≤ 1) (hz : pw_ok x1 x3) : Met l yX5_putWhole (Cond.code yX5_putWhole cX5_putWhole 6 none :: bw) rmX5_putWhole (hPc [.ref h0, .long x1, .int x3] (dC, dI) (md_T cA) (md_W h0 r cA uf ua us) sz (fun _ => True)) (va_Qv (fun u => u = fX5_putWhole uf ua x1 x3) (hBk (dC, dI) (md_T cA) (va_A (md_W h0 r cA uf ua us) sz) (fun u => md_W h0 r cA u.1 u.2 us)) (va_A (md_W h0 r cA uf ua us) sz)) 0 0 (va_A (md_W h0 r cA uf ua us) sz) := by
  refine hx_ent (by decide) _ _ (Nat.le_of_ble_eq_true rfl) rfl ?_
  intro p e s m below meth c ls C hl hw hsz _
  exact bX5_putWhole_0 uf ua x1 x3 C hl hw ho hz (fun u => u = fX5_putWhole uf ua x1 x3) rfl
