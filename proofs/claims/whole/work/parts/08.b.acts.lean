def gX5_power_63 (x1 : Int64) (x5 : Int32) (x11 : Int32) : Nat → (Nat → Int64) → Int64 → Int32 → (Nat → Int64) × Int64 × Int32
  | 0, us, x9, x12 => (us, x9, x12)
  | n + 1, us, x9, x12 =>
  if x11 ≤ x12 then (us, x9, x12)
  else gX5_power_63 x1 x5 x11 n ((fX5_multiply us x9 x1 x5).2) ((fX5_multiply us x9 x1 x5).1) (x12 + 1)
def fX5_power_87 (us : Nat → Int64) (x5 : Int32) (x6 : Int32) (x7 : Int64) (x9 : Int64) : Int64 × (Nat → Int64) :=
  if 0 ≤ x6 then if (fX5_isNan x9 x5) = 0 then (x9, us)
    else ((fX5_nan x5), us)
  else ((fX5_divide x7 x9 x5), us)
def fX5_power_58 (us : Nat → Int64) (x1 : Int64) (x5 : Int32) (x6 : Int32) (x7 : Int64) (x9 : Int64) (s0 : Int32) : Int64 × (Nat → Int64) :=
  fX5_power_87 ((gX5_power_63 x1 x5 s0 (Nat.succ ((Int32.toInt (s0) - Int32.toInt (0 : Int32)).toNat)) us x9 (0 : Int32)).1) x5 x6 x7 ((gX5_power_63 x1 x5 s0 (Nat.succ ((Int32.toInt (s0) - Int32.toInt (0 : Int32)).toNat)) us x9 (0 : Int32)).2.1)
def fX5_power_25 (us : Nat → Int64) (x1 : Int64) (x5 : Int32) (s0 : Int32) : Int64 × (Nat → Int64) :=
  if 0 ≤ s0 then fX5_power_58 us x1 x5 s0 (jl_shl ((fX5_bias x5).toInt64) (fX5_mantissa x5)) (jl_shl ((fX5_bias x5).toInt64) (fX5_mantissa x5)) s0
  else fX5_power_58 us x1 x5 s0 (jl_shl ((fX5_bias x5).toInt64) (fX5_mantissa x5)) (jl_shl ((fX5_bias x5).toInt64) (fX5_mantissa x5)) (-s0)
def fX5_power (us : Nat → Int64) (x1 : Int64) (x3 : Int64) (x5 : Int32) : Int64 × (Nat → Int64) :=
  if (x3 &&& (63 : Int64)).toInt32 ≤ (31 : Int32) then fX5_power_25 us x1 x5 ((x3 &&& (63 : Int64)).toInt32)
  else fX5_power_25 us x1 x5 ((x3 &&& (63 : Int64)).toInt32 - (64 : Int32))
abbrev rmX5_power : Room := { frames := 6, cells := 0, slots := 0, locals := 167 }
theorem mbX5_power : mb_V RX5 yX5_power cX5_power 13 (some .long) 3 := ⟨⟨tw_instanceMethod_yX5_power, tw_selects_RX5_yX5_power_yX5_power, tw_initialized_RX5, tw_code_yX5_power⟩, rfl, by decide +kernel, by decide +kernel, by decide +kernel⟩
set_option maxRecDepth 20000 in
theorem lX5_power_63 (x1 : Int64) (x5 : Int32) (x11 : Int32) (x6 : Int32) (x7 : Int64) {p : Program} {l : Launch} {e : Env} {s : State} {m : MethodId} {args : Array Value} {below : List Frame} {meth : Method} {c : Code} {dC : Nat → ClassId} {dI : Nat → Nat → Nat} {r : Nat → Nat} {cA : Nat → ClassId} {Rg : Nat → Prop} {uf : Nat → Int32} {ua : Nat → Nat → Int32} {h0 : Nat} {Q : State → Prop} (C : bx_C p s m args meth c cX5_power 13 (some .long) RX5) (h1 : x5 = 0 → 0 ≤ x1.toInt) (post : ((Nat → Int64) × Int64 × Int32) → Prop) (kx : ∀ (ous : Nat → Int64) (o9 : Int64) (o12 : Int32) (ls : Array Slot) (H : Heap) (locs : List Loc), (x5 = 0 → 0 ≤ Int64.toInt o9) → lv_has ls 13 [(0, .ref h0), (5, .int x5), (6, .int x6), (7, .long x7), (9, .long o9), (12, .int o12)] → hW (dC, dI) (md_T cA) Rg s H locs (md_W h0 r cA uf ua ous) → post (ous, o9, o12) → W p l e rmX5_power s m args below meth c H locs 0 0 Q (F0 m 87 ls [])) :
    ∀ (n : Nat) (us : Nat → Int64) (x9 : Int64) (x12 : Int32) (ls : Array Slot) (H : Heap) (locs : List Loc), (Int32.toInt (x11) - Int32.toInt x12).toNat < n → (x5 = 0 → 0 ≤ Int64.toInt x9) → lv_has ls 13 [(0, .ref h0), (1, .long x1), (5, .int x5), (6, .int x6), (7, .long x7), (9, .long x9), (11, .int x11), (12, .int x12)] → hW (dC, dI) (md_T cA) Rg s H locs (md_W h0 r cA uf ua us) → post (gX5_power_63 x1 x5 x11 n us x9 x12) → W p l e rmX5_power s m args below meth c H locs 0 0 Q (F0 m 63 ls []) := by
  obtain ⟨hx, hb, hml, hr, hlocks, hown, hts⟩ := id C
  intro n
  induction n with
  | zero =>
    intro us x9 x12 ls H locs hm
    exact absurd hm (Nat.not_lt_zero _)
  | succ n ih =>
    intro us x9 x12 ls H locs hm hi hl hw hq
    rw [gX5_power_63] at hq
    refine lv_iload hx hb dX5_power_63 (lv_at hl 7 rfl) ?_
    refine lv_iload hx hb dX5_power_65 (lv_at hl 6 rfl) ?_
    refine lv_icmp_ge (tgt := 87) hx hb dX5_power_67 (by decide) (fun c3 => ?_) (fun c3 => ?_)
    · rw [if_pos c3] at hq
      exact kx us x9 x12 _ _ _ hi (lv_sub hl [0, 2, 3, 4, 5, 7] rfl) hw hq
    · rw [if_neg c3] at hq
      refine lv_aload_n hx hb dX5_power_70 rfl (lv_at hl 0 rfl) ?_
      refine lv_lload hx hb dX5_power_71 (lv_at hl 5 rfl) ?_
      refine lv_lload_n hx hb dX5_power_73 rfl (lv_at hl 1 rfl) ?_
      refine lv_iload hx hb dX5_power_74 (lv_at hl 2 rfl) ?_
      refine hx_cl (Wf := (fun u => md_W h0 r cA uf ua u)) (u0 := us) (F := (fX5_multiply us x9 x1 x5)) C (fun sz => kX5_multiply l dC dI h0 r cA sz uf ua us x9 x1 x5 hi h1) (fun _ => bx_B_true) (fun _ _ _ => trivial) hw rfl rfl tw_methodLink_RX5_156_yX5_multiply mbX5_multiply rfl ⟨rfl, rfl⟩ ⟨Nat.le_of_ble_eq_true rfl, Nat.le_of_ble_eq_true rfl⟩ ⟨Nat.zero_le _, Nat.zero_le _⟩ hl.1 rfl (Nat.le_of_ble_eq_true rfl) dX5_power_76 (fun H locs hw => ?_)
      have hw : hW (dC, dI) (md_T cA) Rg s H locs (md_W h0 r cA uf ua ((fX5_multiply us x9 x1 x5).2)) := hw
      refine lv_lstore (lv' := [(9, .long ((fX5_multiply us x9 x1 x5).1)), (0, .ref h0), (1, .long x1), (5, .int x5), (6, .int x6), (7, .long x7), (11, .int x11), (12, .int x12)]) hx hb dX5_power_79 hl (by decide) rfl (fun ls hl => ?_)
      refine lv_iinc (v := (x12 + 1)) (lv' := [(12, .int (x12 + 1)), (9, .long ((fX5_multiply us x9 x1 x5).1)), (0, .ref h0), (1, .long x1), (5, .int x5), (6, .int x6), (7, .long x7), (11, .int x11)]) hx hb dX5_power_81 hl (k := 7) rfl rfl (by decide) rfl (fun ls hl => ?_)
      refine lv_goto (tgt := 63) hx hb dX5_power_84 (by decide) ?_
      exact ih ((fX5_multiply us x9 x1 x5).2) ((fX5_multiply us x9 x1 x5).1) (x12 + 1) _ _ _ (lp_up (by assumption) hm) (sd_mulpos hi h1) (lv_sub hl [2, 3, 4, 5, 6, 1, 7, 0] rfl) hw hq
set_option maxRecDepth 20000 in
theorem bX5_power_87 (us : Nat → Int64) (x5 : Int32) (x6 : Int32) (x7 : Int64) (x9 : Int64) {p : Program} {l : Launch} {e : Env} {s : State} {m : MethodId} {args : Array Value} {below : List Frame} {meth : Method} {c : Code} {dC : Nat → ClassId} {dI : Nat → Nat → Nat} {r : Nat → Nat} {cA : Nat → ClassId} {Rg : Nat → Prop} {H : Heap} {locs : List Loc} {uf : Nat → Int32} {ua : Nat → Nat → Int32} {h0 : Nat} {ls : Array Slot} (C : bx_C p s m args meth c cX5_power 13 (some .long) RX5) (hl : lv_has ls 13 [(0, .ref h0), (5, .int x5), (6, .int x6), (7, .long x7), (9, .long x9)]) (hw : hW (dC, dI) (md_T cA) Rg s H locs (md_W h0 r cA uf ua us)) (post : (Int64 × (Nat → Int64)) → Prop) (hq : post (fX5_power_87 us x5 x6 x7 x9)) : W p l e rmX5_power s m args below meth c H locs 0 0 (MQ below (va_Ql (fun r u => post (r, u)) (hBk (dC, dI) (md_T cA) Rg (fun u => md_W h0 r cA uf ua u)) Rg) args s 0 0 Rg) (F0 m 87 ls []) := by
  obtain ⟨hx, hb, hml, hr, hlocks, hown, hts⟩ := id C
  unfold fX5_power_87 at hq
  refine lv_iload hx hb dX5_power_87 (lv_at hl 2 rfl) ?_
  refine lv_if_ge (tgt := 105) hx hb dX5_power_89 (by decide) (fun c4 => ?_) (fun c4 => ?_)
  · rw [if_pos c4] at hq
    refine lv_lload hx hb dX5_power_105 (lv_at hl 4 rfl) ?_
    refine lv_iload hx hb dX5_power_107 (lv_at hl 1 rfl) ?_
    refine bx_si C (kX5_isNan l x9 x5) bx_B_true (fun _ _ _ => trivial) tw_methodLink_RX5_102_yX5_isNan mbX5_isNan rfl ⟨rfl, rfl⟩ ⟨Nat.le_of_ble_eq_true rfl, Nat.le_of_ble_eq_true rfl⟩ ⟨Nat.zero_le _, Nat.zero_le _⟩ hl.1 rfl (Nat.le_of_ble_eq_true rfl) dX5_power_109 ?_
    refine lv_if_eq (tgt := 123) hx hb dX5_power_112 (by decide) (fun c5 => ?_) (fun c5 => ?_)
    · rw [if_pos c5] at hq
      refine lv_lload hx hb dX5_power_123 (lv_at hl 4 rfl) ?_
      exact hx_lret (Wf := (fun u => md_W h0 r cA uf ua u)) (post := post) (v := x9) (u := us) hx hb hr hlocks hw hq dX5_power_125
    · rw [if_neg c5] at hq
      refine lv_iload hx hb dX5_power_115 (lv_at hl 1 rfl) ?_
      refine bx_sl C (kX5_nan l x5) bx_B_true (fun _ _ _ => trivial) tw_methodLink_RX5_106_yX5_nan mbX5_nan rfl ⟨rfl, rfl⟩ ⟨Nat.le_of_ble_eq_true rfl, Nat.le_of_ble_eq_true rfl⟩ ⟨Nat.zero_le _, Nat.zero_le _⟩ hl.1 rfl (Nat.le_of_ble_eq_true rfl) dX5_power_117 ?_
      refine lv_goto (tgt := 125) hx hb dX5_power_120 (by decide) ?_
      exact hx_lret (Wf := (fun u => md_W h0 r cA uf ua u)) (post := post) (v := (fX5_nan x5)) (u := us) hx hb hr hlocks hw hq dX5_power_125
  · rw [if_neg c4] at hq
    refine lv_aload_n hx hb dX5_power_92 rfl (lv_at hl 0 rfl) ?_
    refine lv_lload hx hb dX5_power_93 (lv_at hl 3 rfl) ?_
    refine lv_lload hx hb dX5_power_95 (lv_at hl 4 rfl) ?_
    refine lv_iload hx hb dX5_power_97 (lv_at hl 1 rfl) ?_
    refine bx_vl C (kX5_divide l h0 x7 x9 x5) BX5_divide (fun U u1 u2 => hw_ob hw rfl rfl U u1 u2) (fun U u1 u2 => hw_ob hw rfl rfl U u1 u2) tw_methodLink_RX5_160_yX5_divide mbX5_divide rfl ⟨rfl, rfl⟩ ⟨Nat.le_of_ble_eq_true rfl, Nat.le_of_ble_eq_true rfl⟩ ⟨Nat.zero_le _, Nat.zero_le _⟩ hl.1 rfl (Nat.le_of_ble_eq_true rfl) dX5_power_99 ?_
    refine lv_goto (tgt := 125) hx hb dX5_power_102 (by decide) ?_
    exact hx_lret (Wf := (fun u => md_W h0 r cA uf ua u)) (post := post) (v := (fX5_divide x7 x9 x5)) (u := us) hx hb hr hlocks hw hq dX5_power_125
set_option maxRecDepth 20000 in
theorem bX5_power_58 (us : Nat → Int64) (x1 : Int64) (x5 : Int32) (x6 : Int32) (x7 : Int64) (x9 : Int64) (s0 : Int32) {p : Program} {l : Launch} {e : Env} {s : State} {m : MethodId} {args : Array Value} {below : List Frame} {meth : Method} {c : Code} {dC : Nat → ClassId} {dI : Nat → Nat → Nat} {r : Nat → Nat} {cA : Nat → ClassId} {Rg : Nat → Prop} {H : Heap} {locs : List Loc} {uf : Nat → Int32} {ua : Nat → Nat → Int32} {h0 : Nat} {ls : Array Slot} (C : bx_C p s m args meth c cX5_power 13 (some .long) RX5) (hl : lv_has ls 13 [(0, .ref h0), (1, .long x1), (5, .int x5), (6, .int x6), (7, .long x7), (9, .long x9)]) (hw : hW (dC, dI) (md_T cA) Rg s H locs (md_W h0 r cA uf ua us)) (h1 : x5 = 0 → 0 ≤ x1.toInt) (h9 : x5 = 0 → 0 ≤ Int64.toInt x9) (post : (Int64 × (Nat → Int64)) → Prop) (hq : post (fX5_power_58 us x1 x5 x6 x7 x9 s0)) : W p l e rmX5_power s m args below meth c H locs 0 0 (MQ below (va_Ql (fun r u => post (r, u)) (hBk (dC, dI) (md_T cA) Rg (fun u => md_W h0 r cA uf ua u)) Rg) args s 0 0 Rg) (F0 m 58 ls [.int s0]) := by
  obtain ⟨hx, hb, hml, hr, hlocks, hown, hts⟩ := id C
  unfold fX5_power_58 at hq
  refine lv_istore (lv' := [(11, .int s0), (0, .ref h0), (1, .long x1), (5, .int x5), (6, .int x6), (7, .long x7), (9, .long x9)]) hx hb dX5_power_58 hl (by decide) rfl (fun ls hl => ?_)
  refine lv_iconst (v := 0) hx hb dX5_power_60 (by decide) ?_
  refine lv_istore (lv' := [(12, .int (0 : Int32)), (11, .int s0), (0, .ref h0), (1, .long x1), (5, .int x5), (6, .int x6), (7, .long x7), (9, .long x9)]) hx hb dX5_power_61 hl (by decide) rfl (fun ls hl => ?_)
  exact lX5_power_63 x1 x5 s0 x6 x7 C h1 (fun t => post (fX5_power_87 t.1 x5 x6 x7 t.2.1)) (fun ous o9 o12 ls H locs hi hl hw hq => bX5_power_87 ous x5 x6 x7 o9 C (lv_sub hl [0, 1, 2, 3, 4] rfl) hw post hq) (Nat.succ ((Int32.toInt (s0) - Int32.toInt (0 : Int32)).toNat)) us x9 (0 : Int32) _ _ _ (Nat.lt_succ_self _) h9 (lv_sub hl [2, 3, 4, 5, 6, 7, 1, 0] rfl) hw hq
set_option maxRecDepth 20000 in
theorem bX5_power_25 (us : Nat → Int64) (x1 : Int64) (x5 : Int32) (s0 : Int32) {p : Program} {l : Launch} {e : Env} {s : State} {m : MethodId} {args : Array Value} {below : List Frame} {meth : Method} {c : Code} {dC : Nat → ClassId} {dI : Nat → Nat → Nat} {r : Nat → Nat} {cA : Nat → ClassId} {Rg : Nat → Prop} {H : Heap} {locs : List Loc} {uf : Nat → Int32} {ua : Nat → Nat → Int32} {h0 : Nat} {ls : Array Slot} (C : bx_C p s m args meth c cX5_power 13 (some .long) RX5) (hl : lv_has ls 13 [(0, .ref h0), (1, .long x1), (5, .int x5)]) (hw : hW (dC, dI) (md_T cA) Rg s H locs (md_W h0 r cA uf ua us)) (h1 : x5 = 0 → 0 ≤ x1.toInt) (post : (Int64 × (Nat → Int64)) → Prop) (hq : post (fX5_power_25 us x1 x5 s0)) : W p l e rmX5_power s m args below meth c H locs 0 0 (MQ below (va_Ql (fun r u => post (r, u)) (hBk (dC, dI) (md_T cA) Rg (fun u => md_W h0 r cA uf ua u)) Rg) args s 0 0 Rg) (F0 m 25 ls [.int s0]) := by
  obtain ⟨hx, hb, hml, hr, hlocks, hown, hts⟩ := id C
  unfold fX5_power_25 at hq
  refine lv_istore (lv' := [(6, .int s0), (0, .ref h0), (1, .long x1), (5, .int x5)]) hx hb dX5_power_25 hl (by decide) rfl (fun ls hl => ?_)
  refine lv_iload hx hb dX5_power_27 (lv_at hl 3 rfl) ?_
  refine bx_si C (kX5_bias l x5) bx_B_true (fun _ _ _ => trivial) tw_methodLink_RX5_79_yX5_bias mbX5_bias rfl ⟨rfl, rfl⟩ ⟨Nat.le_of_ble_eq_true rfl, Nat.le_of_ble_eq_true rfl⟩ ⟨Nat.zero_le _, Nat.zero_le _⟩ hl.1 rfl (Nat.le_of_ble_eq_true rfl) dX5_power_29 ?_
  refine bx_i2l hx hb dX5_power_32 ?_
  refine lv_iload hx hb dX5_power_33 (lv_at hl 3 rfl) ?_
  refine bx_si C (kX5_mantissa l x5) bx_B_true (fun _ _ _ => trivial) tw_methodLink_RX5_58_yX5_mantissa mbX5_mantissa rfl ⟨rfl, rfl⟩ ⟨Nat.le_of_ble_eq_true rfl, Nat.le_of_ble_eq_true rfl⟩ ⟨Nat.zero_le _, Nat.zero_le _⟩ hl.1 rfl (Nat.le_of_ble_eq_true rfl) dX5_power_35 ?_
  refine bx_lshl hx hb dX5_power_38 ?_
  refine lv_lstore (lv' := [(7, .long (jl_shl ((fX5_bias x5).toInt64) (fX5_mantissa x5))), (6, .int s0), (0, .ref h0), (1, .long x1), (5, .int x5)]) hx hb dX5_power_39 hl (by decide) rfl (fun ls hl => ?_)
  refine lv_lload hx hb dX5_power_41 (lv_at hl 0 rfl) ?_
  refine lv_lstore (lv' := [(9, .long (jl_shl ((fX5_bias x5).toInt64) (fX5_mantissa x5))), (7, .long (jl_shl ((fX5_bias x5).toInt64) (fX5_mantissa x5))), (6, .int s0), (0, .ref h0), (1, .long x1), (5, .int x5)]) hx hb dX5_power_43 hl (by decide) rfl (fun ls hl => ?_)
  refine lv_iload hx hb dX5_power_45 (lv_at hl 2 rfl) ?_
  refine lv_if_ge (tgt := 56) hx hb dX5_power_47 (by decide) (fun c2 => ?_) (fun c2 => ?_)
  · rw [if_pos c2] at hq
    refine lv_iload hx hb dX5_power_56 (lv_at hl 2 rfl) ?_
    exact bX5_power_58 us x1 x5 s0 (jl_shl ((fX5_bias x5).toInt64) (fX5_mantissa x5)) (jl_shl ((fX5_bias x5).toInt64) (fX5_mantissa x5)) s0 C (lv_sub hl [3, 4, 5, 2, 1, 0] rfl) hw h1 (sd_one _) post hq
  · rw [if_neg c2] at hq
    refine lv_iload hx hb dX5_power_50 (lv_at hl 2 rfl) ?_
    refine lv_ineg hx hb dX5_power_52 ?_
    refine lv_goto (tgt := 58) hx hb dX5_power_53 (by decide) ?_
    exact bX5_power_58 us x1 x5 s0 (jl_shl ((fX5_bias x5).toInt64) (fX5_mantissa x5)) (jl_shl ((fX5_bias x5).toInt64) (fX5_mantissa x5)) (-s0) C (lv_sub hl [3, 4, 5, 2, 1, 0] rfl) hw h1 (sd_one _) post hq
set_option maxRecDepth 20000 in
theorem bX5_power_0 (us : Nat → Int64) (x1 : Int64) (x3 : Int64) (x5 : Int32) {p : Program} {l : Launch} {e : Env} {s : State} {m : MethodId} {args : Array Value} {below : List Frame} {meth : Method} {c : Code} {dC : Nat → ClassId} {dI : Nat → Nat → Nat} {r : Nat → Nat} {cA : Nat → ClassId} {Rg : Nat → Prop} {H : Heap} {locs : List Loc} {uf : Nat → Int32} {ua : Nat → Nat → Int32} {h0 : Nat} {ls : Array Slot} (C : bx_C p s m args meth c cX5_power 13 (some .long) RX5) (hl : lv_has ls 13 [(0, .ref h0), (1, .long x1), (3, .long x3), (5, .int x5)]) (hw : hW (dC, dI) (md_T cA) Rg s H locs (md_W h0 r cA uf ua us)) (h1 : x5 = 0 → 0 ≤ x1.toInt) (post : (Int64 × (Nat → Int64)) → Prop) (hq : post (fX5_power us x1 x3 x5)) : W p l e rmX5_power s m args below meth c H locs 0 0 (MQ below (va_Ql (fun r u => post (r, u)) (hBk (dC, dI) (md_T cA) Rg (fun u => md_W h0 r cA uf ua u)) Rg) args s 0 0 Rg) (F0 m 0 ls []) := by
  obtain ⟨hx, hb, hml, hr, hlocks, hown, hts⟩ := id C
  unfold fX5_power at hq
  refine lv_lload_n hx hb dX5_power_0 rfl (lv_at hl 2 rfl) ?_
  refine lv_ldc2 (v := 63) hx hb hown (hts _ tw_constantLong_RX5_154_63) dX5_power_1 ?_
  refine lv_land hx hb dX5_power_4 ?_
  refine bx_l2i hx hb dX5_power_5 ?_
  refine lv_istore (lv' := [(6, .int ((x3 &&& (63 : Int64)).toInt32)), (0, .ref h0), (1, .long x1), (3, .long x3), (5, .int x5)]) hx hb dX5_power_6 hl (by decide) rfl (fun ls hl => ?_)
  refine lv_iload hx hb dX5_power_8 (lv_at hl 0 rfl) ?_
  refine lv_bipush (v := 31) hx hb dX5_power_10 (by decide) ?_
  refine lv_icmp_le (tgt := 23) hx hb dX5_power_12 (by decide) (fun c1 => ?_) (fun c1 => ?_)
  · rw [if_pos c1] at hq
    refine lv_iload hx hb dX5_power_23 (lv_at hl 0 rfl) ?_
    exact bX5_power_25 us x1 x5 ((x3 &&& (63 : Int64)).toInt32) C (lv_sub hl [1, 2, 4] rfl) hw h1 post hq
  · rw [if_neg c1] at hq
    refine lv_iload hx hb dX5_power_15 (lv_at hl 0 rfl) ?_
    refine lv_bipush (v := 64) hx hb dX5_power_17 (by decide) ?_
    refine lv_isub hx hb dX5_power_19 ?_
    refine lv_goto (tgt := 25) hx hb dX5_power_20 (by decide) ?_
    exact bX5_power_25 us x1 x5 ((x3 &&& (63 : Int64)).toInt32 - (64 : Int32)) C (lv_sub hl [1, 2, 4] rfl) hw h1 post hq
theorem kX5_power (l : Launch) (dC : Nat → ClassId) (dI : Nat → Nat → Nat) (h0 : Nat) (r : Nat → Nat) (cA : Nat → ClassId) (sz : Nat) (uf : Nat → Int32) (ua : Nat → Nat → Int32) (us : Nat → Int64) (x1 : Int64) (x3 : Int64) (x5 : Int32) (h1 : x5 = 0 → 0 ≤ x1.toInt) : Met l yX5_power (Cond.code yX5_power cX5_power 13 (some .long) :: bw) rmX5_power (hPc [.ref h0, .long x1, .long x3, .int x5] (dC, dI) (md_T cA) (md_W h0 r cA uf ua us) sz (fun _ => True)) (va_Ql (fun r u => (r, u) = fX5_power us x1 x3 x5) (hBk (dC, dI) (md_T cA) (va_A (md_W h0 r cA uf ua us) sz) (fun u => md_W h0 r cA uf ua u)) (va_A (md_W h0 r cA uf ua us) sz)) 0 0 (va_A (md_W h0 r cA uf ua us) sz) := by
  refine hx_ent (by decide) _ _ (Nat.le_of_ble_eq_true rfl) rfl ?_
  intro p e s m below meth c ls C hl hw hsz _
  exact bX5_power_0 us x1 x3 x5 C hl hw h1 (fun q => q = fX5_power us x1 x3 x5) rfl
def fX5_quotient (us : Nat → Int64) (x1 : Int64) (x3 : Int64) (x5 : Int32) : Int64 × (Nat → Int64) :=
  if (fX5_isNan (fX5_rest x1 x3 x5) x5) = 0 then ((fX5_divide ((fX5_add us x1 (fX5_negated (fX5_rest x1 x3 x5) x5) x5).1) x3 x5), (fX5_add us x1 (fX5_negated (fX5_rest x1 x3 x5) x5) x5).2)
  else ((fX5_nan x5), us)
abbrev rmX5_quotient : Room := { frames := 5, cells := 0, slots := 0, locals := 137 }
theorem mbX5_quotient : mb_V RX5 yX5_quotient cX5_quotient 8 (some .long) 3 := ⟨⟨tw_instanceMethod_yX5_quotient, tw_selects_RX5_yX5_quotient_yX5_quotient, tw_initialized_RX5, tw_code_yX5_quotient⟩, rfl, by decide +kernel, by decide +kernel, by decide +kernel⟩
set_option maxRecDepth 20000 in
theorem bX5_quotient_0 (us : Nat → Int64) (x1 : Int64) (x3 : Int64) (x5 : Int32) {p : Program} {l : Launch} {e : Env} {s : State} {m : MethodId} {args : Array Value} {below : List Frame} {meth : Method} {c : Code} {dC : Nat → ClassId} {dI : Nat → Nat → Nat} {r : Nat → Nat} {cA : Nat → ClassId} {Rg : Nat → Prop} {H : Heap} {locs : List Loc} {uf : Nat → Int32} {ua : Nat → Nat → Int32} {h0 : Nat} {ls : Array Slot} (C : bx_C p s m args meth c cX5_quotient 8 (some .long) RX5) (hl : lv_has ls 8 [(0, .ref h0), (1, .long x1), (3, .long x3), (5, .int x5)]) (hw : hW (dC, dI) (md_T cA) Rg s H locs (md_W h0 r cA uf ua us)) (h1 : x5 = 0 → 0 ≤ x1.toInt) (h3 : x5 = 0 → 0 ≤ x3.toInt) (post : (Int64 × (Nat → Int64)) → Prop) (hq : post (fX5_quotient us x1 x3 x5)) : W p l e rmX5_quotient s m args below meth c H locs 0 0 (MQ below (va_Ql (fun r u => post (r, u)) (hBk (dC, dI) (md_T cA) Rg (fun u => md_W h0 r cA uf ua u)) Rg) args s 0 0 Rg) (F0 m 0 ls []) := by
  obtain ⟨hx, hb, hml, hr, hlocks, hown, hts⟩ := id C
  unfold fX5_quotient at hq
  refine lv_aload_n hx hb dX5_quotient_0 rfl (lv_at hl 0 rfl) ?_
  refine lv_lload_n hx hb dX5_quotient_1 rfl (lv_at hl 1 rfl) ?_
  refine lv_lload_n hx hb dX5_quotient_2 rfl (lv_at hl 2 rfl) ?_
  refine lv_iload hx hb dX5_quotient_3 (lv_at hl 3 rfl) ?_
  refine bx_vl C (kX5_rest l h0 x1 x3 x5 h1 h3) BX5_rest (fun U u1 u2 => hw_ob hw rfl rfl U u1 u2) (fun U u1 u2 => hw_ob hw rfl rfl U u1 u2) tw_methodLink_RX5_209_yX5_rest mbX5_rest rfl ⟨rfl, rfl⟩ ⟨Nat.le_of_ble_eq_true rfl, Nat.le_of_ble_eq_true rfl⟩ ⟨Nat.zero_le _, Nat.zero_le _⟩ hl.1 rfl (Nat.le_of_ble_eq_true rfl) dX5_quotient_5 ?_
  refine lv_lstore (lv' := [(6, .long (fX5_rest x1 x3 x5)), (0, .ref h0), (1, .long x1), (3, .long x3), (5, .int x5)]) hx hb dX5_quotient_8 hl (by decide) rfl (fun ls hl => ?_)
  refine lv_lload hx hb dX5_quotient_10 (lv_at hl 0 rfl) ?_
  refine lv_iload hx hb dX5_quotient_12 (lv_at hl 4 rfl) ?_
  refine bx_si C (kX5_isNan l (fX5_rest x1 x3 x5) x5) bx_B_true (fun _ _ _ => trivial) tw_methodLink_RX5_102_yX5_isNan mbX5_isNan rfl ⟨rfl, rfl⟩ ⟨Nat.le_of_ble_eq_true rfl, Nat.le_of_ble_eq_true rfl⟩ ⟨Nat.zero_le _, Nat.zero_le _⟩ hl.1 rfl (Nat.le_of_ble_eq_true rfl) dX5_quotient_14 ?_
  refine lv_if_eq (tgt := 26) hx hb dX5_quotient_17 (by decide) (fun c1 => ?_) (fun c1 => ?_)
  · rw [if_pos c1] at hq
    refine lv_aload_n hx hb dX5_quotient_26 rfl (lv_at hl 1 rfl) ?_
    refine lv_aload_n hx hb dX5_quotient_27 rfl (lv_at hl 1 rfl) ?_
    refine lv_lload_n hx hb dX5_quotient_28 rfl (lv_at hl 2 rfl) ?_
    refine lv_aload_n hx hb dX5_quotient_29 rfl (lv_at hl 1 rfl) ?_
    refine lv_lload hx hb dX5_quotient_30 (lv_at hl 0 rfl) ?_
    refine lv_iload hx hb dX5_quotient_32 (lv_at hl 4 rfl) ?_
    refine bx_vl C (kX5_negated l h0 (fX5_rest x1 x3 x5) x5) BX5_negated (fun U u1 u2 => hw_ob hw rfl rfl U u1 u2) (fun U u1 u2 => hw_ob hw rfl rfl U u1 u2) tw_methodLink_RX5_170_yX5_negated mbX5_negated rfl ⟨rfl, rfl⟩ ⟨Nat.le_of_ble_eq_true rfl, Nat.le_of_ble_eq_true rfl⟩ ⟨Nat.zero_le _, Nat.zero_le _⟩ hl.1 rfl (Nat.le_of_ble_eq_true rfl) dX5_quotient_34 ?_
    refine lv_iload hx hb dX5_quotient_37 (lv_at hl 4 rfl) ?_
    refine hx_cl (Wf := (fun u => md_W h0 r cA uf ua u)) (u0 := us) (F := (fX5_add us x1 (fX5_negated (fX5_rest x1 x3 x5) x5) x5)) C (fun sz => kX5_add l dC dI h0 r cA sz uf ua us x1 (fX5_negated (fX5_rest x1 x3 x5) x5) x5 h1 (sd_neg (sd_rest0 h1 h3))) (fun _ => bx_B_true) (fun _ _ _ => trivial) hw rfl rfl tw_methodLink_RX5_167_yX5_add mbX5_add rfl ⟨rfl, rfl⟩ ⟨Nat.le_of_ble_eq_true rfl, Nat.le_of_ble_eq_true rfl⟩ ⟨Nat.zero_le _, Nat.zero_le _⟩ hl.1 rfl (Nat.le_of_ble_eq_true rfl) dX5_quotient_39 (fun H locs hw => ?_)
    have hw : hW (dC, dI) (md_T cA) Rg s H locs (md_W h0 r cA uf ua ((fX5_add us x1 (fX5_negated (fX5_rest x1 x3 x5) x5) x5).2)) := hw
    refine lv_lload_n hx hb dX5_quotient_42 rfl (lv_at hl 3 rfl) ?_
    refine lv_iload hx hb dX5_quotient_43 (lv_at hl 4 rfl) ?_
    refine bx_vl C (kX5_divide l h0 ((fX5_add us x1 (fX5_negated (fX5_rest x1 x3 x5) x5) x5).1) x3 x5) BX5_divide (fun U u1 u2 => hw_ob hw rfl rfl U u1 u2) (fun U u1 u2 => hw_ob hw rfl rfl U u1 u2) tw_methodLink_RX5_160_yX5_divide mbX5_divide rfl ⟨rfl, rfl⟩ ⟨Nat.le_of_ble_eq_true rfl, Nat.le_of_ble_eq_true rfl⟩ ⟨Nat.zero_le _, Nat.zero_le _⟩ hl.1 rfl (Nat.le_of_ble_eq_true rfl) dX5_quotient_45 ?_
    exact hx_lret (Wf := (fun u => md_W h0 r cA uf ua u)) (post := post) (v := (fX5_divide ((fX5_add us x1 (fX5_negated (fX5_rest x1 x3 x5) x5) x5).1) x3 x5)) (u := (fX5_add us x1 (fX5_negated (fX5_rest x1 x3 x5) x5) x5).2) hx hb hr hlocks hw hq dX5_quotient_48
  · rw [if_neg c1] at hq
    refine lv_iload hx hb dX5_quotient_20 (lv_at hl 4 rfl) ?_
    refine bx_sl C (kX5_nan l x5) bx_B_true (fun _ _ _ => trivial) tw_methodLink_RX5_106_yX5_nan mbX5_nan rfl ⟨rfl, rfl⟩ ⟨Nat.le_of_ble_eq_true rfl, Nat.le_of_ble_eq_true rfl⟩ ⟨Nat.zero_le _, Nat.zero_le _⟩ hl.1 rfl (Nat.le_of_ble_eq_true rfl) dX5_quotient_22 ?_
    exact hx_lret (Wf := (fun u => md_W h0 r cA uf ua u)) (post := post) (v := (fX5_nan x5)) (u := us) hx hb hr hlocks hw hq dX5_quotient_25
theorem kX5_quotient (l : Launch) (dC : Nat → ClassId) (dI : Nat → Nat → Nat) (h0 : Nat) (r : Nat → Nat) (cA : Nat → ClassId) (sz : Nat) (uf : Nat → Int32) (ua : Nat → Nat → Int32) (us : Nat → Int64) (x1 : Int64) (x3 : Int64) (x5 : Int32) (h1 : x5 = 0 → 0 ≤ x1.toInt) (h3 : x5 = 0 → 0 ≤ x3.toInt) : Met l yX5_quotient (Cond.code yX5_quotient cX5_quotient 8 (some .long) :: bw) rmX5_quotient (hPc [.ref h0, .long x1, .long x3, .int x5] (dC, dI) (md_T cA) (md_W h0 r cA uf ua us) sz (fun _ => True)) (va_Ql (fun r u => (r, u) = fX5_quotient us x1 x3 x5) (hBk (dC, dI) (md_T cA) (va_A (md_W h0 r cA uf ua us) sz) (fun u => md_W h0 r cA uf ua u)) (va_A (md_W h0 r cA uf ua us) sz)) 0 0 (va_A (md_W h0 r cA uf ua us) sz) := by
  refine hx_ent (by decide) _ _ (Nat.le_of_ble_eq_true rfl) rfl ?_
  intro p e s m below meth c ls C hl hw hsz _
  exact bX5_quotient_0 us x1 x3 x5 C hl hw h1 h3 (fun q => q = fX5_quotient us x1 x3 x5) rfl
def fX5_acted_223 (us : Nat → Int64) (x8 : Int32) (s1 : Int64) (s2 : Int64) (s3 : Int32) : Int64 × (Nat → Int64) :=
  ((fX5_lesser s1 s2 s3 x8), us)
def fX5_acted_339 (us : Nat → Int64) (x8 : Int32) (s1 : Int64) (s2 : Int32) : Int64 × (Nat → Int64) :=
  ((fX5_toWhole s1 s2 x8).toInt64, us)
def fX5_acted (us : Nat → Int64) (x1 : Int32) (x2 : Int64) (x4 : Int64) (x6 : Int64) (x8 : Int32) : Int64 × (Nat → Int64) :=
  if x1 = 0 then ((fX5_add us x2 x4 x8).1, (fX5_add us x2 x4 x8).2)
  else if x1 = 1 then if (fX5_isNan x4 x8) = 0 then ((fX5_add us x2 (fX5_negated x4 x8) x8).1, (fX5_add us x2 (fX5_negated x4 x8) x8).2)
  else ((fX5_nan x8), us)
  else if x1 = 2 then ((fX5_multiply us x2 x4 x8).1, (fX5_multiply us x2 x4 x8).2)
  else if x1 = 3 then ((fX5_divide x2 x4 x8), us)
  else if x1 = 4 then ((fX5_restOrNan x2 x4 x8), us)
  else if x1 = 5 then ((fX5_quotient us x2 x4 x8).1, (fX5_quotient us x2 x4 x8).2)
  else if x1 = 6 then ((fX5_root x2 x8), us)
  else if x1 = 7 then ((fX5_whole x2 (x1 - (7 : Int32)) x8), us)
  else if x1 = 8 then ((fX5_whole x2 (x1 - (7 : Int32)) x8), us)
  else if x1 = 9 then ((fX5_whole x2 (x1 - (7 : Int32)) x8), us)
  else if x1 = 10 then if x1 = (11 : Int32) then fX5_acted_223 us x8 x2 x4 (1 : Int32)
  else fX5_acted_223 us x8 x2 x4 (0 : Int32)
  else if x1 = 11 then if x1 = (11 : Int32) then fX5_acted_223 us x8 x2 x4 (1 : Int32)
  else fX5_acted_223 us x8 x2 x4 (0 : Int32)
  else if x1 = 12 then ((fX5_size x2 x8), us)
  else if x1 = 13 then ((fX5_negated x2 x8), us)
  else if x1 = 14 then ((fX5_power us x2 x4 x8).1, (fX5_power us x2 x4 x8).2)
  else if x1 = 15 then ((fX5_scaled x2 x4 x8), us)
  else if x1 = 16 then ((fX5_nextUp x2 x8), us)
  else if x1 = 17 then (((fX5_size x2 x8) ||| (x4 &&& (fX5_signBit x8))), us)
  else if x1 = 18 then ((fX5_stepOf x2 x8), us)
  else if x1 = 19 then ((fX5_exponent x2 x8), us)
  else if x1 = 20 then ((fX5_fused us x2 x4 x6 (1 : Int32) x8).1, (fX5_fused us x2 x4 x6 (1 : Int32) x8).2)
  else if x1 = 21 then ((fX5_ofWhole x2.toInt32 x8), us)
  else if x1 = (22 : Int32) then fX5_acted_339 us x8 x2 (3 : Int32)
  else fX5_acted_339 us x8 x2 (2 : Int32)
abbrev rmX5_acted : Room := { frames := 7, cells := 0, slots := 0, locals := 199 }
theorem mbX5_acted : mb_V RX5 yX5_acted cX5_acted 9 (some .long) 5 := ⟨⟨tw_instanceMethod_yX5_acted, tw_selects_RX5_yX5_acted_yX5_acted, tw_initialized_RX5, tw_code_yX5_acted⟩, rfl, by decide +kernel, by decide +kernel, by decide +kernel⟩
set_option maxRecDepth 20000 in
theorem bX5_acted_223 (us : Nat → Int64) (x8 : Int32) (s1 : Int64) (s2 : Int64) (s3 : Int32) {p : Program} {l : Launch} {e : Env} {s : State} {m : MethodId} {args : Array Value} {below : List Frame} {meth : Method} {c : Code} {dC : Nat → ClassId} {dI : Nat → Nat → Nat} {r : Nat → Nat} {cA : Nat → ClassId} {Rg : Nat → Prop} {H : Heap} {locs : List Loc} {uf : Nat → Int32} {ua : Nat → Nat → Int32} {h0 : Nat} {ls : Array Slot} (C : bx_C p s m args meth c cX5_acted 9 (some .long) RX5) (hl : lv_has ls 9 [(8, .int x8)]) (hw : hW (dC, dI) (md_T cA) Rg s H locs (md_W h0 r cA uf ua us)) (post : (Int64 × (Nat → Int64)) → Prop) (hq : post (fX5_acted_223 us x8 s1 s2 s3)) : W p l e rmX5_acted s m args below meth c H locs 0 0 (MQ below (va_Ql (fun r u => post (r, u)) (hBk (dC, dI) (md_T cA) Rg (fun u => md_W h0 r cA uf ua u)) Rg) args s 0 0 Rg) (F0 m 223 ls [.int s3, .long s2, .long s1, .ref h0]) := by
  obtain ⟨hx, hb, hml, hr, hlocks, hown, hts⟩ := id C
  unfold fX5_acted_223 at hq
  refine lv_iload hx hb dX5_acted_223 (lv_at hl 0 rfl) ?_
  refine bx_vl C (kX5_lesser l h0 s1 s2 s3 x8) BX5_lesser (fun U u1 u2 => hw_ob hw rfl rfl U u1 u2) (fun U u1 u2 => hw_ob hw rfl rfl U u1 u2) tw_methodLink_RX5_182_yX5_lesser mbX5_lesser rfl ⟨rfl, rfl⟩ ⟨Nat.le_of_ble_eq_true rfl, Nat.le_of_ble_eq_true rfl⟩ ⟨Nat.zero_le _, Nat.zero_le _⟩ hl.1 rfl (Nat.le_of_ble_eq_true rfl) dX5_acted_225 ?_
  exact hx_lret (Wf := (fun u => md_W h0 r cA uf ua u)) (post := post) (v := (fX5_lesser s1 s2 s3 x8)) (u := us) hx hb hr hlocks hw hq dX5_acted_228
set_option maxRecDepth 20000 in
theorem bX5_acted_339 (us : Nat → Int64) (x8 : Int32) (s1 : Int64) (s2 : Int32) {p : Program} {l : Launch} {e : Env} {s : State} {m : MethodId} {args : Array Value} {below : List Frame} {meth : Method} {c : Code} {dC : Nat → ClassId} {dI : Nat → Nat → Nat} {r : Nat → Nat} {cA : Nat → ClassId} {Rg : Nat → Prop} {H : Heap} {locs : List Loc} {uf : Nat → Int32} {ua : Nat → Nat → Int32} {h0 : Nat} {ls : Array Slot} (C : bx_C p s m args meth c cX5_acted 9 (some .long) RX5) (hl : lv_has ls 9 [(8, .int x8)]) (hw : hW (dC, dI) (md_T cA) Rg s H locs (md_W h0 r cA uf ua us)) (post : (Int64 × (Nat → Int64)) → Prop) (hq : post (fX5_acted_339 us x8 s1 s2)) : W p l e rmX5_acted s m args below meth c H locs 0 0 (MQ below (va_Ql (fun r u => post (r, u)) (hBk (dC, dI) (md_T cA) Rg (fun u => md_W h0 r cA uf ua u)) Rg) args s 0 0 Rg) (F0 m 339 ls [.int s2, .long s1, .ref h0]) := by
  obtain ⟨hx, hb, hml, hr, hlocks, hown, hts⟩ := id C
  unfold fX5_acted_339 at hq
  refine lv_iload hx hb dX5_acted_339 (lv_at hl 0 rfl) ?_
  refine bx_vi C (kX5_toWhole l h0 s1 s2 x8) BX5_toWhole (fun U u1 u2 => hw_ob hw rfl rfl U u1 u2) (fun U u1 u2 => hw_ob hw rfl rfl U u1 u2) tw_methodLink_RX5_205_yX5_toWhole mbX5_toWhole rfl ⟨rfl, rfl⟩ ⟨Nat.le_of_ble_eq_true rfl, Nat.le_of_ble_eq_true rfl⟩ ⟨Nat.zero_le _, Nat.zero_le _⟩ hl.1 rfl (Nat.le_of_ble_eq_true rfl) dX5_acted_341 ?_
  refine bx_i2l hx hb dX5_acted_344 ?_
  exact hx_lret (Wf := (fun u => md_W h0 r cA uf ua u)) (post := post) (v := (fX5_toWhole s1 s2 x8).toInt64) (u := us) hx hb hr hlocks hw hq dX5_acted_345
set_option maxRecDepth 20000 in
theorem bX5_acted_0 (us : Nat → Int64) (x1 : Int32) (x2 : Int64) (x4 : Int64) (x6 : Int64) (x8 : Int32) {p : Program} {l : Launch} {e : Env} {s : State} {m : MethodId} {args : Array Value} {below : List Frame} {meth : Method} {c : Code} {dC : Nat → ClassId} {dI : Nat → Nat → Nat} {r : Nat → Nat} {cA : Nat → ClassId} {Rg : Nat → Prop} {H : Heap} {locs : List Loc} {uf : Nat → Int32} {ua : Nat → Nat → Int32} {h0 : Nat} {ls : Array Slot} (C : bx_C p s m args meth c cX5_acted 9 (some .long) RX5) (hl : lv_has ls 9 [(0, .ref h0), (1, .int x1), (2, .long x2), (4, .long x4), (6, .long x6), (8, .int x8)]) (hw : hW (dC, dI) (md_T cA) Rg s H locs (md_W h0 r cA uf ua us)) (ga : x8 = 0 → x1 ≠ (21 : Int32) → 0 ≤ x2.toInt) (gb : x8 = 0 → x1 ≠ (14 : Int32) → x1 ≠ (15 : Int32) → 0 ≤ x4.toInt) (gc : x8 = 0 → 0 ≤ x6.toInt) (post : (Int64 × (Nat → Int64)) → Prop) (hq : post (fX5_acted us x1 x2 x4 x6 x8)) : W p l e rmX5_acted s m args below meth c H locs 0 0 (MQ below (va_Ql (fun r u => post (r, u)) (hBk (dC, dI) (md_T cA) Rg (fun u => md_W h0 r cA uf ua u)) Rg) args s 0 0 Rg) (F0 m 0 ls []) := by
  obtain ⟨hx, hb, hml, hr, hlocks, hown, hts⟩ := id C
  unfold fX5_acted at hq
  refine lv_iload_n hx hb dX5_acted_0 rfl (lv_at hl 1 rfl) ?_
  by_cases c1 : x1 = 0
  · rw [if_pos c1] at hq
    refine lv_tableIn (tgt := 104) hx hb dX5_acted_1 (by rw [c1]; decide) (by rw [c1]; decide) (by rw [c1]; rfl) (by decide) ?_
    refine lv_aload_n hx hb dX5_acted_104 rfl (lv_at hl 0 rfl) ?_
    refine lv_lload_n hx hb dX5_acted_105 rfl (lv_at hl 2 rfl) ?_
    refine lv_lload hx hb dX5_acted_106 (lv_at hl 3 rfl) ?_
    refine lv_iload hx hb dX5_acted_108 (lv_at hl 5 rfl) ?_
    refine hx_cl (Wf := (fun u => md_W h0 r cA uf ua u)) (u0 := us) (F := (fX5_add us x2 x4 x8)) C (fun sz => kX5_add l dC dI h0 r cA sz uf ua us x2 x4 x8 (sd_ca ga 0 (by assumption) (by decide)) (sd_cb gb 0 (by assumption) (by decide) (by decide))) (fun _ => bx_B_true) (fun _ _ _ => trivial) hw rfl rfl tw_methodLink_RX5_167_yX5_add mbX5_add rfl ⟨rfl, rfl⟩ ⟨Nat.le_of_ble_eq_true rfl, Nat.le_of_ble_eq_true rfl⟩ ⟨Nat.zero_le _, Nat.zero_le _⟩ hl.1 rfl (Nat.le_of_ble_eq_true rfl) dX5_acted_110 (fun H locs hw => ?_)
    have hw : hW (dC, dI) (md_T cA) Rg s H locs (md_W h0 r cA uf ua ((fX5_add us x2 x4 x8).2)) := hw
    exact hx_lret (Wf := (fun u => md_W h0 r cA uf ua u)) (post := post) (v := (fX5_add us x2 x4 x8).1) (u := (fX5_add us x2 x4 x8).2) hx hb hr hlocks hw hq dX5_acted_113
  rw [if_neg c1] at hq
  by_cases c2 : x1 = 1
  · rw [if_pos c2] at hq
    refine lv_tableIn (tgt := 114) hx hb dX5_acted_1 (by rw [c2]; decide) (by rw [c2]; decide) (by rw [c2]; rfl) (by decide) ?_
    refine lv_lload hx hb dX5_acted_114 (lv_at hl 3 rfl) ?_
    refine lv_iload hx hb dX5_acted_116 (lv_at hl 5 rfl) ?_
    refine bx_si C (kX5_isNan l x4 x8) bx_B_true (fun _ _ _ => trivial) tw_methodLink_RX5_102_yX5_isNan mbX5_isNan rfl ⟨rfl, rfl⟩ ⟨Nat.le_of_ble_eq_true rfl, Nat.le_of_ble_eq_true rfl⟩ ⟨Nat.zero_le _, Nat.zero_le _⟩ hl.1 rfl (Nat.le_of_ble_eq_true rfl) dX5_acted_118 ?_
    refine lv_if_eq (tgt := 132) hx hb dX5_acted_121 (by decide) (fun c3 => ?_) (fun c3 => ?_)
    · rw [if_pos c3] at hq
      refine lv_aload_n hx hb dX5_acted_132 rfl (lv_at hl 0 rfl) ?_
      refine lv_lload_n hx hb dX5_acted_133 rfl (lv_at hl 2 rfl) ?_
      refine lv_aload_n hx hb dX5_acted_134 rfl (lv_at hl 0 rfl) ?_
      refine lv_lload hx hb dX5_acted_135 (lv_at hl 3 rfl) ?_
      refine lv_iload hx hb dX5_acted_137 (lv_at hl 5 rfl) ?_
      refine bx_vl C (kX5_negated l h0 x4 x8) BX5_negated (fun U u1 u2 => hw_ob hw rfl rfl U u1 u2) (fun U u1 u2 => hw_ob hw rfl rfl U u1 u2) tw_methodLink_RX5_170_yX5_negated mbX5_negated rfl ⟨rfl, rfl⟩ ⟨Nat.le_of_ble_eq_true rfl, Nat.le_of_ble_eq_true rfl⟩ ⟨Nat.zero_le _, Nat.zero_le _⟩ hl.1 rfl (Nat.le_of_ble_eq_true rfl) dX5_acted_139 ?_
      refine lv_iload hx hb dX5_acted_142 (lv_at hl 5 rfl) ?_
      refine hx_cl (Wf := (fun u => md_W h0 r cA uf ua u)) (u0 := us) (F := (fX5_add us x2 (fX5_negated x4 x8) x8)) C (fun sz => kX5_add l dC dI h0 r cA sz uf ua us x2 (fX5_negated x4 x8) x8 (sd_ca ga 1 (by assumption) (by decide)) (sd_neg (sd_cb gb 1 (by assumption) (by decide) (by decide)))) (fun _ => bx_B_true) (fun _ _ _ => trivial) hw rfl rfl tw_methodLink_RX5_167_yX5_add mbX5_add rfl ⟨rfl, rfl⟩ ⟨Nat.le_of_ble_eq_true rfl, Nat.le_of_ble_eq_true rfl⟩ ⟨Nat.zero_le _, Nat.zero_le _⟩ hl.1 rfl (Nat.le_of_ble_eq_true rfl) dX5_acted_144 (fun H locs hw => ?_)
      have hw : hW (dC, dI) (md_T cA) Rg s H locs (md_W h0 r cA uf ua ((fX5_add us x2 (fX5_negated x4 x8) x8).2)) := hw
      exact hx_lret (Wf := (fun u => md_W h0 r cA uf ua u)) (post := post) (v := (fX5_add us x2 (fX5_negated x4 x8) x8).1) (u := (fX5_add us x2 (fX5_negated x4 x8) x8).2) hx hb hr hlocks hw hq dX5_acted_147
    · rw [if_neg c3] at hq
      refine lv_iload hx hb dX5_acted_124 (lv_at hl 5 rfl) ?_
      refine bx_sl C (kX5_nan l x8) bx_B_true (fun _ _ _ => trivial) tw_methodLink_RX5_106_yX5_nan mbX5_nan rfl ⟨rfl, rfl⟩ ⟨Nat.le_of_ble_eq_true rfl, Nat.le_of_ble_eq_true rfl⟩ ⟨Nat.zero_le _, Nat.zero_le _⟩ hl.1 rfl (Nat.le_of_ble_eq_true rfl) dX5_acted_126 ?_
      refine lv_goto (tgt := 147) hx hb dX5_acted_129 (by decide) ?_
      exact hx_lret (Wf := (fun u => md_W h0 r cA uf ua u)) (post := post) (v := (fX5_nan x8)) (u := us) hx hb hr hlocks hw hq dX5_acted_147
  rw [if_neg c2] at hq
  by_cases c4 : x1 = 2
  · rw [if_pos c4] at hq
    refine lv_tableIn (tgt := 148) hx hb dX5_acted_1 (by rw [c4]; decide) (by rw [c4]; decide) (by rw [c4]; rfl) (by decide) ?_
    refine lv_aload_n hx hb dX5_acted_148 rfl (lv_at hl 0 rfl) ?_
    refine lv_lload_n hx hb dX5_acted_149 rfl (lv_at hl 2 rfl) ?_
    refine lv_lload hx hb dX5_acted_150 (lv_at hl 3 rfl) ?_
    refine lv_iload hx hb dX5_acted_152 (lv_at hl 5 rfl) ?_
    refine hx_cl (Wf := (fun u => md_W h0 r cA uf ua u)) (u0 := us) (F := (fX5_multiply us x2 x4 x8)) C (fun sz => kX5_multiply l dC dI h0 r cA sz uf ua us x2 x4 x8 (sd_ca ga 2 (by assumption) (by decide)) (sd_cb gb 2 (by assumption) (by decide) (by decide))) (fun _ => bx_B_true) (fun _ _ _ => trivial) hw rfl rfl tw_methodLink_RX5_156_yX5_multiply mbX5_multiply rfl ⟨rfl, rfl⟩ ⟨Nat.le_of_ble_eq_true rfl, Nat.le_of_ble_eq_true rfl⟩ ⟨Nat.zero_le _, Nat.zero_le _⟩ hl.1 rfl (Nat.le_of_ble_eq_true rfl) dX5_acted_154 (fun H locs hw => ?_)
    have hw : hW (dC, dI) (md_T cA) Rg s H locs (md_W h0 r cA uf ua ((fX5_multiply us x2 x4 x8).2)) := hw
    exact hx_lret (Wf := (fun u => md_W h0 r cA uf ua u)) (post := post) (v := (fX5_multiply us x2 x4 x8).1) (u := (fX5_multiply us x2 x4 x8).2) hx hb hr hlocks hw hq dX5_acted_157
  rw [if_neg c4] at hq
  by_cases c5 : x1 = 3
  · rw [if_pos c5] at hq
    refine lv_tableIn (tgt := 158) hx hb dX5_acted_1 (by rw [c5]; decide) (by rw [c5]; decide) (by rw [c5]; rfl) (by decide) ?_
    refine lv_aload_n hx hb dX5_acted_158 rfl (lv_at hl 0 rfl) ?_
    refine lv_lload_n hx hb dX5_acted_159 rfl (lv_at hl 2 rfl) ?_
    refine lv_lload hx hb dX5_acted_160 (lv_at hl 3 rfl) ?_
    refine lv_iload hx hb dX5_acted_162 (lv_at hl 5 rfl) ?_
    refine bx_vl C (kX5_divide l h0 x2 x4 x8) BX5_divide (fun U u1 u2 => hw_ob hw rfl rfl U u1 u2) (fun U u1 u2 => hw_ob hw rfl rfl U u1 u2) tw_methodLink_RX5_160_yX5_divide mbX5_divide rfl ⟨rfl, rfl⟩ ⟨Nat.le_of_ble_eq_true rfl, Nat.le_of_ble_eq_true rfl⟩ ⟨Nat.zero_le _, Nat.zero_le _⟩ hl.1 rfl (Nat.le_of_ble_eq_true rfl) dX5_acted_164 ?_
    exact hx_lret (Wf := (fun u => md_W h0 r cA uf ua u)) (post := post) (v := (fX5_divide x2 x4 x8)) (u := us) hx hb hr hlocks hw hq dX5_acted_167
  rw [if_neg c5] at hq
  by_cases c6 : x1 = 4
  · rw [if_pos c6] at hq
    refine lv_tableIn (tgt := 168) hx hb dX5_acted_1 (by rw [c6]; decide) (by rw [c6]; decide) (by rw [c6]; rfl) (by decide) ?_
    refine lv_aload_n hx hb dX5_acted_168 rfl (lv_at hl 0 rfl) ?_
    refine lv_lload_n hx hb dX5_acted_169 rfl (lv_at hl 2 rfl) ?_
    refine lv_lload hx hb dX5_acted_170 (lv_at hl 3 rfl) ?_
    refine lv_iload hx hb dX5_acted_172 (lv_at hl 5 rfl) ?_
    refine bx_vl C (kX5_restOrNan l h0 x2 x4 x8 (sd_ca ga 4 (by assumption) (by decide)) (sd_cb gb 4 (by assumption) (by decide) (by decide))) BX5_restOrNan (fun U u1 u2 => hw_ob hw rfl rfl U u1 u2) (fun U u1 u2 => hw_ob hw rfl rfl U u1 u2) tw_methodLink_RX5_173_yX5_restOrNan mbX5_restOrNan rfl ⟨rfl, rfl⟩ ⟨Nat.le_of_ble_eq_true rfl, Nat.le_of_ble_eq_true rfl⟩ ⟨Nat.zero_le _, Nat.zero_le _⟩ hl.1 rfl (Nat.le_of_ble_eq_true rfl) dX5_acted_174 ?_
    exact hx_lret (Wf := (fun u => md_W h0 r cA uf ua u)) (post := post) (v := (fX5_restOrNan x2 x4 x8)) (u := us) hx hb hr hlocks hw hq dX5_acted_177
  rw [if_neg c6] at hq
  by_cases c7 : x1 = 5
  · rw [if_pos c7] at hq
    refine lv_tableIn (tgt := 178) hx hb dX5_acted_1 (by rw [c7]; decide) (by rw [c7]; decide) (by rw [c7]; rfl) (by decide) ?_
    refine lv_aload_n hx hb dX5_acted_178 rfl (lv_at hl 0 rfl) ?_
    refine lv_lload_n hx hb dX5_acted_179 rfl (lv_at hl 2 rfl) ?_
    refine lv_lload hx hb dX5_acted_180 (lv_at hl 3 rfl) ?_
    refine lv_iload hx hb dX5_acted_182 (lv_at hl 5 rfl) ?_
    refine hx_cl (Wf := (fun u => md_W h0 r cA uf ua u)) (u0 := us) (F := (fX5_quotient us x2 x4 x8)) C (fun sz => kX5_quotient l dC dI h0 r cA sz uf ua us x2 x4 x8 (sd_ca ga 5 (by assumption) (by decide)) (sd_cb gb 5 (by assumption) (by decide) (by decide))) (fun _ => bx_B_true) (fun _ _ _ => trivial) hw rfl rfl tw_methodLink_RX5_176_yX5_quotient mbX5_quotient rfl ⟨rfl, rfl⟩ ⟨Nat.le_of_ble_eq_true rfl, Nat.le_of_ble_eq_true rfl⟩ ⟨Nat.zero_le _, Nat.zero_le _⟩ hl.1 rfl (Nat.le_of_ble_eq_true rfl) dX5_acted_184 (fun H locs hw => ?_)
    have hw : hW (dC, dI) (md_T cA) Rg s H locs (md_W h0 r cA uf ua ((fX5_quotient us x2 x4 x8).2)) := hw
    exact hx_lret (Wf := (fun u => md_W h0 r cA uf ua u)) (post := post) (v := (fX5_quotient us x2 x4 x8).1) (u := (fX5_quotient us x2 x4 x8).2) hx hb hr hlocks hw hq dX5_acted_187
  rw [if_neg c7] at hq
  by_cases c8 : x1 = 6
  · rw [if_pos c8] at hq
    refine lv_tableIn (tgt := 188) hx hb dX5_acted_1 (by rw [c8]; decide) (by rw [c8]; decide) (by rw [c8]; rfl) (by decide) ?_
    refine lv_aload_n hx hb dX5_acted_188 rfl (lv_at hl 0 rfl) ?_
    refine lv_lload_n hx hb dX5_acted_189 rfl (lv_at hl 2 rfl) ?_
    refine lv_iload hx hb dX5_acted_190 (lv_at hl 5 rfl) ?_
    refine bx_vl C (kX5_root l h0 x2 x8) BX5_root (fun U u1 u2 => hw_ob hw rfl rfl U u1 u2) (fun U u1 u2 => hw_ob hw rfl rfl U u1 u2) tw_methodLink_RX5_179_yX5_root mbX5_root rfl ⟨rfl, rfl⟩ ⟨Nat.le_of_ble_eq_true rfl, Nat.le_of_ble_eq_true rfl⟩ ⟨Nat.zero_le _, Nat.zero_le _⟩ hl.1 rfl (Nat.le_of_ble_eq_true rfl) dX5_acted_192 ?_
    exact hx_lret (Wf := (fun u => md_W h0 r cA uf ua u)) (post := post) (v := (fX5_root x2 x8)) (u := us) hx hb hr hlocks hw hq dX5_acted_195
  rw [if_neg c8] at hq
  by_cases c9 : x1 = 7
  · rw [if_pos c9] at hq
    refine lv_tableIn (tgt := 196) hx hb dX5_acted_1 (by rw [c9]; decide) (by rw [c9]; decide) (by rw [c9]; rfl) (by decide) ?_
    refine lv_aload_n hx hb dX5_acted_196 rfl (lv_at hl 0 rfl) ?_
    refine lv_lload_n hx hb dX5_acted_197 rfl (lv_at hl 2 rfl) ?_
    refine lv_iload_n hx hb dX5_acted_198 rfl (lv_at hl 1 rfl) ?_
    refine lv_bipush (v := 7) hx hb dX5_acted_199 (by decide) ?_
    refine lv_isub hx hb dX5_acted_201 ?_
    refine lv_iload hx hb dX5_acted_202 (lv_at hl 5 rfl) ?_
    refine bx_vl C (kX5_whole l h0 x2 (x1 - (7 : Int32)) x8) BX5_whole (fun U u1 u2 => hw_ob hw rfl rfl U u1 u2) (fun U u1 u2 => hw_ob hw rfl rfl U u1 u2) tw_methodLink_RX5_144_yX5_whole mbX5_whole rfl ⟨rfl, rfl⟩ ⟨Nat.le_of_ble_eq_true rfl, Nat.le_of_ble_eq_true rfl⟩ ⟨Nat.zero_le _, Nat.zero_le _⟩ hl.1 rfl (Nat.le_of_ble_eq_true rfl) dX5_acted_204 ?_
    exact hx_lret (Wf := (fun u => md_W h0 r cA uf ua u)) (post := post) (v := (fX5_whole x2 (x1 - (7 : Int32)) x8)) (u := us) hx hb hr hlocks hw hq dX5_acted_207
  rw [if_neg c9] at hq
  by_cases c10 : x1 = 8
  · rw [if_pos c10] at hq
    refine lv_tableIn (tgt := 196) hx hb dX5_acted_1 (by rw [c10]; decide) (by rw [c10]; decide) (by rw [c10]; rfl) (by decide) ?_
    refine lv_aload_n hx hb dX5_acted_196 rfl (lv_at hl 0 rfl) ?_
    refine lv_lload_n hx hb dX5_acted_197 rfl (lv_at hl 2 rfl) ?_
    refine lv_iload_n hx hb dX5_acted_198 rfl (lv_at hl 1 rfl) ?_
    refine lv_bipush (v := 7) hx hb dX5_acted_199 (by decide) ?_
    refine lv_isub hx hb dX5_acted_201 ?_
    refine lv_iload hx hb dX5_acted_202 (lv_at hl 5 rfl) ?_
    refine bx_vl C (kX5_whole l h0 x2 (x1 - (7 : Int32)) x8) BX5_whole (fun U u1 u2 => hw_ob hw rfl rfl U u1 u2) (fun U u1 u2 => hw_ob hw rfl rfl U u1 u2) tw_methodLink_RX5_144_yX5_whole mbX5_whole rfl ⟨rfl, rfl⟩ ⟨Nat.le_of_ble_eq_true rfl, Nat.le_of_ble_eq_true rfl⟩ ⟨Nat.zero_le _, Nat.zero_le _⟩ hl.1 rfl (Nat.le_of_ble_eq_true rfl) dX5_acted_204 ?_
    exact hx_lret (Wf := (fun u => md_W h0 r cA uf ua u)) (post := post) (v := (fX5_whole x2 (x1 - (7 : Int32)) x8)) (u := us) hx hb hr hlocks hw hq dX5_acted_207
  rw [if_neg c10] at hq
  by_cases c11 : x1 = 9
  · rw [if_pos c11] at hq
    refine lv_tableIn (tgt := 196) hx hb dX5_acted_1 (by rw [c11]; decide) (by rw [c11]; decide) (by rw [c11]; rfl) (by decide) ?_
    refine lv_aload_n hx hb dX5_acted_196 rfl (lv_at hl 0 rfl) ?_
    refine lv_lload_n hx hb dX5_acted_197 rfl (lv_at hl 2 rfl) ?_
    refine lv_iload_n hx hb dX5_acted_198 rfl (lv_at hl 1 rfl) ?_
    refine lv_bipush (v := 7) hx hb dX5_acted_199 (by decide) ?_
    refine lv_isub hx hb dX5_acted_201 ?_
    refine lv_iload hx hb dX5_acted_202 (lv_at hl 5 rfl) ?_
    refine bx_vl C (kX5_whole l h0 x2 (x1 - (7 : Int32)) x8) BX5_whole (fun U u1 u2 => hw_ob hw rfl rfl U u1 u2) (fun U u1 u2 => hw_ob hw rfl rfl U u1 u2) tw_methodLink_RX5_144_yX5_whole mbX5_whole rfl ⟨rfl, rfl⟩ ⟨Nat.le_of_ble_eq_true rfl, Nat.le_of_ble_eq_true rfl⟩ ⟨Nat.zero_le _, Nat.zero_le _⟩ hl.1 rfl (Nat.le_of_ble_eq_true rfl) dX5_acted_204 ?_
    exact hx_lret (Wf := (fun u => md_W h0 r cA uf ua u)) (post := post) (v := (fX5_whole x2 (x1 - (7 : Int32)) x8)) (u := us) hx hb hr hlocks hw hq dX5_acted_207
  rw [if_neg c11] at hq
  by_cases c12 : x1 = 10
  · rw [if_pos c12] at hq
    refine lv_tableIn (tgt := 208) hx hb dX5_acted_1 (by rw [c12]; decide) (by rw [c12]; decide) (by rw [c12]; rfl) (by decide) ?_
    refine lv_aload_n hx hb dX5_acted_208 rfl (lv_at hl 0 rfl) ?_
    refine lv_lload_n hx hb dX5_acted_209 rfl (lv_at hl 2 rfl) ?_
    refine lv_lload hx hb dX5_acted_210 (lv_at hl 3 rfl) ?_
    refine lv_iload_n hx hb dX5_acted_212 rfl (lv_at hl 1 rfl) ?_
    refine lv_bipush (v := 11) hx hb dX5_acted_213 (by decide) ?_
    refine lv_icmp_ne (tgt := 222) hx hb dX5_acted_215 (by decide) (fun c13 => ?_) (fun c13 => ?_)
    · rw [if_neg c13] at hq
      refine lv_iconst (v := 0) hx hb dX5_acted_222 (by decide) ?_
      exact bX5_acted_223 us x8 x2 x4 (0 : Int32) C (lv_sub hl [5] rfl) hw post hq
    · rw [if_pos c13] at hq
      refine lv_iconst (v := 1) hx hb dX5_acted_218 (by decide) ?_
      refine lv_goto (tgt := 223) hx hb dX5_acted_219 (by decide) ?_
      exact bX5_acted_223 us x8 x2 x4 (1 : Int32) C (lv_sub hl [5] rfl) hw post hq
  rw [if_neg c12] at hq
  by_cases c14 : x1 = 11
  · rw [if_pos c14] at hq
    refine lv_tableIn (tgt := 208) hx hb dX5_acted_1 (by rw [c14]; decide) (by rw [c14]; decide) (by rw [c14]; rfl) (by decide) ?_
    refine lv_aload_n hx hb dX5_acted_208 rfl (lv_at hl 0 rfl) ?_
    refine lv_lload_n hx hb dX5_acted_209 rfl (lv_at hl 2 rfl) ?_
    refine lv_lload hx hb dX5_acted_210 (lv_at hl 3 rfl) ?_
    refine lv_iload_n hx hb dX5_acted_212 rfl (lv_at hl 1 rfl) ?_
    refine lv_bipush (v := 11) hx hb dX5_acted_213 (by decide) ?_
    refine lv_icmp_ne (tgt := 222) hx hb dX5_acted_215 (by decide) (fun c15 => ?_) (fun c15 => ?_)
    · rw [if_neg c15] at hq
      refine lv_iconst (v := 0) hx hb dX5_acted_222 (by decide) ?_
      exact bX5_acted_223 us x8 x2 x4 (0 : Int32) C (lv_sub hl [5] rfl) hw post hq
    · rw [if_pos c15] at hq
      refine lv_iconst (v := 1) hx hb dX5_acted_218 (by decide) ?_
      refine lv_goto (tgt := 223) hx hb dX5_acted_219 (by decide) ?_
      exact bX5_acted_223 us x8 x2 x4 (1 : Int32) C (lv_sub hl [5] rfl) hw post hq
  rw [if_neg c14] at hq
  by_cases c16 : x1 = 12
  · rw [if_pos c16] at hq
    refine lv_tableIn (tgt := 229) hx hb dX5_acted_1 (by rw [c16]; decide) (by rw [c16]; decide) (by rw [c16]; rfl) (by decide) ?_
    refine lv_lload_n hx hb dX5_acted_229 rfl (lv_at hl 2 rfl) ?_
    refine lv_iload hx hb dX5_acted_230 (lv_at hl 5 rfl) ?_
    refine bx_sl C (kX5_size l x2 x8) bx_B_true (fun _ _ _ => trivial) tw_methodLink_RX5_67_yX5_size mbX5_size rfl ⟨rfl, rfl⟩ ⟨Nat.le_of_ble_eq_true rfl, Nat.le_of_ble_eq_true rfl⟩ ⟨Nat.zero_le _, Nat.zero_le _⟩ hl.1 rfl (Nat.le_of_ble_eq_true rfl) dX5_acted_232 ?_
    exact hx_lret (Wf := (fun u => md_W h0 r cA uf ua u)) (post := post) (v := (fX5_size x2 x8)) (u := us) hx hb hr hlocks hw hq dX5_acted_235
  rw [if_neg c16] at hq
  by_cases c17 : x1 = 13
  · rw [if_pos c17] at hq
    refine lv_tableIn (tgt := 236) hx hb dX5_acted_1 (by rw [c17]; decide) (by rw [c17]; decide) (by rw [c17]; rfl) (by decide) ?_
    refine lv_aload_n hx hb dX5_acted_236 rfl (lv_at hl 0 rfl) ?_
    refine lv_lload_n hx hb dX5_acted_237 rfl (lv_at hl 2 rfl) ?_
    refine lv_iload hx hb dX5_acted_238 (lv_at hl 5 rfl) ?_
    refine bx_vl C (kX5_negated l h0 x2 x8) BX5_negated (fun U u1 u2 => hw_ob hw rfl rfl U u1 u2) (fun U u1 u2 => hw_ob hw rfl rfl U u1 u2) tw_methodLink_RX5_170_yX5_negated mbX5_negated rfl ⟨rfl, rfl⟩ ⟨Nat.le_of_ble_eq_true rfl, Nat.le_of_ble_eq_true rfl⟩ ⟨Nat.zero_le _, Nat.zero_le _⟩ hl.1 rfl (Nat.le_of_ble_eq_true rfl) dX5_acted_240 ?_
    exact hx_lret (Wf := (fun u => md_W h0 r cA uf ua u)) (post := post) (v := (fX5_negated x2 x8)) (u := us) hx hb hr hlocks hw hq dX5_acted_243
  rw [if_neg c17] at hq
  by_cases c18 : x1 = 14
  · rw [if_pos c18] at hq
    refine lv_tableIn (tgt := 244) hx hb dX5_acted_1 (by rw [c18]; decide) (by rw [c18]; decide) (by rw [c18]; rfl) (by decide) ?_
    refine lv_aload_n hx hb dX5_acted_244 rfl (lv_at hl 0 rfl) ?_
    refine lv_lload_n hx hb dX5_acted_245 rfl (lv_at hl 2 rfl) ?_
    refine lv_lload hx hb dX5_acted_246 (lv_at hl 3 rfl) ?_
    refine lv_iload hx hb dX5_acted_248 (lv_at hl 5 rfl) ?_
    refine hx_cl (Wf := (fun u => md_W h0 r cA uf ua u)) (u0 := us) (F := (fX5_power us x2 x4 x8)) C (fun sz => kX5_power l dC dI h0 r cA sz uf ua us x2 x4 x8 (sd_ca ga 14 (by assumption) (by decide))) (fun _ => bx_B_true) (fun _ _ _ => trivial) hw rfl rfl tw_methodLink_RX5_186_yX5_power mbX5_power rfl ⟨rfl, rfl⟩ ⟨Nat.le_of_ble_eq_true rfl, Nat.le_of_ble_eq_true rfl⟩ ⟨Nat.zero_le _, Nat.zero_le _⟩ hl.1 rfl (Nat.le_of_ble_eq_true rfl) dX5_acted_250 (fun H locs hw => ?_)
    have hw : hW (dC, dI) (md_T cA) Rg s H locs (md_W h0 r cA uf ua ((fX5_power us x2 x4 x8).2)) := hw
    exact hx_lret (Wf := (fun u => md_W h0 r cA uf ua u)) (post := post) (v := (fX5_power us x2 x4 x8).1) (u := (fX5_power us x2 x4 x8).2) hx hb hr hlocks hw hq dX5_acted_253
  rw [if_neg c18] at hq
  by_cases c19 : x1 = 15
  · rw [if_pos c19] at hq
    refine lv_tableIn (tgt := 254) hx hb dX5_acted_1 (by rw [c19]; decide) (by rw [c19]; decide) (by rw [c19]; rfl) (by decide) ?_
    refine lv_aload_n hx hb dX5_acted_254 rfl (lv_at hl 0 rfl) ?_
    refine lv_lload_n hx hb dX5_acted_255 rfl (lv_at hl 2 rfl) ?_
    refine lv_lload hx hb dX5_acted_256 (lv_at hl 3 rfl) ?_
    refine lv_iload hx hb dX5_acted_258 (lv_at hl 5 rfl) ?_
    refine bx_vl C (kX5_scaled l h0 x2 x4 x8) BX5_scaled (fun U u1 u2 => hw_ob hw rfl rfl U u1 u2) (fun U u1 u2 => hw_ob hw rfl rfl U u1 u2) tw_methodLink_RX5_189_yX5_scaled mbX5_scaled rfl ⟨rfl, rfl⟩ ⟨Nat.le_of_ble_eq_true rfl, Nat.le_of_ble_eq_true rfl⟩ ⟨Nat.zero_le _, Nat.zero_le _⟩ hl.1 rfl (Nat.le_of_ble_eq_true rfl) dX5_acted_260 ?_
    exact hx_lret (Wf := (fun u => md_W h0 r cA uf ua u)) (post := post) (v := (fX5_scaled x2 x4 x8)) (u := us) hx hb hr hlocks hw hq dX5_acted_263
  rw [if_neg c19] at hq
  by_cases c20 : x1 = 16
  · rw [if_pos c20] at hq
    refine lv_tableIn (tgt := 264) hx hb dX5_acted_1 (by rw [c20]; decide) (by rw [c20]; decide) (by rw [c20]; rfl) (by decide) ?_
    refine lv_aload_n hx hb dX5_acted_264 rfl (lv_at hl 0 rfl) ?_
    refine lv_lload_n hx hb dX5_acted_265 rfl (lv_at hl 2 rfl) ?_
    refine lv_iload hx hb dX5_acted_266 (lv_at hl 5 rfl) ?_
    refine bx_vl C (kX5_nextUp l h0 x2 x8) BX5_nextUp (fun U u1 u2 => hw_ob hw rfl rfl U u1 u2) (fun U u1 u2 => hw_ob hw rfl rfl U u1 u2) tw_methodLink_RX5_192_yX5_nextUp mbX5_nextUp rfl ⟨rfl, rfl⟩ ⟨Nat.le_of_ble_eq_true rfl, Nat.le_of_ble_eq_true rfl⟩ ⟨Nat.zero_le _, Nat.zero_le _⟩ hl.1 rfl (Nat.le_of_ble_eq_true rfl) dX5_acted_268 ?_
    exact hx_lret (Wf := (fun u => md_W h0 r cA uf ua u)) (post := post) (v := (fX5_nextUp x2 x8)) (u := us) hx hb hr hlocks hw hq dX5_acted_271
  rw [if_neg c20] at hq
  by_cases c21 : x1 = 17
  · rw [if_pos c21] at hq
    refine lv_tableIn (tgt := 272) hx hb dX5_acted_1 (by rw [c21]; decide) (by rw [c21]; decide) (by rw [c21]; rfl) (by decide) ?_
    refine lv_lload_n hx hb dX5_acted_272 rfl (lv_at hl 2 rfl) ?_
    refine lv_iload hx hb dX5_acted_273 (lv_at hl 5 rfl) ?_
    refine bx_sl C (kX5_size l x2 x8) bx_B_true (fun _ _ _ => trivial) tw_methodLink_RX5_67_yX5_size mbX5_size rfl ⟨rfl, rfl⟩ ⟨Nat.le_of_ble_eq_true rfl, Nat.le_of_ble_eq_true rfl⟩ ⟨Nat.zero_le _, Nat.zero_le _⟩ hl.1 rfl (Nat.le_of_ble_eq_true rfl) dX5_acted_275 ?_
    refine lv_lload hx hb dX5_acted_278 (lv_at hl 3 rfl) ?_
    refine lv_iload hx hb dX5_acted_280 (lv_at hl 5 rfl) ?_
    refine bx_sl C (kX5_signBit l x8) bx_B_true (fun _ _ _ => trivial) tw_methodLink_RX5_61_yX5_signBit mbX5_signBit rfl ⟨rfl, rfl⟩ ⟨Nat.le_of_ble_eq_true rfl, Nat.le_of_ble_eq_true rfl⟩ ⟨Nat.zero_le _, Nat.zero_le _⟩ hl.1 rfl (Nat.le_of_ble_eq_true rfl) dX5_acted_282 ?_
    refine lv_land hx hb dX5_acted_285 ?_
    refine lv_lor hx hb dX5_acted_286 ?_
    exact hx_lret (Wf := (fun u => md_W h0 r cA uf ua u)) (post := post) (v := ((fX5_size x2 x8) ||| (x4 &&& (fX5_signBit x8)))) (u := us) hx hb hr hlocks hw hq dX5_acted_287
  rw [if_neg c21] at hq
  by_cases c22 : x1 = 18
  · rw [if_pos c22] at hq
    refine lv_tableIn (tgt := 288) hx hb dX5_acted_1 (by rw [c22]; decide) (by rw [c22]; decide) (by rw [c22]; rfl) (by decide) ?_
    refine lv_aload_n hx hb dX5_acted_288 rfl (lv_at hl 0 rfl) ?_
    refine lv_lload_n hx hb dX5_acted_289 rfl (lv_at hl 2 rfl) ?_
    refine lv_iload hx hb dX5_acted_290 (lv_at hl 5 rfl) ?_
    refine bx_vl C (kX5_stepOf l h0 x2 x8) BX5_stepOf (fun U u1 u2 => hw_ob hw rfl rfl U u1 u2) (fun U u1 u2 => hw_ob hw rfl rfl U u1 u2) tw_methodLink_RX5_195_yX5_stepOf mbX5_stepOf rfl ⟨rfl, rfl⟩ ⟨Nat.le_of_ble_eq_true rfl, Nat.le_of_ble_eq_true rfl⟩ ⟨Nat.zero_le _, Nat.zero_le _⟩ hl.1 rfl (Nat.le_of_ble_eq_true rfl) dX5_acted_292 ?_
    exact hx_lret (Wf := (fun u => md_W h0 r cA uf ua u)) (post := post) (v := (fX5_stepOf x2 x8)) (u := us) hx hb hr hlocks hw hq dX5_acted_295
  rw [if_neg c22] at hq
  by_cases c23 : x1 = 19
  · rw [if_pos c23] at hq
    refine lv_tableIn (tgt := 296) hx hb dX5_acted_1 (by rw [c23]; decide) (by rw [c23]; decide) (by rw [c23]; rfl) (by decide) ?_
    refine lv_aload_n hx hb dX5_acted_296 rfl (lv_at hl 0 rfl) ?_
    refine lv_lload_n hx hb dX5_acted_297 rfl (lv_at hl 2 rfl) ?_
    refine lv_iload hx hb dX5_acted_298 (lv_at hl 5 rfl) ?_
    refine bx_vl C (kX5_exponent l h0 x2 x8) BX5_exponent (fun U u1 u2 => hw_ob hw rfl rfl U u1 u2) (fun U u1 u2 => hw_ob hw rfl rfl U u1 u2) tw_methodLink_RX5_198_yX5_exponent mbX5_exponent rfl ⟨rfl, rfl⟩ ⟨Nat.le_of_ble_eq_true rfl, Nat.le_of_ble_eq_true rfl⟩ ⟨Nat.zero_le _, Nat.zero_le _⟩ hl.1 rfl (Nat.le_of_ble_eq_true rfl) dX5_acted_300 ?_
    exact hx_lret (Wf := (fun u => md_W h0 r cA uf ua u)) (post := post) (v := (fX5_exponent x2 x8)) (u := us) hx hb hr hlocks hw hq dX5_acted_303
  rw [if_neg c23] at hq
  by_cases c24 : x1 = 20
  · rw [if_pos c24] at hq
    refine lv_tableIn (tgt := 304) hx hb dX5_acted_1 (by rw [c24]; decide) (by rw [c24]; decide) (by rw [c24]; rfl) (by decide) ?_
    refine lv_aload_n hx hb dX5_acted_304 rfl (lv_at hl 0 rfl) ?_
    refine lv_lload_n hx hb dX5_acted_305 rfl (lv_at hl 2 rfl) ?_
    refine lv_lload hx hb dX5_acted_306 (lv_at hl 3 rfl) ?_
    refine lv_lload hx hb dX5_acted_308 (lv_at hl 4 rfl) ?_
    refine lv_iconst (v := 1) hx hb dX5_acted_310 (by decide) ?_
    refine lv_iload hx hb dX5_acted_311 (lv_at hl 5 rfl) ?_
    refine hx_cl (Wf := (fun u => md_W h0 r cA uf ua u)) (u0 := us) (F := (fX5_fused us x2 x4 x6 (1 : Int32) x8)) C (fun sz => kX5_fused l dC dI h0 r cA sz uf ua us x2 x4 x6 (1 : Int32) x8 (sd_ca ga 20 (by assumption) (by decide)) (sd_cb gb 20 (by assumption) (by decide) (by decide)) gc) (fun _ => bx_B_true) (fun _ _ _ => trivial) hw rfl rfl tw_methodLink_RX5_134_yX5_fused mbX5_fused rfl ⟨rfl, rfl⟩ ⟨Nat.le_of_ble_eq_true rfl, Nat.le_of_ble_eq_true rfl⟩ ⟨Nat.zero_le _, Nat.zero_le _⟩ hl.1 rfl (Nat.le_of_ble_eq_true rfl) dX5_acted_313 (fun H locs hw => ?_)
    have hw : hW (dC, dI) (md_T cA) Rg s H locs (md_W h0 r cA uf ua ((fX5_fused us x2 x4 x6 (1 : Int32) x8).2)) := hw
    exact hx_lret (Wf := (fun u => md_W h0 r cA uf ua u)) (post := post) (v := (fX5_fused us x2 x4 x6 (1 : Int32) x8).1) (u := (fX5_fused us x2 x4 x6 (1 : Int32) x8).2) hx hb hr hlocks hw hq dX5_acted_316
  rw [if_neg c24] at hq
  by_cases c25 : x1 = 21
  · rw [if_pos c25] at hq
    refine lv_tableIn (tgt := 317) hx hb dX5_acted_1 (by rw [c25]; decide) (by rw [c25]; decide) (by rw [c25]; rfl) (by decide) ?_
    refine lv_aload_n hx hb dX5_acted_317 rfl (lv_at hl 0 rfl) ?_
    refine lv_lload_n hx hb dX5_acted_318 rfl (lv_at hl 2 rfl) ?_
    refine bx_l2i hx hb dX5_acted_319 ?_
    refine lv_iload hx hb dX5_acted_320 (lv_at hl 5 rfl) ?_
    refine bx_vl C (kX5_ofWhole l h0 x2.toInt32 x8) BX5_ofWhole (fun U u1 u2 => hw_ob hw rfl rfl U u1 u2) (fun U u1 u2 => hw_ob hw rfl rfl U u1 u2) tw_methodLink_RX5_201_yX5_ofWhole mbX5_ofWhole rfl ⟨rfl, rfl⟩ ⟨Nat.le_of_ble_eq_true rfl, Nat.le_of_ble_eq_true rfl⟩ ⟨Nat.zero_le _, Nat.zero_le _⟩ hl.1 rfl (Nat.le_of_ble_eq_true rfl) dX5_acted_322 ?_
    exact hx_lret (Wf := (fun u => md_W h0 r cA uf ua u)) (post := post) (v := (fX5_ofWhole x2.toInt32 x8)) (u := us) hx hb hr hlocks hw hq dX5_acted_325
  rw [if_neg c25] at hq
  refine lv_tableOut (tgt := 326) hx hb dX5_acted_1 (sw_out (0) (21) (fun n h1 h2 => ?_)) (by decide) ?_
  · rcases (show n = 0 ∨ n = 1 ∨ n = 2 ∨ n = 3 ∨ n = 4 ∨ n = 5 ∨ n = 6 ∨ n = 7 ∨ n = 8 ∨ n = 9 ∨ n = 10 ∨ n = 11 ∨ n = 12 ∨ n = 13 ∨ n = 14 ∨ n = 15 ∨ n = 16 ∨ n = 17 ∨ n = 18 ∨ n = 19 ∨ n = 20 ∨ n = 21 by omega) with rfl | rfl | rfl | rfl | rfl | rfl | rfl | rfl | rfl | rfl | rfl | rfl | rfl | rfl | rfl | rfl | rfl | rfl | rfl | rfl | rfl | rfl
    · exact c1
    · exact c2
    · exact c4
    · exact c5
    · exact c6
    · exact c7
    · exact c8
    · exact c9
    · exact c10
    · exact c11
    · exact c12
    · exact c14
    · exact c16
    · exact c17
    · exact c18
    · exact c19
    · exact c20
    · exact c21
    · exact c22
    · exact c23
    · exact c24
    · exact c25
  refine lv_aload_n hx hb dX5_acted_326 rfl (lv_at hl 0 rfl) ?_
  refine lv_lload_n hx hb dX5_acted_327 rfl (lv_at hl 2 rfl) ?_
  refine lv_iload_n hx hb dX5_acted_328 rfl (lv_at hl 1 rfl) ?_
  refine lv_bipush (v := 22) hx hb dX5_acted_329 (by decide) ?_
  refine lv_icmp_ne (tgt := 338) hx hb dX5_acted_331 (by decide) (fun c26 => ?_) (fun c26 => ?_)
  · rw [if_neg c26] at hq
    refine lv_iconst (v := 2) hx hb dX5_acted_338 (by decide) ?_
    exact bX5_acted_339 us x8 x2 (2 : Int32) C (lv_sub hl [5] rfl) hw post hq
  · rw [if_pos c26] at hq
    refine lv_iconst (v := 3) hx hb dX5_acted_334 (by decide) ?_
    refine lv_goto (tgt := 339) hx hb dX5_acted_335 (by decide) ?_
    exact bX5_acted_339 us x8 x2 (3 : Int32) C (lv_sub hl [5] rfl) hw post hq
theorem kX5_acted (l : Launch) (dC : Nat → ClassId) (dI : Nat → Nat → Nat) (h0 : Nat) (r : Nat → Nat) (cA : Nat → ClassId) (sz : Nat) (uf : Nat → Int32) (ua : Nat → Nat → Int32) (us : Nat → Int64) (x1 : Int32) (x2 : Int64) (x4 : Int64) (x6 : Int64) (x8 : Int32) (ga : x8 = 0 → x1 ≠ (21 : Int32) → 0 ≤ x2.toInt) (gb : x8 = 0 → x1 ≠ (14 : Int32) → x1 ≠ (15 : Int32) → 0 ≤ x4.toInt) (gc : x8 = 0 → 0 ≤ x6.toInt) : Met l yX5_acted (Cond.code yX5_acted cX5_acted 9 (some .long) :: bw) rmX5_acted (hPc [.ref h0, .int x1, .long x2, .long x4, .long x6, .int x8] (dC, dI) (md_T cA) (md_W h0 r cA uf ua us) sz (fun _ => True)) (va_Ql (fun r u => (r, u) = fX5_acted us x1 x2 x4 x6 x8) (hBk (dC, dI) (md_T cA) (va_A (md_W h0 r cA uf ua us) sz) (fun u => md_W h0 r cA uf ua u)) (va_A (md_W h0 r cA uf ua us) sz)) 0 0 (va_A (md_W h0 r cA uf ua us) sz) := by
  refine hx_ent (by decide) _ _ (Nat.le_of_ble_eq_true rfl) rfl ?_
  intro p e s m below meth c ls C hl hw hsz _
  exact bX5_acted_0 us x1 x2 x4 x6 x8 C hl hw ga gb gc (fun q => q = fX5_acted us x1 x2 x4 x6 x8) rfl
def fX5_single_40 (us : Nat → Int64) (x4 : Int32) (x5 : Int64) (s1 : Int32) (s2 : Int64) : Int32 × (Nat → Int64) :=
  (((fX5_acted us s1 s2 x5 (fX5_bits x4) (0 : Int32)).1).toInt32, (fX5_acted us s1 s2 x5 (fX5_bits x4) (0 : Int32)).2)
def fX5_single_21 (us : Nat → Int64) (x1 : Int32) (x2 : Int32) (x4 : Int32) (s0 : Int64) : Int32 × (Nat → Int64) :=
  if x1 = (21 : Int32) then fX5_single_40 us x4 s0 x1 x2.toInt64
  else fX5_single_40 us x4 s0 x1 (fX5_bits x2)
def fX5_single (us : Nat → Int64) (x1 : Int32) (x2 : Int32) (x3 : Int32) (x4 : Int32) : Int32 × (Nat → Int64) :=
  if x1 = (14 : Int32) then fX5_single_21 us x1 x2 x4 x3.toInt64
  else if x1 = (15 : Int32) then fX5_single_21 us x1 x2 x4 x3.toInt64
    else fX5_single_21 us x1 x2 x4 (fX5_bits x3)
abbrev rmX5_single : Room := { frames := 8, cells := 0, slots := 0, locals := 227 }
theorem mbX5_single : mb_V RX5 yX5_single cX5_single 7 (some .int) 4 := ⟨⟨tw_instanceMethod_yX5_single, tw_selects_RX5_yX5_single_yX5_single, tw_initialized_RX5, tw_code_yX5_single⟩, rfl, by decide +kernel, by decide +kernel, by decide +kernel⟩
set_option maxRecDepth 20000 in
theorem bX5_single_40 (us : Nat → Int64) (x4 : Int32) (x5 : Int64) (s1 : Int32) (s2 : Int64) {p : Program} {l : Launch} {e : Env} {s : State} {m : MethodId} {args : Array Value} {below : List Frame} {meth : Method} {c : Code} {dC : Nat → ClassId} {dI : Nat → Nat → Nat} {r : Nat → Nat} {cA : Nat → ClassId} {Rg : Nat → Prop} {H : Heap} {locs : List Loc} {uf : Nat → Int32} {ua : Nat → Nat → Int32} {h0 : Nat} {ls : Array Slot} (C : bx_C p s m args meth c cX5_single 7 (some .int) RX5) (hl : lv_has ls 7 [(4, .int x4), (5, .long x5)]) (hw : hW (dC, dI) (md_T cA) Rg s H locs (md_W h0 r cA uf ua us)) (ga : s1 ≠ (21 : Int32) → 0 ≤ s2.toInt) (gb : s1 ≠ (14 : Int32) → s1 ≠ (15 : Int32) → 0 ≤ x5.toInt) (post : (Int32 × (Nat → Int64)) → Prop) (hq : post (fX5_single_40 us x4 x5 s1 s2)) : W p l e rmX5_single s m args below meth c H locs 0 0 (MQ below (va_Qi (fun r u => post (r, u)) (hBk (dC, dI) (md_T cA) Rg (fun u => md_W h0 r cA uf ua u)) Rg) args s 0 0 Rg) (F0 m 40 ls [.long s2, .int s1, .ref h0]) := by
  obtain ⟨hx, hb, hml, hr, hlocks, hown, hts⟩ := id C
  unfold fX5_single_40 at hq
  refine lv_lload hx hb dX5_single_40 (lv_at hl 1 rfl) ?_
  refine lv_iload hx hb dX5_single_42 (lv_at hl 0 rfl) ?_
  refine bx_sl C (kX5_bits l x4) bx_B_true (fun _ _ _ => trivial) tw_methodLink_RX5_217_yX5_bits mbX5_bits rfl ⟨rfl, rfl⟩ ⟨Nat.le_of_ble_eq_true rfl, Nat.le_of_ble_eq_true rfl⟩ ⟨Nat.zero_le _, Nat.zero_le _⟩ hl.1 rfl (Nat.le_of_ble_eq_true rfl) dX5_single_44 ?_
  refine lv_iconst (v := 0) hx hb dX5_single_47 (by decide) ?_
  refine hx_cl (Wf := (fun u => md_W h0 r cA uf ua u)) (u0 := us) (F := (fX5_acted us s1 s2 x5 (fX5_bits x4) (0 : Int32))) C (fun sz => kX5_acted l dC dI h0 r cA sz uf ua us s1 s2 x5 (fX5_bits x4) (0 : Int32) (fun _ => ga) (fun _ => gb) (fun _ => sd_bits _)) (fun _ => bx_B_true) (fun _ _ _ => trivial) hw rfl rfl tw_methodLink_RX5_221_yX5_acted mbX5_acted rfl ⟨rfl, rfl⟩ ⟨Nat.le_of_ble_eq_true rfl, Nat.le_of_ble_eq_true rfl⟩ ⟨Nat.zero_le _, Nat.zero_le _⟩ hl.1 rfl (Nat.le_of_ble_eq_true rfl) dX5_single_48 (fun H locs hw => ?_)
  have hw : hW (dC, dI) (md_T cA) Rg s H locs (md_W h0 r cA uf ua ((fX5_acted us s1 s2 x5 (fX5_bits x4) (0 : Int32)).2)) := hw
  refine bx_l2i hx hb dX5_single_51 ?_
  exact hx_iret (Wf := (fun u => md_W h0 r cA uf ua u)) (post := post) (v := ((fX5_acted us s1 s2 x5 (fX5_bits x4) (0 : Int32)).1).toInt32) (u := (fX5_acted us s1 s2 x5 (fX5_bits x4) (0 : Int32)).2) hx hb hr hlocks hw hq dX5_single_52
set_option maxRecDepth 20000 in
theorem bX5_single_21 (us : Nat → Int64) (x1 : Int32) (x2 : Int32) (x4 : Int32) (s0 : Int64) {p : Program} {l : Launch} {e : Env} {s : State} {m : MethodId} {args : Array Value} {below : List Frame} {meth : Method} {c : Code} {dC : Nat → ClassId} {dI : Nat → Nat → Nat} {r : Nat → Nat} {cA : Nat → ClassId} {Rg : Nat → Prop} {H : Heap} {locs : List Loc} {uf : Nat → Int32} {ua : Nat → Nat → Int32} {h0 : Nat} {ls : Array Slot} (C : bx_C p s m args meth c cX5_single 7 (some .int) RX5) (hl : lv_has ls 7 [(0, .ref h0), (1, .int x1), (2, .int x2), (4, .int x4)]) (hw : hW (dC, dI) (md_T cA) Rg s H locs (md_W h0 r cA uf ua us)) (gb : x1 ≠ (14 : Int32) → x1 ≠ (15 : Int32) → 0 ≤ s0.toInt) (post : (Int32 × (Nat → Int64)) → Prop) (hq : post (fX5_single_21 us x1 x2 x4 s0)) : W p l e rmX5_single s m args below meth c H locs 0 0 (MQ below (va_Qi (fun r u => post (r, u)) (hBk (dC, dI) (md_T cA) Rg (fun u => md_W h0 r cA uf ua u)) Rg) args s 0 0 Rg) (F0 m 21 ls [.long s0]) := by
  obtain ⟨hx, hb, hml, hr, hlocks, hown, hts⟩ := id C
  unfold fX5_single_21 at hq
  refine lv_lstore (lv' := [(5, .long s0), (0, .ref h0), (1, .int x1), (2, .int x2), (4, .int x4)]) hx hb dX5_single_21 hl (by decide) rfl (fun ls hl => ?_)
  refine lv_aload_n hx hb dX5_single_23 rfl (lv_at hl 1 rfl) ?_
  refine lv_iload_n hx hb dX5_single_24 rfl (lv_at hl 2 rfl) ?_
  refine lv_iload_n hx hb dX5_single_25 rfl (lv_at hl 2 rfl) ?_
  refine lv_bipush (v := 21) hx hb dX5_single_26 (by decide) ?_
  refine lv_icmp_ne (tgt := 36) hx hb dX5_single_28 (by decide) (fun c2 => ?_) (fun c2 => ?_)
  · rw [if_neg c2] at hq
    refine lv_iload_n hx hb dX5_single_36 rfl (lv_at hl 3 rfl) ?_
    refine bx_sl C (kX5_bits l x2) bx_B_true (fun _ _ _ => trivial) tw_methodLink_RX5_217_yX5_bits mbX5_bits rfl ⟨rfl, rfl⟩ ⟨Nat.le_of_ble_eq_true rfl, Nat.le_of_ble_eq_true rfl⟩ ⟨Nat.zero_le _, Nat.zero_le _⟩ hl.1 rfl (Nat.le_of_ble_eq_true rfl) dX5_single_37 ?_
    exact bX5_single_40 us x4 s0 x1 (fX5_bits x2) C (lv_sub hl [4, 0] rfl) hw (by first | exact fun h => absurd (by assumption) h | exact fun _ => sd_bits _) gb post hq
  · rw [if_pos c2] at hq
    refine lv_iload_n hx hb dX5_single_31 rfl (lv_at hl 3 rfl) ?_
    refine bx_i2l hx hb dX5_single_32 ?_
    refine lv_goto (tgt := 40) hx hb dX5_single_33 (by decide) ?_
    exact bX5_single_40 us x4 s0 x1 x2.toInt64 C (lv_sub hl [4, 0] rfl) hw (by first | exact fun h => absurd (by assumption) h | exact fun _ => sd_bits _) gb post hq
set_option maxRecDepth 20000 in
theorem bX5_single_0 (us : Nat → Int64) (x1 : Int32) (x2 : Int32) (x3 : Int32) (x4 : Int32) {p : Program} {l : Launch} {e : Env} {s : State} {m : MethodId} {args : Array Value} {below : List Frame} {meth : Method} {c : Code} {dC : Nat → ClassId} {dI : Nat → Nat → Nat} {r : Nat → Nat} {cA : Nat → ClassId} {Rg : Nat → Prop} {H : Heap} {locs : List Loc} {uf : Nat → Int32} {ua : Nat → Nat → Int32} {h0 : Nat} {ls : Array Slot} (C : bx_C p s m args meth c cX5_single 7 (some .int) RX5) (hl : lv_has ls 7 [(0, .ref h0), (1, .int x1), (2, .int x2), (3, .int x3), (4, .int x4)]) (hw : hW (dC, dI) (md_T cA) Rg s H locs (md_W h0 r cA uf ua us)) (post : (Int32 × (Nat → Int64)) → Prop) (hq : post (fX5_single us x1 x2 x3 x4)) : W p l e rmX5_single s m args below meth c H locs 0 0 (MQ below (va_Qi (fun r u => post (r, u)) (hBk (dC, dI) (md_T cA) Rg (fun u => md_W h0 r cA uf ua u)) Rg) args s 0 0 Rg) (F0 m 0 ls []) := by
  obtain ⟨hx, hb, hml, hr, hlocks, hown, hts⟩ := id C
  unfold fX5_single at hq
  refine lv_iload_n hx hb dX5_single_0 rfl (lv_at hl 1 rfl) ?_
  refine lv_bipush (v := 14) hx hb dX5_single_1 (by decide) ?_
  refine lv_icmp_eq (tgt := 12) hx hb dX5_single_3 (by decide) (fun c1 => ?_) (fun c1 => ?_)
  · rw [if_pos c1] at hq
    refine lv_iload_n hx hb dX5_single_12 rfl (lv_at hl 3 rfl) ?_
    refine bx_i2l hx hb dX5_single_13 ?_
    refine lv_goto (tgt := 21) hx hb dX5_single_14 (by decide) ?_
    exact bX5_single_21 us x1 x2 x4 x3.toInt64 C (lv_sub hl [0, 1, 2, 4] rfl) hw (by first | exact fun h _ => absurd (by assumption) h | exact fun _ h => absurd (by assumption) h | exact fun _ _ => sd_bits _) post hq
  · rw [if_neg c1] at hq
    refine lv_iload_n hx hb dX5_single_6 rfl (lv_at hl 1 rfl) ?_
    refine lv_bipush (v := 15) hx hb dX5_single_7 (by decide) ?_
    refine lv_icmp_ne (tgt := 17) hx hb dX5_single_9 (by decide) (fun c3 => ?_) (fun c3 => ?_)
    · rw [if_neg c3] at hq
      refine lv_iload_n hx hb dX5_single_17 rfl (lv_at hl 3 rfl) ?_
      refine bx_sl C (kX5_bits l x3) bx_B_true (fun _ _ _ => trivial) tw_methodLink_RX5_217_yX5_bits mbX5_bits rfl ⟨rfl, rfl⟩ ⟨Nat.le_of_ble_eq_true rfl, Nat.le_of_ble_eq_true rfl⟩ ⟨Nat.zero_le _, Nat.zero_le _⟩ hl.1 rfl (Nat.le_of_ble_eq_true rfl) dX5_single_18 ?_
      exact bX5_single_21 us x1 x2 x4 (fX5_bits x3) C (lv_sub hl [0, 1, 2, 4] rfl) hw (by first | exact fun h _ => absurd (by assumption) h | exact fun _ h => absurd (by assumption) h | exact fun _ _ => sd_bits _) post hq
    · rw [if_pos c3] at hq
      refine lv_iload_n hx hb dX5_single_12 rfl (lv_at hl 3 rfl) ?_
      refine bx_i2l hx hb dX5_single_13 ?_
      refine lv_goto (tgt := 21) hx hb dX5_single_14 (by decide) ?_
      exact bX5_single_21 us x1 x2 x4 x3.toInt64 C (lv_sub hl [0, 1, 2, 4] rfl) hw (by first | exact fun h _ => absurd (by assumption) h | exact fun _ h => absurd (by assumption) h | exact fun _ _ => sd_bits _) post hq
theorem kX5_single (l : Launch) (dC : Nat → ClassId) (dI : Nat → Nat → Nat) (h0 : Nat) (r : Nat → Nat) (cA : Nat → ClassId) (sz : Nat) (uf : Nat → Int32) (ua : Nat → Nat → Int32) (us : Nat → Int64) (x1 : Int32) (x2 : Int32) (x3 : Int32) (x4 : Int32) : Met l yX5_single (Cond.code yX5_single cX5_single 7 (some .int) :: bw) rmX5_single (hPc [.ref h0, .int x1, .int x2, .int x3, .int x4] (dC, dI) (md_T cA) (md_W h0 r cA uf ua us) sz (fun _ => True)) (va_Qi (fun r u => (r, u) = fX5_single us x1 x2 x3 x4) (hBk (dC, dI) (md_T cA) (va_A (md_W h0 r cA uf ua us) sz) (fun u => md_W h0 r cA uf ua u)) (va_A (md_W h0 r cA uf ua us) sz)) 0 0 (va_A (md_W h0 r cA uf ua us) sz) := by
  refine hx_ent (by decide) _ _ (Nat.le_of_ble_eq_true rfl) rfl ?_
  intro p e s m below meth c ls C hl hw hsz _
  exact bX5_single_0 us x1 x2 x3 x4 C hl hw (fun q => q = fX5_single us x1 x2 x3 x4) rfl
def fX5_act_16 (uf : Nat → Int32) (us : Nat → Int64) (x1 : Int32) (x2 : Int32) (x3 : Int32) (x4 : Int32) (s1 : Int32) : Int32 × ((Nat → Int32) × (Nat → Int64)) :=
  if (fX5_thrown0 uf s1).1 ≤ 0 then ((fX5_single us x1 x2 x3 x4).1, ((fX5_thrown0 uf s1).2, (fX5_single us x1 x2 x3 x4).2))
  else ((0 : Int32), ((fX5_thrown0 uf s1).2, us))
def fX5_act (uf : Nat → Int32) (us : Nat → Int64) (x1 : Int32) (x2 : Int32) (x3 : Int32) (x4 : Int32) : Int32 × ((Nat → Int32) × (Nat → Int64)) :=
  if (fX5_in x1 (0 : Int32) (23 : Int32)) = 0 then fX5_act_16 uf us x1 x2 x3 x4 (1 : Int32)
  else fX5_act_16 uf us x1 x2 x3 x4 (0 : Int32)
abbrev rmX5_act : Room := { frames := 9, cells := 0, slots := 0, locals := 253 }
theorem mbX5_act : mb_V RX5 yX5_act cX5_act 5 (some .int) 4 := ⟨⟨tw_instanceMethod_yX5_act, tw_selects_RX5_yX5_act_yX5_act, tw_initialized_RX5, tw_code_yX5_act⟩, rfl, by decide +kernel, by decide +kernel, by decide +kernel⟩
set_option maxRecDepth 20000 in
theorem bX5_act_16 (uf : Nat → Int32) (us : Nat → Int64) (x1 : Int32) (x2 : Int32) (x3 : Int32) (x4 : Int32) (s1 : Int32) {p : Program} {l : Launch} {e : Env} {s : State} {m : MethodId} {args : Array Value} {below : List Frame} {meth : Method} {c : Code} {dC : Nat → ClassId} {dI : Nat → Nat → Nat} {r : Nat → Nat} {cA : Nat → ClassId} {Rg : Nat → Prop} {H : Heap} {locs : List Loc} {ua : Nat → Nat → Int32} {h0 : Nat} {ls : Array Slot} (C : bx_C p s m args meth c cX5_act 5 (some .int) RX5) (hl : lv_has ls 5 [(0, .ref h0), (1, .int x1), (2, .int x2), (3, .int x3), (4, .int x4)]) (hw : hW (dC, dI) (md_T cA) Rg s H locs (md_W h0 r cA uf ua us)) (post : (Int32 × ((Nat → Int32) × (Nat → Int64))) → Prop) (hq : post (fX5_act_16 uf us x1 x2 x3 x4 s1)) : W p l e rmX5_act s m args below meth c H locs 0 0 (MQ below (va_Qi (fun r u => post (r, u)) (hBk (dC, dI) (md_T cA) Rg (fun u => md_W h0 r cA u.1 ua u.2)) Rg) args s 0 0 Rg) (F0 m 16 ls [.int s1, .ref h0]) := by
  obtain ⟨hx, hb, hml, hr, hlocks, hown, hts⟩ := id C
  unfold fX5_act_16 at hq
  refine hx_ci (Wf := (fun u => md_W h0 r cA u ua us)) (u0 := uf) (F := (fX5_thrown0 uf s1)) C (fun sz => kX5_thrown0 l dC dI h0 r cA sz uf ua us s1) (fun _ => bx_B_true) (fun _ _ _ => trivial) hw rfl rfl tw_methodLink_RX5_229_yX5_thrown0 mbX5_thrown0 rfl ⟨rfl, rfl⟩ ⟨Nat.le_of_ble_eq_true rfl, Nat.le_of_ble_eq_true rfl⟩ ⟨Nat.zero_le _, Nat.zero_le _⟩ hl.1 rfl (Nat.le_of_ble_eq_true rfl) dX5_act_16 (fun H locs hw => ?_)
  have hw : hW (dC, dI) (md_T cA) Rg s H locs (md_W h0 r cA ((fX5_thrown0 uf s1).2) ua us) := hw
  refine lv_if_le (tgt := 26) hx hb dX5_act_19 (by decide) (fun c2 => ?_) (fun c2 => ?_)
  · rw [if_pos c2] at hq
    refine lv_aload_n hx hb dX5_act_26 rfl (lv_at hl 0 rfl) ?_
    refine lv_iload_n hx hb dX5_act_27 rfl (lv_at hl 1 rfl) ?_
    refine lv_iload_n hx hb dX5_act_28 rfl (lv_at hl 2 rfl) ?_
    refine lv_iload_n hx hb dX5_act_29 rfl (lv_at hl 3 rfl) ?_
    refine lv_iload hx hb dX5_act_30 (lv_at hl 4 rfl) ?_
    refine hx_ci (Wf := (fun u => md_W h0 r cA ((fX5_thrown0 uf s1).2) ua u)) (u0 := us) (F := (fX5_single us x1 x2 x3 x4)) C (fun sz => kX5_single l dC dI h0 r cA sz ((fX5_thrown0 uf s1).2) ua us x1 x2 x3 x4) (fun _ => bx_B_true) (fun _ _ _ => trivial) hw rfl rfl tw_methodLink_RX5_232_yX5_single mbX5_single rfl ⟨rfl, rfl⟩ ⟨Nat.le_of_ble_eq_true rfl, Nat.le_of_ble_eq_true rfl⟩ ⟨Nat.zero_le _, Nat.zero_le _⟩ hl.1 rfl (Nat.le_of_ble_eq_true rfl) dX5_act_32 (fun H locs hw => ?_)
    have hw : hW (dC, dI) (md_T cA) Rg s H locs (md_W h0 r cA ((fX5_thrown0 uf s1).2) ua ((fX5_single us x1 x2 x3 x4).2)) := hw
    exact hx_iret (Wf := (fun u => md_W h0 r cA u.1 ua u.2)) (post := post) (v := (fX5_single us x1 x2 x3 x4).1) (u := ((fX5_thrown0 uf s1).2, (fX5_single us x1 x2 x3 x4).2)) hx hb hr hlocks hw hq dX5_act_35
  · rw [if_neg c2] at hq
    refine lv_iconst (v := 0) hx hb dX5_act_22 (by decide) ?_
    refine lv_goto (tgt := 35) hx hb dX5_act_23 (by decide) ?_
    exact hx_iret (Wf := (fun u => md_W h0 r cA u.1 ua u.2)) (post := post) (v := (0 : Int32)) (u := ((fX5_thrown0 uf s1).2, us)) hx hb hr hlocks hw hq dX5_act_35
set_option maxRecDepth 20000 in
theorem bX5_act_0 (uf : Nat → Int32) (us : Nat → Int64) (x1 : Int32) (x2 : Int32) (x3 : Int32) (x4 : Int32) {p : Program} {l : Launch} {e : Env} {s : State} {m : MethodId} {args : Array Value} {below : List Frame} {meth : Method} {c : Code} {dC : Nat → ClassId} {dI : Nat → Nat → Nat} {r : Nat → Nat} {cA : Nat → ClassId} {Rg : Nat → Prop} {H : Heap} {locs : List Loc} {ua : Nat → Nat → Int32} {h0 : Nat} {ls : Array Slot} (C : bx_C p s m args meth c cX5_act 5 (some .int) RX5) (hl : lv_has ls 5 [(0, .ref h0), (1, .int x1), (2, .int x2), (3, .int x3), (4, .int x4)]) (hw : hW (dC, dI) (md_T cA) Rg s H locs (md_W h0 r cA uf ua us)) (post : (Int32 × ((Nat → Int32) × (Nat → Int64))) → Prop) (hq : post (fX5_act uf us x1 x2 x3 x4)) : W p l e rmX5_act s m args below meth c H locs 0 0 (MQ below (va_Qi (fun r u => post (r, u)) (hBk (dC, dI) (md_T cA) Rg (fun u => md_W h0 r cA u.1 ua u.2)) Rg) args s 0 0 Rg) (F0 m 0 ls []) := by
  obtain ⟨hx, hb, hml, hr, hlocks, hown, hts⟩ := id C
  unfold fX5_act at hq
  refine lv_aload_n hx hb dX5_act_0 rfl (lv_at hl 0 rfl) ?_
  refine lv_iload_n hx hb dX5_act_1 rfl (lv_at hl 1 rfl) ?_
  refine lv_iconst (v := 0) hx hb dX5_act_2 (by decide) ?_
  refine lv_bipush (v := 23) hx hb dX5_act_3 (by decide) ?_
  refine bx_si C (kX5_in l x1 (0 : Int32) (23 : Int32)) bx_B_true (fun _ _ _ => trivial) tw_methodLink_RX5_225_yX5_in mbX5_in rfl ⟨rfl, rfl⟩ ⟨Nat.le_of_ble_eq_true rfl, Nat.le_of_ble_eq_true rfl⟩ ⟨Nat.zero_le _, Nat.zero_le _⟩ hl.1 rfl (Nat.le_of_ble_eq_true rfl) dX5_act_5 ?_
  refine lv_if_ne (tgt := 15) hx hb dX5_act_8 (by decide) (fun c1 => ?_) (fun c1 => ?_)
  · rw [if_neg c1] at hq
    refine lv_iconst (v := 0) hx hb dX5_act_15 (by decide) ?_
    exact bX5_act_16 uf us x1 x2 x3 x4 (0 : Int32) C (lv_sub hl [0, 1, 2, 3, 4] rfl) hw post hq
  · rw [if_pos c1] at hq
    refine lv_iconst (v := 1) hx hb dX5_act_11 (by decide) ?_
    refine lv_goto (tgt := 16) hx hb dX5_act_12 (by decide) ?_
    exact bX5_act_16 uf us x1 x2 x3 x4 (1 : Int32) C (lv_sub hl [0, 1, 2, 3, 4] rfl) hw post hq
theorem kX5_act (l : Launch) (dC : Nat → ClassId) (dI : Nat → Nat → Nat) (h0 : Nat) (r : Nat → Nat) (cA : Nat → ClassId) (sz : Nat) (uf : Nat → Int32) (ua : Nat → Nat → Int32) (us : Nat → Int64) (x1 : Int32) (x2 : Int32) (x3 : Int32) (x4 : Int32) : Met l yX5_act (Cond.code yX5_act cX5_act 5 (some .int) :: bw) rmX5_act (hPc [.ref h0, .int x1, .int x2, .int x3, .int x4] (dC, dI) (md_T cA) (md_W h0 r cA uf ua us) sz (fun _ => True)) (va_Qi (fun r u => (r, u) = fX5_act uf us x1 x2 x3 x4) (hBk (dC, dI) (md_T cA) (va_A (md_W h0 r cA uf ua us) sz) (fun u => md_W h0 r cA u.1 ua u.2)) (va_A (md_W h0 r cA uf ua us) sz)) 0 0 (va_A (md_W h0 r cA uf ua us) sz) := by
  refine hx_ent (by decide) _ _ (Nat.le_of_ble_eq_true rfl) rfl ?_
  intro p e s m below meth c ls C hl hw hsz _
  exact bX5_act_0 uf us x1 x2 x3 x4 C hl hw (fun q => q = fX5_act uf us x1 x2 x3 x4) rfl
def fX5_wide_16 (uf : Nat → Int32) (us : Nat → Int64) (x1 : Int32) (x2 : Int64) (x4 : Int64) (x6 : Int64) (s1 : Int32) : Int64 × ((Nat → Int32) × (Nat → Int64)) :=
  if (fX5_thrown0 uf s1).1 ≤ 0 then ((fX5_acted us x1 x2 x4 x6 (1 : Int32)).1, ((fX5_thrown0 uf s1).2, (fX5_acted us x1 x2 x4 x6 (1 : Int32)).2))
  else ((0 : Int64), ((fX5_thrown0 uf s1).2, us))
def fX5_wide (uf : Nat → Int32) (us : Nat → Int64) (x1 : Int32) (x2 : Int64) (x4 : Int64) (x6 : Int64) : Int64 × ((Nat → Int32) × (Nat → Int64)) :=
  if (fX5_in x1 (0 : Int32) (23 : Int32)) = 0 then fX5_wide_16 uf us x1 x2 x4 x6 (1 : Int32)
  else fX5_wide_16 uf us x1 x2 x4 x6 (0 : Int32)
abbrev rmX5_wide : Room := { frames := 8, cells := 0, slots := 0, locals := 227 }
theorem mbX5_wide : mb_V RX5 yX5_wide cX5_wide 8 (some .long) 4 := ⟨⟨tw_instanceMethod_yX5_wide, tw_selects_RX5_yX5_wide_yX5_wide, tw_initialized_RX5, tw_code_yX5_wide⟩, rfl, by decide +kernel, by decide +kernel, by decide +kernel⟩
set_option maxRecDepth 20000 in
theorem bX5_wide_16 (uf : Nat → Int32) (us : Nat → Int64) (x1 : Int32) (x2 : Int64) (x4 : Int64) (x6 : Int64) (s1 : Int32) {p : Program} {l : Launch} {e : Env} {s : State} {m : MethodId} {args : Array Value} {below : List Frame} {meth : Method} {c : Code} {dC : Nat → ClassId} {dI : Nat → Nat → Nat} {r : Nat → Nat} {cA : Nat → ClassId} {Rg : Nat → Prop} {H : Heap} {locs : List Loc} {ua : Nat → Nat → Int32} {h0 : Nat} {ls : Array Slot} (C : bx_C p s m args meth c cX5_wide 8 (some .long) RX5) (hl : lv_has ls 8 [(0, .ref h0), (1, .int x1), (2, .long x2), (4, .long x4), (6, .long x6)]) (hw : hW (dC, dI) (md_T cA) Rg s H locs (md_W h0 r cA uf ua us)) (post : (Int64 × ((Nat → Int32) × (Nat → Int64))) → Prop) (hq : post (fX5_wide_16 uf us x1 x2 x4 x6 s1)) : W p l e rmX5_wide s m args below meth c H locs 0 0 (MQ below (va_Ql (fun r u => post (r, u)) (hBk (dC, dI) (md_T cA) Rg (fun u => md_W h0 r cA u.1 ua u.2)) Rg) args s 0 0 Rg) (F0 m 16 ls [.int s1, .ref h0]) := by
  obtain ⟨hx, hb, hml, hr, hlocks, hown, hts⟩ := id C
  unfold fX5_wide_16 at hq
  refine hx_ci (Wf := (fun u => md_W h0 r cA u ua us)) (u0 := uf) (F := (fX5_thrown0 uf s1)) C (fun sz => kX5_thrown0 l dC dI h0 r cA sz uf ua us s1) (fun _ => bx_B_true) (fun _ _ _ => trivial) hw rfl rfl tw_methodLink_RX5_229_yX5_thrown0 mbX5_thrown0 rfl ⟨rfl, rfl⟩ ⟨Nat.le_of_ble_eq_true rfl, Nat.le_of_ble_eq_true rfl⟩ ⟨Nat.zero_le _, Nat.zero_le _⟩ hl.1 rfl (Nat.le_of_ble_eq_true rfl) dX5_wide_16 (fun H locs hw => ?_)
  have hw : hW (dC, dI) (md_T cA) Rg s H locs (md_W h0 r cA ((fX5_thrown0 uf s1).2) ua us) := hw
  refine lv_if_le (tgt := 26) hx hb dX5_wide_19 (by decide) (fun c2 => ?_) (fun c2 => ?_)
  · rw [if_pos c2] at hq
    refine lv_aload_n hx hb dX5_wide_26 rfl (lv_at hl 0 rfl) ?_
    refine lv_iload_n hx hb dX5_wide_27 rfl (lv_at hl 1 rfl) ?_
    refine lv_lload_n hx hb dX5_wide_28 rfl (lv_at hl 2 rfl) ?_
    refine lv_lload hx hb dX5_wide_29 (lv_at hl 3 rfl) ?_
    refine lv_lload hx hb dX5_wide_31 (lv_at hl 4 rfl) ?_
    refine lv_iconst (v := 1) hx hb dX5_wide_33 (by decide) ?_
    refine hx_cl (Wf := (fun u => md_W h0 r cA ((fX5_thrown0 uf s1).2) ua u)) (u0 := us) (F := (fX5_acted us x1 x2 x4 x6 (1 : Int32))) C (fun sz => kX5_acted l dC dI h0 r cA sz ((fX5_thrown0 uf s1).2) ua us x1 x2 x4 x6 (1 : Int32) (fun h => absurd h (by decide)) (fun h => absurd h (by decide)) (fun h => absurd h (by decide))) (fun _ => bx_B_true) (fun _ _ _ => trivial) hw rfl rfl tw_methodLink_RX5_221_yX5_acted mbX5_acted rfl ⟨rfl, rfl⟩ ⟨Nat.le_of_ble_eq_true rfl, Nat.le_of_ble_eq_true rfl⟩ ⟨Nat.zero_le _, Nat.zero_le _⟩ hl.1 rfl (Nat.le_of_ble_eq_true rfl) dX5_wide_34 (fun H locs hw => ?_)
    have hw : hW (dC, dI) (md_T cA) Rg s H locs (md_W h0 r cA ((fX5_thrown0 uf s1).2) ua ((fX5_acted us x1 x2 x4 x6 (1 : Int32)).2)) := hw
    exact hx_lret (Wf := (fun u => md_W h0 r cA u.1 ua u.2)) (post := post) (v := (fX5_acted us x1 x2 x4 x6 (1 : Int32)).1) (u := ((fX5_thrown0 uf s1).2, (fX5_acted us x1 x2 x4 x6 (1 : Int32)).2)) hx hb hr hlocks hw hq dX5_wide_37
  · rw [if_neg c2] at hq
    refine lv_lconst (v := 0) hx hb dX5_wide_22 (by decide) ?_
    refine lv_goto (tgt := 37) hx hb dX5_wide_23 (by decide) ?_
    exact hx_lret (Wf := (fun u => md_W h0 r cA u.1 ua u.2)) (post := post) (v := (0 : Int64)) (u := ((fX5_thrown0 uf s1).2, us)) hx hb hr hlocks hw hq dX5_wide_37
set_option maxRecDepth 20000 in
theorem bX5_wide_0 (uf : Nat → Int32) (us : Nat → Int64) (x1 : Int32) (x2 : Int64) (x4 : Int64) (x6 : Int64) {p : Program} {l : Launch} {e : Env} {s : State} {m : MethodId} {args : Array Value} {below : List Frame} {meth : Method} {c : Code} {dC : Nat → ClassId} {dI : Nat → Nat → Nat} {r : Nat → Nat} {cA : Nat → ClassId} {Rg : Nat → Prop} {H : Heap} {locs : List Loc} {ua : Nat → Nat → Int32} {h0 : Nat} {ls : Array Slot} (C : bx_C p s m args meth c cX5_wide 8 (some .long) RX5) (hl : lv_has ls 8 [(0, .ref h0), (1, .int x1), (2, .long x2), (4, .long x4), (6, .long x6)]) (hw : hW (dC, dI) (md_T cA) Rg s H locs (md_W h0 r cA uf ua us)) (post : (Int64 × ((Nat → Int32) × (Nat → Int64))) → Prop) (hq : post (fX5_wide uf us x1 x2 x4 x6)) : W p l e rmX5_wide s m args below meth c H locs 0 0 (MQ below (va_Ql (fun r u => post (r, u)) (hBk (dC, dI) (md_T cA) Rg (fun u => md_W h0 r cA u.1 ua u.2)) Rg) args s 0 0 Rg) (F0 m 0 ls []) := by
  obtain ⟨hx, hb, hml, hr, hlocks, hown, hts⟩ := id C
  unfold fX5_wide at hq
  refine lv_aload_n hx hb dX5_wide_0 rfl (lv_at hl 0 rfl) ?_
  refine lv_iload_n hx hb dX5_wide_1 rfl (lv_at hl 1 rfl) ?_
  refine lv_iconst (v := 0) hx hb dX5_wide_2 (by decide) ?_
  refine lv_bipush (v := 23) hx hb dX5_wide_3 (by decide) ?_
  refine bx_si C (kX5_in l x1 (0 : Int32) (23 : Int32)) bx_B_true (fun _ _ _ => trivial) tw_methodLink_RX5_225_yX5_in mbX5_in rfl ⟨rfl, rfl⟩ ⟨Nat.le_of_ble_eq_true rfl, Nat.le_of_ble_eq_true rfl⟩ ⟨Nat.zero_le _, Nat.zero_le _⟩ hl.1 rfl (Nat.le_of_ble_eq_true rfl) dX5_wide_5 ?_
  refine lv_if_ne (tgt := 15) hx hb dX5_wide_8 (by decide) (fun c1 => ?_) (fun c1 => ?_)
  · rw [if_neg c1] at hq
    refine lv_iconst (v := 0) hx hb dX5_wide_15 (by decide) ?_
    exact bX5_wide_16 uf us x1 x2 x4 x6 (0 : Int32) C (lv_sub hl [0, 1, 2, 3, 4] rfl) hw post hq
  · rw [if_pos c1] at hq
    refine lv_iconst (v := 1) hx hb dX5_wide_11 (by decide) ?_
    refine lv_goto (tgt := 16) hx hb dX5_wide_12 (by decide) ?_
    exact bX5_wide_16 uf us x1 x2 x4 x6 (1 : Int32) C (lv_sub hl [0, 1, 2, 3, 4] rfl) hw post hq
theorem kX5_wide (l : Launch) (dC : Nat → ClassId) (dI : Nat → Nat → Nat) (h0 : Nat) (r : Nat → Nat) (cA : Nat → ClassId) (sz : Nat) (uf : Nat → Int32) (ua : Nat → Nat → Int32) (us : Nat → Int64) (x1 : Int32) (x2 : Int64) (x4 : Int64) (x6 : Int64) : Met l yX5_wide (Cond.code yX5_wide cX5_wide 8 (some .long) :: bw) rmX5_wide (hPc [.ref h0, .int x1, .long x2, .long x4, .long x6] (dC, dI) (md_T cA) (md_W h0 r cA uf ua us) sz (fun _ => True)) (va_Ql (fun r u => (r, u) = fX5_wide uf us x1 x2 x4 x6) (hBk (dC, dI) (md_T cA) (va_A (md_W h0 r cA uf ua us) sz) (fun u => md_W h0 r cA u.1 ua u.2)) (va_A (md_W h0 r cA uf ua us) sz)) 0 0 (va_A (md_W h0 r cA uf ua us) sz) := by
  refine hx_ent (by decide) _ _ (Nat.le_of_ble_eq_true rfl) rfl ?_
  intro p e s m below meth c ls C hl hw hsz _
  exact bX5_wide_0 uf us x1 x2 x4 x6 C hl hw (fun q => q = fX5_wide uf us x1 x2 x4 x6) rfl
def fX5_near_60 (us : Nat → Int64) (x1 : Int64) (x3 : Int64) (x5 : Int64) (x7 : Int32) : Int32 × (Nat → Int64) :=
  if (fX5_isInfinite x5 x7) = 0 then if (fX5_order x1 x3 x7) = 0 then ((1 : Int32), us)
    else if (fX5_size x5 x7) < (fX5_size ((fX5_add us x1 (fX5_negated x3 x7) x7).1) x7) then ((0 : Int32), (fX5_add us x1 (fX5_negated x3 x7) x7).2)
      else ((1 : Int32), (fX5_add us x1 (fX5_negated x3 x7) x7).2)
  else ((1 : Int32), us)
theorem zX5_near_60 (us : Nat → Int64) (x1 : Int64) (x3 : Int64) (x5 : Int64) (x7 : Int32) : ji_z (fX5_near_60 us x1 x3 x5 x7).1 := by
  unfold fX5_near_60
  repeat' (first | with_reducible exact ji_z0 | with_reducible exact ji_z1 | with_reducible refine ji_z_ite ?_ ?_ | with_reducible assumption | with_reducible exact zX5_isNan .. | with_reducible exact zX5_isInfinite .. | split)
def fX5_near (us : Nat → Int64) (x1 : Int64) (x3 : Int64) (x5 : Int64) (x7 : Int32) : Int32 × (Nat → Int64) :=
  if (fX5_isNan x1 x7) = 0 then if (fX5_isNan x3 x7) = 0 then if (fX5_isNan x5 x7) = 0 then if (fX5_isInfinite x1 x7) = 0 then fX5_near_60 us x1 x3 x5 x7
        else if (fX5_isInfinite x3 x7) = 0 then fX5_near_60 us x1 x3 x5 x7
          else if x1 = x3 then ((1 : Int32), us)
            else ((0 : Int32), us)
      else ((0 : Int32), us)
    else ((0 : Int32), us)
  else ((0 : Int32), us)
theorem zX5_near (us : Nat → Int64) (x1 : Int64) (x3 : Int64) (x5 : Int64) (x7 : Int32) : ji_z (fX5_near us x1 x3 x5 x7).1 := by
  unfold fX5_near
  repeat' (first | with_reducible exact ji_z0 | with_reducible exact ji_z1 | with_reducible refine ji_z_ite ?_ ?_ | with_reducible assumption | with_reducible exact zX5_isNan .. | with_reducible exact zX5_isInfinite .. | with_reducible exact zX5_near_60 .. | split)
abbrev rmX5_near : Room := { frames := 5, cells := 0, slots := 0, locals := 137 }
theorem mbX5_near : mb_V RX5 yX5_near cX5_near 10 (some .boolean) 4 := ⟨⟨tw_instanceMethod_yX5_near, tw_selects_RX5_yX5_near_yX5_near, tw_initialized_RX5, tw_code_yX5_near⟩, rfl, by decide +kernel, by decide +kernel, by decide +kernel⟩
set_option maxRecDepth 20000 in
theorem bX5_near_60 (us : Nat → Int64) (x1 : Int64) (x3 : Int64) (x5 : Int64) (x7 : Int32) {p : Program} {l : Launch} {e : Env} {s : State} {m : MethodId} {args : Array Value} {below : List Frame} {meth : Method} {c : Code} {dC : Nat → ClassId} {dI : Nat → Nat → Nat} {r : Nat → Nat} {cA : Nat → ClassId} {Rg : Nat → Prop} {H : Heap} {locs : List Loc} {uf : Nat → Int32} {ua : Nat → Nat → Int32} {h0 : Nat} {ls : Array Slot} (C : bx_C p s m args meth c cX5_near 10 (some .boolean) RX5) (hl : lv_has ls 10 [(0, .ref h0), (1, .long x1), (3, .long x3), (5, .long x5), (7, .int x7)]) (hw : hW (dC, dI) (md_T cA) Rg s H locs (md_W h0 r cA uf ua us)) (h1 : x7 = 0 → 0 ≤ x1.toInt) (h3 : x7 = 0 → 0 ≤ x3.toInt) (post : (Int32 × (Nat → Int64)) → Prop) (hq : post (fX5_near_60 us x1 x3 x5 x7)) : W p l e rmX5_near s m args below meth c H locs 0 0 (MQ below (va_Qi (fun r u => post (r, u)) (hBk (dC, dI) (md_T cA) Rg (fun u => md_W h0 r cA uf ua u)) Rg) args s 0 0 Rg) (F0 m 60 ls []) := by
  obtain ⟨hx, hb, hml, hr, hlocks, hown, hts⟩ := id C
  unfold fX5_near_60 at hq
  refine lv_lload hx hb dX5_near_60 (lv_at hl 3 rfl) ?_
  refine lv_iload hx hb dX5_near_62 (lv_at hl 4 rfl) ?_
  refine bx_si C (kX5_isInfinite l x5 x7) bx_B_true (fun _ _ _ => trivial) tw_methodLink_RX5_112_yX5_isInfinite mbX5_isInfinite rfl ⟨rfl, rfl⟩ ⟨Nat.le_of_ble_eq_true rfl, Nat.le_of_ble_eq_true rfl⟩ ⟨Nat.zero_le _, Nat.zero_le _⟩ hl.1 rfl (Nat.le_of_ble_eq_true rfl) dX5_near_64 ?_
  refine lv_if_ne (tgt := 81) hx hb dX5_near_67 (by decide) (fun c5 => ?_) (fun c5 => ?_)
  · rw [if_neg c5] at hq
    refine lv_iconst (v := 1) hx hb dX5_near_81 (by decide) ?_
    exact hx_zret (Wf := (fun u => md_W h0 r cA uf ua u)) (post := post) (v := (1 : Int32)) (u := us) hx hb hr hlocks (by repeat' (first | with_reducible exact ji_z0 | with_reducible exact ji_z1 | with_reducible refine ji_z_ite ?_ ?_ | with_reducible assumption | with_reducible exact zX5_isNan .. | with_reducible exact zX5_isInfinite ..)) hw hq dX5_near_82
  · rw [if_pos c5] at hq
    refine lv_aload_n hx hb dX5_near_70 rfl (lv_at hl 0 rfl) ?_
    refine lv_lload_n hx hb dX5_near_71 rfl (lv_at hl 1 rfl) ?_
    refine lv_lload_n hx hb dX5_near_72 rfl (lv_at hl 2 rfl) ?_
    refine lv_iload hx hb dX5_near_73 (lv_at hl 4 rfl) ?_
    refine bx_vi C (kX5_order l h0 x1 x3 x7) BX5_order (fun U u1 u2 => hw_ob hw rfl rfl U u1 u2) (fun U u1 u2 => hw_ob hw rfl rfl U u1 u2) tw_methodLink_RX5_150_yX5_order mbX5_order rfl ⟨rfl, rfl⟩ ⟨Nat.le_of_ble_eq_true rfl, Nat.le_of_ble_eq_true rfl⟩ ⟨Nat.zero_le _, Nat.zero_le _⟩ hl.1 rfl (Nat.le_of_ble_eq_true rfl) dX5_near_75 ?_
    refine lv_if_ne (tgt := 83) hx hb dX5_near_78 (by decide) (fun c6 => ?_) (fun c6 => ?_)
    · rw [if_neg c6] at hq
      refine lv_aload_n hx hb dX5_near_83 rfl (lv_at hl 0 rfl) ?_
      refine lv_lload_n hx hb dX5_near_84 rfl (lv_at hl 1 rfl) ?_
      refine lv_aload_n hx hb dX5_near_85 rfl (lv_at hl 0 rfl) ?_
      refine lv_lload_n hx hb dX5_near_86 rfl (lv_at hl 2 rfl) ?_
      refine lv_iload hx hb dX5_near_87 (lv_at hl 4 rfl) ?_
      refine bx_vl C (kX5_negated l h0 x3 x7) BX5_negated (fun U u1 u2 => hw_ob hw rfl rfl U u1 u2) (fun U u1 u2 => hw_ob hw rfl rfl U u1 u2) tw_methodLink_RX5_170_yX5_negated mbX5_negated rfl ⟨rfl, rfl⟩ ⟨Nat.le_of_ble_eq_true rfl, Nat.le_of_ble_eq_true rfl⟩ ⟨Nat.zero_le _, Nat.zero_le _⟩ hl.1 rfl (Nat.le_of_ble_eq_true rfl) dX5_near_89 ?_
      refine lv_iload hx hb dX5_near_92 (lv_at hl 4 rfl) ?_
      refine hx_cl (Wf := (fun u => md_W h0 r cA uf ua u)) (u0 := us) (F := (fX5_add us x1 (fX5_negated x3 x7) x7)) C (fun sz => kX5_add l dC dI h0 r cA sz uf ua us x1 (fX5_negated x3 x7) x7 h1 (sd_neg h3)) (fun _ => bx_B_true) (fun _ _ _ => trivial) hw rfl rfl tw_methodLink_RX5_167_yX5_add mbX5_add rfl ⟨rfl, rfl⟩ ⟨Nat.le_of_ble_eq_true rfl, Nat.le_of_ble_eq_true rfl⟩ ⟨Nat.zero_le _, Nat.zero_le _⟩ hl.1 rfl (Nat.le_of_ble_eq_true rfl) dX5_near_94 (fun H locs hw => ?_)
      have hw : hW (dC, dI) (md_T cA) Rg s H locs (md_W h0 r cA uf ua ((fX5_add us x1 (fX5_negated x3 x7) x7).2)) := hw
      refine lv_iload hx hb dX5_near_97 (lv_at hl 4 rfl) ?_
      refine bx_sl C (kX5_size l ((fX5_add us x1 (fX5_negated x3 x7) x7).1) x7) bx_B_true (fun _ _ _ => trivial) tw_methodLink_RX5_67_yX5_size mbX5_size rfl ⟨rfl, rfl⟩ ⟨Nat.le_of_ble_eq_true rfl, Nat.le_of_ble_eq_true rfl⟩ ⟨Nat.zero_le _, Nat.zero_le _⟩ hl.1 rfl (Nat.le_of_ble_eq_true rfl) dX5_near_99 ?_
      refine lv_lstore (lv' := [(8, .long (fX5_size ((fX5_add us x1 (fX5_negated x3 x7) x7).1) x7)), (0, .ref h0), (1, .long x1), (3, .long x3), (5, .long x5), (7, .int x7)]) hx hb dX5_near_102 hl (by decide) rfl (fun ls hl => ?_)
      refine lv_lload hx hb dX5_near_104 (lv_at hl 0 rfl) ?_
      refine lv_lload hx hb dX5_near_106 (lv_at hl 4 rfl) ?_
      refine lv_iload hx hb dX5_near_108 (lv_at hl 5 rfl) ?_
      refine bx_sl C (kX5_size l x5 x7) bx_B_true (fun _ _ _ => trivial) tw_methodLink_RX5_67_yX5_size mbX5_size rfl ⟨rfl, rfl⟩ ⟨Nat.le_of_ble_eq_true rfl, Nat.le_of_ble_eq_true rfl⟩ ⟨Nat.zero_le _, Nat.zero_le _⟩ hl.1 rfl (Nat.le_of_ble_eq_true rfl) dX5_near_110 ?_
      refine bx_lc_gt (tgt := 121) hx hb dX5_near_113 dX5_near_114 (by decide) (fun c7 => ?_) (fun c7 => ?_)
      · rw [if_pos c7] at hq
        refine lv_iconst (v := 0) hx hb dX5_near_121 (by decide) ?_
        exact hx_zret (Wf := (fun u => md_W h0 r cA uf ua u)) (post := post) (v := (0 : Int32)) (u := (fX5_add us x1 (fX5_negated x3 x7) x7).2) hx hb hr hlocks (by repeat' (first | with_reducible exact ji_z0 | with_reducible exact ji_z1 | with_reducible refine ji_z_ite ?_ ?_ | with_reducible assumption | with_reducible exact zX5_isNan .. | with_reducible exact zX5_isInfinite ..)) hw hq dX5_near_122
      · rw [if_neg c7] at hq
        refine lv_iconst (v := 1) hx hb dX5_near_117 (by decide) ?_
        refine lv_goto (tgt := 122) hx hb dX5_near_118 (by decide) ?_
        exact hx_zret (Wf := (fun u => md_W h0 r cA uf ua u)) (post := post) (v := (1 : Int32)) (u := (fX5_add us x1 (fX5_negated x3 x7) x7).2) hx hb hr hlocks (by repeat' (first | with_reducible exact ji_z0 | with_reducible exact ji_z1 | with_reducible refine ji_z_ite ?_ ?_ | with_reducible assumption | with_reducible exact zX5_isNan .. | with_reducible exact zX5_isInfinite ..)) hw hq dX5_near_122
    · rw [if_pos c6] at hq
      refine lv_iconst (v := 1) hx hb dX5_near_81 (by decide) ?_
      exact hx_zret (Wf := (fun u => md_W h0 r cA uf ua u)) (post := post) (v := (1 : Int32)) (u := us) hx hb hr hlocks (by repeat' (first | with_reducible exact ji_z0 | with_reducible exact ji_z1 | with_reducible refine ji_z_ite ?_ ?_ | with_reducible assumption | with_reducible exact zX5_isNan .. | with_reducible exact zX5_isInfinite ..)) hw hq dX5_near_82
set_option maxRecDepth 20000 in
theorem bX5_near_0 (us : Nat → Int64) (x1 : Int64) (x3 : Int64) (x5 : Int64) (x7 : Int32) {p : Program} {l : Launch} {e : Env} {s : State} {m : MethodId} {args : Array Value} {below : List Frame} {meth : Method} {c : Code} {dC : Nat → ClassId} {dI : Nat → Nat → Nat} {r : Nat → Nat} {cA : Nat → ClassId} {Rg : Nat → Prop} {H : Heap} {locs : List Loc} {uf : Nat → Int32} {ua : Nat → Nat → Int32} {h0 : Nat} {ls : Array Slot} (C : bx_C p s m args meth c cX5_near 10 (some .boolean) RX5) (hl : lv_has ls 10 [(0, .ref h0), (1, .long x1), (3, .long x3), (5, .long x5), (7, .int x7)]) (hw : hW (dC, dI) (md_T cA) Rg s H locs (md_W h0 r cA uf ua us)) (h1 : x7 = 0 → 0 ≤ x1.toInt) (h3 : x7 = 0 → 0 ≤ x3.toInt) (post : (Int32 × (Nat → Int64)) → Prop) (hq : post (fX5_near us x1 x3 x5 x7)) : W p l e rmX5_near s m args below meth c H locs 0 0 (MQ below (va_Qi (fun r u => post (r, u)) (hBk (dC, dI) (md_T cA) Rg (fun u => md_W h0 r cA uf ua u)) Rg) args s 0 0 Rg) (F0 m 0 ls []) := by
  obtain ⟨hx, hb, hml, hr, hlocks, hown, hts⟩ := id C
  unfold fX5_near at hq
  refine lv_lload_n hx hb dX5_near_0 rfl (lv_at hl 1 rfl) ?_
  refine lv_iload hx hb dX5_near_1 (lv_at hl 4 rfl) ?_
  refine bx_si C (kX5_isNan l x1 x7) bx_B_true (fun _ _ _ => trivial) tw_methodLink_RX5_102_yX5_isNan mbX5_isNan rfl ⟨rfl, rfl⟩ ⟨Nat.le_of_ble_eq_true rfl, Nat.le_of_ble_eq_true rfl⟩ ⟨Nat.zero_le _, Nat.zero_le _⟩ hl.1 rfl (Nat.le_of_ble_eq_true rfl) dX5_near_3 ?_
  refine lv_if_ne (tgt := 28) hx hb dX5_near_6 (by decide) (fun c1 => ?_) (fun c1 => ?_)
  · rw [if_neg c1] at hq
    refine lv_iconst (v := 0) hx hb dX5_near_28 (by decide) ?_
    exact hx_zret (Wf := (fun u => md_W h0 r cA uf ua u)) (post := post) (v := (0 : Int32)) (u := us) hx hb hr hlocks (by repeat' (first | with_reducible exact ji_z0 | with_reducible exact ji_z1 | with_reducible refine ji_z_ite ?_ ?_ | with_reducible assumption | with_reducible exact zX5_isNan .. | with_reducible exact zX5_isInfinite ..)) hw hq dX5_near_29
  · rw [if_pos c1] at hq
    refine lv_lload_n hx hb dX5_near_9 rfl (lv_at hl 2 rfl) ?_
    refine lv_iload hx hb dX5_near_10 (lv_at hl 4 rfl) ?_
    refine bx_si C (kX5_isNan l x3 x7) bx_B_true (fun _ _ _ => trivial) tw_methodLink_RX5_102_yX5_isNan mbX5_isNan rfl ⟨rfl, rfl⟩ ⟨Nat.le_of_ble_eq_true rfl, Nat.le_of_ble_eq_true rfl⟩ ⟨Nat.zero_le _, Nat.zero_le _⟩ hl.1 rfl (Nat.le_of_ble_eq_true rfl) dX5_near_12 ?_
    refine lv_if_ne (tgt := 28) hx hb dX5_near_15 (by decide) (fun c2 => ?_) (fun c2 => ?_)
    · rw [if_neg c2] at hq
      refine lv_iconst (v := 0) hx hb dX5_near_28 (by decide) ?_
      exact hx_zret (Wf := (fun u => md_W h0 r cA uf ua u)) (post := post) (v := (0 : Int32)) (u := us) hx hb hr hlocks (by repeat' (first | with_reducible exact ji_z0 | with_reducible exact ji_z1 | with_reducible refine ji_z_ite ?_ ?_ | with_reducible assumption | with_reducible exact zX5_isNan .. | with_reducible exact zX5_isInfinite ..)) hw hq dX5_near_29
    · rw [if_pos c2] at hq
      refine lv_lload hx hb dX5_near_18 (lv_at hl 3 rfl) ?_
      refine lv_iload hx hb dX5_near_20 (lv_at hl 4 rfl) ?_
      refine bx_si C (kX5_isNan l x5 x7) bx_B_true (fun _ _ _ => trivial) tw_methodLink_RX5_102_yX5_isNan mbX5_isNan rfl ⟨rfl, rfl⟩ ⟨Nat.le_of_ble_eq_true rfl, Nat.le_of_ble_eq_true rfl⟩ ⟨Nat.zero_le _, Nat.zero_le _⟩ hl.1 rfl (Nat.le_of_ble_eq_true rfl) dX5_near_22 ?_
      refine lv_if_eq (tgt := 30) hx hb dX5_near_25 (by decide) (fun c3 => ?_) (fun c3 => ?_)
      · rw [if_pos c3] at hq
        refine lv_lload_n hx hb dX5_near_30 rfl (lv_at hl 1 rfl) ?_
        refine lv_iload hx hb dX5_near_31 (lv_at hl 4 rfl) ?_
        refine bx_si C (kX5_isInfinite l x1 x7) bx_B_true (fun _ _ _ => trivial) tw_methodLink_RX5_112_yX5_isInfinite mbX5_isInfinite rfl ⟨rfl, rfl⟩ ⟨Nat.le_of_ble_eq_true rfl, Nat.le_of_ble_eq_true rfl⟩ ⟨Nat.zero_le _, Nat.zero_le _⟩ hl.1 rfl (Nat.le_of_ble_eq_true rfl) dX5_near_33 ?_
        refine lv_if_eq (tgt := 60) hx hb dX5_near_36 (by decide) (fun c4 => ?_) (fun c4 => ?_)
        · rw [if_pos c4] at hq
          exact bX5_near_60 us x1 x3 x5 x7 C (lv_sub hl [0, 1, 2, 3, 4] rfl) hw h1 h3 post hq
        · rw [if_neg c4] at hq
          refine lv_lload_n hx hb dX5_near_39 rfl (lv_at hl 2 rfl) ?_
          refine lv_iload hx hb dX5_near_40 (lv_at hl 4 rfl) ?_
          refine bx_si C (kX5_isInfinite l x3 x7) bx_B_true (fun _ _ _ => trivial) tw_methodLink_RX5_112_yX5_isInfinite mbX5_isInfinite rfl ⟨rfl, rfl⟩ ⟨Nat.le_of_ble_eq_true rfl, Nat.le_of_ble_eq_true rfl⟩ ⟨Nat.zero_le _, Nat.zero_le _⟩ hl.1 rfl (Nat.le_of_ble_eq_true rfl) dX5_near_42 ?_
          refine lv_if_eq (tgt := 60) hx hb dX5_near_45 (by decide) (fun c8 => ?_) (fun c8 => ?_)
          · rw [if_pos c8] at hq
            exact bX5_near_60 us x1 x3 x5 x7 C (lv_sub hl [0, 1, 2, 3, 4] rfl) hw h1 h3 post hq
          · rw [if_neg c8] at hq
            refine lv_lload_n hx hb dX5_near_48 rfl (lv_at hl 1 rfl) ?_
            refine lv_lload_n hx hb dX5_near_49 rfl (lv_at hl 2 rfl) ?_
            refine bx_lc_ne (tgt := 58) hx hb dX5_near_50 dX5_near_51 (by decide) (fun c9 => ?_) (fun c9 => ?_)
            · rw [if_neg c9] at hq
              refine lv_iconst (v := 0) hx hb dX5_near_58 (by decide) ?_
              exact hx_zret (Wf := (fun u => md_W h0 r cA uf ua u)) (post := post) (v := (0 : Int32)) (u := us) hx hb hr hlocks (by repeat' (first | with_reducible exact ji_z0 | with_reducible exact ji_z1 | with_reducible refine ji_z_ite ?_ ?_ | with_reducible assumption | with_reducible exact zX5_isNan .. | with_reducible exact zX5_isInfinite .. | with_reducible exact zX5_near_60 ..)) hw hq dX5_near_59
            · rw [if_pos c9] at hq
              refine lv_iconst (v := 1) hx hb dX5_near_54 (by decide) ?_
              refine lv_goto (tgt := 59) hx hb dX5_near_55 (by decide) ?_
              exact hx_zret (Wf := (fun u => md_W h0 r cA uf ua u)) (post := post) (v := (1 : Int32)) (u := us) hx hb hr hlocks (by repeat' (first | with_reducible exact ji_z0 | with_reducible exact ji_z1 | with_reducible refine ji_z_ite ?_ ?_ | with_reducible assumption | with_reducible exact zX5_isNan .. | with_reducible exact zX5_isInfinite .. | with_reducible exact zX5_near_60 ..)) hw hq dX5_near_59
      · rw [if_neg c3] at hq
        refine lv_iconst (v := 0) hx hb dX5_near_28 (by decide) ?_
        exact hx_zret (Wf := (fun u => md_W h0 r cA uf ua u)) (post := post) (v := (0 : Int32)) (u := us) hx hb hr hlocks (by repeat' (first | with_reducible exact ji_z0 | with_reducible exact ji_z1 | with_reducible refine ji_z_ite ?_ ?_ | with_reducible assumption | with_reducible exact zX5_isNan .. | with_reducible exact zX5_isInfinite .. | with_reducible exact zX5_near_60 ..)) hw hq dX5_near_29
theorem kX5_near (l : Launch) (dC : Nat → ClassId) (dI : Nat → Nat → Nat) (h0 : Nat) (r : Nat → Nat) (cA : Nat → ClassId) (sz : Nat) (uf : Nat → Int32) (ua : Nat → Nat → Int32) (us : Nat → Int64) (x1 : Int64) (x3 : Int64) (x5 : Int64) (x7 : Int32) (h1 : x7 = 0 → 0 ≤ x1.toInt) (h3 : x7 = 0 → 0 ≤ x3.toInt) : Met l yX5_near (Cond.code yX5_near cX5_near 10 (some .boolean) :: bw) rmX5_near (hPc [.ref h0, .long x1, .long x3, .long x5, .int x7] (dC, dI) (md_T cA) (md_W h0 r cA uf ua us) sz (fun _ => True)) (va_Qi (fun r u => (r, u) = fX5_near us x1 x3 x5 x7) (hBk (dC, dI) (md_T cA) (va_A (md_W h0 r cA uf ua us) sz) (fun u => md_W h0 r cA uf ua u)) (va_A (md_W h0 r cA uf ua us) sz)) 0 0 (va_A (md_W h0 r cA uf ua us) sz) := by
  refine hx_ent (by decide) _ _ (Nat.le_of_ble_eq_true rfl) rfl ?_
  intro p e s m below meth c ls C hl hw hsz _
  exact bX5_near_0 us x1 x3 x5 x7 C hl hw h1 h3 (fun q => q = fX5_near us x1 x3 x5 x7) rfl
def fX5_holds_25 (us : Nat → Int64) (s0 : Int32) (s1 : Int32) : Int32 × (Nat → Int64) :=
  if s0 = s1 then ((1 : Int32), us)
  else ((0 : Int32), us)
theorem zX5_holds_25 (us : Nat → Int64) (s0 : Int32) (s1 : Int32) : ji_z (fX5_holds_25 us s0 s1).1 := by
  unfold fX5_holds_25
  repeat' (first | with_reducible exact ji_z0 | with_reducible exact ji_z1 | with_reducible refine ji_z_ite ?_ ?_ | with_reducible assumption | with_reducible exact zX5_near .. | with_reducible exact zX5_isNan .. | with_reducible exact zX5_isInfinite .. | split)
def fX5_holds (us : Nat → Int64) (x1 : Int32) (x2 : Int64) (x4 : Int64) (x6 : Int64) (x8 : Int32) : Int32 × (Nat → Int64) :=
  if (2 : Int32) ≤ x1 then if x1 = (6 : Int32) then ((fX5_isNan x2 x8), us)
    else if x1 = (7 : Int32) then ((fX5_isInfinite x2 x8), us)
      else if (fX5_isNan x2 x8) = 0 then if (fX5_isNan x4 x8) = 0 then if x1 = (2 : Int32) then if 0 ≤ (fX5_order x2 x4 x8) then ((0 : Int32), us)
              else ((1 : Int32), us)
            else if x1 = (3 : Int32) then if 0 < (fX5_order x2 x4 x8) then ((0 : Int32), us)
                else ((1 : Int32), us)
              else if x1 = (4 : Int32) then if (fX5_order x2 x4 x8) ≤ 0 then ((0 : Int32), us)
                  else ((1 : Int32), us)
                else if (fX5_order x2 x4 x8) < 0 then ((0 : Int32), us)
                  else ((1 : Int32), us)
          else ((0 : Int32), us)
        else ((0 : Int32), us)
  else if x1 = 0 then fX5_holds_25 ((fX5_near us x2 x4 x6 x8).2) ((fX5_near us x2 x4 x6 x8).1) (1 : Int32)
    else fX5_holds_25 ((fX5_near us x2 x4 x6 x8).2) ((fX5_near us x2 x4 x6 x8).1) (0 : Int32)
theorem zX5_holds (us : Nat → Int64) (x1 : Int32) (x2 : Int64) (x4 : Int64) (x6 : Int64) (x8 : Int32) : ji_z (fX5_holds us x1 x2 x4 x6 x8).1 := by
  unfold fX5_holds
  repeat' (first | with_reducible exact ji_z0 | with_reducible exact ji_z1 | with_reducible refine ji_z_ite ?_ ?_ | with_reducible assumption | with_reducible exact zX5_near .. | with_reducible exact zX5_isNan .. | with_reducible exact zX5_isInfinite .. | with_reducible exact zX5_holds_25 .. | split)
abbrev rmX5_holds : Room := { frames := 6, cells := 0, slots := 0, locals := 166 }
theorem mbX5_holds : mb_V RX5 yX5_holds cX5_holds 10 (some .boolean) 5 := ⟨⟨tw_instanceMethod_yX5_holds, tw_selects_RX5_yX5_holds_yX5_holds, tw_initialized_RX5, tw_code_yX5_holds⟩, rfl, by decide +kernel, by decide +kernel, by decide +kernel⟩
set_option maxRecDepth 20000 in
theorem bX5_holds_25 (us : Nat → Int64) (s0 : Int32) (s1 : Int32) {p : Program} {l : Launch} {e : Env} {s : State} {m : MethodId} {args : Array Value} {below : List Frame} {meth : Method} {c : Code} {dC : Nat → ClassId} {dI : Nat → Nat → Nat} {r : Nat → Nat} {cA : Nat → ClassId} {Rg : Nat → Prop} {H : Heap} {locs : List Loc} {uf : Nat → Int32} {ua : Nat → Nat → Int32} {h0 : Nat} {ls : Array Slot} (C : bx_C p s m args meth c cX5_holds 10 (some .boolean) RX5) (hl : lv_has ls 10 []) (hw : hW (dC, dI) (md_T cA) Rg s H locs (md_W h0 r cA uf ua us)) (post : (Int32 × (Nat → Int64)) → Prop) (hq : post (fX5_holds_25 us s0 s1)) : W p l e rmX5_holds s m args below meth c H locs 0 0 (MQ below (va_Qi (fun r u => post (r, u)) (hBk (dC, dI) (md_T cA) Rg (fun u => md_W h0 r cA uf ua u)) Rg) args s 0 0 Rg) (F0 m 25 ls [.int s1, .int s0]) := by
  obtain ⟨hx, hb, hml, hr, hlocks, hown, hts⟩ := id C
  unfold fX5_holds_25 at hq
  refine lv_icmp_ne (tgt := 32) hx hb dX5_holds_25 (by decide) (fun c14 => ?_) (fun c14 => ?_)
  · rw [if_neg c14] at hq
    refine lv_iconst (v := 0) hx hb dX5_holds_32 (by decide) ?_
    exact hx_zret (Wf := (fun u => md_W h0 r cA uf ua u)) (post := post) (v := (0 : Int32)) (u := us) hx hb hr hlocks (by repeat' (first | with_reducible exact ji_z0 | with_reducible exact ji_z1 | with_reducible refine ji_z_ite ?_ ?_ | with_reducible assumption | with_reducible exact zX5_near .. | with_reducible exact zX5_isNan .. | with_reducible exact zX5_isInfinite ..)) hw hq dX5_holds_33
  · rw [if_pos c14] at hq
    refine lv_iconst (v := 1) hx hb dX5_holds_28 (by decide) ?_
    refine lv_goto (tgt := 33) hx hb dX5_holds_29 (by decide) ?_
    exact hx_zret (Wf := (fun u => md_W h0 r cA uf ua u)) (post := post) (v := (1 : Int32)) (u := us) hx hb hr hlocks (by repeat' (first | with_reducible exact ji_z0 | with_reducible exact ji_z1 | with_reducible refine ji_z_ite ?_ ?_ | with_reducible assumption | with_reducible exact zX5_near .. | with_reducible exact zX5_isNan .. | with_reducible exact zX5_isInfinite ..)) hw hq dX5_holds_33
set_option maxRecDepth 20000 in
theorem bX5_holds_0 (us : Nat → Int64) (x1 : Int32) (x2 : Int64) (x4 : Int64) (x6 : Int64) (x8 : Int32) {p : Program} {l : Launch} {e : Env} {s : State} {m : MethodId} {args : Array Value} {below : List Frame} {meth : Method} {c : Code} {dC : Nat → ClassId} {dI : Nat → Nat → Nat} {r : Nat → Nat} {cA : Nat → ClassId} {Rg : Nat → Prop} {H : Heap} {locs : List Loc} {uf : Nat → Int32} {ua : Nat → Nat → Int32} {h0 : Nat} {ls : Array Slot} (C : bx_C p s m args meth c cX5_holds 10 (some .boolean) RX5) (hl : lv_has ls 10 [(0, .ref h0), (1, .int x1), (2, .long x2), (4, .long x4), (6, .long x6), (8, .int x8)]) (hw : hW (dC, dI) (md_T cA) Rg s H locs (md_W h0 r cA uf ua us)) (h2 : x8 = 0 → 0 ≤ x2.toInt) (h4 : x8 = 0 → 0 ≤ x4.toInt) (post : (Int32 × (Nat → Int64)) → Prop) (hq : post (fX5_holds us x1 x2 x4 x6 x8)) : W p l e rmX5_holds s m args below meth c H locs 0 0 (MQ below (va_Qi (fun r u => post (r, u)) (hBk (dC, dI) (md_T cA) Rg (fun u => md_W h0 r cA uf ua u)) Rg) args s 0 0 Rg) (F0 m 0 ls []) := by
  obtain ⟨hx, hb, hml, hr, hlocks, hown, hts⟩ := id C
  unfold fX5_holds at hq
  refine lv_iload_n hx hb dX5_holds_0 rfl (lv_at hl 1 rfl) ?_
  refine lv_iconst (v := 2) hx hb dX5_holds_1 (by decide) ?_
  refine lv_icmp_ge (tgt := 34) hx hb dX5_holds_2 (by decide) (fun c1 => ?_) (fun c1 => ?_)
  · rw [if_pos c1] at hq
    refine lv_iload_n hx hb dX5_holds_34 rfl (lv_at hl 1 rfl) ?_
    refine lv_bipush (v := 6) hx hb dX5_holds_35 (by decide) ?_
    refine lv_icmp_ne (tgt := 47) hx hb dX5_holds_37 (by decide) (fun c2 => ?_) (fun c2 => ?_)
    · rw [if_neg c2] at hq
      refine lv_iload_n hx hb dX5_holds_47 rfl (lv_at hl 1 rfl) ?_
      refine lv_bipush (v := 7) hx hb dX5_holds_48 (by decide) ?_
      refine lv_icmp_ne (tgt := 60) hx hb dX5_holds_50 (by decide) (fun c3 => ?_) (fun c3 => ?_)
      · rw [if_neg c3] at hq
        refine lv_lload_n hx hb dX5_holds_60 rfl (lv_at hl 2 rfl) ?_
        refine lv_iload hx hb dX5_holds_61 (lv_at hl 5 rfl) ?_
        refine bx_si C (kX5_isNan l x2 x8) bx_B_true (fun _ _ _ => trivial) tw_methodLink_RX5_102_yX5_isNan mbX5_isNan rfl ⟨rfl, rfl⟩ ⟨Nat.le_of_ble_eq_true rfl, Nat.le_of_ble_eq_true rfl⟩ ⟨Nat.zero_le _, Nat.zero_le _⟩ hl.1 rfl (Nat.le_of_ble_eq_true rfl) dX5_holds_63 ?_
        refine lv_if_ne (tgt := 79) hx hb dX5_holds_66 (by decide) (fun c4 => ?_) (fun c4 => ?_)
        · rw [if_neg c4] at hq
          refine lv_iconst (v := 0) hx hb dX5_holds_79 (by decide) ?_
          exact hx_zret (Wf := (fun u => md_W h0 r cA uf ua u)) (post := post) (v := (0 : Int32)) (u := us) hx hb hr hlocks (by repeat' (first | with_reducible exact ji_z0 | with_reducible exact ji_z1 | with_reducible refine ji_z_ite ?_ ?_ | with_reducible assumption | with_reducible exact zX5_near .. | with_reducible exact zX5_isNan .. | with_reducible exact zX5_isInfinite ..)) hw hq dX5_holds_80
        · rw [if_pos c4] at hq
          refine lv_lload hx hb dX5_holds_69 (lv_at hl 3 rfl) ?_
          refine lv_iload hx hb dX5_holds_71 (lv_at hl 5 rfl) ?_
          refine bx_si C (kX5_isNan l x4 x8) bx_B_true (fun _ _ _ => trivial) tw_methodLink_RX5_102_yX5_isNan mbX5_isNan rfl ⟨rfl, rfl⟩ ⟨Nat.le_of_ble_eq_true rfl, Nat.le_of_ble_eq_true rfl⟩ ⟨Nat.zero_le _, Nat.zero_le _⟩ hl.1 rfl (Nat.le_of_ble_eq_true rfl) dX5_holds_73 ?_
          refine lv_if_eq (tgt := 81) hx hb dX5_holds_76 (by decide) (fun c5 => ?_) (fun c5 => ?_)
          · rw [if_pos c5] at hq
            refine lv_aload_n hx hb dX5_holds_81 rfl (lv_at hl 0 rfl) ?_
            refine lv_lload_n hx hb dX5_holds_82 rfl (lv_at hl 2 rfl) ?_
            refine lv_lload hx hb dX5_holds_83 (lv_at hl 3 rfl) ?_
            refine lv_iload hx hb dX5_holds_85 (lv_at hl 5 rfl) ?_
            refine bx_vi C (kX5_order l h0 x2 x4 x8) BX5_order (fun U u1 u2 => hw_ob hw rfl rfl U u1 u2) (fun U u1 u2 => hw_ob hw rfl rfl U u1 u2) tw_methodLink_RX5_150_yX5_order mbX5_order rfl ⟨rfl, rfl⟩ ⟨Nat.le_of_ble_eq_true rfl, Nat.le_of_ble_eq_true rfl⟩ ⟨Nat.zero_le _, Nat.zero_le _⟩ hl.1 rfl (Nat.le_of_ble_eq_true rfl) dX5_holds_87 ?_
            refine lv_istore (lv' := [(9, .int (fX5_order x2 x4 x8)), (0, .ref h0), (1, .int x1), (2, .long x2), (4, .long x4), (6, .long x6), (8, .int x8)]) hx hb dX5_holds_90 hl (by decide) rfl (fun ls hl => ?_)
            refine lv_iload_n hx hb dX5_holds_92 rfl (lv_at hl 2 rfl) ?_
            refine lv_iconst (v := 2) hx hb dX5_holds_93 (by decide) ?_
            refine lv_icmp_ne (tgt := 110) hx hb dX5_holds_94 (by decide) (fun c6 => ?_) (fun c6 => ?_)
            · rw [if_neg c6] at hq
              refine lv_iload_n hx hb dX5_holds_110 rfl (lv_at hl 2 rfl) ?_
              refine lv_iconst (v := 3) hx hb dX5_holds_111 (by decide) ?_
              refine lv_icmp_ne (tgt := 128) hx hb dX5_holds_112 (by decide) (fun c7 => ?_) (fun c7 => ?_)
              · rw [if_neg c7] at hq
                refine lv_iload_n hx hb dX5_holds_128 rfl (lv_at hl 2 rfl) ?_
                refine lv_iconst (v := 4) hx hb dX5_holds_129 (by decide) ?_
                refine lv_icmp_ne (tgt := 146) hx hb dX5_holds_130 (by decide) (fun c8 => ?_) (fun c8 => ?_)
                · rw [if_neg c8] at hq
                  refine lv_iload hx hb dX5_holds_146 (lv_at hl 0 rfl) ?_
                  refine lv_if_lt (tgt := 155) hx hb dX5_holds_148 (by decide) (fun c9 => ?_) (fun c9 => ?_)
                  · rw [if_pos c9] at hq
                    refine lv_iconst (v := 0) hx hb dX5_holds_155 (by decide) ?_
                    exact hx_zret (Wf := (fun u => md_W h0 r cA uf ua u)) (post := post) (v := (0 : Int32)) (u := us) hx hb hr hlocks (by repeat' (first | with_reducible exact ji_z0 | with_reducible exact ji_z1 | with_reducible refine ji_z_ite ?_ ?_ | with_reducible assumption | with_reducible exact zX5_near .. | with_reducible exact zX5_isNan .. | with_reducible exact zX5_isInfinite ..)) hw hq dX5_holds_156
                  · rw [if_neg c9] at hq
                    refine lv_iconst (v := 1) hx hb dX5_holds_151 (by decide) ?_
                    refine lv_goto (tgt := 156) hx hb dX5_holds_152 (by decide) ?_
                    exact hx_zret (Wf := (fun u => md_W h0 r cA uf ua u)) (post := post) (v := (1 : Int32)) (u := us) hx hb hr hlocks (by repeat' (first | with_reducible exact ji_z0 | with_reducible exact ji_z1 | with_reducible refine ji_z_ite ?_ ?_ | with_reducible assumption | with_reducible exact zX5_near .. | with_reducible exact zX5_isNan .. | with_reducible exact zX5_isInfinite ..)) hw hq dX5_holds_156
                · rw [if_pos c8] at hq
                  refine lv_iload hx hb dX5_holds_133 (lv_at hl 0 rfl) ?_
                  refine lv_if_le (tgt := 142) hx hb dX5_holds_135 (by decide) (fun c10 => ?_) (fun c10 => ?_)
                  · rw [if_pos c10] at hq
                    refine lv_iconst (v := 0) hx hb dX5_holds_142 (by decide) ?_
                    refine lv_goto (tgt := 156) hx hb dX5_holds_143 (by decide) ?_
                    exact hx_zret (Wf := (fun u => md_W h0 r cA uf ua u)) (post := post) (v := (0 : Int32)) (u := us) hx hb hr hlocks (by repeat' (first | with_reducible exact ji_z0 | with_reducible exact ji_z1 | with_reducible refine ji_z_ite ?_ ?_ | with_reducible assumption | with_reducible exact zX5_near .. | with_reducible exact zX5_isNan .. | with_reducible exact zX5_isInfinite ..)) hw hq dX5_holds_156
                  · rw [if_neg c10] at hq
                    refine lv_iconst (v := 1) hx hb dX5_holds_138 (by decide) ?_
                    refine lv_goto (tgt := 156) hx hb dX5_holds_139 (by decide) ?_
                    exact hx_zret (Wf := (fun u => md_W h0 r cA uf ua u)) (post := post) (v := (1 : Int32)) (u := us) hx hb hr hlocks (by repeat' (first | with_reducible exact ji_z0 | with_reducible exact ji_z1 | with_reducible refine ji_z_ite ?_ ?_ | with_reducible assumption | with_reducible exact zX5_near .. | with_reducible exact zX5_isNan .. | with_reducible exact zX5_isInfinite ..)) hw hq dX5_holds_156
              · rw [if_pos c7] at hq
                refine lv_iload hx hb dX5_holds_115 (lv_at hl 0 rfl) ?_
                refine lv_if_gt (tgt := 124) hx hb dX5_holds_117 (by decide) (fun c11 => ?_) (fun c11 => ?_)
                · rw [if_pos c11] at hq
                  refine lv_iconst (v := 0) hx hb dX5_holds_124 (by decide) ?_
                  refine lv_goto (tgt := 156) hx hb dX5_holds_125 (by decide) ?_
                  exact hx_zret (Wf := (fun u => md_W h0 r cA uf ua u)) (post := post) (v := (0 : Int32)) (u := us) hx hb hr hlocks (by repeat' (first | with_reducible exact ji_z0 | with_reducible exact ji_z1 | with_reducible refine ji_z_ite ?_ ?_ | with_reducible assumption | with_reducible exact zX5_near .. | with_reducible exact zX5_isNan .. | with_reducible exact zX5_isInfinite ..)) hw hq dX5_holds_156
                · rw [if_neg c11] at hq
                  refine lv_iconst (v := 1) hx hb dX5_holds_120 (by decide) ?_
                  refine lv_goto (tgt := 156) hx hb dX5_holds_121 (by decide) ?_
                  exact hx_zret (Wf := (fun u => md_W h0 r cA uf ua u)) (post := post) (v := (1 : Int32)) (u := us) hx hb hr hlocks (by repeat' (first | with_reducible exact ji_z0 | with_reducible exact ji_z1 | with_reducible refine ji_z_ite ?_ ?_ | with_reducible assumption | with_reducible exact zX5_near .. | with_reducible exact zX5_isNan .. | with_reducible exact zX5_isInfinite ..)) hw hq dX5_holds_156
            · rw [if_pos c6] at hq
              refine lv_iload hx hb dX5_holds_97 (lv_at hl 0 rfl) ?_
              refine lv_if_ge (tgt := 106) hx hb dX5_holds_99 (by decide) (fun c12 => ?_) (fun c12 => ?_)
              · rw [if_pos c12] at hq
                refine lv_iconst (v := 0) hx hb dX5_holds_106 (by decide) ?_
                refine lv_goto (tgt := 156) hx hb dX5_holds_107 (by decide) ?_
                exact hx_zret (Wf := (fun u => md_W h0 r cA uf ua u)) (post := post) (v := (0 : Int32)) (u := us) hx hb hr hlocks (by repeat' (first | with_reducible exact ji_z0 | with_reducible exact ji_z1 | with_reducible refine ji_z_ite ?_ ?_ | with_reducible assumption | with_reducible exact zX5_near .. | with_reducible exact zX5_isNan .. | with_reducible exact zX5_isInfinite ..)) hw hq dX5_holds_156
              · rw [if_neg c12] at hq
                refine lv_iconst (v := 1) hx hb dX5_holds_102 (by decide) ?_
                refine lv_goto (tgt := 156) hx hb dX5_holds_103 (by decide) ?_
                exact hx_zret (Wf := (fun u => md_W h0 r cA uf ua u)) (post := post) (v := (1 : Int32)) (u := us) hx hb hr hlocks (by repeat' (first | with_reducible exact ji_z0 | with_reducible exact ji_z1 | with_reducible refine ji_z_ite ?_ ?_ | with_reducible assumption | with_reducible exact zX5_near .. | with_reducible exact zX5_isNan .. | with_reducible exact zX5_isInfinite ..)) hw hq dX5_holds_156
          · rw [if_neg c5] at hq
            refine lv_iconst (v := 0) hx hb dX5_holds_79 (by decide) ?_
            exact hx_zret (Wf := (fun u => md_W h0 r cA uf ua u)) (post := post) (v := (0 : Int32)) (u := us) hx hb hr hlocks (by repeat' (first | with_reducible exact ji_z0 | with_reducible exact ji_z1 | with_reducible refine ji_z_ite ?_ ?_ | with_reducible assumption | with_reducible exact zX5_near .. | with_reducible exact zX5_isNan .. | with_reducible exact zX5_isInfinite ..)) hw hq dX5_holds_80
      · rw [if_pos c3] at hq
        refine lv_lload_n hx hb dX5_holds_53 rfl (lv_at hl 2 rfl) ?_
        refine lv_iload hx hb dX5_holds_54 (lv_at hl 5 rfl) ?_
        refine bx_si C (kX5_isInfinite l x2 x8) bx_B_true (fun _ _ _ => trivial) tw_methodLink_RX5_112_yX5_isInfinite mbX5_isInfinite rfl ⟨rfl, rfl⟩ ⟨Nat.le_of_ble_eq_true rfl, Nat.le_of_ble_eq_true rfl⟩ ⟨Nat.zero_le _, Nat.zero_le _⟩ hl.1 rfl (Nat.le_of_ble_eq_true rfl) dX5_holds_56 ?_
        exact hx_zret (Wf := (fun u => md_W h0 r cA uf ua u)) (post := post) (v := (fX5_isInfinite x2 x8)) (u := us) hx hb hr hlocks (by repeat' (first | with_reducible exact ji_z0 | with_reducible exact ji_z1 | with_reducible refine ji_z_ite ?_ ?_ | with_reducible assumption | with_reducible exact zX5_near .. | with_reducible exact zX5_isNan .. | with_reducible exact zX5_isInfinite ..)) hw hq dX5_holds_59
    · rw [if_pos c2] at hq
      refine lv_lload_n hx hb dX5_holds_40 rfl (lv_at hl 2 rfl) ?_
      refine lv_iload hx hb dX5_holds_41 (lv_at hl 5 rfl) ?_
      refine bx_si C (kX5_isNan l x2 x8) bx_B_true (fun _ _ _ => trivial) tw_methodLink_RX5_102_yX5_isNan mbX5_isNan rfl ⟨rfl, rfl⟩ ⟨Nat.le_of_ble_eq_true rfl, Nat.le_of_ble_eq_true rfl⟩ ⟨Nat.zero_le _, Nat.zero_le _⟩ hl.1 rfl (Nat.le_of_ble_eq_true rfl) dX5_holds_43 ?_
      exact hx_zret (Wf := (fun u => md_W h0 r cA uf ua u)) (post := post) (v := (fX5_isNan x2 x8)) (u := us) hx hb hr hlocks (by repeat' (first | with_reducible exact ji_z0 | with_reducible exact ji_z1 | with_reducible refine ji_z_ite ?_ ?_ | with_reducible assumption | with_reducible exact zX5_near .. | with_reducible exact zX5_isNan .. | with_reducible exact zX5_isInfinite ..)) hw hq dX5_holds_46
  · rw [if_neg c1] at hq
    refine lv_aload_n hx hb dX5_holds_5 rfl (lv_at hl 0 rfl) ?_
    refine lv_lload_n hx hb dX5_holds_6 rfl (lv_at hl 2 rfl) ?_
    refine lv_lload hx hb dX5_holds_7 (lv_at hl 3 rfl) ?_
    refine lv_lload hx hb dX5_holds_9 (lv_at hl 4 rfl) ?_
    refine lv_iload hx hb dX5_holds_11 (lv_at hl 5 rfl) ?_
    refine hx_ci (Wf := (fun u => md_W h0 r cA uf ua u)) (u0 := us) (F := (fX5_near us x2 x4 x6 x8)) C (fun sz => kX5_near l dC dI h0 r cA sz uf ua us x2 x4 x6 x8 h2 h4) (fun _ => bx_B_true) (fun _ _ _ => trivial) hw rfl rfl tw_methodLink_RX5_236_yX5_near mbX5_near rfl ⟨rfl, rfl⟩ ⟨Nat.le_of_ble_eq_true rfl, Nat.le_of_ble_eq_true rfl⟩ ⟨Nat.zero_le _, Nat.zero_le _⟩ hl.1 rfl (Nat.le_of_ble_eq_true rfl) dX5_holds_13 (fun H locs hw => ?_)
    have hw : hW (dC, dI) (md_T cA) Rg s H locs (md_W h0 r cA uf ua ((fX5_near us x2 x4 x6 x8).2)) := hw
    refine lv_iload_n hx hb dX5_holds_16 rfl (lv_at hl 1 rfl) ?_
    refine lv_if_ne (tgt := 24) hx hb dX5_holds_17 (by decide) (fun c13 => ?_) (fun c13 => ?_)
    · rw [if_neg c13] at hq
      refine lv_iconst (v := 0) hx hb dX5_holds_24 (by decide) ?_
      exact bX5_holds_25 ((fX5_near us x2 x4 x6 x8).2) ((fX5_near us x2 x4 x6 x8).1) (0 : Int32) C (lv_sub hl [] rfl) hw post hq
    · rw [if_pos c13] at hq
      refine lv_iconst (v := 1) hx hb dX5_holds_20 (by decide) ?_
      refine lv_goto (tgt := 25) hx hb dX5_holds_21 (by decide) ?_
      exact bX5_holds_25 ((fX5_near us x2 x4 x6 x8).2) ((fX5_near us x2 x4 x6 x8).1) (1 : Int32) C (lv_sub hl [] rfl) hw post hq
theorem kX5_holds (l : Launch) (dC : Nat → ClassId) (dI : Nat → Nat → Nat) (h0 : Nat) (r : Nat → Nat) (cA : Nat → ClassId) (sz : Nat) (uf : Nat → Int32) (ua : Nat → Nat → Int32) (us : Nat → Int64) (x1 : Int32) (x2 : Int64) (x4 : Int64) (x6 : Int64) (x8 : Int32) (h2 : x8 = 0 → 0 ≤ x2.toInt) (h4 : x8 = 0 → 0 ≤ x4.toInt) : Met l yX5_holds (Cond.code yX5_holds cX5_holds 10 (some .boolean) :: bw) rmX5_holds (hPc [.ref h0, .int x1, .long x2, .long x4, .long x6, .int x8] (dC, dI) (md_T cA) (md_W h0 r cA uf ua us) sz (fun _ => True)) (va_Qi (fun r u => (r, u) = fX5_holds us x1 x2 x4 x6 x8) (hBk (dC, dI) (md_T cA) (va_A (md_W h0 r cA uf ua us) sz) (fun u => md_W h0 r cA uf ua u)) (va_A (md_W h0 r cA uf ua us) sz)) 0 0 (va_A (md_W h0 r cA uf ua us) sz) := by
  refine hx_ent (by decide) _ _ (Nat.le_of_ble_eq_true rfl) rfl ?_
  intro p e s m below meth c ls C hl hw hsz _
  exact bX5_holds_0 us x1 x2 x4 x6 x8 C hl hw h2 h4 (fun q => q = fX5_holds us x1 x2 x4 x6 x8) rfl
def fX5_test_16 (uf : Nat → Int32) (us : Nat → Int64) (x1 : Int32) (x2 : Int32) (x3 : Int32) (x4 : Int32) (s1 : Int32) : Int32 × ((Nat → Int32) × (Nat → Int64)) :=
  if (fX5_thrown0 uf s1).1 ≤ 0 then if (fX5_holds us x1 (fX5_bits x2) (fX5_bits x3) (fX5_bits x4) (0 : Int32)).1 = 0 then ((0 : Int32), ((fX5_thrown0 uf s1).2, (fX5_holds us x1 (fX5_bits x2) (fX5_bits x3) (fX5_bits x4) (0 : Int32)).2))
    else ((1 : Int32), ((fX5_thrown0 uf s1).2, (fX5_holds us x1 (fX5_bits x2) (fX5_bits x3) (fX5_bits x4) (0 : Int32)).2))
  else ((0 : Int32), ((fX5_thrown0 uf s1).2, us))
def fX5_test (uf : Nat → Int32) (us : Nat → Int64) (x1 : Int32) (x2 : Int32) (x3 : Int32) (x4 : Int32) : Int32 × ((Nat → Int32) × (Nat → Int64)) :=
  if (fX5_in x1 (0 : Int32) (7 : Int32)) = 0 then fX5_test_16 uf us x1 x2 x3 x4 (1 : Int32)
  else fX5_test_16 uf us x1 x2 x3 x4 (0 : Int32)
abbrev rmX5_test : Room := { frames := 7, cells := 0, slots := 0, locals := 195 }
theorem mbX5_test : mb_V RX5 yX5_test cX5_test 5 (some .int) 4 := ⟨⟨tw_instanceMethod_yX5_test, tw_selects_RX5_yX5_test_yX5_test, tw_initialized_RX5, tw_code_yX5_test⟩, rfl, by decide +kernel, by decide +kernel, by decide +kernel⟩
set_option maxRecDepth 20000 in
theorem bX5_test_16 (uf : Nat → Int32) (us : Nat → Int64) (x1 : Int32) (x2 : Int32) (x3 : Int32) (x4 : Int32) (s1 : Int32) {p : Program} {l : Launch} {e : Env} {s : State} {m : MethodId} {args : Array Value} {below : List Frame} {meth : Method} {c : Code} {dC : Nat → ClassId} {dI : Nat → Nat → Nat} {r : Nat → Nat} {cA : Nat → ClassId} {Rg : Nat → Prop} {H : Heap} {locs : List Loc} {ua : Nat → Nat → Int32} {h0 : Nat} {ls : Array Slot} (C : bx_C p s m args meth c cX5_test 5 (some .int) RX5) (hl : lv_has ls 5 [(0, .ref h0), (1, .int x1), (2, .int x2), (3, .int x3), (4, .int x4)]) (hw : hW (dC, dI) (md_T cA) Rg s H locs (md_W h0 r cA uf ua us)) (post : (Int32 × ((Nat → Int32) × (Nat → Int64))) → Prop) (hq : post (fX5_test_16 uf us x1 x2 x3 x4 s1)) : W p l e rmX5_test s m args below meth c H locs 0 0 (MQ below (va_Qi (fun r u => post (r, u)) (hBk (dC, dI) (md_T cA) Rg (fun u => md_W h0 r cA u.1 ua u.2)) Rg) args s 0 0 Rg) (F0 m 16 ls [.int s1, .ref h0]) := by
  obtain ⟨hx, hb, hml, hr, hlocks, hown, hts⟩ := id C
  unfold fX5_test_16 at hq
  refine hx_ci (Wf := (fun u => md_W h0 r cA u ua us)) (u0 := uf) (F := (fX5_thrown0 uf s1)) C (fun sz => kX5_thrown0 l dC dI h0 r cA sz uf ua us s1) (fun _ => bx_B_true) (fun _ _ _ => trivial) hw rfl rfl tw_methodLink_RX5_229_yX5_thrown0 mbX5_thrown0 rfl ⟨rfl, rfl⟩ ⟨Nat.le_of_ble_eq_true rfl, Nat.le_of_ble_eq_true rfl⟩ ⟨Nat.zero_le _, Nat.zero_le _⟩ hl.1 rfl (Nat.le_of_ble_eq_true rfl) dX5_test_16 (fun H locs hw => ?_)
  have hw : hW (dC, dI) (md_T cA) Rg s H locs (md_W h0 r cA ((fX5_thrown0 uf s1).2) ua us) := hw
  refine lv_if_le (tgt := 24) hx hb dX5_test_19 (by decide) (fun c2 => ?_) (fun c2 => ?_)
  · rw [if_pos c2] at hq
    refine lv_aload_n hx hb dX5_test_24 rfl (lv_at hl 0 rfl) ?_
    refine lv_iload_n hx hb dX5_test_25 rfl (lv_at hl 1 rfl) ?_
    refine lv_iload_n hx hb dX5_test_26 rfl (lv_at hl 2 rfl) ?_
    refine bx_sl C (kX5_bits l x2) bx_B_true (fun _ _ _ => trivial) tw_methodLink_RX5_217_yX5_bits mbX5_bits rfl ⟨rfl, rfl⟩ ⟨Nat.le_of_ble_eq_true rfl, Nat.le_of_ble_eq_true rfl⟩ ⟨Nat.zero_le _, Nat.zero_le _⟩ hl.1 rfl (Nat.le_of_ble_eq_true rfl) dX5_test_27 ?_
    refine lv_iload_n hx hb dX5_test_30 rfl (lv_at hl 3 rfl) ?_
    refine bx_sl C (kX5_bits l x3) bx_B_true (fun _ _ _ => trivial) tw_methodLink_RX5_217_yX5_bits mbX5_bits rfl ⟨rfl, rfl⟩ ⟨Nat.le_of_ble_eq_true rfl, Nat.le_of_ble_eq_true rfl⟩ ⟨Nat.zero_le _, Nat.zero_le _⟩ hl.1 rfl (Nat.le_of_ble_eq_true rfl) dX5_test_31 ?_
    refine lv_iload hx hb dX5_test_34 (lv_at hl 4 rfl) ?_
    refine bx_sl C (kX5_bits l x4) bx_B_true (fun _ _ _ => trivial) tw_methodLink_RX5_217_yX5_bits mbX5_bits rfl ⟨rfl, rfl⟩ ⟨Nat.le_of_ble_eq_true rfl, Nat.le_of_ble_eq_true rfl⟩ ⟨Nat.zero_le _, Nat.zero_le _⟩ hl.1 rfl (Nat.le_of_ble_eq_true rfl) dX5_test_36 ?_
    refine lv_iconst (v := 0) hx hb dX5_test_39 (by decide) ?_
    refine hx_ci (Wf := (fun u => md_W h0 r cA ((fX5_thrown0 uf s1).2) ua u)) (u0 := us) (F := (fX5_holds us x1 (fX5_bits x2) (fX5_bits x3) (fX5_bits x4) (0 : Int32))) C (fun sz => kX5_holds l dC dI h0 r cA sz ((fX5_thrown0 uf s1).2) ua us x1 (fX5_bits x2) (fX5_bits x3) (fX5_bits x4) (0 : Int32) (fun _ => sd_bits _) (fun _ => sd_bits _)) (fun _ => bx_B_true) (fun _ _ _ => trivial) hw rfl rfl tw_methodLink_RX5_240_yX5_holds mbX5_holds rfl ⟨rfl, rfl⟩ ⟨Nat.le_of_ble_eq_true rfl, Nat.le_of_ble_eq_true rfl⟩ ⟨Nat.zero_le _, Nat.zero_le _⟩ hl.1 rfl (Nat.le_of_ble_eq_true rfl) dX5_test_40 (fun H locs hw => ?_)
    have hw : hW (dC, dI) (md_T cA) Rg s H locs (md_W h0 r cA ((fX5_thrown0 uf s1).2) ua ((fX5_holds us x1 (fX5_bits x2) (fX5_bits x3) (fX5_bits x4) (0 : Int32)).2)) := hw
    refine lv_if_eq (tgt := 50) hx hb dX5_test_43 (by decide) (fun c3 => ?_) (fun c3 => ?_)
    · rw [if_pos c3] at hq
      refine lv_iconst (v := 0) hx hb dX5_test_50 (by decide) ?_
      exact hx_iret (Wf := (fun u => md_W h0 r cA u.1 ua u.2)) (post := post) (v := (0 : Int32)) (u := ((fX5_thrown0 uf s1).2, (fX5_holds us x1 (fX5_bits x2) (fX5_bits x3) (fX5_bits x4) (0 : Int32)).2)) hx hb hr hlocks hw hq dX5_test_51
    · rw [if_neg c3] at hq
      refine lv_iconst (v := 1) hx hb dX5_test_46 (by decide) ?_
      refine lv_goto (tgt := 51) hx hb dX5_test_47 (by decide) ?_
      exact hx_iret (Wf := (fun u => md_W h0 r cA u.1 ua u.2)) (post := post) (v := (1 : Int32)) (u := ((fX5_thrown0 uf s1).2, (fX5_holds us x1 (fX5_bits x2) (fX5_bits x3) (fX5_bits x4) (0 : Int32)).2)) hx hb hr hlocks hw hq dX5_test_51
  · rw [if_neg c2] at hq
    refine lv_iconst (v := 0) hx hb dX5_test_22 (by decide) ?_
    exact hx_iret (Wf := (fun u => md_W h0 r cA u.1 ua u.2)) (post := post) (v := (0 : Int32)) (u := ((fX5_thrown0 uf s1).2, us)) hx hb hr hlocks hw hq dX5_test_23
set_option maxRecDepth 20000 in
theorem bX5_test_0 (uf : Nat → Int32) (us : Nat → Int64) (x1 : Int32) (x2 : Int32) (x3 : Int32) (x4 : Int32) {p : Program} {l : Launch} {e : Env} {s : State} {m : MethodId} {args : Array Value} {below : List Frame} {meth : Method} {c : Code} {dC : Nat → ClassId} {dI : Nat → Nat → Nat} {r : Nat → Nat} {cA : Nat → ClassId} {Rg : Nat → Prop} {H : Heap} {locs : List Loc} {ua : Nat → Nat → Int32} {h0 : Nat} {ls : Array Slot} (C : bx_C p s m args meth c cX5_test 5 (some .int) RX5) (hl : lv_has ls 5 [(0, .ref h0), (1, .int x1), (2, .int x2), (3, .int x3), (4, .int x4)]) (hw : hW (dC, dI) (md_T cA) Rg s H locs (md_W h0 r cA uf ua us)) (post : (Int32 × ((Nat → Int32) × (Nat → Int64))) → Prop) (hq : post (fX5_test uf us x1 x2 x3 x4)) : W p l e rmX5_test s m args below meth c H locs 0 0 (MQ below (va_Qi (fun r u => post (r, u)) (hBk (dC, dI) (md_T cA) Rg (fun u => md_W h0 r cA u.1 ua u.2)) Rg) args s 0 0 Rg) (F0 m 0 ls []) := by
  obtain ⟨hx, hb, hml, hr, hlocks, hown, hts⟩ := id C
  unfold fX5_test at hq
  refine lv_aload_n hx hb dX5_test_0 rfl (lv_at hl 0 rfl) ?_
  refine lv_iload_n hx hb dX5_test_1 rfl (lv_at hl 1 rfl) ?_
  refine lv_iconst (v := 0) hx hb dX5_test_2 (by decide) ?_
  refine lv_bipush (v := 7) hx hb dX5_test_3 (by decide) ?_
  refine bx_si C (kX5_in l x1 (0 : Int32) (7 : Int32)) bx_B_true (fun _ _ _ => trivial) tw_methodLink_RX5_225_yX5_in mbX5_in rfl ⟨rfl, rfl⟩ ⟨Nat.le_of_ble_eq_true rfl, Nat.le_of_ble_eq_true rfl⟩ ⟨Nat.zero_le _, Nat.zero_le _⟩ hl.1 rfl (Nat.le_of_ble_eq_true rfl) dX5_test_5 ?_
  refine lv_if_ne (tgt := 15) hx hb dX5_test_8 (by decide) (fun c1 => ?_) (fun c1 => ?_)
  · rw [if_neg c1] at hq
    refine lv_iconst (v := 0) hx hb dX5_test_15 (by decide) ?_
    exact bX5_test_16 uf us x1 x2 x3 x4 (0 : Int32) C (lv_sub hl [0, 1, 2, 3, 4] rfl) hw post hq
  · rw [if_pos c1] at hq
    refine lv_iconst (v := 1) hx hb dX5_test_11 (by decide) ?_
    refine lv_goto (tgt := 16) hx hb dX5_test_12 (by decide) ?_
    exact bX5_test_16 uf us x1 x2 x3 x4 (1 : Int32) C (lv_sub hl [0, 1, 2, 3, 4] rfl) hw post hq
theorem kX5_test (l : Launch) (dC : Nat → ClassId) (dI : Nat → Nat → Nat) (h0 : Nat) (r : Nat → Nat) (cA : Nat → ClassId) (sz : Nat) (uf : Nat → Int32) (ua : Nat → Nat → Int32) (us : Nat → Int64) (x1 : Int32) (x2 : Int32) (x3 : Int32) (x4 : Int32) : Met l yX5_test (Cond.code yX5_test cX5_test 5 (some .int) :: bw) rmX5_test (hPc [.ref h0, .int x1, .int x2, .int x3, .int x4] (dC, dI) (md_T cA) (md_W h0 r cA uf ua us) sz (fun _ => True)) (va_Qi (fun r u => (r, u) = fX5_test uf us x1 x2 x3 x4) (hBk (dC, dI) (md_T cA) (va_A (md_W h0 r cA uf ua us) sz) (fun u => md_W h0 r cA u.1 ua u.2)) (va_A (md_W h0 r cA uf ua us) sz)) 0 0 (va_A (md_W h0 r cA uf ua us) sz) := by
  refine hx_ent (by decide) _ _ (Nat.le_of_ble_eq_true rfl) rfl ?_
  intro p e s m below meth c ls C hl hw hsz _
  exact bX5_test_0 uf us x1 x2 x3 x4 C hl hw (fun q => q = fX5_test uf us x1 x2 x3 x4) rfl
def fX5_wideTest_16 (uf : Nat → Int32) (us : Nat → Int64) (x1 : Int32) (x2 : Int64) (x4 : Int64) (x6 : Int64) (s1 : Int32) : Int32 × ((Nat → Int32) × (Nat → Int64)) :=
  if (fX5_thrown0 uf s1).1 ≤ 0 then if (fX5_holds us x1 x2 x4 x6 (1 : Int32)).1 = 0 then ((0 : Int32), ((fX5_thrown0 uf s1).2, (fX5_holds us x1 x2 x4 x6 (1 : Int32)).2))
    else ((1 : Int32), ((fX5_thrown0 uf s1).2, (fX5_holds us x1 x2 x4 x6 (1 : Int32)).2))
  else ((0 : Int32), ((fX5_thrown0 uf s1).2, us))
def fX5_wideTest (uf : Nat → Int32) (us : Nat → Int64) (x1 : Int32) (x2 : Int64) (x4 : Int64) (x6 : Int64) : Int32 × ((Nat → Int32) × (Nat → Int64)) :=
  if (fX5_in x1 (0 : Int32) (7 : Int32)) = 0 then fX5_wideTest_16 uf us x1 x2 x4 x6 (1 : Int32)
  else fX5_wideTest_16 uf us x1 x2 x4 x6 (0 : Int32)
abbrev rmX5_wideTest : Room := { frames := 7, cells := 0, slots := 0, locals := 195 }
theorem mbX5_wideTest : mb_V RX5 yX5_wideTest cX5_wideTest 8 (some .int) 4 := ⟨⟨tw_instanceMethod_yX5_wideTest, tw_selects_RX5_yX5_wideTest_yX5_wideTest, tw_initialized_RX5, tw_code_yX5_wideTest⟩, rfl, by decide +kernel, by decide +kernel, by decide +kernel⟩
set_option maxRecDepth 20000 in
theorem bX5_wideTest_16 (uf : Nat → Int32) (us : Nat → Int64) (x1 : Int32) (x2 : Int64) (x4 : Int64) (x6 : Int64) (s1 : Int32) {p : Program} {l : Launch} {e : Env} {s : State} {m : MethodId} {args : Array Value} {below : List Frame} {meth : Method} {c : Code} {dC : Nat → ClassId} {dI : Nat → Nat → Nat} {r : Nat → Nat} {cA : Nat → ClassId} {Rg : Nat → Prop} {H : Heap} {locs : List Loc} {ua : Nat → Nat → Int32} {h0 : Nat} {ls : Array Slot} (C : bx_C p s m args meth c cX5_wideTest 8 (some .int) RX5) (hl : lv_has ls 8 [(0, .ref h0), (1, .int x1), (2, .long x2), (4, .long x4), (6, .long x6)]) (hw : hW (dC, dI) (md_T cA) Rg s H locs (md_W h0 r cA uf ua us)) (post : (Int32 × ((Nat → Int32) × (Nat → Int64))) → Prop) (hq : post (fX5_wideTest_16 uf us x1 x2 x4 x6 s1)) : W p l e rmX5_wideTest s m args below meth c H locs 0 0 (MQ below (va_Qi (fun r u => post (r, u)) (hBk (dC, dI) (md_T cA) Rg (fun u => md_W h0 r cA u.1 ua u.2)) Rg) args s 0 0 Rg) (F0 m 16 ls [.int s1, .ref h0]) := by
  obtain ⟨hx, hb, hml, hr, hlocks, hown, hts⟩ := id C
  unfold fX5_wideTest_16 at hq
  refine hx_ci (Wf := (fun u => md_W h0 r cA u ua us)) (u0 := uf) (F := (fX5_thrown0 uf s1)) C (fun sz => kX5_thrown0 l dC dI h0 r cA sz uf ua us s1) (fun _ => bx_B_true) (fun _ _ _ => trivial) hw rfl rfl tw_methodLink_RX5_229_yX5_thrown0 mbX5_thrown0 rfl ⟨rfl, rfl⟩ ⟨Nat.le_of_ble_eq_true rfl, Nat.le_of_ble_eq_true rfl⟩ ⟨Nat.zero_le _, Nat.zero_le _⟩ hl.1 rfl (Nat.le_of_ble_eq_true rfl) dX5_wideTest_16 (fun H locs hw => ?_)
  have hw : hW (dC, dI) (md_T cA) Rg s H locs (md_W h0 r cA ((fX5_thrown0 uf s1).2) ua us) := hw
  refine lv_if_le (tgt := 24) hx hb dX5_wideTest_19 (by decide) (fun c2 => ?_) (fun c2 => ?_)
  · rw [if_pos c2] at hq
    refine lv_aload_n hx hb dX5_wideTest_24 rfl (lv_at hl 0 rfl) ?_
    refine lv_iload_n hx hb dX5_wideTest_25 rfl (lv_at hl 1 rfl) ?_
    refine lv_lload_n hx hb dX5_wideTest_26 rfl (lv_at hl 2 rfl) ?_
    refine lv_lload hx hb dX5_wideTest_27 (lv_at hl 3 rfl) ?_
    refine lv_lload hx hb dX5_wideTest_29 (lv_at hl 4 rfl) ?_
    refine lv_iconst (v := 1) hx hb dX5_wideTest_31 (by decide) ?_
    refine hx_ci (Wf := (fun u => md_W h0 r cA ((fX5_thrown0 uf s1).2) ua u)) (u0 := us) (F := (fX5_holds us x1 x2 x4 x6 (1 : Int32))) C (fun sz => kX5_holds l dC dI h0 r cA sz ((fX5_thrown0 uf s1).2) ua us x1 x2 x4 x6 (1 : Int32) (fun h => absurd h (by decide)) (fun h => absurd h (by decide))) (fun _ => bx_B_true) (fun _ _ _ => trivial) hw rfl rfl tw_methodLink_RX5_240_yX5_holds mbX5_holds rfl ⟨rfl, rfl⟩ ⟨Nat.le_of_ble_eq_true rfl, Nat.le_of_ble_eq_true rfl⟩ ⟨Nat.zero_le _, Nat.zero_le _⟩ hl.1 rfl (Nat.le_of_ble_eq_true rfl) dX5_wideTest_32 (fun H locs hw => ?_)
    have hw : hW (dC, dI) (md_T cA) Rg s H locs (md_W h0 r cA ((fX5_thrown0 uf s1).2) ua ((fX5_holds us x1 x2 x4 x6 (1 : Int32)).2)) := hw
    refine lv_if_eq (tgt := 42) hx hb dX5_wideTest_35 (by decide) (fun c3 => ?_) (fun c3 => ?_)
    · rw [if_pos c3] at hq
      refine lv_iconst (v := 0) hx hb dX5_wideTest_42 (by decide) ?_
      exact hx_iret (Wf := (fun u => md_W h0 r cA u.1 ua u.2)) (post := post) (v := (0 : Int32)) (u := ((fX5_thrown0 uf s1).2, (fX5_holds us x1 x2 x4 x6 (1 : Int32)).2)) hx hb hr hlocks hw hq dX5_wideTest_43
    · rw [if_neg c3] at hq
      refine lv_iconst (v := 1) hx hb dX5_wideTest_38 (by decide) ?_
      refine lv_goto (tgt := 43) hx hb dX5_wideTest_39 (by decide) ?_
      exact hx_iret (Wf := (fun u => md_W h0 r cA u.1 ua u.2)) (post := post) (v := (1 : Int32)) (u := ((fX5_thrown0 uf s1).2, (fX5_holds us x1 x2 x4 x6 (1 : Int32)).2)) hx hb hr hlocks hw hq dX5_wideTest_43
  · rw [if_neg c2] at hq
    refine lv_iconst (v := 0) hx hb dX5_wideTest_22 (by decide) ?_
    exact hx_iret (Wf := (fun u => md_W h0 r cA u.1 ua u.2)) (post := post) (v := (0 : Int32)) (u := ((fX5_thrown0 uf s1).2, us)) hx hb hr hlocks hw hq dX5_wideTest_23
set_option maxRecDepth 20000 in
theorem bX5_wideTest_0 (uf : Nat → Int32) (us : Nat → Int64) (x1 : Int32) (x2 : Int64) (x4 : Int64) (x6 : Int64) {p : Program} {l : Launch} {e : Env} {s : State} {m : MethodId} {args : Array Value} {below : List Frame} {meth : Method} {c : Code} {dC : Nat → ClassId} {dI : Nat → Nat → Nat} {r : Nat → Nat} {cA : Nat → ClassId} {Rg : Nat → Prop} {H : Heap} {locs : List Loc} {ua : Nat → Nat → Int32} {h0 : Nat} {ls : Array Slot} (C : bx_C p s m args meth c cX5_wideTest 8 (some .int) RX5) (hl : lv_has ls 8 [(0, .ref h0), (1, .int x1), (2, .long x2), (4, .long x4), (6, .long x6)]) (hw : hW (dC, dI) (md_T cA) Rg s H locs (md_W h0 r cA uf ua us)) (post : (Int32 × ((Nat → Int32) × (Nat → Int64))) → Prop) (hq : post (fX5_wideTest uf us x1 x2 x4 x6)) : W p l e rmX5_wideTest s m args below meth c H locs 0 0 (MQ below (va_Qi (fun r u => post (r, u)) (hBk (dC, dI) (md_T cA) Rg (fun u => md_W h0 r cA u.1 ua u.2)) Rg) args s 0 0 Rg) (F0 m 0 ls []) := by
  obtain ⟨hx, hb, hml, hr, hlocks, hown, hts⟩ := id C
  unfold fX5_wideTest at hq
  refine lv_aload_n hx hb dX5_wideTest_0 rfl (lv_at hl 0 rfl) ?_
  refine lv_iload_n hx hb dX5_wideTest_1 rfl (lv_at hl 1 rfl) ?_
  refine lv_iconst (v := 0) hx hb dX5_wideTest_2 (by decide) ?_
  refine lv_bipush (v := 7) hx hb dX5_wideTest_3 (by decide) ?_
  refine bx_si C (kX5_in l x1 (0 : Int32) (7 : Int32)) bx_B_true (fun _ _ _ => trivial) tw_methodLink_RX5_225_yX5_in mbX5_in rfl ⟨rfl, rfl⟩ ⟨Nat.le_of_ble_eq_true rfl, Nat.le_of_ble_eq_true rfl⟩ ⟨Nat.zero_le _, Nat.zero_le _⟩ hl.1 rfl (Nat.le_of_ble_eq_true rfl) dX5_wideTest_5 ?_
  refine lv_if_ne (tgt := 15) hx hb dX5_wideTest_8 (by decide) (fun c1 => ?_) (fun c1 => ?_)
  · rw [if_neg c1] at hq
    refine lv_iconst (v := 0) hx hb dX5_wideTest_15 (by decide) ?_
    exact bX5_wideTest_16 uf us x1 x2 x4 x6 (0 : Int32) C (lv_sub hl [0, 1, 2, 3, 4] rfl) hw post hq
  · rw [if_pos c1] at hq
    refine lv_iconst (v := 1) hx hb dX5_wideTest_11 (by decide) ?_
    refine lv_goto (tgt := 16) hx hb dX5_wideTest_12 (by decide) ?_
    exact bX5_wideTest_16 uf us x1 x2 x4 x6 (1 : Int32) C (lv_sub hl [0, 1, 2, 3, 4] rfl) hw post hq
theorem kX5_wideTest (l : Launch) (dC : Nat → ClassId) (dI : Nat → Nat → Nat) (h0 : Nat) (r : Nat → Nat) (cA : Nat → ClassId) (sz : Nat) (uf : Nat → Int32) (ua : Nat → Nat → Int32) (us : Nat → Int64) (x1 : Int32) (x2 : Int64) (x4 : Int64) (x6 : Int64) : Met l yX5_wideTest (Cond.code yX5_wideTest cX5_wideTest 8 (some .int) :: bw) rmX5_wideTest (hPc [.ref h0, .int x1, .long x2, .long x4, .long x6] (dC, dI) (md_T cA) (md_W h0 r cA uf ua us) sz (fun _ => True)) (va_Qi (fun r u => (r, u) = fX5_wideTest uf us x1 x2 x4 x6) (hBk (dC, dI) (md_T cA) (va_A (md_W h0 r cA uf ua us) sz) (fun u => md_W h0 r cA u.1 ua u.2)) (va_A (md_W h0 r cA uf ua us) sz)) 0 0 (va_A (md_W h0 r cA uf ua us) sz) := by
  refine hx_ent (by decide) _ _ (Nat.le_of_ble_eq_true rfl) rfl ?_
  intro p e s m below meth c ls C hl hw hsz _
  exact bX5_wideTest_0 uf us x1 x2 x4 x6 C hl hw (fun q => q = fX5_wideTest uf us x1 x2 x4 x6) rfl
