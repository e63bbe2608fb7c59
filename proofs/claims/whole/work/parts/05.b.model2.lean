abbrev rmX5_narrow : Room := { frames := 4, cells := 0, slots := 0, locals := 88 }
theorem mbX5_narrow : mb_V RX5 yX5_narrow cX5_narrow 3 (some .int) 1 := ⟨⟨tw_instanceMethod_yX5_narrow, tw_selects_RX5_yX5_narrow_yX5_narrow, tw_initialized_RX5, tw_code_yX5_narrow⟩, rfl, by decide +kernel, by decide +kernel, by decide +kernel⟩
theorem BX5_narrow {h0 : Nat} : bx_B (fun U => ob_K RX5 h0 U) := ob_B RX5 h0
set_option maxRecDepth 20000 in
theorem bX5_narrow_0 (x1 : Int64) {p : Program} {l : Launch} {e : Env} {s : State} {m : MethodId} {args : Array Value} {below : List Frame} {meth : Method} {c : Code} {h0 : Nat} {ls : Array Slot} (C : bx_C p s m args meth c cX5_narrow 3 (some .int) RX5) (hK0 : ob_K RX5 h0 s) (hl : lv_has ls 3 [(0, .ref h0), (1, .long x1)]) (post : Int32 → Prop) (hq : post (fX5_narrow x1)) : W p l e rmX5_narrow s m args below meth c s.heap [] 0 0 (MQ below (vp_Si post) args s 0 0 (fun _ => False)) (F0 m 0 ls []) := by
  obtain ⟨hx, hb, hml, hr, hlocks, hown, hts⟩ := id C
  unfold fX5_narrow at hq
  refine lv_lload_n hx hb dX5_narrow_0 rfl (lv_at hl 1 rfl) ?_
  refine lv_iconst (v := 1) hx hb dX5_narrow_1 (by decide) ?_
  refine bx_si C (kX5_isNan l x1 (1 : Int32)) bx_B_true (fun _ _ _ => trivial) tw_methodLink_RX5_102_yX5_isNan mbX5_isNan rfl ⟨rfl, rfl⟩ ⟨Nat.le_of_ble_eq_true rfl, Nat.le_of_ble_eq_true rfl⟩ ⟨Nat.zero_le _, Nat.zero_le _⟩ hl.1 rfl (Nat.le_of_ble_eq_true rfl) dX5_narrow_2 ?_
  refine lv_if_eq (tgt := 11) hx hb dX5_narrow_5 (by decide) (fun c1 => ?_) (fun c1 => ?_)
  · rw [if_pos c1] at hq
    refine lv_lload_n hx hb dX5_narrow_11 rfl (lv_at hl 1 rfl) ?_
    refine lv_iconst (v := 1) hx hb dX5_narrow_12 (by decide) ?_
    refine bx_si C (kX5_isInfinite l x1 (1 : Int32)) bx_B_true (fun _ _ _ => trivial) tw_methodLink_RX5_112_yX5_isInfinite mbX5_isInfinite rfl ⟨rfl, rfl⟩ ⟨Nat.le_of_ble_eq_true rfl, Nat.le_of_ble_eq_true rfl⟩ ⟨Nat.zero_le _, Nat.zero_le _⟩ hl.1 rfl (Nat.le_of_ble_eq_true rfl) dX5_narrow_13 ?_
    refine lv_if_eq (tgt := 30) hx hb dX5_narrow_16 (by decide) (fun c2 => ?_) (fun c2 => ?_)
    · rw [if_pos c2] at hq
      refine lv_lload_n hx hb dX5_narrow_30 rfl (lv_at hl 1 rfl) ?_
      refine lv_iconst (v := 1) hx hb dX5_narrow_31 (by decide) ?_
      refine bx_si C (kX5_isNegative l x1 (1 : Int32)) bx_B_true (fun _ _ _ => trivial) tw_methodLink_RX5_109_yX5_isNegative mbX5_isNegative rfl ⟨rfl, rfl⟩ ⟨Nat.le_of_ble_eq_true rfl, Nat.le_of_ble_eq_true rfl⟩ ⟨Nat.zero_le _, Nat.zero_le _⟩ hl.1 rfl (Nat.le_of_ble_eq_true rfl) dX5_narrow_32 ?_
      refine lv_lload_n hx hb dX5_narrow_35 rfl (lv_at hl 1 rfl) ?_
      refine lv_iconst (v := 1) hx hb dX5_narrow_36 (by decide) ?_
      refine bx_sl C (kX5_digitsOf l x1 (1 : Int32)) bx_B_true (fun _ _ _ => trivial) tw_methodLink_RX5_118_yX5_digitsOf mbX5_digitsOf rfl ⟨rfl, rfl⟩ ⟨Nat.le_of_ble_eq_true rfl, Nat.le_of_ble_eq_true rfl⟩ ⟨Nat.zero_le _, Nat.zero_le _⟩ hl.1 rfl (Nat.le_of_ble_eq_true rfl) dX5_narrow_37 ?_
      refine lv_lload_n hx hb dX5_narrow_40 rfl (lv_at hl 1 rfl) ?_
      refine lv_iconst (v := 1) hx hb dX5_narrow_41 (by decide) ?_
      refine bx_si C (kX5_exponentOf l x1 (1 : Int32)) bx_B_true (fun _ _ _ => trivial) tw_methodLink_RX5_121_yX5_exponentOf mbX5_exponentOf rfl ⟨rfl, rfl⟩ ⟨Nat.le_of_ble_eq_true rfl, Nat.le_of_ble_eq_true rfl⟩ ⟨Nat.zero_le _, Nat.zero_le _⟩ hl.1 rfl (Nat.le_of_ble_eq_true rfl) dX5_narrow_42 ?_
      refine lv_iconst (v := 0) hx hb dX5_narrow_45 (by decide) ?_
      refine lv_iconst (v := 0) hx hb dX5_narrow_46 (by decide) ?_
      refine bx_sl C (kX5_rounded l (fX5_isNegative x1 (1 : Int32)) (fX5_digitsOf x1 (1 : Int32)) (fX5_exponentOf x1 (1 : Int32)) (0 : Int32) (0 : Int32)) bx_B_true (fun _ _ _ => trivial) tw_methodLink_RX5_98_yX5_rounded mbX5_rounded rfl ⟨rfl, rfl⟩ ⟨Nat.le_of_ble_eq_true rfl, Nat.le_of_ble_eq_true rfl⟩ ⟨Nat.zero_le _, Nat.zero_le _⟩ hl.1 rfl (Nat.le_of_ble_eq_true rfl) dX5_narrow_47 ?_
      refine bx_l2i hx hb dX5_narrow_50 ?_
      exact W.iret (v := (fX5_rounded (fX5_isNegative x1 (1 : Int32)) (fX5_digitsOf x1 (1 : Int32)) (fX5_exponentOf x1 (1 : Int32)) (0 : Int32) (0 : Int32)).toInt32) hx hb hr (fun t ht hW => ⟨_, rfl, hq, ht⟩) (fun _ h => absurd h List.not_mem_nil) dX5_narrow_51
    · rw [if_neg c2] at hq
      refine lv_lload_n hx hb dX5_narrow_19 rfl (lv_at hl 1 rfl) ?_
      refine lv_iconst (v := 1) hx hb dX5_narrow_20 (by decide) ?_
      refine bx_si C (kX5_isNegative l x1 (1 : Int32)) bx_B_true (fun _ _ _ => trivial) tw_methodLink_RX5_109_yX5_isNegative mbX5_isNegative rfl ⟨rfl, rfl⟩ ⟨Nat.le_of_ble_eq_true rfl, Nat.le_of_ble_eq_true rfl⟩ ⟨Nat.zero_le _, Nat.zero_le _⟩ hl.1 rfl (Nat.le_of_ble_eq_true rfl) dX5_narrow_21 ?_
      refine lv_iconst (v := 0) hx hb dX5_narrow_24 (by decide) ?_
      refine bx_sl C (kX5_infinite l (fX5_isNegative x1 (1 : Int32)) (0 : Int32)) bx_B_true (fun _ _ _ => trivial) tw_methodLink_RX5_71_yX5_infinite mbX5_infinite rfl ⟨rfl, rfl⟩ ⟨Nat.le_of_ble_eq_true rfl, Nat.le_of_ble_eq_true rfl⟩ ⟨Nat.zero_le _, Nat.zero_le _⟩ hl.1 rfl (Nat.le_of_ble_eq_true rfl) dX5_narrow_25 ?_
      refine bx_l2i hx hb dX5_narrow_28 ?_
      exact W.iret (v := (fX5_infinite (fX5_isNegative x1 (1 : Int32)) (0 : Int32)).toInt32) hx hb hr (fun t ht hW => ⟨_, rfl, hq, ht⟩) (fun _ h => absurd h List.not_mem_nil) dX5_narrow_29
  · rw [if_neg c1] at hq
    refine lv_ldc (v := 2143289344) hx hb hown (hts _ tw_constant_RX5_244_2143289344) dX5_narrow_8 ?_
    exact W.iret (v := (2143289344 : Int32)) hx hb hr (fun t ht hW => ⟨_, rfl, hq, ht⟩) (fun _ h => absurd h List.not_mem_nil) dX5_narrow_10
theorem kX5_narrow (l : Launch) (h0 : Nat) (x1 : Int64) : Met l yX5_narrow (Cond.code yX5_narrow cX5_narrow 3 (some .int) :: bw) rmX5_narrow (va_Pc [.ref h0, .long x1] (fun U => ob_K RX5 h0 U)) (vp_Si (fun r => r = fX5_narrow x1)) 0 0 (fun _ => False) := by
  refine bx_ent (by decide) _ _ (Nat.le_of_ble_eq_true rfl) rfl ?_
  intro p e s m below meth c ls C hl hK0
  exact bX5_narrow_0 x1 C hK0 hl _ rfl
abbrev rmX5_half : Room := { frames := 0, cells := 0, slots := 0, locals := 0 }
theorem mbX5_half : mb_V RX5 yX5_half cX5_half 4 (some .int) 2 := ⟨⟨tw_instanceMethod_yX5_half, tw_selects_RX5_yX5_half_yX5_half, tw_initialized_RX5, tw_code_yX5_half⟩, rfl, by decide +kernel, by decide +kernel, by decide +kernel⟩
theorem BX5_half {h0 : Nat} : bx_B (fun U => ob_K RX5 h0 U) := ob_B RX5 h0
set_option maxRecDepth 20000 in
theorem bX5_half_0 (x1 : Int64) (x3 : Int32) {p : Program} {l : Launch} {e : Env} {s : State} {m : MethodId} {args : Array Value} {below : List Frame} {meth : Method} {c : Code} {h0 : Nat} {ls : Array Slot} (C : bx_C p s m args meth c cX5_half 4 (some .int) RX5) (hK0 : ob_K RX5 h0 s) (hl : lv_has ls 4 [(0, .ref h0), (1, .long x1), (3, .int x3)]) (post : Int32 → Prop) (hq : post (fX5_half x1 x3)) : W p l e rmX5_half s m args below meth c s.heap [] 0 0 (MQ below (vp_Si post) args s 0 0 (fun _ => False)) (F0 m 0 ls []) := by
  obtain ⟨hx, hb, hml, hr, hlocks, hown, hts⟩ := id C
  unfold fX5_half at hq
  refine lv_iload_n hx hb dX5_half_0 rfl (lv_at hl 2 rfl) ?_
  refine lv_if_eq (tgt := 11) hx hb dX5_half_1 (by decide) (fun c1 => ?_) (fun c1 => ?_)
  · rw [if_pos c1] at hq
    refine lv_lload_n hx hb dX5_half_11 rfl (lv_at hl 1 rfl) ?_
    refine bx_l2i hx hb dX5_half_12 ?_
    exact W.iret (v := x1.toInt32) hx hb hr (fun t ht hW => ⟨_, rfl, hq, ht⟩) (fun _ h => absurd h List.not_mem_nil) dX5_half_13
  · rw [if_neg c1] at hq
    refine lv_lload_n hx hb dX5_half_4 rfl (lv_at hl 1 rfl) ?_
    refine lv_bipush (v := 32) hx hb dX5_half_5 (by decide) ?_
    refine bx_lshr hx hb dX5_half_7 ?_
    refine lv_goto (tgt := 12) hx hb dX5_half_8 (by decide) ?_
    refine bx_l2i hx hb dX5_half_12 ?_
    exact W.iret (v := (jl_shr x1 (32 : Int32)).toInt32) hx hb hr (fun t ht hW => ⟨_, rfl, hq, ht⟩) (fun _ h => absurd h List.not_mem_nil) dX5_half_13
theorem kX5_half (l : Launch) (h0 : Nat) (x1 : Int64) (x3 : Int32) : Met l yX5_half (Cond.code yX5_half cX5_half 4 (some .int) :: bw) rmX5_half (va_Pc [.ref h0, .long x1, .int x3] (fun U => ob_K RX5 h0 U)) (vp_Si (fun r => r = fX5_half x1 x3)) 0 0 (fun _ => False) := by
  refine bx_ent (by decide) _ _ (Nat.le_of_ble_eq_true rfl) rfl ?_
  intro p e s m below meth c ls C hl hK0
  exact bX5_half_0 x1 x3 C hK0 hl _ rfl
abbrev rmX5_join : Room := { frames := 0, cells := 0, slots := 0, locals := 0 }
theorem mbX5_join : mb_V RX5 yX5_join cX5_join 3 (some .long) 2 := ⟨⟨tw_instanceMethod_yX5_join, tw_selects_RX5_yX5_join_yX5_join, tw_initialized_RX5, tw_code_yX5_join⟩, rfl, by decide +kernel, by decide +kernel, by decide +kernel⟩
theorem BX5_join {h0 : Nat} : bx_B (fun U => ob_K RX5 h0 U) := ob_B RX5 h0
set_option maxRecDepth 20000 in
theorem bX5_join_0 (x1 : Int32) (x2 : Int32) {p : Program} {l : Launch} {e : Env} {s : State} {m : MethodId} {args : Array Value} {below : List Frame} {meth : Method} {c : Code} {h0 : Nat} {ls : Array Slot} (C : bx_C p s m args meth c cX5_join 3 (some .long) RX5) (hK0 : ob_K RX5 h0 s) (hl : lv_has ls 3 [(0, .ref h0), (1, .int x1), (2, .int x2)]) (post : Int64 → Prop) (hq : post (fX5_join x1 x2)) : W p l e rmX5_join s m args below meth c s.heap [] 0 0 (MQ below (vp_Sl post) args s 0 0 (fun _ => False)) (F0 m 0 ls []) := by
  obtain ⟨hx, hb, hml, hr, hlocks, hown, hts⟩ := id C
  unfold fX5_join at hq
  refine lv_iload_n hx hb dX5_join_0 rfl (lv_at hl 1 rfl) ?_
  refine bx_i2l hx hb dX5_join_1 ?_
  refine lv_bipush (v := 32) hx hb dX5_join_2 (by decide) ?_
  refine bx_lshl hx hb dX5_join_4 ?_
  refine lv_iload_n hx hb dX5_join_5 rfl (lv_at hl 2 rfl) ?_
  refine bx_i2l hx hb dX5_join_6 ?_
  refine lv_ldc2 (v := 4294967295) hx hb hown (hts _ tw_constantLong_RX5_215_4294967295) dX5_join_7 ?_
  refine lv_land hx hb dX5_join_10 ?_
  refine lv_lor hx hb dX5_join_11 ?_
  exact W.lret (v := ((jl_shl x1.toInt64 (32 : Int32)) ||| (x2.toInt64 &&& (4294967295 : Int64)))) hx hb hr (fun t ht hW => ⟨_, rfl, hq, ht⟩) (fun _ h => absurd h List.not_mem_nil) dX5_join_12
theorem kX5_join (l : Launch) (h0 : Nat) (x1 : Int32) (x2 : Int32) : Met l yX5_join (Cond.code yX5_join cX5_join 3 (some .long) :: bw) rmX5_join (va_Pc [.ref h0, .int x1, .int x2] (fun U => ob_K RX5 h0 U)) (vp_Sl (fun r => r = fX5_join x1 x2)) 0 0 (fun _ => False) := by
  refine bx_ent (by decide) _ _ (Nat.le_of_ble_eq_true rfl) rfl ?_
  intro p e s m below meth c ls C hl hK0
  exact bX5_join_0 x1 x2 C hK0 hl _ rfl
