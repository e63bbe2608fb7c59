abbrev rmX5_in : Room := { frames := 0, cells := 0, slots := 0, locals := 0 }
theorem mbX5_in : mb_S yX5_in cX5_in 3 (some .boolean) 3 := ⟨tw_static_yX5_in, tw_initialized_RX5, tw_code_yX5_in, by decide +kernel, by decide +kernel, by decide +kernel⟩
set_option maxRecDepth 20000 in
theorem bX5_in_0 (x0 : Int32) (x1 : Int32) (x2 : Int32) {p : Program} {l : Launch} {e : Env} {s : State} {m : MethodId} {args : Array Value} {below : List Frame} {meth : Method} {c : Code} {ls : Array Slot} (C : bx_C p s m args meth c cX5_in 3 (some .boolean) RX5) (hl : lv_has ls 3 [(0, .int x0), (1, .int x1), (2, .int x2)]) (post : Int32 → Prop) (hq : post (fX5_in x0 x1 x2)) : W p l e rmX5_in s m args below meth c s.heap [] 0 0 (MQ below (vp_Si post) args s 0 0 (fun _ => False)) (F0 m 0 ls []) := by
  obtain ⟨hx, hb, hml, hr, hlocks, hown, hts⟩ := id C
  unfold fX5_in at hq
  refine lv_iload_n hx hb dX5_in_0 rfl (lv_at hl 0 rfl) ?_
  refine lv_iload_n hx hb dX5_in_1 rfl (lv_at hl 1 rfl) ?_
  refine lv_icmp_lt (tgt := 14) hx hb dX5_in_2 (by decide) (fun c1 => ?_) (fun c1 => ?_)
  · rw [if_pos c1] at hq
    refine lv_iconst (v := 0) hx hb dX5_in_14 (by decide) ?_
    exact W.zret (v := (0 : Int32)) hx hb hr (ji_z_narrow (by repeat' (first | with_reducible exact ji_z0 | with_reducible exact ji_z1 | with_reducible refine ji_z_ite ?_ ?_ | with_reducible assumption))) (fun t ht hW => ⟨_, rfl, hq, ht⟩) (fun _ h => absurd h List.not_mem_nil) dX5_in_15
  · rw [if_neg c1] at hq
    refine lv_iload_n hx hb dX5_in_5 rfl (lv_at hl 0 rfl) ?_
    refine lv_iload_n hx hb dX5_in_6 rfl (lv_at hl 2 rfl) ?_
    refine lv_icmp_gt (tgt := 14) hx hb dX5_in_7 (by decide) (fun c2 => ?_) (fun c2 => ?_)
    · rw [if_pos c2] at hq
      refine lv_iconst (v := 0) hx hb dX5_in_14 (by decide) ?_
      exact W.zret (v := (0 : Int32)) hx hb hr (ji_z_narrow (by repeat' (first | with_reducible exact ji_z0 | with_reducible exact ji_z1 | with_reducible refine ji_z_ite ?_ ?_ | with_reducible assumption))) (fun t ht hW => ⟨_, rfl, hq, ht⟩) (fun _ h => absurd h List.not_mem_nil) dX5_in_15
    · rw [if_neg c2] at hq
      refine lv_iconst (v := 1) hx hb dX5_in_10 (by decide) ?_
      refine lv_goto (tgt := 15) hx hb dX5_in_11 (by decide) ?_
      exact W.zret (v := (1 : Int32)) hx hb hr (ji_z_narrow (by repeat' (first | with_reducible exact ji_z0 | with_reducible exact ji_z1 | with_reducible refine ji_z_ite ?_ ?_ | with_reducible assumption))) (fun t ht hW => ⟨_, rfl, hq, ht⟩) (fun _ h => absurd h List.not_mem_nil) dX5_in_15
theorem kX5_in (l : Launch) (x0 : Int32) (x1 : Int32) (x2 : Int32) : Met l yX5_in (Cond.code yX5_in cX5_in 3 (some .boolean) :: bw) rmX5_in (va_Pc [.int x0, .int x1, .int x2] (fun _ => True)) (vp_Si (fun r => r = fX5_in x0 x1 x2)) 0 0 (fun _ => False) := by
  refine bx_ent (by decide) _ _ (Nat.le_of_ble_eq_true rfl) rfl ?_
  intro p e s m below meth c ls C hl _
  exact bX5_in_0 x0 x1 x2 C hl _ rfl
abbrev rmX5_mantissa : Room := { frames := 0, cells := 0, slots := 0, locals := 0 }
theorem mbX5_mantissa : mb_S yX5_mantissa cX5_mantissa 1 (some .int) 1 := ⟨tw_static_yX5_mantissa, tw_initialized_RX5, tw_code_yX5_mantissa, by decide +kernel, by decide +kernel, by decide +kernel⟩
set_option maxRecDepth 20000 in
theorem bX5_mantissa_0 (x0 : Int32) {p : Program} {l : Launch} {e : Env} {s : State} {m : MethodId} {args : Array Value} {below : List Frame} {meth : Method} {c : Code} {ls : Array Slot} (C : bx_C p s m args meth c cX5_mantissa 1 (some .int) RX5) (hl : lv_has ls 1 [(0, .int x0)]) (post : Int32 → Prop) (hq : post (fX5_mantissa x0)) : W p l e rmX5_mantissa s m args below meth c s.heap [] 0 0 (MQ below (vp_Si post) args s 0 0 (fun _ => False)) (F0 m 0 ls []) := by
  obtain ⟨hx, hb, hml, hr, hlocks, hown, hts⟩ := id C
  unfold fX5_mantissa at hq
  refine lv_iload_n hx hb dX5_mantissa_0 rfl (lv_at hl 0 rfl) ?_
  refine lv_if_eq (tgt := 9) hx hb dX5_mantissa_1 (by decide) (fun c1 => ?_) (fun c1 => ?_)
  · rw [if_pos c1] at hq
    refine lv_bipush (v := 23) hx hb dX5_mantissa_9 (by decide) ?_
    exact W.iret (v := (23 : Int32)) hx hb hr (fun t ht hW => ⟨_, rfl, hq, ht⟩) (fun _ h => absurd h List.not_mem_nil) dX5_mantissa_11
  · rw [if_neg c1] at hq
    refine lv_bipush (v := 52) hx hb dX5_mantissa_4 (by decide) ?_
    refine lv_goto (tgt := 11) hx hb dX5_mantissa_6 (by decide) ?_
    exact W.iret (v := (52 : Int32)) hx hb hr (fun t ht hW => ⟨_, rfl, hq, ht⟩) (fun _ h => absurd h List.not_mem_nil) dX5_mantissa_11
theorem kX5_mantissa (l : Launch) (x0 : Int32) : Met l yX5_mantissa (Cond.code yX5_mantissa cX5_mantissa 1 (some .int) :: bw) rmX5_mantissa (va_Pc [.int x0] (fun _ => True)) (vp_Si (fun r => r = fX5_mantissa x0)) 0 0 (fun _ => False) := by
  refine bx_ent (by decide) _ _ (Nat.le_of_ble_eq_true rfl) rfl ?_
  intro p e s m below meth c ls C hl _
  exact bX5_mantissa_0 x0 C hl _ rfl
abbrev rmX5_top : Room := { frames := 0, cells := 0, slots := 0, locals := 0 }
theorem mbX5_top : mb_S yX5_top cX5_top 1 (some .int) 1 := ⟨tw_static_yX5_top, tw_initialized_RX5, tw_code_yX5_top, by decide +kernel, by decide +kernel, by decide +kernel⟩
set_option maxRecDepth 20000 in
theorem bX5_top_0 (x0 : Int32) {p : Program} {l : Launch} {e : Env} {s : State} {m : MethodId} {args : Array Value} {below : List Frame} {meth : Method} {c : Code} {ls : Array Slot} (C : bx_C p s m args meth c cX5_top 1 (some .int) RX5) (hl : lv_has ls 1 [(0, .int x0)]) (post : Int32 → Prop) (hq : post (fX5_top x0)) : W p l e rmX5_top s m args below meth c s.heap [] 0 0 (MQ below (vp_Si post) args s 0 0 (fun _ => False)) (F0 m 0 ls []) := by
  obtain ⟨hx, hb, hml, hr, hlocks, hown, hts⟩ := id C
  unfold fX5_top at hq
  refine lv_iload_n hx hb dX5_top_0 rfl (lv_at hl 0 rfl) ?_
  refine lv_if_eq (tgt := 10) hx hb dX5_top_1 (by decide) (fun c1 => ?_) (fun c1 => ?_)
  · rw [if_pos c1] at hq
    refine lv_sipush (v := 255) hx hb dX5_top_10 (by decide) ?_
    exact W.iret (v := (255 : Int32)) hx hb hr (fun t ht hW => ⟨_, rfl, hq, ht⟩) (fun _ h => absurd h List.not_mem_nil) dX5_top_13
  · rw [if_neg c1] at hq
    refine lv_sipush (v := 2047) hx hb dX5_top_4 (by decide) ?_
    refine lv_goto (tgt := 13) hx hb dX5_top_7 (by decide) ?_
    exact W.iret (v := (2047 : Int32)) hx hb hr (fun t ht hW => ⟨_, rfl, hq, ht⟩) (fun _ h => absurd h List.not_mem_nil) dX5_top_13
theorem kX5_top (l : Launch) (x0 : Int32) : Met l yX5_top (Cond.code yX5_top cX5_top 1 (some .int) :: bw) rmX5_top (va_Pc [.int x0] (fun _ => True)) (vp_Si (fun r => r = fX5_top x0)) 0 0 (fun _ => False) := by
  refine bx_ent (by decide) _ _ (Nat.le_of_ble_eq_true rfl) rfl ?_
  intro p e s m below meth c ls C hl _
  exact bX5_top_0 x0 C hl _ rfl
abbrev rmX5_bias : Room := { frames := 0, cells := 0, slots := 0, locals := 0 }
theorem mbX5_bias : mb_S yX5_bias cX5_bias 1 (some .int) 1 := ⟨tw_static_yX5_bias, tw_initialized_RX5, tw_code_yX5_bias, by decide +kernel, by decide +kernel, by decide +kernel⟩
set_option maxRecDepth 20000 in
theorem bX5_bias_0 (x0 : Int32) {p : Program} {l : Launch} {e : Env} {s : State} {m : MethodId} {args : Array Value} {below : List Frame} {meth : Method} {c : Code} {ls : Array Slot} (C : bx_C p s m args meth c cX5_bias 1 (some .int) RX5) (hl : lv_has ls 1 [(0, .int x0)]) (post : Int32 → Prop) (hq : post (fX5_bias x0)) : W p l e rmX5_bias s m args below meth c s.heap [] 0 0 (MQ below (vp_Si post) args s 0 0 (fun _ => False)) (F0 m 0 ls []) := by
  obtain ⟨hx, hb, hml, hr, hlocks, hown, hts⟩ := id C
  unfold fX5_bias at hq
  refine lv_iload_n hx hb dX5_bias_0 rfl (lv_at hl 0 rfl) ?_
  refine lv_if_eq (tgt := 10) hx hb dX5_bias_1 (by decide) (fun c1 => ?_) (fun c1 => ?_)
  · rw [if_pos c1] at hq
    refine lv_bipush (v := 127) hx hb dX5_bias_10 (by decide) ?_
    exact W.iret (v := (127 : Int32)) hx hb hr (fun t ht hW => ⟨_, rfl, hq, ht⟩) (fun _ h => absurd h List.not_mem_nil) dX5_bias_12
  · rw [if_neg c1] at hq
    refine lv_sipush (v := 1023) hx hb dX5_bias_4 (by decide) ?_
    refine lv_goto (tgt := 12) hx hb dX5_bias_7 (by decide) ?_
    exact W.iret (v := (1023 : Int32)) hx hb hr (fun t ht hW => ⟨_, rfl, hq, ht⟩) (fun _ h => absurd h List.not_mem_nil) dX5_bias_12
theorem kX5_bias (l : Launch) (x0 : Int32) : Met l yX5_bias (Cond.code yX5_bias cX5_bias 1 (some .int) :: bw) rmX5_bias (va_Pc [.int x0] (fun _ => True)) (vp_Si (fun r => r = fX5_bias x0)) 0 0 (fun _ => False) := by
  refine bx_ent (by decide) _ _ (Nat.le_of_ble_eq_true rfl) rfl ?_
  intro p e s m below meth c ls C hl _
  exact bX5_bias_0 x0 C hl _ rfl
abbrev rmX5_signBit : Room := { frames := 0, cells := 0, slots := 0, locals := 0 }
theorem mbX5_signBit : mb_S yX5_signBit cX5_signBit 1 (some .long) 1 := ⟨tw_static_yX5_signBit, tw_initialized_RX5, tw_code_yX5_signBit, by decide +kernel, by decide +kernel, by decide +kernel⟩
set_option maxRecDepth 20000 in
theorem bX5_signBit_0 (x0 : Int32) {p : Program} {l : Launch} {e : Env} {s : State} {m : MethodId} {args : Array Value} {below : List Frame} {meth : Method} {c : Code} {ls : Array Slot} (C : bx_C p s m args meth c cX5_signBit 1 (some .long) RX5) (hl : lv_has ls 1 [(0, .int x0)]) (post : Int64 → Prop) (hq : post (fX5_signBit x0)) : W p l e rmX5_signBit s m args below meth c s.heap [] 0 0 (MQ below (vp_Sl post) args s 0 0 (fun _ => False)) (F0 m 0 ls []) := by
  obtain ⟨hx, hb, hml, hr, hlocks, hown, hts⟩ := id C
  unfold fX5_signBit at hq
  refine lv_iload_n hx hb dX5_signBit_0 rfl (lv_at hl 0 rfl) ?_
  refine lv_if_eq (tgt := 10) hx hb dX5_signBit_1 (by decide) (fun c1 => ?_) (fun c1 => ?_)
  · rw [if_pos c1] at hq
    refine lv_ldc2 (v := 2147483648) hx hb hown (hts _ tw_constantLong_RX5_48_2147483648) dX5_signBit_10 ?_
    exact W.lret (v := (2147483648 : Int64)) hx hb hr (fun t ht hW => ⟨_, rfl, hq, ht⟩) (fun _ h => absurd h List.not_mem_nil) dX5_signBit_13
  · rw [if_neg c1] at hq
    refine lv_ldc2 (v := -9223372036854775808) hx hb hown (hts _ tw_constantLong_RX5_46_9223372036854775808) dX5_signBit_4 ?_
    refine lv_goto (tgt := 13) hx hb dX5_signBit_7 (by decide) ?_
    exact W.lret (v := (-9223372036854775808 : Int64)) hx hb hr (fun t ht hW => ⟨_, rfl, hq, ht⟩) (fun _ h => absurd h List.not_mem_nil) dX5_signBit_13
theorem kX5_signBit (l : Launch) (x0 : Int32) : Met l yX5_signBit (Cond.code yX5_signBit cX5_signBit 1 (some .long) :: bw) rmX5_signBit (va_Pc [.int x0] (fun _ => True)) (vp_Sl (fun r => r = fX5_signBit x0)) 0 0 (fun _ => False) := by
  refine bx_ent (by decide) _ _ (Nat.le_of_ble_eq_true rfl) rfl ?_
  intro p e s m below meth c ls C hl _
  exact bX5_signBit_0 x0 C hl _ rfl
abbrev rmX5_nan : Room := { frames := 0, cells := 0, slots := 0, locals := 0 }
theorem mbX5_nan : mb_S yX5_nan cX5_nan 1 (some .long) 1 := ⟨tw_static_yX5_nan, tw_initialized_RX5, tw_code_yX5_nan, by decide +kernel, by decide +kernel, by decide +kernel⟩
set_option maxRecDepth 20000 in
theorem bX5_nan_0 (x0 : Int32) {p : Program} {l : Launch} {e : Env} {s : State} {m : MethodId} {args : Array Value} {below : List Frame} {meth : Method} {c : Code} {ls : Array Slot} (C : bx_C p s m args meth c cX5_nan 1 (some .long) RX5) (hl : lv_has ls 1 [(0, .int x0)]) (post : Int64 → Prop) (hq : post (fX5_nan x0)) : W p l e rmX5_nan s m args below meth c s.heap [] 0 0 (MQ below (vp_Sl post) args s 0 0 (fun _ => False)) (F0 m 0 ls []) := by
  obtain ⟨hx, hb, hml, hr, hlocks, hown, hts⟩ := id C
  unfold fX5_nan at hq
  refine lv_iload_n hx hb dX5_nan_0 rfl (lv_at hl 0 rfl) ?_
  refine lv_if_eq (tgt := 10) hx hb dX5_nan_1 (by decide) (fun c1 => ?_) (fun c1 => ?_)
  · rw [if_pos c1] at hq
    refine lv_ldc2 (v := 2143289344) hx hb hown (hts _ tw_constantLong_RX5_52_2143289344) dX5_nan_10 ?_
    exact W.lret (v := (2143289344 : Int64)) hx hb hr (fun t ht hW => ⟨_, rfl, hq, ht⟩) (fun _ h => absurd h List.not_mem_nil) dX5_nan_13
  · rw [if_neg c1] at hq
    refine lv_ldc2 (v := 9221120237041090560) hx hb hown (hts _ tw_constantLong_RX5_50_9221120237041090560) dX5_nan_4 ?_
    refine lv_goto (tgt := 13) hx hb dX5_nan_7 (by decide) ?_
    exact W.lret (v := (9221120237041090560 : Int64)) hx hb hr (fun t ht hW => ⟨_, rfl, hq, ht⟩) (fun _ h => absurd h List.not_mem_nil) dX5_nan_13
theorem kX5_nan (l : Launch) (x0 : Int32) : Met l yX5_nan (Cond.code yX5_nan cX5_nan 1 (some .long) :: bw) rmX5_nan (va_Pc [.int x0] (fun _ => True)) (vp_Sl (fun r => r = fX5_nan x0)) 0 0 (fun _ => False) := by
  refine bx_ent (by decide) _ _ (Nat.le_of_ble_eq_true rfl) rfl ?_
  intro p e s m below meth c ls C hl _
  exact bX5_nan_0 x0 C hl _ rfl
abbrev rmX5_infinite : Room := { frames := 1, cells := 0, slots := 0, locals := 20 }
theorem mbX5_infinite : mb_S yX5_infinite cX5_infinite 2 (some .long) 2 := ⟨tw_static_yX5_infinite, tw_initialized_RX5, tw_code_yX5_infinite, by decide +kernel, by decide +kernel, by decide +kernel⟩
set_option maxRecDepth 20000 in
theorem bX5_infinite_0 (x0 : Int32) (x1 : Int32) {p : Program} {l : Launch} {e : Env} {s : State} {m : MethodId} {args : Array Value} {below : List Frame} {meth : Method} {c : Code} {ls : Array Slot} (C : bx_C p s m args meth c cX5_infinite 2 (some .long) RX5) (hl : lv_has ls 2 [(0, .int x0), (1, .int x1)]) (post : Int64 → Prop) (hq : post (fX5_infinite x0 x1)) : W p l e rmX5_infinite s m args below meth c s.heap [] 0 0 (MQ below (vp_Sl post) args s 0 0 (fun _ => False)) (F0 m 0 ls []) := by
  obtain ⟨hx, hb, hml, hr, hlocks, hown, hts⟩ := id C
  unfold fX5_infinite at hq
  refine lv_iload_n hx hb dX5_infinite_0 rfl (lv_at hl 1 rfl) ?_
  refine bx_si C (kX5_top l x1) bx_B_true (fun _ _ _ => trivial) tw_methodLink_RX5_54_yX5_top mbX5_top rfl ⟨rfl, rfl⟩ ⟨Nat.le_of_ble_eq_true rfl, Nat.le_of_ble_eq_true rfl⟩ ⟨Nat.zero_le _, Nat.zero_le _⟩ hl.1 rfl (Nat.le_of_ble_eq_true rfl) dX5_infinite_1 ?_
  refine bx_i2l hx hb dX5_infinite_4 ?_
  refine lv_iload_n hx hb dX5_infinite_5 rfl (lv_at hl 1 rfl) ?_
  refine bx_si C (kX5_mantissa l x1) bx_B_true (fun _ _ _ => trivial) tw_methodLink_RX5_58_yX5_mantissa mbX5_mantissa rfl ⟨rfl, rfl⟩ ⟨Nat.le_of_ble_eq_true rfl, Nat.le_of_ble_eq_true rfl⟩ ⟨Nat.zero_le _, Nat.zero_le _⟩ hl.1 rfl (Nat.le_of_ble_eq_true rfl) dX5_infinite_6 ?_
  refine bx_lshl hx hb dX5_infinite_9 ?_
  refine lv_iload_n hx hb dX5_infinite_10 rfl (lv_at hl 0 rfl) ?_
  refine lv_if_eq (tgt := 21) hx hb dX5_infinite_11 (by decide) (fun c1 => ?_) (fun c1 => ?_)
  · rw [if_pos c1] at hq
    refine lv_lconst (v := 0) hx hb dX5_infinite_21 (by decide) ?_
    refine lv_lor hx hb dX5_infinite_22 ?_
    exact W.lret (v := ((jl_shl ((fX5_top x1).toInt64) (fX5_mantissa x1)) ||| (0 : Int64))) hx hb hr (fun t ht hW => ⟨_, rfl, hq, ht⟩) (fun _ h => absurd h List.not_mem_nil) dX5_infinite_23
  · rw [if_neg c1] at hq
    refine lv_iload_n hx hb dX5_infinite_14 rfl (lv_at hl 1 rfl) ?_
    refine bx_sl C (kX5_signBit l x1) bx_B_true (fun _ _ _ => trivial) tw_methodLink_RX5_61_yX5_signBit mbX5_signBit rfl ⟨rfl, rfl⟩ ⟨Nat.le_of_ble_eq_true rfl, Nat.le_of_ble_eq_true rfl⟩ ⟨Nat.zero_le _, Nat.zero_le _⟩ hl.1 rfl (Nat.le_of_ble_eq_true rfl) dX5_infinite_15 ?_
    refine lv_goto (tgt := 22) hx hb dX5_infinite_18 (by decide) ?_
    refine lv_lor hx hb dX5_infinite_22 ?_
    exact W.lret (v := ((jl_shl ((fX5_top x1).toInt64) (fX5_mantissa x1)) ||| (fX5_signBit x1))) hx hb hr (fun t ht hW => ⟨_, rfl, hq, ht⟩) (fun _ h => absurd h List.not_mem_nil) dX5_infinite_23
theorem kX5_infinite (l : Launch) (x0 : Int32) (x1 : Int32) : Met l yX5_infinite (Cond.code yX5_infinite cX5_infinite 2 (some .long) :: bw) rmX5_infinite (va_Pc [.int x0, .int x1] (fun _ => True)) (vp_Sl (fun r => r = fX5_infinite x0 x1)) 0 0 (fun _ => False) := by
  refine bx_ent (by decide) _ _ (Nat.le_of_ble_eq_true rfl) rfl ?_
  intro p e s m below meth c ls C hl _
  exact bX5_infinite_0 x0 x1 C hl _ rfl
abbrev rmX5_isNegative : Room := { frames := 1, cells := 0, slots := 0, locals := 20 }
theorem mbX5_isNegative : mb_S yX5_isNegative cX5_isNegative 3 (some .boolean) 2 := ⟨tw_static_yX5_isNegative, tw_initialized_RX5, tw_code_yX5_isNegative, by decide +kernel, by decide +kernel, by decide +kernel⟩
set_option maxRecDepth 20000 in
theorem bX5_isNegative_0 (x0 : Int64) (x2 : Int32) {p : Program} {l : Launch} {e : Env} {s : State} {m : MethodId} {args : Array Value} {below : List Frame} {meth : Method} {c : Code} {ls : Array Slot} (C : bx_C p s m args meth c cX5_isNegative 3 (some .boolean) RX5) (hl : lv_has ls 3 [(0, .long x0), (2, .int x2)]) (post : Int32 → Prop) (hq : post (fX5_isNegative x0 x2)) : W p l e rmX5_isNegative s m args below meth c s.heap [] 0 0 (MQ below (vp_Si post) args s 0 0 (fun _ => False)) (F0 m 0 ls []) := by
  obtain ⟨hx, hb, hml, hr, hlocks, hown, hts⟩ := id C
  unfold fX5_isNegative at hq
  refine lv_lload_n hx hb dX5_isNegative_0 rfl (lv_at hl 0 rfl) ?_
  refine lv_iload_n hx hb dX5_isNegative_1 rfl (lv_at hl 1 rfl) ?_
  refine bx_sl C (kX5_signBit l x2) bx_B_true (fun _ _ _ => trivial) tw_methodLink_RX5_61_yX5_signBit mbX5_signBit rfl ⟨rfl, rfl⟩ ⟨Nat.le_of_ble_eq_true rfl, Nat.le_of_ble_eq_true rfl⟩ ⟨Nat.zero_le _, Nat.zero_le _⟩ hl.1 rfl (Nat.le_of_ble_eq_true rfl) dX5_isNegative_2 ?_
  refine lv_land hx hb dX5_isNegative_5 ?_
  refine lv_lconst (v := 0) hx hb dX5_isNegative_6 (by decide) ?_
  refine bx_lc_eq (tgt := 15) hx hb dX5_isNegative_7 dX5_isNegative_8 (by decide) (fun c1 => ?_) (fun c1 => ?_)
  · rw [if_pos c1] at hq
    refine lv_iconst (v := 0) hx hb dX5_isNegative_15 (by decide) ?_
    exact W.zret (v := (0 : Int32)) hx hb hr (ji_z_narrow (by repeat' (first | with_reducible exact ji_z0 | with_reducible exact ji_z1 | with_reducible refine ji_z_ite ?_ ?_ | with_reducible assumption))) (fun t ht hW => ⟨_, rfl, hq, ht⟩) (fun _ h => absurd h List.not_mem_nil) dX5_isNegative_16
  · rw [if_neg c1] at hq
    refine lv_iconst (v := 1) hx hb dX5_isNegative_11 (by decide) ?_
    refine lv_goto (tgt := 16) hx hb dX5_isNegative_12 (by decide) ?_
    exact W.zret (v := (1 : Int32)) hx hb hr (ji_z_narrow (by repeat' (first | with_reducible exact ji_z0 | with_reducible exact ji_z1 | with_reducible refine ji_z_ite ?_ ?_ | with_reducible assumption))) (fun t ht hW => ⟨_, rfl, hq, ht⟩) (fun _ h => absurd h List.not_mem_nil) dX5_isNegative_16
theorem kX5_isNegative (l : Launch) (x0 : Int64) (x2 : Int32) : Met l yX5_isNegative (Cond.code yX5_isNegative cX5_isNegative 3 (some .boolean) :: bw) rmX5_isNegative (va_Pc [.long x0, .int x2] (fun _ => True)) (vp_Si (fun r => r = fX5_isNegative x0 x2)) 0 0 (fun _ => False) := by
  refine bx_ent (by decide) _ _ (Nat.le_of_ble_eq_true rfl) rfl ?_
  intro p e s m below meth c ls C hl _
  exact bX5_isNegative_0 x0 x2 C hl _ rfl
abbrev rmX5_size : Room := { frames := 1, cells := 0, slots := 0, locals := 20 }
theorem mbX5_size : mb_S yX5_size cX5_size 3 (some .long) 2 := ⟨tw_static_yX5_size, tw_initialized_RX5, tw_code_yX5_size, by decide +kernel, by decide +kernel, by decide +kernel⟩
set_option maxRecDepth 20000 in
theorem bX5_size_0 (x0 : Int64) (x2 : Int32) {p : Program} {l : Launch} {e : Env} {s : State} {m : MethodId} {args : Array Value} {below : List Frame} {meth : Method} {c : Code} {ls : Array Slot} (C : bx_C p s m args meth c cX5_size 3 (some .long) RX5) (hl : lv_has ls 3 [(0, .long x0), (2, .int x2)]) (post : Int64 → Prop) (hq : post (fX5_size x0 x2)) : W p l e rmX5_size s m args below meth c s.heap [] 0 0 (MQ below (vp_Sl post) args s 0 0 (fun _ => False)) (F0 m 0 ls []) := by
  obtain ⟨hx, hb, hml, hr, hlocks, hown, hts⟩ := id C
  unfold fX5_size at hq
  refine lv_lload_n hx hb dX5_size_0 rfl (lv_at hl 0 rfl) ?_
  refine lv_iload_n hx hb dX5_size_1 rfl (lv_at hl 1 rfl) ?_
  refine bx_sl C (kX5_signBit l x2) bx_B_true (fun _ _ _ => trivial) tw_methodLink_RX5_61_yX5_signBit mbX5_signBit rfl ⟨rfl, rfl⟩ ⟨Nat.le_of_ble_eq_true rfl, Nat.le_of_ble_eq_true rfl⟩ ⟨Nat.zero_le _, Nat.zero_le _⟩ hl.1 rfl (Nat.le_of_ble_eq_true rfl) dX5_size_2 ?_
  refine lv_ldc2 (v := -1) hx hb hown (hts _ tw_constantLong_RX5_65_1) dX5_size_5 ?_
  refine lv_lxor hx hb dX5_size_8 ?_
  refine lv_land hx hb dX5_size_9 ?_
  exact W.lret (v := (x0 &&& ((fX5_signBit x2) ^^^ (-1 : Int64)))) hx hb hr (fun t ht hW => ⟨_, rfl, hq, ht⟩) (fun _ h => absurd h List.not_mem_nil) dX5_size_10
theorem kX5_size (l : Launch) (x0 : Int64) (x2 : Int32) : Met l yX5_size (Cond.code yX5_size cX5_size 3 (some .long) :: bw) rmX5_size (va_Pc [.long x0, .int x2] (fun _ => True)) (vp_Sl (fun r => r = fX5_size x0 x2)) 0 0 (fun _ => False) := by
  refine bx_ent (by decide) _ _ (Nat.le_of_ble_eq_true rfl) rfl ?_
  intro p e s m below meth c ls C hl _
  exact bX5_size_0 x0 x2 C hl _ rfl
abbrev rmX5_isNan : Room := { frames := 2, cells := 0, slots := 0, locals := 42 }
theorem mbX5_isNan : mb_S yX5_isNan cX5_isNan 3 (some .boolean) 2 := ⟨tw_static_yX5_isNan, tw_initialized_RX5, tw_code_yX5_isNan, by decide +kernel, by decide +kernel, by decide +kernel⟩
set_option maxRecDepth 20000 in
theorem bX5_isNan_0 (x0 : Int64) (x2 : Int32) {p : Program} {l : Launch} {e : Env} {s : State} {m : MethodId} {args : Array Value} {below : List Frame} {meth : Method} {c : Code} {ls : Array Slot} (C : bx_C p s m args meth c cX5_isNan 3 (some .boolean) RX5) (hl : lv_has ls 3 [(0, .long x0), (2, .int x2)]) (post : Int32 → Prop) (hq : post (fX5_isNan x0 x2)) : W p l e rmX5_isNan s m args below meth c s.heap [] 0 0 (MQ below (vp_Si post) args s 0 0 (fun _ => False)) (F0 m 0 ls []) := by
  obtain ⟨hx, hb, hml, hr, hlocks, hown, hts⟩ := id C
  unfold fX5_isNan at hq
  refine lv_lload_n hx hb dX5_isNan_0 rfl (lv_at hl 0 rfl) ?_
  refine lv_iload_n hx hb dX5_isNan_1 rfl (lv_at hl 1 rfl) ?_
  refine bx_sl C (kX5_size l x0 x2) bx_B_true (fun _ _ _ => trivial) tw_methodLink_RX5_67_yX5_size mbX5_size rfl ⟨rfl, rfl⟩ ⟨Nat.le_of_ble_eq_true rfl, Nat.le_of_ble_eq_true rfl⟩ ⟨Nat.zero_le _, Nat.zero_le _⟩ hl.1 rfl (Nat.le_of_ble_eq_true rfl) dX5_isNan_2 ?_
  refine lv_iconst (v := 0) hx hb dX5_isNan_5 (by decide) ?_
  refine lv_iload_n hx hb dX5_isNan_6 rfl (lv_at hl 1 rfl) ?_
  refine bx_sl C (kX5_infinite l (0 : Int32) x2) bx_B_true (fun _ _ _ => trivial) tw_methodLink_RX5_71_yX5_infinite mbX5_infinite rfl ⟨rfl, rfl⟩ ⟨Nat.le_of_ble_eq_true rfl, Nat.le_of_ble_eq_true rfl⟩ ⟨Nat.zero_le _, Nat.zero_le _⟩ hl.1 rfl (Nat.le_of_ble_eq_true rfl) dX5_isNan_7 ?_
  refine bx_lc_le (tgt := 18) hx hb dX5_isNan_10 dX5_isNan_11 (by decide) (fun c1 => ?_) (fun c1 => ?_)
  · rw [if_pos c1] at hq
    refine lv_iconst (v := 0) hx hb dX5_isNan_18 (by decide) ?_
    exact W.zret (v := (0 : Int32)) hx hb hr (ji_z_narrow (by repeat' (first | with_reducible exact ji_z0 | with_reducible exact ji_z1 | with_reducible refine ji_z_ite ?_ ?_ | with_reducible assumption))) (fun t ht hW => ⟨_, rfl, hq, ht⟩) (fun _ h => absurd h List.not_mem_nil) dX5_isNan_19
  · rw [if_neg c1] at hq
    refine lv_iconst (v := 1) hx hb dX5_isNan_14 (by decide) ?_
    refine lv_goto (tgt := 19) hx hb dX5_isNan_15 (by decide) ?_
    exact W.zret (v := (1 : Int32)) hx hb hr (ji_z_narrow (by repeat' (first | with_reducible exact ji_z0 | with_reducible exact ji_z1 | with_reducible refine ji_z_ite ?_ ?_ | with_reducible assumption))) (fun t ht hW => ⟨_, rfl, hq, ht⟩) (fun _ h => absurd h List.not_mem_nil) dX5_isNan_19
theorem kX5_isNan (l : Launch) (x0 : Int64) (x2 : Int32) : Met l yX5_isNan (Cond.code yX5_isNan cX5_isNan 3 (some .boolean) :: bw) rmX5_isNan (va_Pc [.long x0, .int x2] (fun _ => True)) (vp_Si (fun r => r = fX5_isNan x0 x2)) 0 0 (fun _ => False) := by
  refine bx_ent (by decide) _ _ (Nat.le_of_ble_eq_true rfl) rfl ?_
  intro p e s m below meth c ls C hl _
  exact bX5_isNan_0 x0 x2 C hl _ rfl
abbrev rmX5_isInfinite : Room := { frames := 2, cells := 0, slots := 0, locals := 42 }
theorem mbX5_isInfinite : mb_S yX5_isInfinite cX5_isInfinite 3 (some .boolean) 2 := ⟨tw_static_yX5_isInfinite, tw_initialized_RX5, tw_code_yX5_isInfinite, by decide +kernel, by decide +kernel, by decide +kernel⟩
set_option maxRecDepth 20000 in
theorem bX5_isInfinite_0 (x0 : Int64) (x2 : Int32) {p : Program} {l : Launch} {e : Env} {s : State} {m : MethodId} {args : Array Value} {below : List Frame} {meth : Method} {c : Code} {ls : Array Slot} (C : bx_C p s m args meth c cX5_isInfinite 3 (some .boolean) RX5) (hl : lv_has ls 3 [(0, .long x0), (2, .int x2)]) (post : Int32 → Prop) (hq : post (fX5_isInfinite x0 x2)) : W p l e rmX5_isInfinite s m args below meth c s.heap [] 0 0 (MQ below (vp_Si post) args s 0 0 (fun _ => False)) (F0 m 0 ls []) := by
  obtain ⟨hx, hb, hml, hr, hlocks, hown, hts⟩ := id C
  unfold fX5_isInfinite at hq
  refine lv_lload_n hx hb dX5_isInfinite_0 rfl (lv_at hl 0 rfl) ?_
  refine lv_iload_n hx hb dX5_isInfinite_1 rfl (lv_at hl 1 rfl) ?_
  refine bx_sl C (kX5_size l x0 x2) bx_B_true (fun _ _ _ => trivial) tw_methodLink_RX5_67_yX5_size mbX5_size rfl ⟨rfl, rfl⟩ ⟨Nat.le_of_ble_eq_true rfl, Nat.le_of_ble_eq_true rfl⟩ ⟨Nat.zero_le _, Nat.zero_le _⟩ hl.1 rfl (Nat.le_of_ble_eq_true rfl) dX5_isInfinite_2 ?_
  refine lv_iconst (v := 0) hx hb dX5_isInfinite_5 (by decide) ?_
  refine lv_iload_n hx hb dX5_isInfinite_6 rfl (lv_at hl 1 rfl) ?_
  refine bx_sl C (kX5_infinite l (0 : Int32) x2) bx_B_true (fun _ _ _ => trivial) tw_methodLink_RX5_71_yX5_infinite mbX5_infinite rfl ⟨rfl, rfl⟩ ⟨Nat.le_of_ble_eq_true rfl, Nat.le_of_ble_eq_true rfl⟩ ⟨Nat.zero_le _, Nat.zero_le _⟩ hl.1 rfl (Nat.le_of_ble_eq_true rfl) dX5_isInfinite_7 ?_
  refine bx_lc_ne (tgt := 18) hx hb dX5_isInfinite_10 dX5_isInfinite_11 (by decide) (fun c1 => ?_) (fun c1 => ?_)
  · rw [if_neg c1] at hq
    refine lv_iconst (v := 0) hx hb dX5_isInfinite_18 (by decide) ?_
    exact W.zret (v := (0 : Int32)) hx hb hr (ji_z_narrow (by repeat' (first | with_reducible exact ji_z0 | with_reducible exact ji_z1 | with_reducible refine ji_z_ite ?_ ?_ | with_reducible assumption))) (fun t ht hW => ⟨_, rfl, hq, ht⟩) (fun _ h => absurd h List.not_mem_nil) dX5_isInfinite_19
  · rw [if_pos c1] at hq
    refine lv_iconst (v := 1) hx hb dX5_isInfinite_14 (by decide) ?_
    refine lv_goto (tgt := 19) hx hb dX5_isInfinite_15 (by decide) ?_
    exact W.zret (v := (1 : Int32)) hx hb hr (ji_z_narrow (by repeat' (first | with_reducible exact ji_z0 | with_reducible exact ji_z1 | with_reducible refine ji_z_ite ?_ ?_ | with_reducible assumption))) (fun t ht hW => ⟨_, rfl, hq, ht⟩) (fun _ h => absurd h List.not_mem_nil) dX5_isInfinite_19
theorem kX5_isInfinite (l : Launch) (x0 : Int64) (x2 : Int32) : Met l yX5_isInfinite (Cond.code yX5_isInfinite cX5_isInfinite 3 (some .boolean) :: bw) rmX5_isInfinite (va_Pc [.long x0, .int x2] (fun _ => True)) (vp_Si (fun r => r = fX5_isInfinite x0 x2)) 0 0 (fun _ => False) := by
  refine bx_ent (by decide) _ _ (Nat.le_of_ble_eq_true rfl) rfl ?_
  intro p e s m below meth c ls C hl _
  exact bX5_isInfinite_0 x0 x2 C hl _ rfl
abbrev rmX5_isZero : Room := { frames := 2, cells := 0, slots := 0, locals := 42 }
theorem mbX5_isZero : mb_S yX5_isZero cX5_isZero 3 (some .boolean) 2 := ⟨tw_static_yX5_isZero, tw_initialized_RX5, tw_code_yX5_isZero, by decide +kernel, by decide +kernel, by decide +kernel⟩
set_option maxRecDepth 20000 in
theorem bX5_isZero_0 (x0 : Int64) (x2 : Int32) {p : Program} {l : Launch} {e : Env} {s : State} {m : MethodId} {args : Array Value} {below : List Frame} {meth : Method} {c : Code} {ls : Array Slot} (C : bx_C p s m args meth c cX5_isZero 3 (some .boolean) RX5) (hl : lv_has ls 3 [(0, .long x0), (2, .int x2)]) (post : Int32 → Prop) (hq : post (fX5_isZero x0 x2)) : W p l e rmX5_isZero s m args below meth c s.heap [] 0 0 (MQ below (vp_Si post) args s 0 0 (fun _ => False)) (F0 m 0 ls []) := by
  obtain ⟨hx, hb, hml, hr, hlocks, hown, hts⟩ := id C
  unfold fX5_isZero at hq
  refine lv_lload_n hx hb dX5_isZero_0 rfl (lv_at hl 0 rfl) ?_
  refine lv_iload_n hx hb dX5_isZero_1 rfl (lv_at hl 1 rfl) ?_
  refine bx_sl C (kX5_size l x0 x2) bx_B_true (fun _ _ _ => trivial) tw_methodLink_RX5_67_yX5_size mbX5_size rfl ⟨rfl, rfl⟩ ⟨Nat.le_of_ble_eq_true rfl, Nat.le_of_ble_eq_true rfl⟩ ⟨Nat.zero_le _, Nat.zero_le _⟩ hl.1 rfl (Nat.le_of_ble_eq_true rfl) dX5_isZero_2 ?_
  refine lv_lconst (v := 0) hx hb dX5_isZero_5 (by decide) ?_
  refine bx_lc_ne (tgt := 14) hx hb dX5_isZero_6 dX5_isZero_7 (by decide) (fun c1 => ?_) (fun c1 => ?_)
  · rw [if_neg c1] at hq
    refine lv_iconst (v := 0) hx hb dX5_isZero_14 (by decide) ?_
    exact W.zret (v := (0 : Int32)) hx hb hr (ji_z_narrow (by repeat' (first | with_reducible exact ji_z0 | with_reducible exact ji_z1 | with_reducible refine ji_z_ite ?_ ?_ | with_reducible assumption))) (fun t ht hW => ⟨_, rfl, hq, ht⟩) (fun _ h => absurd h List.not_mem_nil) dX5_isZero_15
  · rw [if_pos c1] at hq
    refine lv_iconst (v := 1) hx hb dX5_isZero_10 (by decide) ?_
    refine lv_goto (tgt := 15) hx hb dX5_isZero_11 (by decide) ?_
    exact W.zret (v := (1 : Int32)) hx hb hr (ji_z_narrow (by repeat' (first | with_reducible exact ji_z0 | with_reducible exact ji_z1 | with_reducible refine ji_z_ite ?_ ?_ | with_reducible assumption))) (fun t ht hW => ⟨_, rfl, hq, ht⟩) (fun _ h => absurd h List.not_mem_nil) dX5_isZero_15
theorem kX5_isZero (l : Launch) (x0 : Int64) (x2 : Int32) : Met l yX5_isZero (Cond.code yX5_isZero cX5_isZero 3 (some .boolean) :: bw) rmX5_isZero (va_Pc [.long x0, .int x2] (fun _ => True)) (vp_Si (fun r => r = fX5_isZero x0 x2)) 0 0 (fun _ => False) := by
  refine bx_ent (by decide) _ _ (Nat.le_of_ble_eq_true rfl) rfl ?_
  intro p e s m below meth c ls C hl _
  exact bX5_isZero_0 x0 x2 C hl _ rfl
abbrev rmX5_exponentBits : Room := { frames := 2, cells := 0, slots := 0, locals := 42 }
theorem mbX5_exponentBits : mb_S yX5_exponentBits cX5_exponentBits 3 (some .int) 2 := ⟨tw_static_yX5_exponentBits, tw_initialized_RX5, tw_code_yX5_exponentBits, by decide +kernel, by decide +kernel, by decide +kernel⟩
set_option maxRecDepth 20000 in
theorem bX5_exponentBits_0 (x0 : Int64) (x2 : Int32) {p : Program} {l : Launch} {e : Env} {s : State} {m : MethodId} {args : Array Value} {below : List Frame} {meth : Method} {c : Code} {ls : Array Slot} (C : bx_C p s m args meth c cX5_exponentBits 3 (some .int) RX5) (hl : lv_has ls 3 [(0, .long x0), (2, .int x2)]) (post : Int32 → Prop) (hq : post (fX5_exponentBits x0 x2)) : W p l e rmX5_exponentBits s m args below meth c s.heap [] 0 0 (MQ below (vp_Si post) args s 0 0 (fun _ => False)) (F0 m 0 ls []) := by
  obtain ⟨hx, hb, hml, hr, hlocks, hown, hts⟩ := id C
  unfold fX5_exponentBits at hq
  refine lv_lload_n hx hb dX5_exponentBits_0 rfl (lv_at hl 0 rfl) ?_
  refine lv_iload_n hx hb dX5_exponentBits_1 rfl (lv_at hl 1 rfl) ?_
  refine bx_sl C (kX5_size l x0 x2) bx_B_true (fun _ _ _ => trivial) tw_methodLink_RX5_67_yX5_size mbX5_size rfl ⟨rfl, rfl⟩ ⟨Nat.le_of_ble_eq_true rfl, Nat.le_of_ble_eq_true rfl⟩ ⟨Nat.zero_le _, Nat.zero_le _⟩ hl.1 rfl (Nat.le_of_ble_eq_true rfl) dX5_exponentBits_2 ?_
  refine lv_iload_n hx hb dX5_exponentBits_5 rfl (lv_at hl 1 rfl) ?_
  refine bx_si C (kX5_mantissa l x2) bx_B_true (fun _ _ _ => trivial) tw_methodLink_RX5_58_yX5_mantissa mbX5_mantissa rfl ⟨rfl, rfl⟩ ⟨Nat.le_of_ble_eq_true rfl, Nat.le_of_ble_eq_true rfl⟩ ⟨Nat.zero_le _, Nat.zero_le _⟩ hl.1 rfl (Nat.le_of_ble_eq_true rfl) dX5_exponentBits_6 ?_
  refine bx_lushr hx hb dX5_exponentBits_9 ?_
  refine bx_l2i hx hb dX5_exponentBits_10 ?_
  exact W.iret (v := (jl_ushr (fX5_size x0 x2) (fX5_mantissa x2)).toInt32) hx hb hr (fun t ht hW => ⟨_, rfl, hq, ht⟩) (fun _ h => absurd h List.not_mem_nil) dX5_exponentBits_11
theorem kX5_exponentBits (l : Launch) (x0 : Int64) (x2 : Int32) : Met l yX5_exponentBits (Cond.code yX5_exponentBits cX5_exponentBits 3 (some .int) :: bw) rmX5_exponentBits (va_Pc [.long x0, .int x2] (fun _ => True)) (vp_Si (fun r => r = fX5_exponentBits x0 x2)) 0 0 (fun _ => False) := by
  refine bx_ent (by decide) _ _ (Nat.le_of_ble_eq_true rfl) rfl ?_
  intro p e s m below meth c ls C hl _
  exact bX5_exponentBits_0 x0 x2 C hl _ rfl
abbrev rmX5_digitsOf : Room := { frames := 3, cells := 0, slots := 0, locals := 64 }
theorem mbX5_digitsOf : mb_S yX5_digitsOf cX5_digitsOf 5 (some .long) 2 := ⟨tw_static_yX5_digitsOf, tw_initialized_RX5, tw_code_yX5_digitsOf, by decide +kernel, by decide +kernel, by decide +kernel⟩
set_option maxRecDepth 20000 in
theorem bX5_digitsOf_14 (x0 : Int64) (x2 : Int32) (s0 : Int64) {p : Program} {l : Launch} {e : Env} {s : State} {m : MethodId} {args : Array Value} {below : List Frame} {meth : Method} {c : Code} {ls : Array Slot} (C : bx_C p s m args meth c cX5_digitsOf 5 (some .long) RX5) (hl : lv_has ls 5 [(0, .long x0), (2, .int x2)]) (post : Int64 → Prop) (hq : post (fX5_digitsOf_14 x0 x2 s0)) : W p l e rmX5_digitsOf s m args below meth c s.heap [] 0 0 (MQ below (vp_Sl post) args s 0 0 (fun _ => False)) (F0 m 14 ls [.long s0]) := by
  obtain ⟨hx, hb, hml, hr, hlocks, hown, hts⟩ := id C
  unfold fX5_digitsOf_14 at hq
  refine lv_lstore_n (lv' := [(3, .long s0), (0, .long x0), (2, .int x2)]) hx hb dX5_digitsOf_14 rfl hl (by decide) rfl (fun ls hl => ?_)
  refine lv_lload_n hx hb dX5_digitsOf_15 rfl (lv_at hl 1 rfl) ?_
  refine lv_iload_n hx hb dX5_digitsOf_16 rfl (lv_at hl 2 rfl) ?_
  refine bx_si C (kX5_exponentBits l x0 x2) bx_B_true (fun _ _ _ => trivial) tw_methodLink_RX5_75_yX5_exponentBits mbX5_exponentBits rfl ⟨rfl, rfl⟩ ⟨Nat.le_of_ble_eq_true rfl, Nat.le_of_ble_eq_true rfl⟩ ⟨Nat.zero_le _, Nat.zero_le _⟩ hl.1 rfl (Nat.le_of_ble_eq_true rfl) dX5_digitsOf_17 ?_
  refine lv_if_ne (tgt := 27) hx hb dX5_digitsOf_20 (by decide) (fun c1 => ?_) (fun c1 => ?_)
  · rw [if_neg c1] at hq
    refine lv_lload_n hx hb dX5_digitsOf_27 rfl (lv_at hl 0 rfl) ?_
    refine lv_lconst (v := 1) hx hb dX5_digitsOf_28 (by decide) ?_
    refine lv_iload_n hx hb dX5_digitsOf_29 rfl (lv_at hl 2 rfl) ?_
    refine bx_si C (kX5_mantissa l x2) bx_B_true (fun _ _ _ => trivial) tw_methodLink_RX5_58_yX5_mantissa mbX5_mantissa rfl ⟨rfl, rfl⟩ ⟨Nat.le_of_ble_eq_true rfl, Nat.le_of_ble_eq_true rfl⟩ ⟨Nat.zero_le _, Nat.zero_le _⟩ hl.1 rfl (Nat.le_of_ble_eq_true rfl) dX5_digitsOf_30 ?_
    refine bx_lshl hx hb dX5_digitsOf_33 ?_
    refine lv_lor hx hb dX5_digitsOf_34 ?_
    exact W.lret (v := (s0 ||| (jl_shl (1 : Int64) (fX5_mantissa x2)))) hx hb hr (fun t ht hW => ⟨_, rfl, hq, ht⟩) (fun _ h => absurd h List.not_mem_nil) dX5_digitsOf_35
  · rw [if_pos c1] at hq
    refine lv_lload_n hx hb dX5_digitsOf_23 rfl (lv_at hl 0 rfl) ?_
    refine lv_goto (tgt := 35) hx hb dX5_digitsOf_24 (by decide) ?_
    exact W.lret (v := s0) hx hb hr (fun t ht hW => ⟨_, rfl, hq, ht⟩) (fun _ h => absurd h List.not_mem_nil) dX5_digitsOf_35
set_option maxRecDepth 20000 in
theorem bX5_digitsOf_0 (x0 : Int64) (x2 : Int32) {p : Program} {l : Launch} {e : Env} {s : State} {m : MethodId} {args : Array Value} {below : List Frame} {meth : Method} {c : Code} {ls : Array Slot} (C : bx_C p s m args meth c cX5_digitsOf 5 (some .long) RX5) (hl : lv_has ls 5 [(0, .long x0), (2, .int x2)]) (post : Int64 → Prop) (hq : post (fX5_digitsOf x0 x2)) : W p l e rmX5_digitsOf s m args below meth c s.heap [] 0 0 (MQ below (vp_Sl post) args s 0 0 (fun _ => False)) (F0 m 0 ls []) := by
  obtain ⟨hx, hb, hml, hr, hlocks, hown, hts⟩ := id C
  unfold fX5_digitsOf at hq
  refine lv_lload_n hx hb dX5_digitsOf_0 rfl (lv_at hl 0 rfl) ?_
  refine lv_iload_n hx hb dX5_digitsOf_1 rfl (lv_at hl 1 rfl) ?_
  refine bx_sl C (kX5_size l x0 x2) bx_B_true (fun _ _ _ => trivial) tw_methodLink_RX5_67_yX5_size mbX5_size rfl ⟨rfl, rfl⟩ ⟨Nat.le_of_ble_eq_true rfl, Nat.le_of_ble_eq_true rfl⟩ ⟨Nat.zero_le _, Nat.zero_le _⟩ hl.1 rfl (Nat.le_of_ble_eq_true rfl) dX5_digitsOf_2 ?_
  refine lv_lconst (v := 1) hx hb dX5_digitsOf_5 (by decide) ?_
  refine lv_iload_n hx hb dX5_digitsOf_6 rfl (lv_at hl 1 rfl) ?_
  refine bx_si C (kX5_mantissa l x2) bx_B_true (fun _ _ _ => trivial) tw_methodLink_RX5_58_yX5_mantissa mbX5_mantissa rfl ⟨rfl, rfl⟩ ⟨Nat.le_of_ble_eq_true rfl, Nat.le_of_ble_eq_true rfl⟩ ⟨Nat.zero_le _, Nat.zero_le _⟩ hl.1 rfl (Nat.le_of_ble_eq_true rfl) dX5_digitsOf_7 ?_
  refine bx_lshl hx hb dX5_digitsOf_10 ?_
  refine lv_lconst (v := 1) hx hb dX5_digitsOf_11 (by decide) ?_
  refine lv_lsub hx hb dX5_digitsOf_12 ?_
  refine lv_land hx hb dX5_digitsOf_13 ?_
  exact bX5_digitsOf_14 x0 x2 ((fX5_size x0 x2) &&& ((jl_shl (1 : Int64) (fX5_mantissa x2)) - (1 : Int64))) C (lv_sub hl [0, 1] rfl) post hq
theorem kX5_digitsOf (l : Launch) (x0 : Int64) (x2 : Int32) : Met l yX5_digitsOf (Cond.code yX5_digitsOf cX5_digitsOf 5 (some .long) :: bw) rmX5_digitsOf (va_Pc [.long x0, .int x2] (fun _ => True)) (vp_Sl (fun r => r = fX5_digitsOf x0 x2)) 0 0 (fun _ => False) := by
  refine bx_ent (by decide) _ _ (Nat.le_of_ble_eq_true rfl) rfl ?_
  intro p e s m below meth c ls C hl _
  exact bX5_digitsOf_0 x0 x2 C hl _ rfl
abbrev rmX5_exponentOf : Room := { frames := 3, cells := 0, slots := 0, locals := 64 }
theorem mbX5_exponentOf : mb_S yX5_exponentOf cX5_exponentOf 4 (some .int) 2 := ⟨tw_static_yX5_exponentOf, tw_initialized_RX5, tw_code_yX5_exponentOf, by decide +kernel, by decide +kernel, by decide +kernel⟩
set_option maxRecDepth 20000 in
theorem bX5_exponentOf_15 (x2 : Int32) (s0 : Int32) {p : Program} {l : Launch} {e : Env} {s : State} {m : MethodId} {args : Array Value} {below : List Frame} {meth : Method} {c : Code} {ls : Array Slot} (C : bx_C p s m args meth c cX5_exponentOf 4 (some .int) RX5) (hl : lv_has ls 4 [(2, .int x2)]) (post : Int32 → Prop) (hq : post (fX5_exponentOf_15 x2 s0)) : W p l e rmX5_exponentOf s m args below meth c s.heap [] 0 0 (MQ below (vp_Si post) args s 0 0 (fun _ => False)) (F0 m 15 ls [.int s0]) := by
  obtain ⟨hx, hb, hml, hr, hlocks, hown, hts⟩ := id C
  unfold fX5_exponentOf_15 at hq
  refine lv_iload_n hx hb dX5_exponentOf_15 rfl (lv_at hl 0 rfl) ?_
  refine bx_si C (kX5_bias l x2) bx_B_true (fun _ _ _ => trivial) tw_methodLink_RX5_79_yX5_bias mbX5_bias rfl ⟨rfl, rfl⟩ ⟨Nat.le_of_ble_eq_true rfl, Nat.le_of_ble_eq_true rfl⟩ ⟨Nat.zero_le _, Nat.zero_le _⟩ hl.1 rfl (Nat.le_of_ble_eq_true rfl) dX5_exponentOf_16 ?_
  refine lv_isub hx hb dX5_exponentOf_19 ?_
  refine lv_iload_n hx hb dX5_exponentOf_20 rfl (lv_at hl 0 rfl) ?_
  refine bx_si C (kX5_mantissa l x2) bx_B_true (fun _ _ _ => trivial) tw_methodLink_RX5_58_yX5_mantissa mbX5_mantissa rfl ⟨rfl, rfl⟩ ⟨Nat.le_of_ble_eq_true rfl, Nat.le_of_ble_eq_true rfl⟩ ⟨Nat.zero_le _, Nat.zero_le _⟩ hl.1 rfl (Nat.le_of_ble_eq_true rfl) dX5_exponentOf_21 ?_
  refine lv_isub hx hb dX5_exponentOf_24 ?_
  exact W.iret (v := ((s0 - (fX5_bias x2)) - (fX5_mantissa x2))) hx hb hr (fun t ht hW => ⟨_, rfl, hq, ht⟩) (fun _ h => absurd h List.not_mem_nil) dX5_exponentOf_25
set_option maxRecDepth 20000 in
theorem bX5_exponentOf_0 (x0 : Int64) (x2 : Int32) {p : Program} {l : Launch} {e : Env} {s : State} {m : MethodId} {args : Array Value} {below : List Frame} {meth : Method} {c : Code} {ls : Array Slot} (C : bx_C p s m args meth c cX5_exponentOf 4 (some .int) RX5) (hl : lv_has ls 4 [(0, .long x0), (2, .int x2)]) (post : Int32 → Prop) (hq : post (fX5_exponentOf x0 x2)) : W p l e rmX5_exponentOf s m args below meth c s.heap [] 0 0 (MQ below (vp_Si post) args s 0 0 (fun _ => False)) (F0 m 0 ls []) := by
  obtain ⟨hx, hb, hml, hr, hlocks, hown, hts⟩ := id C
  unfold fX5_exponentOf at hq
  refine lv_lload_n hx hb dX5_exponentOf_0 rfl (lv_at hl 0 rfl) ?_
  refine lv_iload_n hx hb dX5_exponentOf_1 rfl (lv_at hl 1 rfl) ?_
  refine bx_si C (kX5_exponentBits l x0 x2) bx_B_true (fun _ _ _ => trivial) tw_methodLink_RX5_75_yX5_exponentBits mbX5_exponentBits rfl ⟨rfl, rfl⟩ ⟨Nat.le_of_ble_eq_true rfl, Nat.le_of_ble_eq_true rfl⟩ ⟨Nat.zero_le _, Nat.zero_le _⟩ hl.1 rfl (Nat.le_of_ble_eq_true rfl) dX5_exponentOf_2 ?_
  refine lv_istore_n (lv' := [(3, .int (fX5_exponentBits x0 x2)), (0, .long x0), (2, .int x2)]) hx hb dX5_exponentOf_5 rfl hl (by decide) rfl (fun ls hl => ?_)
  refine lv_iload_n hx hb dX5_exponentOf_6 rfl (lv_at hl 0 rfl) ?_
  refine lv_if_ne (tgt := 14) hx hb dX5_exponentOf_7 (by decide) (fun c1 => ?_) (fun c1 => ?_)
  · rw [if_neg c1] at hq
    refine lv_iload_n hx hb dX5_exponentOf_14 rfl (lv_at hl 0 rfl) ?_
    exact bX5_exponentOf_15 x2 (fX5_exponentBits x0 x2) C (lv_sub hl [2] rfl) post hq
  · rw [if_pos c1] at hq
    refine lv_iconst (v := 1) hx hb dX5_exponentOf_10 (by decide) ?_
    refine lv_goto (tgt := 15) hx hb dX5_exponentOf_11 (by decide) ?_
    exact bX5_exponentOf_15 x2 (1 : Int32) C (lv_sub hl [2] rfl) post hq
theorem kX5_exponentOf (l : Launch) (x0 : Int64) (x2 : Int32) : Met l yX5_exponentOf (Cond.code yX5_exponentOf cX5_exponentOf 4 (some .int) :: bw) rmX5_exponentOf (va_Pc [.long x0, .int x2] (fun _ => True)) (vp_Si (fun r => r = fX5_exponentOf x0 x2)) 0 0 (fun _ => False) := by
  refine bx_ent (by decide) _ _ (Nat.le_of_ble_eq_true rfl) rfl ?_
  intro p e s m below meth c ls C hl _
  exact bX5_exponentOf_0 x0 x2 C hl _ rfl
abbrev rmX5_bitsOf : Room := { frames := 0, cells := 0, slots := 0, locals := 0 }
theorem mbX5_bitsOf : mb_S yX5_bitsOf cX5_bitsOf 3 (some .int) 1 := ⟨tw_static_yX5_bitsOf, tw_initialized_RX5, tw_code_yX5_bitsOf, by decide +kernel, by decide +kernel, by decide +kernel⟩
set_option maxRecDepth 20000 in
theorem lX5_bitsOf_2 (x0 : Int64) {p : Program} {l : Launch} {e : Env} {s : State} {m : MethodId} {args : Array Value} {below : List Frame} {meth : Method} {c : Code} {Q : State → Prop} (C : bx_C p s m args meth c cX5_bitsOf 3 (some .int) RX5) (post : Int32 → Prop) (kx : ∀ (o2 : Int32) (ls : Array Slot), lv_has ls 3 [(2, .int o2)] → post o2 → W p l e rmX5_bitsOf s m args below meth c s.heap [] 0 0 Q (F0 m 22 ls [])) :
    ∀ (n : Nat) (x2 : Int32) (ls : Array Slot), (Int32.toInt (63) - Int32.toInt x2).toNat < n → lv_has ls 3 [(0, .long x0), (2, .int x2)] → post (gX5_bitsOf_2 x0 n x2) → W p l e rmX5_bitsOf s m args below meth c s.heap [] 0 0 Q (F0 m 2 ls []) := by
  obtain ⟨hx, hb, hml, hr, hlocks, hown, hts⟩ := id C
  intro n
  induction n with
  | zero =>
    intro x2 ls hm
    exact absurd hm (Nat.not_lt_zero _)
  | succ n ih =>
    intro x2 ls hm hl hq
    rw [gX5_bitsOf_2] at hq
    refine lv_iload_n hx hb dX5_bitsOf_2 rfl (lv_at hl 1 rfl) ?_
    refine lv_bipush (v := 63) hx hb dX5_bitsOf_3 (by decide) ?_
    refine lv_icmp_ge (tgt := 22) hx hb dX5_bitsOf_5 (by decide) (fun c1 => ?_) (fun c1 => ?_)
    · rw [if_pos c1] at hq
      exact kx x2 _ (lv_sub hl [1] rfl) hq
    · rw [if_neg c1] at hq
      refine lv_lload_n hx hb dX5_bitsOf_8 rfl (lv_at hl 0 rfl) ?_
      refine lv_iload_n hx hb dX5_bitsOf_9 rfl (lv_at hl 1 rfl) ?_
      refine bx_lushr hx hb dX5_bitsOf_10 ?_
      refine lv_lconst (v := 0) hx hb dX5_bitsOf_11 (by decide) ?_
      refine bx_lc_eq (tgt := 22) hx hb dX5_bitsOf_12 dX5_bitsOf_13 (by decide) (fun c2 => ?_) (fun c2 => ?_)
      · rw [if_pos c2] at hq
        exact kx x2 _ (lv_sub hl [1] rfl) hq
      · rw [if_neg c2] at hq
        refine lv_iinc (v := (x2 + 1)) (lv' := [(2, .int (x2 + 1)), (0, .long x0)]) hx hb dX5_bitsOf_16 hl (k := 1) rfl rfl (by decide) rfl (fun ls hl => ?_)
        refine lv_goto (tgt := 2) hx hb dX5_bitsOf_19 (by decide) ?_
        exact ih (x2 + 1) _ (lp_up (by assumption) hm) (lv_sub hl [1, 0] rfl) hq
set_option maxRecDepth 20000 in
theorem bX5_bitsOf_22 (x2 : Int32) {p : Program} {l : Launch} {e : Env} {s : State} {m : MethodId} {args : Array Value} {below : List Frame} {meth : Method} {c : Code} {ls : Array Slot} (C : bx_C p s m args meth c cX5_bitsOf 3 (some .int) RX5) (hl : lv_has ls 3 [(2, .int x2)]) (post : Int32 → Prop) (hq : post (fX5_bitsOf_22 x2)) : W p l e rmX5_bitsOf s m args below meth c s.heap [] 0 0 (MQ below (vp_Si post) args s 0 0 (fun _ => False)) (F0 m 22 ls []) := by
  obtain ⟨hx, hb, hml, hr, hlocks, hown, hts⟩ := id C
  unfold fX5_bitsOf_22 at hq
  refine lv_iload_n hx hb dX5_bitsOf_22 rfl (lv_at hl 0 rfl) ?_
  exact W.iret (v := x2) hx hb hr (fun t ht hW => ⟨_, rfl, hq, ht⟩) (fun _ h => absurd h List.not_mem_nil) dX5_bitsOf_23
set_option maxRecDepth 20000 in
theorem bX5_bitsOf_0 (x0 : Int64) {p : Program} {l : Launch} {e : Env} {s : State} {m : MethodId} {args : Array Value} {below : List Frame} {meth : Method} {c : Code} {ls : Array Slot} (C : bx_C p s m args meth c cX5_bitsOf 3 (some .int) RX5) (hl : lv_has ls 3 [(0, .long x0)]) (post : Int32 → Prop) (hq : post (fX5_bitsOf x0)) : W p l e rmX5_bitsOf s m args below meth c s.heap [] 0 0 (MQ below (vp_Si post) args s 0 0 (fun _ => False)) (F0 m 0 ls []) := by
  obtain ⟨hx, hb, hml, hr, hlocks, hown, hts⟩ := id C
  unfold fX5_bitsOf at hq
  refine lv_iconst (v := 0) hx hb dX5_bitsOf_0 (by decide) ?_
  refine lv_istore_n (lv' := [(2, .int (0 : Int32)), (0, .long x0)]) hx hb dX5_bitsOf_1 rfl hl (by decide) rfl (fun ls hl => ?_)
  exact lX5_bitsOf_2 x0 C (fun t => post (fX5_bitsOf_22 t)) (fun o2 ls hl hq => bX5_bitsOf_22 o2 C (lv_sub hl [0] rfl) post hq) (Nat.succ ((Int32.toInt (63) - Int32.toInt (0 : Int32)).toNat)) (0 : Int32) _ (Nat.lt_succ_self _) (lv_sub hl [1, 0] rfl) hq
theorem kX5_bitsOf (l : Launch) (x0 : Int64) : Met l yX5_bitsOf (Cond.code yX5_bitsOf cX5_bitsOf 3 (some .int) :: bw) rmX5_bitsOf (va_Pc [.long x0] (fun _ => True)) (vp_Si (fun r => r = fX5_bitsOf x0)) 0 0 (fun _ => False) := by
  refine bx_ent (by decide) _ _ (Nat.le_of_ble_eq_true rfl) rfl ?_
  intro p e s m below meth c ls C hl _
  exact bX5_bitsOf_0 x0 C hl _ rfl
abbrev rmX5_rounded : Room := { frames := 2, cells := 0, slots := 0, locals := 41 }
theorem mbX5_rounded : mb_S yX5_rounded cX5_rounded 20 (some .long) 5 := ⟨tw_static_yX5_rounded, tw_initialized_RX5, tw_code_yX5_rounded, by decide +kernel, by decide +kernel, by decide +kernel⟩
set_option maxRecDepth 20000 in
theorem bX5_rounded_251 (x5 : Int32) (x6 : Int64) (x11 : Int64) (x13 : Int32) {p : Program} {l : Launch} {e : Env} {s : State} {m : MethodId} {args : Array Value} {below : List Frame} {meth : Method} {c : Code} {ls : Array Slot} (C : bx_C p s m args meth c cX5_rounded 20 (some .long) RX5) (hl : lv_has ls 20 [(5, .int x5), (6, .long x6), (11, .long x11), (13, .int x13)]) (post : Int64 → Prop) (hq : post (fX5_rounded_251 x5 x6 x11 x13)) : W p l e rmX5_rounded s m args below meth c s.heap [] 0 0 (MQ below (vp_Sl post) args s 0 0 (fun _ => False)) (F0 m 251 ls []) := by
  obtain ⟨hx, hb, hml, hr, hlocks, hown, hts⟩ := id C
  unfold fX5_rounded_251 at hq
  refine lv_lload hx hb dX5_rounded_251 (lv_at hl 2 rfl) ?_
  refine lv_lconst (v := 1) hx hb dX5_rounded_253 (by decide) ?_
  refine lv_iload hx hb dX5_rounded_254 (lv_at hl 0 rfl) ?_
  refine bx_si C (kX5_mantissa l x5) bx_B_true (fun _ _ _ => trivial) tw_methodLink_RX5_58_yX5_mantissa mbX5_mantissa rfl ⟨rfl, rfl⟩ ⟨Nat.le_of_ble_eq_true rfl, Nat.le_of_ble_eq_true rfl⟩ ⟨Nat.zero_le _, Nat.zero_le _⟩ hl.1 rfl (Nat.le_of_ble_eq_true rfl) dX5_rounded_256 ?_
  refine bx_lshl hx hb dX5_rounded_259 ?_
  refine bx_lc_ge (tgt := 270) hx hb dX5_rounded_260 dX5_rounded_261 (by decide) (fun c6 => ?_) (fun c6 => ?_)
  · rw [if_pos c6] at hq
    refine lv_iload hx hb dX5_rounded_270 (lv_at hl 3 rfl) ?_
    refine lv_iload hx hb dX5_rounded_272 (lv_at hl 0 rfl) ?_
    refine bx_si C (kX5_bias l x5) bx_B_true (fun _ _ _ => trivial) tw_methodLink_RX5_79_yX5_bias mbX5_bias rfl ⟨rfl, rfl⟩ ⟨Nat.le_of_ble_eq_true rfl, Nat.le_of_ble_eq_true rfl⟩ ⟨Nat.zero_le _, Nat.zero_le _⟩ hl.1 rfl (Nat.le_of_ble_eq_true rfl) dX5_rounded_274 ?_
    refine lv_iadd hx hb dX5_rounded_277 ?_
    refine lv_iload hx hb dX5_rounded_278 (lv_at hl 0 rfl) ?_
    refine bx_si C (kX5_mantissa l x5) bx_B_true (fun _ _ _ => trivial) tw_methodLink_RX5_58_yX5_mantissa mbX5_mantissa rfl ⟨rfl, rfl⟩ ⟨Nat.le_of_ble_eq_true rfl, Nat.le_of_ble_eq_true rfl⟩ ⟨Nat.zero_le _, Nat.zero_le _⟩ hl.1 rfl (Nat.le_of_ble_eq_true rfl) dX5_rounded_280 ?_
    refine lv_iadd hx hb dX5_rounded_283 ?_
    refine lv_istore (lv' := [(14, .int ((x13 + (fX5_bias x5)) + (fX5_mantissa x5))), (5, .int x5), (6, .long x6), (11, .long x11), (13, .int x13)]) hx hb dX5_rounded_284 hl (by decide) rfl (fun ls hl => ?_)
    refine lv_iload hx hb dX5_rounded_286 (lv_at hl 0 rfl) ?_
    refine lv_iload hx hb dX5_rounded_288 (lv_at hl 1 rfl) ?_
    refine bx_si C (kX5_top l x5) bx_B_true (fun _ _ _ => trivial) tw_methodLink_RX5_54_yX5_top mbX5_top rfl ⟨rfl, rfl⟩ ⟨Nat.le_of_ble_eq_true rfl, Nat.le_of_ble_eq_true rfl⟩ ⟨Nat.zero_le _, Nat.zero_le _⟩ hl.1 rfl (Nat.le_of_ble_eq_true rfl) dX5_rounded_290 ?_
    refine lv_icmp_lt (tgt := 308) hx hb dX5_rounded_293 (by decide) (fun c7 => ?_) (fun c7 => ?_)
    · rw [if_pos c7] at hq
      refine lv_lload hx hb dX5_rounded_308 (lv_at hl 2 rfl) ?_
      refine lv_iload hx hb dX5_rounded_310 (lv_at hl 0 rfl) ?_
      refine bx_i2l hx hb dX5_rounded_312 ?_
      refine lv_iload hx hb dX5_rounded_313 (lv_at hl 1 rfl) ?_
      refine bx_si C (kX5_mantissa l x5) bx_B_true (fun _ _ _ => trivial) tw_methodLink_RX5_58_yX5_mantissa mbX5_mantissa rfl ⟨rfl, rfl⟩ ⟨Nat.le_of_ble_eq_true rfl, Nat.le_of_ble_eq_true rfl⟩ ⟨Nat.zero_le _, Nat.zero_le _⟩ hl.1 rfl (Nat.le_of_ble_eq_true rfl) dX5_rounded_315 ?_
      refine bx_lshl hx hb dX5_rounded_318 ?_
      refine lv_lor hx hb dX5_rounded_319 ?_
      refine lv_lload hx hb dX5_rounded_320 (lv_at hl 3 rfl) ?_
      refine lv_lconst (v := 1) hx hb dX5_rounded_322 (by decide) ?_
      refine lv_iload hx hb dX5_rounded_323 (lv_at hl 1 rfl) ?_
      refine bx_si C (kX5_mantissa l x5) bx_B_true (fun _ _ _ => trivial) tw_methodLink_RX5_58_yX5_mantissa mbX5_mantissa rfl ⟨rfl, rfl⟩ ⟨Nat.le_of_ble_eq_true rfl, Nat.le_of_ble_eq_true rfl⟩ ⟨Nat.zero_le _, Nat.zero_le _⟩ hl.1 rfl (Nat.le_of_ble_eq_true rfl) dX5_rounded_325 ?_
      refine bx_lshl hx hb dX5_rounded_328 ?_
      refine lv_lconst (v := 1) hx hb dX5_rounded_329 (by decide) ?_
      refine lv_lsub hx hb dX5_rounded_330 ?_
      refine lv_land hx hb dX5_rounded_331 ?_
      refine lv_lor hx hb dX5_rounded_332 ?_
      exact W.lret (v := ((x6 ||| (jl_shl (((x13 + (fX5_bias x5)) + (fX5_mantissa x5)).toInt64) (fX5_mantissa x5))) ||| (x11 &&& ((jl_shl (1 : Int64) (fX5_mantissa x5)) - (1 : Int64))))) hx hb hr (fun t ht hW => ⟨_, rfl, hq, ht⟩) (fun _ h => absurd h List.not_mem_nil) dX5_rounded_333
    · rw [if_neg c7] at hq
      refine lv_lload hx hb dX5_rounded_296 (lv_at hl 2 rfl) ?_
      refine lv_iconst (v := 0) hx hb dX5_rounded_298 (by decide) ?_
      refine lv_iload hx hb dX5_rounded_299 (lv_at hl 1 rfl) ?_
      refine bx_sl C (kX5_infinite l (0 : Int32) x5) bx_B_true (fun _ _ _ => trivial) tw_methodLink_RX5_71_yX5_infinite mbX5_infinite rfl ⟨rfl, rfl⟩ ⟨Nat.le_of_ble_eq_true rfl, Nat.le_of_ble_eq_true rfl⟩ ⟨Nat.zero_le _, Nat.zero_le _⟩ hl.1 rfl (Nat.le_of_ble_eq_true rfl) dX5_rounded_301 ?_
      refine lv_lor hx hb dX5_rounded_304 ?_
      refine lv_goto (tgt := 333) hx hb dX5_rounded_305 (by decide) ?_
      exact W.lret (v := (x6 ||| (fX5_infinite (0 : Int32) x5))) hx hb hr (fun t ht hW => ⟨_, rfl, hq, ht⟩) (fun _ h => absurd h List.not_mem_nil) dX5_rounded_333
  · rw [if_neg c6] at hq
    refine lv_lload hx hb dX5_rounded_264 (lv_at hl 1 rfl) ?_
    refine lv_lload hx hb dX5_rounded_266 (lv_at hl 2 rfl) ?_
    refine lv_lor hx hb dX5_rounded_268 ?_
    exact W.lret (v := (x6 ||| x11)) hx hb hr (fun t ht hW => ⟨_, rfl, hq, ht⟩) (fun _ h => absurd h List.not_mem_nil) dX5_rounded_269
set_option maxRecDepth 20000 in
theorem bX5_rounded_232 (x5 : Int32) (x6 : Int64) (x8 : Int32) (x11 : Int64) (x13 : Int32) {p : Program} {l : Launch} {e : Env} {s : State} {m : MethodId} {args : Array Value} {below : List Frame} {meth : Method} {c : Code} {ls : Array Slot} (C : bx_C p s m args meth c cX5_rounded 20 (some .long) RX5) (hl : lv_has ls 20 [(5, .int x5), (6, .long x6), (8, .int x8), (11, .long x11), (13, .int x13)]) (post : Int64 → Prop) (hq : post (fX5_rounded_232 x5 x6 x8 x11 x13)) : W p l e rmX5_rounded s m args below meth c s.heap [] 0 0 (MQ below (vp_Sl post) args s 0 0 (fun _ => False)) (F0 m 232 ls []) := by
  obtain ⟨hx, hb, hml, hr, hlocks, hown, hts⟩ := id C
  unfold fX5_rounded_232 at hq
  refine lv_lload hx hb dX5_rounded_232 (lv_at hl 3 rfl) ?_
  refine lv_lconst (v := 1) hx hb dX5_rounded_234 (by decide) ?_
  refine lv_iload hx hb dX5_rounded_235 (lv_at hl 2 rfl) ?_
  refine bx_lshl hx hb dX5_rounded_237 ?_
  refine bx_lc_ne (tgt := 251) hx hb dX5_rounded_238 dX5_rounded_239 (by decide) (fun c5 => ?_) (fun c5 => ?_)
  · rw [if_neg c5] at hq
    exact bX5_rounded_251 x5 x6 x11 x13 C (lv_sub hl [0, 1, 3, 4] rfl) post hq
  · rw [if_pos c5] at hq
    refine lv_lload hx hb dX5_rounded_242 (lv_at hl 3 rfl) ?_
    refine lv_iconst (v := 1) hx hb dX5_rounded_244 (by decide) ?_
    refine bx_lushr hx hb dX5_rounded_245 ?_
    refine lv_lstore (lv' := [(11, .long (jl_ushr x11 (1 : Int32))), (5, .int x5), (6, .long x6), (8, .int x8), (13, .int x13)]) hx hb dX5_rounded_246 hl (by decide) rfl (fun ls hl => ?_)
    refine lv_iinc (v := (x13 + 1)) (lv' := [(13, .int (x13 + 1)), (11, .long (jl_ushr x11 (1 : Int32))), (5, .int x5), (6, .long x6), (8, .int x8)]) hx hb dX5_rounded_248 hl (k := 4) rfl rfl (by decide) rfl (fun ls hl => ?_)
    exact bX5_rounded_251 x5 x6 (jl_ushr x11 (1 : Int32)) (x13 + 1) C (lv_sub hl [2, 3, 1, 0] rfl) post hq
set_option maxRecDepth 20000 in
theorem bX5_rounded_207 (x3 : Int32) (x5 : Int32) (x6 : Int64) (x8 : Int32) (x10 : Int32) (s0 : Int64) (s1 : Int64) {p : Program} {l : Launch} {e : Env} {s : State} {m : MethodId} {args : Array Value} {below : List Frame} {meth : Method} {c : Code} {ls : Array Slot} (C : bx_C p s m args meth c cX5_rounded 20 (some .long) RX5) (hl : lv_has ls 20 [(3, .int x3), (5, .int x5), (6, .long x6), (8, .int x8), (10, .int x10)]) (post : Int64 → Prop) (hq : post (fX5_rounded_207 x3 x5 x6 x8 x10 s0 s1)) : W p l e rmX5_rounded s m args below meth c s.heap [] 0 0 (MQ below (vp_Sl post) args s 0 0 (fun _ => False)) (F0 m 207 ls [.long s1, .long s0]) := by
  obtain ⟨hx, hb, hml, hr, hlocks, hown, hts⟩ := id C
  unfold fX5_rounded_207 at hq
  refine lv_ladd hx hb dX5_rounded_207 ?_
  refine lv_lstore (lv' := [(11, .long (s0 + s1)), (3, .int x3), (5, .int x5), (6, .long x6), (8, .int x8), (10, .int x10)]) hx hb dX5_rounded_208 hl (by decide) rfl (fun ls hl => ?_)
  refine lv_iload_n hx hb dX5_rounded_210 rfl (lv_at hl 1 rfl) ?_
  refine lv_iload hx hb dX5_rounded_211 (lv_at hl 5 rfl) ?_
  refine lv_iadd hx hb dX5_rounded_213 ?_
  refine lv_istore (lv' := [(13, .int (x3 + x10)), (11, .long (s0 + s1)), (3, .int x3), (5, .int x5), (6, .long x6), (8, .int x8), (10, .int x10)]) hx hb dX5_rounded_214 hl (by decide) rfl (fun ls hl => ?_)
  refine lv_goto (tgt := 232) hx hb dX5_rounded_216 (by decide) ?_
  exact bX5_rounded_232 x5 x6 x8 (s0 + s1) (x3 + x10) C (lv_sub hl [3, 4, 5, 1, 0] rfl) post hq
set_option maxRecDepth 20000 in
theorem bX5_rounded_193 (x3 : Int32) (x5 : Int32) (x6 : Int64) (x8 : Int32) (x10 : Int32) (x11 : Int64) (s0 : Int32) {p : Program} {l : Launch} {e : Env} {s : State} {m : MethodId} {args : Array Value} {below : List Frame} {meth : Method} {c : Code} {ls : Array Slot} (C : bx_C p s m args meth c cX5_rounded 20 (some .long) RX5) (hl : lv_has ls 20 [(3, .int x3), (5, .int x5), (6, .long x6), (8, .int x8), (10, .int x10), (11, .long x11)]) (post : Int64 → Prop) (hq : post (fX5_rounded_193 x3 x5 x6 x8 x10 x11 s0)) : W p l e rmX5_rounded s m args below meth c s.heap [] 0 0 (MQ below (vp_Sl post) args s 0 0 (fun _ => False)) (F0 m 193 ls [.int s0]) := by
  obtain ⟨hx, hb, hml, hr, hlocks, hown, hts⟩ := id C
  unfold fX5_rounded_193 at hq
  refine lv_istore (lv' := [(19, .int s0), (3, .int x3), (5, .int x5), (6, .long x6), (8, .int x8), (10, .int x10), (11, .long x11)]) hx hb dX5_rounded_193 hl (by decide) rfl (fun ls hl => ?_)
  refine lv_lload hx hb dX5_rounded_195 (lv_at hl 6 rfl) ?_
  refine lv_iload hx hb dX5_rounded_197 (lv_at hl 0 rfl) ?_
  refine lv_if_eq (tgt := 206) hx hb dX5_rounded_199 (by decide) (fun c13 => ?_) (fun c13 => ?_)
  · rw [if_pos c13] at hq
    refine lv_lconst (v := 0) hx hb dX5_rounded_206 (by decide) ?_
    exact bX5_rounded_207 x3 x5 x6 x8 x10 x11 (0 : Int64) C (lv_sub hl [1, 2, 3, 4, 5] rfl) post hq
  · rw [if_neg c13] at hq
    refine lv_lconst (v := 1) hx hb dX5_rounded_202 (by decide) ?_
    refine lv_goto (tgt := 207) hx hb dX5_rounded_203 (by decide) ?_
    exact bX5_rounded_207 x3 x5 x6 x8 x10 x11 (1 : Int64) C (lv_sub hl [1, 2, 3, 4, 5] rfl) post hq
set_option maxRecDepth 20000 in
theorem bX5_rounded_192 (x3 : Int32) (x5 : Int32) (x6 : Int64) (x8 : Int32) (x10 : Int32) (x11 : Int64) {p : Program} {l : Launch} {e : Env} {s : State} {m : MethodId} {args : Array Value} {below : List Frame} {meth : Method} {c : Code} {ls : Array Slot} (C : bx_C p s m args meth c cX5_rounded 20 (some .long) RX5) (hl : lv_has ls 20 [(3, .int x3), (5, .int x5), (6, .long x6), (8, .int x8), (10, .int x10), (11, .long x11)]) (post : Int64 → Prop) (hq : post (fX5_rounded_192 x3 x5 x6 x8 x10 x11)) : W p l e rmX5_rounded s m args below meth c s.heap [] 0 0 (MQ below (vp_Sl post) args s 0 0 (fun _ => False)) (F0 m 192 ls []) := by
  obtain ⟨hx, hb, hml, hr, hlocks, hown, hts⟩ := id C
  unfold fX5_rounded_192 at hq
  refine lv_iconst (v := 0) hx hb dX5_rounded_192 (by decide) ?_
  exact bX5_rounded_193 x3 x5 x6 x8 x10 x11 (0 : Int32) C (lv_sub hl [0, 1, 2, 3, 4, 5] rfl) post hq
set_option maxRecDepth 20000 in
theorem bX5_rounded_188 (x3 : Int32) (x5 : Int32) (x6 : Int64) (x8 : Int32) (x10 : Int32) (x11 : Int64) {p : Program} {l : Launch} {e : Env} {s : State} {m : MethodId} {args : Array Value} {below : List Frame} {meth : Method} {c : Code} {ls : Array Slot} (C : bx_C p s m args meth c cX5_rounded 20 (some .long) RX5) (hl : lv_has ls 20 [(3, .int x3), (5, .int x5), (6, .long x6), (8, .int x8), (10, .int x10), (11, .long x11)]) (post : Int64 → Prop) (hq : post (fX5_rounded_188 x3 x5 x6 x8 x10 x11)) : W p l e rmX5_rounded s m args below meth c s.heap [] 0 0 (MQ below (vp_Sl post) args s 0 0 (fun _ => False)) (F0 m 188 ls []) := by
  obtain ⟨hx, hb, hml, hr, hlocks, hown, hts⟩ := id C
  unfold fX5_rounded_188 at hq
  refine lv_iconst (v := 1) hx hb dX5_rounded_188 (by decide) ?_
  refine lv_goto (tgt := 193) hx hb dX5_rounded_189 (by decide) ?_
  exact bX5_rounded_193 x3 x5 x6 x8 x10 x11 (1 : Int32) C (lv_sub hl [0, 1, 2, 3, 4, 5] rfl) post hq
set_option maxRecDepth 20000 in
theorem bX5_rounded_151 (x3 : Int32) (x4 : Int32) (x5 : Int32) (x6 : Int64) (x8 : Int32) (x10 : Int32) (x11 : Int64) (x14 : Int32) (x15 : Int64) (s0 : Int64) {p : Program} {l : Launch} {e : Env} {s : State} {m : MethodId} {args : Array Value} {below : List Frame} {meth : Method} {c : Code} {ls : Array Slot} (C : bx_C p s m args meth c cX5_rounded 20 (some .long) RX5) (hl : lv_has ls 20 [(3, .int x3), (4, .int x4), (5, .int x5), (6, .long x6), (8, .int x8), (10, .int x10), (11, .long x11), (14, .int x14), (15, .long x15)]) (post : Int64 → Prop) (hq : post (fX5_rounded_151 x3 x4 x5 x6 x8 x10 x11 x14 x15 s0)) : W p l e rmX5_rounded s m args below meth c s.heap [] 0 0 (MQ below (vp_Sl post) args s 0 0 (fun _ => False)) (F0 m 151 ls [.long s0]) := by
  obtain ⟨hx, hb, hml, hr, hlocks, hown, hts⟩ := id C
  unfold fX5_rounded_151 at hq
  refine lv_lstore (lv' := [(17, .long s0), (3, .int x3), (4, .int x4), (5, .int x5), (6, .long x6), (8, .int x8), (10, .int x10), (11, .long x11), (14, .int x14), (15, .long x15)]) hx hb dX5_rounded_151 hl (by decide) rfl (fun ls hl => ?_)
  refine lv_iload hx hb dX5_rounded_153 (lv_at hl 8 rfl) ?_
  refine lv_if_ne (tgt := 192) hx hb dX5_rounded_155 (by decide) (fun c12 => ?_) (fun c12 => ?_)
  · rw [if_neg c12] at hq
    exact bX5_rounded_192 x3 x5 x6 x8 x10 x11 C (lv_sub hl [1, 3, 4, 5, 6, 7] rfl) post hq
  · rw [if_pos c12] at hq
    refine lv_lload hx hb dX5_rounded_158 (lv_at hl 9 rfl) ?_
    refine lv_lload hx hb dX5_rounded_160 (lv_at hl 0 rfl) ?_
    refine bx_lc_gt (tgt := 188) hx hb dX5_rounded_162 dX5_rounded_163 (by decide) (fun c14 => ?_) (fun c14 => ?_)
    · rw [if_pos c14] at hq
      exact bX5_rounded_188 x3 x5 x6 x8 x10 x11 C (lv_sub hl [1, 3, 4, 5, 6, 7] rfl) post hq
    · rw [if_neg c14] at hq
      refine lv_lload hx hb dX5_rounded_166 (lv_at hl 9 rfl) ?_
      refine lv_lload hx hb dX5_rounded_168 (lv_at hl 0 rfl) ?_
      refine bx_lc_ne (tgt := 192) hx hb dX5_rounded_170 dX5_rounded_171 (by decide) (fun c15 => ?_) (fun c15 => ?_)
      · rw [if_neg c15] at hq
        exact bX5_rounded_192 x3 x5 x6 x8 x10 x11 C (lv_sub hl [1, 3, 4, 5, 6, 7] rfl) post hq
      · rw [if_pos c15] at hq
        refine lv_iload hx hb dX5_rounded_174 (lv_at hl 2 rfl) ?_
        refine lv_if_ne (tgt := 188) hx hb dX5_rounded_176 (by decide) (fun c16 => ?_) (fun c16 => ?_)
        · rw [if_neg c16] at hq
          exact bX5_rounded_188 x3 x5 x6 x8 x10 x11 C (lv_sub hl [1, 3, 4, 5, 6, 7] rfl) post hq
        · rw [if_pos c16] at hq
          refine lv_lload hx hb dX5_rounded_179 (lv_at hl 7 rfl) ?_
          refine lv_lconst (v := 1) hx hb dX5_rounded_181 (by decide) ?_
          refine lv_land hx hb dX5_rounded_182 ?_
          refine lv_lconst (v := 1) hx hb dX5_rounded_183 (by decide) ?_
          refine bx_lc_ne (tgt := 192) hx hb dX5_rounded_184 dX5_rounded_185 (by decide) (fun c17 => ?_) (fun c17 => ?_)
          · rw [if_neg c17] at hq
            exact bX5_rounded_192 x3 x5 x6 x8 x10 x11 C (lv_sub hl [1, 3, 4, 5, 6, 7] rfl) post hq
          · rw [if_pos c17] at hq
            exact bX5_rounded_188 x3 x5 x6 x8 x10 x11 C (lv_sub hl [1, 3, 4, 5, 6, 7] rfl) post hq
set_option maxRecDepth 20000 in
theorem bX5_rounded_134 (x3 : Int32) (x4 : Int32) (x5 : Int32) (x6 : Int64) (x8 : Int32) (x10 : Int32) (x11 : Int64) (x14 : Int32) (s0 : Int64) {p : Program} {l : Launch} {e : Env} {s : State} {m : MethodId} {args : Array Value} {below : List Frame} {meth : Method} {c : Code} {ls : Array Slot} (C : bx_C p s m args meth c cX5_rounded 20 (some .long) RX5) (hl : lv_has ls 20 [(3, .int x3), (4, .int x4), (5, .int x5), (6, .long x6), (8, .int x8), (10, .int x10), (11, .long x11), (14, .int x14)]) (post : Int64 → Prop) (hq : post (fX5_rounded_134 x3 x4 x5 x6 x8 x10 x11 x14 s0)) : W p l e rmX5_rounded s m args below meth c s.heap [] 0 0 (MQ below (vp_Sl post) args s 0 0 (fun _ => False)) (F0 m 134 ls [.long s0]) := by
  obtain ⟨hx, hb, hml, hr, hlocks, hown, hts⟩ := id C
  unfold fX5_rounded_134 at hq
  refine lv_lstore (lv' := [(15, .long s0), (3, .int x3), (4, .int x4), (5, .int x5), (6, .long x6), (8, .int x8), (10, .int x10), (11, .long x11), (14, .int x14)]) hx hb dX5_rounded_134 hl (by decide) rfl (fun ls hl => ?_)
  refine lv_iload hx hb dX5_rounded_136 (lv_at hl 8 rfl) ?_
  refine lv_if_eq (tgt := 145) hx hb dX5_rounded_138 (by decide) (fun c11 => ?_) (fun c11 => ?_)
  · rw [if_pos c11] at hq
    refine lv_lconst (v := 1) hx hb dX5_rounded_145 (by decide) ?_
    refine lv_iload hx hb dX5_rounded_146 (lv_at hl 6 rfl) ?_
    refine lv_iconst (v := 1) hx hb dX5_rounded_148 (by decide) ?_
    refine lv_isub hx hb dX5_rounded_149 ?_
    refine bx_lshl hx hb dX5_rounded_150 ?_
    exact bX5_rounded_151 x3 x4 x5 x6 x8 x10 x11 x14 s0 (jl_shl (1 : Int64) (x10 - (1 : Int32))) C (lv_sub hl [1, 2, 3, 4, 5, 6, 7, 8, 0] rfl) post hq
  · rw [if_neg c11] at hq
    refine lv_lconst (v := 0) hx hb dX5_rounded_141 (by decide) ?_
    refine lv_goto (tgt := 151) hx hb dX5_rounded_142 (by decide) ?_
    exact bX5_rounded_151 x3 x4 x5 x6 x8 x10 x11 x14 s0 (0 : Int64) C (lv_sub hl [1, 2, 3, 4, 5, 6, 7, 8, 0] rfl) post hq
set_option maxRecDepth 20000 in
theorem bX5_rounded_115 (x1 : Int64) (x3 : Int32) (x4 : Int32) (x5 : Int32) (x6 : Int64) (x8 : Int32) (x10 : Int32) (x14 : Int32) (s0 : Int64) {p : Program} {l : Launch} {e : Env} {s : State} {m : MethodId} {args : Array Value} {below : List Frame} {meth : Method} {c : Code} {ls : Array Slot} (C : bx_C p s m args meth c cX5_rounded 20 (some .long) RX5) (hl : lv_has ls 20 [(1, .long x1), (3, .int x3), (4, .int x4), (5, .int x5), (6, .long x6), (8, .int x8), (10, .int x10), (14, .int x14)]) (post : Int64 → Prop) (hq : post (fX5_rounded_115 x1 x3 x4 x5 x6 x8 x10 x14 s0)) : W p l e rmX5_rounded s m args below meth c s.heap [] 0 0 (MQ below (vp_Sl post) args s 0 0 (fun _ => False)) (F0 m 115 ls [.long s0]) := by
  obtain ⟨hx, hb, hml, hr, hlocks, hown, hts⟩ := id C
  unfold fX5_rounded_115 at hq
  refine lv_lstore (lv' := [(11, .long s0), (1, .long x1), (3, .int x3), (4, .int x4), (5, .int x5), (6, .long x6), (8, .int x8), (10, .int x10), (14, .int x14)]) hx hb dX5_rounded_115 hl (by decide) rfl (fun ls hl => ?_)
  refine lv_iload hx hb dX5_rounded_117 (lv_at hl 8 rfl) ?_
  refine lv_if_eq (tgt := 126) hx hb dX5_rounded_119 (by decide) (fun c10 => ?_) (fun c10 => ?_)
  · rw [if_pos c10] at hq
    refine lv_lload_n hx hb dX5_rounded_126 rfl (lv_at hl 1 rfl) ?_
    refine lv_lconst (v := 1) hx hb dX5_rounded_127 (by decide) ?_
    refine lv_iload hx hb dX5_rounded_128 (lv_at hl 7 rfl) ?_
    refine bx_lshl hx hb dX5_rounded_130 ?_
    refine lv_lconst (v := 1) hx hb dX5_rounded_131 (by decide) ?_
    refine lv_lsub hx hb dX5_rounded_132 ?_
    refine lv_land hx hb dX5_rounded_133 ?_
    exact bX5_rounded_134 x3 x4 x5 x6 x8 x10 s0 x14 (x1 &&& ((jl_shl (1 : Int64) x10) - (1 : Int64))) C (lv_sub hl [2, 3, 4, 5, 6, 7, 0, 8] rfl) post hq
  · rw [if_neg c10] at hq
    refine lv_lload_n hx hb dX5_rounded_122 rfl (lv_at hl 1 rfl) ?_
    refine lv_goto (tgt := 134) hx hb dX5_rounded_123 (by decide) ?_
    exact bX5_rounded_134 x3 x4 x5 x6 x8 x10 s0 x14 x1 C (lv_sub hl [2, 3, 4, 5, 6, 7, 0, 8] rfl) post hq
set_option maxRecDepth 20000 in
theorem bX5_rounded_100 (x1 : Int64) (x3 : Int32) (x4 : Int32) (x5 : Int32) (x6 : Int64) (x8 : Int32) (x10 : Int32) (s0 : Int32) {p : Program} {l : Launch} {e : Env} {s : State} {m : MethodId} {args : Array Value} {below : List Frame} {meth : Method} {c : Code} {ls : Array Slot} (C : bx_C p s m args meth c cX5_rounded 20 (some .long) RX5) (hl : lv_has ls 20 [(1, .long x1), (3, .int x3), (4, .int x4), (5, .int x5), (6, .long x6), (8, .int x8), (10, .int x10)]) (post : Int64 → Prop) (hq : post (fX5_rounded_100 x1 x3 x4 x5 x6 x8 x10 s0)) : W p l e rmX5_rounded s m args below meth c s.heap [] 0 0 (MQ below (vp_Sl post) args s 0 0 (fun _ => False)) (F0 m 100 ls [.int s0]) := by
  obtain ⟨hx, hb, hml, hr, hlocks, hown, hts⟩ := id C
  unfold fX5_rounded_100 at hq
  refine lv_istore (lv' := [(14, .int s0), (1, .long x1), (3, .int x3), (4, .int x4), (5, .int x5), (6, .long x6), (8, .int x8), (10, .int x10)]) hx hb dX5_rounded_100 hl (by decide) rfl (fun ls hl => ?_)
  refine lv_iload hx hb dX5_rounded_102 (lv_at hl 0 rfl) ?_
  refine lv_if_eq (tgt := 111) hx hb dX5_rounded_104 (by decide) (fun c9 => ?_) (fun c9 => ?_)
  · rw [if_pos c9] at hq
    refine lv_lload_n hx hb dX5_rounded_111 rfl (lv_at hl 1 rfl) ?_
    refine lv_iload hx hb dX5_rounded_112 (lv_at hl 7 rfl) ?_
    refine bx_lushr hx hb dX5_rounded_114 ?_
    exact bX5_rounded_115 x1 x3 x4 x5 x6 x8 x10 s0 (jl_ushr x1 x10) C (lv_sub hl [1, 2, 3, 4, 5, 6, 7, 0] rfl) post hq
  · rw [if_neg c9] at hq
    refine lv_lconst (v := 0) hx hb dX5_rounded_107 (by decide) ?_
    refine lv_goto (tgt := 115) hx hb dX5_rounded_108 (by decide) ?_
    exact bX5_rounded_115 x1 x3 x4 x5 x6 x8 x10 s0 (0 : Int64) C (lv_sub hl [1, 2, 3, 4, 5, 6, 7, 0] rfl) post hq
set_option maxRecDepth 20000 in
theorem bX5_rounded_75 (x1 : Int64) (x3 : Int32) (x4 : Int32) (x5 : Int32) (x6 : Int64) (x8 : Int32) (s0 : Int32) {p : Program} {l : Launch} {e : Env} {s : State} {m : MethodId} {args : Array Value} {below : List Frame} {meth : Method} {c : Code} {ls : Array Slot} (C : bx_C p s m args meth c cX5_rounded 20 (some .long) RX5) (hl : lv_has ls 20 [(1, .long x1), (3, .int x3), (4, .int x4), (5, .int x5), (6, .long x6), (8, .int x8)]) (post : Int64 → Prop) (hq : post (fX5_rounded_75 x1 x3 x4 x5 x6 x8 s0)) : W p l e rmX5_rounded s m args below meth c s.heap [] 0 0 (MQ below (vp_Sl post) args s 0 0 (fun _ => False)) (F0 m 75 ls [.int s0]) := by
  obtain ⟨hx, hb, hml, hr, hlocks, hown, hts⟩ := id C
  unfold fX5_rounded_75 at hq
  refine lv_istore (lv' := [(10, .int s0), (1, .long x1), (3, .int x3), (4, .int x4), (5, .int x5), (6, .long x6), (8, .int x8)]) hx hb dX5_rounded_75 hl (by decide) rfl (fun ls hl => ?_)
  refine lv_lload_n hx hb dX5_rounded_77 rfl (lv_at hl 1 rfl) ?_
  refine lv_lstore (lv' := [(11, .long x1), (10, .int s0), (1, .long x1), (3, .int x3), (4, .int x4), (5, .int x5), (6, .long x6), (8, .int x8)]) hx hb dX5_rounded_78 hl (by decide) rfl (fun ls hl => ?_)
  refine lv_iload_n hx hb dX5_rounded_80 rfl (lv_at hl 3 rfl) ?_
  refine lv_istore (lv' := [(13, .int x3), (11, .long x1), (10, .int s0), (1, .long x1), (3, .int x3), (4, .int x4), (5, .int x5), (6, .long x6), (8, .int x8)]) hx hb dX5_rounded_81 hl (by decide) rfl (fun ls hl => ?_)
  refine lv_iload hx hb dX5_rounded_83 (lv_at hl 2 rfl) ?_
  refine lv_if_le (tgt := 219) hx hb dX5_rounded_85 (by decide) (fun c4 => ?_) (fun c4 => ?_)
  · rw [if_pos c4] at hq
    refine lv_lload_n hx hb dX5_rounded_219 rfl (lv_at hl 3 rfl) ?_
    refine lv_iload hx hb dX5_rounded_220 (lv_at hl 2 rfl) ?_
    refine lv_ineg hx hb dX5_rounded_222 ?_
    refine bx_lshl hx hb dX5_rounded_223 ?_
    refine lv_lstore (lv' := [(11, .long (jl_shl x1 (-s0))), (13, .int x3), (10, .int s0), (1, .long x1), (3, .int x3), (4, .int x4), (5, .int x5), (6, .long x6), (8, .int x8)]) hx hb dX5_rounded_224 hl (by decide) rfl (fun ls hl => ?_)
    refine lv_iload_n hx hb dX5_rounded_226 rfl (lv_at hl 4 rfl) ?_
    refine lv_iload hx hb dX5_rounded_227 (lv_at hl 2 rfl) ?_
    refine lv_iadd hx hb dX5_rounded_229 ?_
    refine lv_istore (lv' := [(13, .int (x3 + s0)), (11, .long (jl_shl x1 (-s0))), (10, .int s0), (1, .long x1), (3, .int x3), (4, .int x4), (5, .int x5), (6, .long x6), (8, .int x8)]) hx hb dX5_rounded_230 hl (by decide) rfl (fun ls hl => ?_)
    exact bX5_rounded_232 x5 x6 x8 (jl_shl x1 (-s0)) (x3 + s0) C (lv_sub hl [6, 7, 8, 1, 0] rfl) post hq
  · rw [if_neg c4] at hq
    refine lv_iload hx hb dX5_rounded_88 (lv_at hl 2 rfl) ?_
    refine lv_bipush (v := 62) hx hb dX5_rounded_90 (by decide) ?_
    refine lv_icmp_le (tgt := 99) hx hb dX5_rounded_92 (by decide) (fun c8 => ?_) (fun c8 => ?_)
    · rw [if_pos c8] at hq
      refine lv_iconst (v := 0) hx hb dX5_rounded_99 (by decide) ?_
      exact bX5_rounded_100 x1 x3 x4 x5 x6 x8 s0 (0 : Int32) C (lv_sub hl [3, 4, 5, 6, 7, 8, 2] rfl) post hq
    · rw [if_neg c8] at hq
      refine lv_iconst (v := 1) hx hb dX5_rounded_95 (by decide) ?_
      refine lv_goto (tgt := 100) hx hb dX5_rounded_96 (by decide) ?_
      exact bX5_rounded_100 x1 x3 x4 x5 x6 x8 s0 (1 : Int32) C (lv_sub hl [3, 4, 5, 6, 7, 8, 2] rfl) post hq
set_option maxRecDepth 20000 in
theorem bX5_rounded_13 (x1 : Int64) (x3 : Int32) (x4 : Int32) (x5 : Int32) (s0 : Int64) {p : Program} {l : Launch} {e : Env} {s : State} {m : MethodId} {args : Array Value} {below : List Frame} {meth : Method} {c : Code} {ls : Array Slot} (C : bx_C p s m args meth c cX5_rounded 20 (some .long) RX5) (hl : lv_has ls 20 [(1, .long x1), (3, .int x3), (4, .int x4), (5, .int x5)]) (post : Int64 → Prop) (hq : post (fX5_rounded_13 x1 x3 x4 x5 s0)) : W p l e rmX5_rounded s m args below meth c s.heap [] 0 0 (MQ below (vp_Sl post) args s 0 0 (fun _ => False)) (F0 m 13 ls [.long s0]) := by
  obtain ⟨hx, hb, hml, hr, hlocks, hown, hts⟩ := id C
  unfold fX5_rounded_13 at hq
  refine lv_lstore (lv' := [(6, .long s0), (1, .long x1), (3, .int x3), (4, .int x4), (5, .int x5)]) hx hb dX5_rounded_13 hl (by decide) rfl (fun ls hl => ?_)
  refine lv_lload_n hx hb dX5_rounded_15 rfl (lv_at hl 1 rfl) ?_
  refine lv_lconst (v := 0) hx hb dX5_rounded_16 (by decide) ?_
  refine bx_lc_ne (tgt := 24) hx hb dX5_rounded_17 dX5_rounded_18 (by decide) (fun c2 => ?_) (fun c2 => ?_)
  · rw [if_neg c2] at hq
    refine lv_iload hx hb dX5_rounded_24 (lv_at hl 4 rfl) ?_
    refine bx_si C (kX5_mantissa l x5) bx_B_true (fun _ _ _ => trivial) tw_methodLink_RX5_58_yX5_mantissa mbX5_mantissa rfl ⟨rfl, rfl⟩ ⟨Nat.le_of_ble_eq_true rfl, Nat.le_of_ble_eq_true rfl⟩ ⟨Nat.zero_le _, Nat.zero_le _⟩ hl.1 rfl (Nat.le_of_ble_eq_true rfl) dX5_rounded_26 ?_
    refine lv_iconst (v := 1) hx hb dX5_rounded_29 (by decide) ?_
    refine lv_iadd hx hb dX5_rounded_30 ?_
    refine lv_istore (lv' := [(8, .int ((fX5_mantissa x5) + (1 : Int32))), (6, .long s0), (1, .long x1), (3, .int x3), (4, .int x4), (5, .int x5)]) hx hb dX5_rounded_31 hl (by decide) rfl (fun ls hl => ?_)
    refine lv_iconst (v := 1) hx hb dX5_rounded_33 (by decide) ?_
    refine lv_iload hx hb dX5_rounded_34 (lv_at hl 5 rfl) ?_
    refine bx_si C (kX5_bias l x5) bx_B_true (fun _ _ _ => trivial) tw_methodLink_RX5_79_yX5_bias mbX5_bias rfl ⟨rfl, rfl⟩ ⟨Nat.le_of_ble_eq_true rfl, Nat.le_of_ble_eq_true rfl⟩ ⟨Nat.zero_le _, Nat.zero_le _⟩ hl.1 rfl (Nat.le_of_ble_eq_true rfl) dX5_rounded_36 ?_
    refine lv_isub hx hb dX5_rounded_39 ?_
    refine lv_iload hx hb dX5_rounded_40 (lv_at hl 5 rfl) ?_
    refine bx_si C (kX5_mantissa l x5) bx_B_true (fun _ _ _ => trivial) tw_methodLink_RX5_58_yX5_mantissa mbX5_mantissa rfl ⟨rfl, rfl⟩ ⟨Nat.le_of_ble_eq_true rfl, Nat.le_of_ble_eq_true rfl⟩ ⟨Nat.zero_le _, Nat.zero_le _⟩ hl.1 rfl (Nat.le_of_ble_eq_true rfl) dX5_rounded_42 ?_
    refine lv_isub hx hb dX5_rounded_45 ?_
    refine lv_istore (lv' := [(9, .int (((1 : Int32) - (fX5_bias x5)) - (fX5_mantissa x5))), (8, .int ((fX5_mantissa x5) + (1 : Int32))), (6, .long s0), (1, .long x1), (3, .int x3), (4, .int x4), (5, .int x5)]) hx hb dX5_rounded_46 hl (by decide) rfl (fun ls hl => ?_)
    refine lv_lload_n hx hb dX5_rounded_48 rfl (lv_at hl 3 rfl) ?_
    refine bx_si C (kX5_bitsOf l x1) bx_B_true (fun _ _ _ => trivial) tw_methodLink_RX5_82_yX5_bitsOf mbX5_bitsOf rfl ⟨rfl, rfl⟩ ⟨Nat.le_of_ble_eq_true rfl, Nat.le_of_ble_eq_true rfl⟩ ⟨Nat.zero_le _, Nat.zero_le _⟩ hl.1 rfl (Nat.le_of_ble_eq_true rfl) dX5_rounded_49 ?_
    refine lv_iload hx hb dX5_rounded_52 (lv_at hl 1 rfl) ?_
    refine lv_isub hx hb dX5_rounded_54 ?_
    refine lv_istore (lv' := [(10, .int ((fX5_bitsOf x1) - ((fX5_mantissa x5) + (1 : Int32)))), (9, .int (((1 : Int32) - (fX5_bias x5)) - (fX5_mantissa x5))), (8, .int ((fX5_mantissa x5) + (1 : Int32))), (6, .long s0), (1, .long x1), (3, .int x3), (4, .int x4), (5, .int x5)]) hx hb dX5_rounded_55 hl (by decide) rfl (fun ls hl => ?_)
    refine lv_iload_n hx hb dX5_rounded_57 rfl (lv_at hl 5 rfl) ?_
    refine lv_iload hx hb dX5_rounded_58 (lv_at hl 0 rfl) ?_
    refine lv_iadd hx hb dX5_rounded_60 ?_
    refine lv_iload hx hb dX5_rounded_61 (lv_at hl 1 rfl) ?_
    refine lv_icmp_ge (tgt := 73) hx hb dX5_rounded_63 (by decide) (fun c3 => ?_) (fun c3 => ?_)
    · rw [if_pos c3] at hq
      refine lv_iload hx hb dX5_rounded_73 (lv_at hl 0 rfl) ?_
      exact bX5_rounded_75 x1 x3 x4 x5 s0 ((fX5_mantissa x5) + (1 : Int32)) ((fX5_bitsOf x1) - ((fX5_mantissa x5) + (1 : Int32))) C (lv_sub hl [4, 5, 6, 7, 3, 2] rfl) post hq
    · rw [if_neg c3] at hq
      refine lv_iload hx hb dX5_rounded_66 (lv_at hl 1 rfl) ?_
      refine lv_iload_n hx hb dX5_rounded_68 rfl (lv_at hl 5 rfl) ?_
      refine lv_isub hx hb dX5_rounded_69 ?_
      refine lv_goto (tgt := 75) hx hb dX5_rounded_70 (by decide) ?_
      exact bX5_rounded_75 x1 x3 x4 x5 s0 ((fX5_mantissa x5) + (1 : Int32)) ((((1 : Int32) - (fX5_bias x5)) - (fX5_mantissa x5)) - x3) C (lv_sub hl [4, 5, 6, 7, 3, 2] rfl) post hq
  · rw [if_pos c2] at hq
    refine lv_lload hx hb dX5_rounded_21 (lv_at hl 0 rfl) ?_
    exact W.lret (v := s0) hx hb hr (fun t ht hW => ⟨_, rfl, hq, ht⟩) (fun _ h => absurd h List.not_mem_nil) dX5_rounded_23
set_option maxRecDepth 20000 in
theorem bX5_rounded_0 (x0 : Int32) (x1 : Int64) (x3 : Int32) (x4 : Int32) (x5 : Int32) {p : Program} {l : Launch} {e : Env} {s : State} {m : MethodId} {args : Array Value} {below : List Frame} {meth : Method} {c : Code} {ls : Array Slot} (C : bx_C p s m args meth c cX5_rounded 20 (some .long) RX5) (hl : lv_has ls 20 [(0, .int x0), (1, .long x1), (3, .int x3), (4, .int x4), (5, .int x5)]) (post : Int64 → Prop) (hq : post (fX5_rounded x0 x1 x3 x4 x5)) : W p l e rmX5_rounded s m args below meth c s.heap [] 0 0 (MQ below (vp_Sl post) args s 0 0 (fun _ => False)) (F0 m 0 ls []) := by
  obtain ⟨hx, hb, hml, hr, hlocks, hown, hts⟩ := id C
  unfold fX5_rounded at hq
  refine lv_iload_n hx hb dX5_rounded_0 rfl (lv_at hl 0 rfl) ?_
  refine lv_if_eq (tgt := 12) hx hb dX5_rounded_1 (by decide) (fun c1 => ?_) (fun c1 => ?_)
  · rw [if_pos c1] at hq
    refine lv_lconst (v := 0) hx hb dX5_rounded_12 (by decide) ?_
    exact bX5_rounded_13 x1 x3 x4 x5 (0 : Int64) C (lv_sub hl [1, 2, 3, 4] rfl) post hq
  · rw [if_neg c1] at hq
    refine lv_iload hx hb dX5_rounded_4 (lv_at hl 4 rfl) ?_
    refine bx_sl C (kX5_signBit l x5) bx_B_true (fun _ _ _ => trivial) tw_methodLink_RX5_61_yX5_signBit mbX5_signBit rfl ⟨rfl, rfl⟩ ⟨Nat.le_of_ble_eq_true rfl, Nat.le_of_ble_eq_true rfl⟩ ⟨Nat.zero_le _, Nat.zero_le _⟩ hl.1 rfl (Nat.le_of_ble_eq_true rfl) dX5_rounded_6 ?_
    refine lv_goto (tgt := 13) hx hb dX5_rounded_9 (by decide) ?_
    exact bX5_rounded_13 x1 x3 x4 x5 (fX5_signBit x5) C (lv_sub hl [1, 2, 3, 4] rfl) post hq
theorem kX5_rounded (l : Launch) (x0 : Int32) (x1 : Int64) (x3 : Int32) (x4 : Int32) (x5 : Int32) : Met l yX5_rounded (Cond.code yX5_rounded cX5_rounded 20 (some .long) :: bw) rmX5_rounded (va_Pc [.int x0, .long x1, .int x3, .int x4, .int x5] (fun _ => True)) (vp_Sl (fun r => r = fX5_rounded x0 x1 x3 x4 x5)) 0 0 (fun _ => False) := by
  refine bx_ent (by decide) _ _ (Nat.le_of_ble_eq_true rfl) rfl ?_
  intro p e s m below meth c ls C hl _
  exact bX5_rounded_0 x0 x1 x3 x4 x5 C hl _ rfl
abbrev rmX5_bits : Room := { frames := 0, cells := 0, slots := 0, locals := 0 }
theorem mbX5_bits : mb_S yX5_bits cX5_bits 1 (some .long) 1 := ⟨tw_static_yX5_bits, tw_initialized_RX5, tw_code_yX5_bits, by decide +kernel, by decide +kernel, by decide +kernel⟩
set_option maxRecDepth 20000 in
theorem bX5_bits_0 (x0 : Int32) {p : Program} {l : Launch} {e : Env} {s : State} {m : MethodId} {args : Array Value} {below : List Frame} {meth : Method} {c : Code} {ls : Array Slot} (C : bx_C p s m args meth c cX5_bits 1 (some .long) RX5) (hl : lv_has ls 1 [(0, .int x0)]) (post : Int64 → Prop) (hq : post (fX5_bits x0)) : W p l e rmX5_bits s m args below meth c s.heap [] 0 0 (MQ below (vp_Sl post) args s 0 0 (fun _ => False)) (F0 m 0 ls []) := by
  obtain ⟨hx, hb, hml, hr, hlocks, hown, hts⟩ := id C
  unfold fX5_bits at hq
  refine lv_iload_n hx hb dX5_bits_0 rfl (lv_at hl 0 rfl) ?_
  refine bx_i2l hx hb dX5_bits_1 ?_
  refine lv_ldc2 (v := 4294967295) hx hb hown (hts _ tw_constantLong_RX5_215_4294967295) dX5_bits_2 ?_
  refine lv_land hx hb dX5_bits_5 ?_
  exact W.lret (v := (x0.toInt64 &&& (4294967295 : Int64))) hx hb hr (fun t ht hW => ⟨_, rfl, hq, ht⟩) (fun _ h => absurd h List.not_mem_nil) dX5_bits_6
theorem kX5_bits (l : Launch) (x0 : Int32) : Met l yX5_bits (Cond.code yX5_bits cX5_bits 1 (some .long) :: bw) rmX5_bits (va_Pc [.int x0] (fun _ => True)) (vp_Sl (fun r => r = fX5_bits x0)) 0 0 (fun _ => False) := by
  refine bx_ent (by decide) _ _ (Nat.le_of_ble_eq_true rfl) rfl ?_
  intro p e s m below meth c ls C hl _
  exact bX5_bits_0 x0 C hl _ rfl
abbrev rmX5_negated : Room := { frames := 1, cells := 0, slots := 0, locals := 20 }
theorem mbX5_negated : mb_V RX5 yX5_negated cX5_negated 4 (some .long) 2 := ⟨⟨tw_instanceMethod_yX5_negated, tw_selects_RX5_yX5_negated_yX5_negated, tw_initialized_RX5, tw_code_yX5_negated⟩, rfl, by decide +kernel, by decide +kernel, by decide +kernel⟩
theorem BX5_negated {h0 : Nat} : bx_B (fun U => ob_K RX5 h0 U) := ob_B RX5 h0
set_option maxRecDepth 20000 in
theorem bX5_negated_0 (x1 : Int64) (x3 : Int32) {p : Program} {l : Launch} {e : Env} {s : State} {m : MethodId} {args : Array Value} {below : List Frame} {meth : Method} {c : Code} {h0 : Nat} {ls : Array Slot} (C : bx_C p s m args meth c cX5_negated 4 (some .long) RX5) (hK0 : ob_K RX5 h0 s) (hl : lv_has ls 4 [(0, .ref h0), (1, .long x1), (3, .int x3)]) (post : Int64 → Prop) (hq : post (fX5_negated x1 x3)) : W p l e rmX5_negated s m args below meth c s.heap [] 0 0 (MQ below (vp_Sl post) args s 0 0 (fun _ => False)) (F0 m 0 ls []) := by
  obtain ⟨hx, hb, hml, hr, hlocks, hown, hts⟩ := id C
  unfold fX5_negated at hq
  refine lv_lload_n hx hb dX5_negated_0 rfl (lv_at hl 1 rfl) ?_
  refine lv_iload_n hx hb dX5_negated_1 rfl (lv_at hl 2 rfl) ?_
  refine bx_sl C (kX5_signBit l x3) bx_B_true (fun _ _ _ => trivial) tw_methodLink_RX5_61_yX5_signBit mbX5_signBit rfl ⟨rfl, rfl⟩ ⟨Nat.le_of_ble_eq_true rfl, Nat.le_of_ble_eq_true rfl⟩ ⟨Nat.zero_le _, Nat.zero_le _⟩ hl.1 rfl (Nat.le_of_ble_eq_true rfl) dX5_negated_2 ?_
  refine lv_lxor hx hb dX5_negated_5 ?_
  exact W.lret (v := (x1 ^^^ (fX5_signBit x3))) hx hb hr (fun t ht hW => ⟨_, rfl, hq, ht⟩) (fun _ h => absurd h List.not_mem_nil) dX5_negated_6
theorem kX5_negated (l : Launch) (h0 : Nat) (x1 : Int64) (x3 : Int32) : Met l yX5_negated (Cond.code yX5_negated cX5_negated 4 (some .long) :: bw) rmX5_negated (va_Pc [.ref h0, .long x1, .int x3] (fun U => ob_K RX5 h0 U)) (vp_Sl (fun r => r = fX5_negated x1 x3)) 0 0 (fun _ => False) := by
  refine bx_ent (by decide) _ _ (Nat.le_of_ble_eq_true rfl) rfl ?_
  intro p e s m below meth c ls C hl hK0
  exact bX5_negated_0 x1 x3 C hK0 hl _ rfl
abbrev rmX5_divide : Room := { frames := 4, cells := 0, slots := 0, locals := 88 }
theorem mbX5_divide : mb_V RX5 yX5_divide cX5_divide 20 (some .long) 3 := ⟨⟨tw_instanceMethod_yX5_divide, tw_selects_RX5_yX5_divide_yX5_divide, tw_initialized_RX5, tw_code_yX5_divide⟩, rfl, by decide +kernel, by decide +kernel, by decide +kernel⟩
theorem BX5_divide {h0 : Nat} : bx_B (fun U => ob_K RX5 h0 U) := ob_B RX5 h0
set_option maxRecDepth 20000 in
theorem bX5_divide_112 (x5 : Int32) (x6 : Int32) {p : Program} {l : Launch} {e : Env} {s : State} {m : MethodId} {args : Array Value} {below : List Frame} {meth : Method} {c : Code} {h0 : Nat} {ls : Array Slot} (C : bx_C p s m args meth c cX5_divide 20 (some .long) RX5) (hK0 : ob_K RX5 h0 s) (hl : lv_has ls 20 [(5, .int x5), (6, .int x6)]) (post : Int64 → Prop) (hq : post (fX5_divide_112 x5 x6)) : W p l e rmX5_divide s m args below meth c s.heap [] 0 0 (MQ below (vp_Sl post) args s 0 0 (fun _ => False)) (F0 m 112 ls []) := by
  obtain ⟨hx, hb, hml, hr, hlocks, hown, hts⟩ := id C
  unfold fX5_divide_112 at hq
  refine lv_iload hx hb dX5_divide_112 (lv_at hl 1 rfl) ?_
  refine lv_iload hx hb dX5_divide_114 (lv_at hl 0 rfl) ?_
  refine bx_sl C (kX5_infinite l x6 x5) bx_B_true (fun _ _ _ => trivial) tw_methodLink_RX5_71_yX5_infinite mbX5_infinite rfl ⟨rfl, rfl⟩ ⟨Nat.le_of_ble_eq_true rfl, Nat.le_of_ble_eq_true rfl⟩ ⟨Nat.zero_le _, Nat.zero_le _⟩ hl.1 rfl (Nat.le_of_ble_eq_true rfl) dX5_divide_116 ?_
  exact W.lret (v := (fX5_infinite x6 x5)) hx hb hr (fun t ht hW => ⟨_, rfl, hq, ht⟩) (fun _ h => absurd h List.not_mem_nil) dX5_divide_119
set_option maxRecDepth 20000 in
theorem lX5_divide_238 (x12 : Int64) (x5 : Int32) (x6 : Int32) (x14 : Int32) {p : Program} {l : Launch} {e : Env} {s : State} {m : MethodId} {args : Array Value} {below : List Frame} {meth : Method} {c : Code} {h0 : Nat} {Q : State → Prop} (C : bx_C p s m args meth c cX5_divide 20 (some .long) RX5) (hK0 : ob_K RX5 h0 s) (post : Int64 × Int64 × Int32 → Prop) (kx : ∀ (o10 : Int64) (o17 : Int64) (o19 : Int32) (ls : Array Slot), lv_has ls 20 [(5, .int x5), (6, .int x6), (10, .long o10), (14, .int x14), (17, .long o17), (19, .int o19)] → post (o10, o17, o19) → W p l e rmX5_divide s m args below meth c s.heap [] 0 0 Q (F0 m 284 ls [])) :
    ∀ (n : Nat) (x10 : Int64) (x17 : Int64) (x19 : Int32) (ls : Array Slot), (Int32.toInt (58) - Int32.toInt x19).toNat < n → lv_has ls 20 [(5, .int x5), (6, .int x6), (10, .long x10), (12, .long x12), (14, .int x14), (17, .long x17), (19, .int x19)] → post (gX5_divide_238 x12 n x10 x17 x19) → W p l e rmX5_divide s m args below meth c s.heap [] 0 0 Q (F0 m 238 ls []) := by
  obtain ⟨hx, hb, hml, hr, hlocks, hown, hts⟩ := id C
  intro n
  induction n with
  | zero =>
    intro x10 x17 x19 ls hm
    exact absurd hm (Nat.not_lt_zero _)
  | succ n ih =>
    intro x10 x17 x19 ls hm hl hq
    rw [gX5_divide_238] at hq
    refine lv_iload hx hb dX5_divide_238 (lv_at hl 6 rfl) ?_
    refine lv_bipush (v := 58) hx hb dX5_divide_240 (by decide) ?_
    refine lv_icmp_ge (tgt := 284) hx hb dX5_divide_242 (by decide) (fun c9 => ?_) (fun c9 => ?_)
    · rw [if_pos c9] at hq
      exact kx x10 x17 x19 _ (lv_sub hl [0, 1, 2, 4, 5, 6] rfl) hq
    · rw [if_neg c9] at hq
      refine lv_lload hx hb dX5_divide_245 (lv_at hl 5 rfl) ?_
      refine lv_iconst (v := 1) hx hb dX5_divide_247 (by decide) ?_
      refine bx_lshl hx hb dX5_divide_248 ?_
      refine lv_lstore (lv' := [(17, .long (jl_shl x17 (1 : Int32))), (5, .int x5), (6, .int x6), (10, .long x10), (12, .long x12), (14, .int x14), (19, .int x19)]) hx hb dX5_divide_249 hl (by decide) rfl (fun ls hl => ?_)
      refine lv_lload hx hb dX5_divide_251 (lv_at hl 3 rfl) ?_
      refine lv_lload hx hb dX5_divide_253 (lv_at hl 4 rfl) ?_
      refine bx_lc_lt (tgt := 272) hx hb dX5_divide_255 dX5_divide_256 (by decide) (fun c10 => ?_) (fun c10 => ?_)
      · rw [if_pos c10] at hq
        refine lv_lload hx hb dX5_divide_272 (lv_at hl 3 rfl) ?_
        refine lv_iconst (v := 1) hx hb dX5_divide_274 (by decide) ?_
        refine bx_lshl hx hb dX5_divide_275 ?_
        refine lv_lstore (lv' := [(10, .long (jl_shl x10 (1 : Int32))), (17, .long (jl_shl x17 (1 : Int32))), (5, .int x5), (6, .int x6), (12, .long x12), (14, .int x14), (19, .int x19)]) hx hb dX5_divide_276 hl (by decide) rfl (fun ls hl => ?_)
        refine lv_iinc (v := (x19 + 1)) (lv' := [(19, .int (x19 + 1)), (10, .long (jl_shl x10 (1 : Int32))), (17, .long (jl_shl x17 (1 : Int32))), (5, .int x5), (6, .int x6), (12, .long x12), (14, .int x14)]) hx hb dX5_divide_278 hl (k := 6) rfl rfl (by decide) rfl (fun ls hl => ?_)
        refine lv_goto (tgt := 238) hx hb dX5_divide_281 (by decide) ?_
        exact ih (jl_shl x10 (1 : Int32)) (jl_shl x17 (1 : Int32)) (x19 + 1) _ (lp_up (by assumption) hm) (lv_sub hl [3, 4, 1, 5, 6, 2, 0] rfl) hq
      · rw [if_neg c10] at hq
        refine lv_lload hx hb dX5_divide_259 (lv_at hl 0 rfl) ?_
        refine lv_lconst (v := 1) hx hb dX5_divide_261 (by decide) ?_
        refine lv_ladd hx hb dX5_divide_262 ?_
        refine lv_lstore (lv' := [(17, .long ((jl_shl x17 (1 : Int32)) + (1 : Int64))), (5, .int x5), (6, .int x6), (10, .long x10), (12, .long x12), (14, .int x14), (19, .int x19)]) hx hb dX5_divide_263 hl (by decide) rfl (fun ls hl => ?_)
        refine lv_lload hx hb dX5_divide_265 (lv_at hl 3 rfl) ?_
        refine lv_lload hx hb dX5_divide_267 (lv_at hl 4 rfl) ?_
        refine lv_lsub hx hb dX5_divide_269 ?_
        refine lv_lstore (lv' := [(10, .long (x10 - x12)), (17, .long ((jl_shl x17 (1 : Int32)) + (1 : Int64))), (5, .int x5), (6, .int x6), (12, .long x12), (14, .int x14), (19, .int x19)]) hx hb dX5_divide_270 hl (by decide) rfl (fun ls hl => ?_)
        refine lv_lload hx hb dX5_divide_272 (lv_at hl 0 rfl) ?_
        refine lv_iconst (v := 1) hx hb dX5_divide_274 (by decide) ?_
        refine bx_lshl hx hb dX5_divide_275 ?_
        refine lv_lstore (lv' := [(10, .long (jl_shl (x10 - x12) (1 : Int32))), (17, .long ((jl_shl x17 (1 : Int32)) + (1 : Int64))), (5, .int x5), (6, .int x6), (12, .long x12), (14, .int x14), (19, .int x19)]) hx hb dX5_divide_276 hl (by decide) rfl (fun ls hl => ?_)
        refine lv_iinc (v := (x19 + 1)) (lv' := [(19, .int (x19 + 1)), (10, .long (jl_shl (x10 - x12) (1 : Int32))), (17, .long ((jl_shl x17 (1 : Int32)) + (1 : Int64))), (5, .int x5), (6, .int x6), (12, .long x12), (14, .int x14)]) hx hb dX5_divide_278 hl (k := 6) rfl rfl (by decide) rfl (fun ls hl => ?_)
        refine lv_goto (tgt := 238) hx hb dX5_divide_281 (by decide) ?_
        exact ih (jl_shl (x10 - x12) (1 : Int32)) ((jl_shl x17 (1 : Int32)) + (1 : Int64)) (x19 + 1) _ (lp_up (by assumption) hm) (lv_sub hl [3, 4, 1, 5, 6, 2, 0] rfl) hq
set_option maxRecDepth 20000 in
theorem bX5_divide_305 (x5 : Int32) (s0 : Int32) (s1 : Int64) (s2 : Int32) (s3 : Int32) {p : Program} {l : Launch} {e : Env} {s : State} {m : MethodId} {args : Array Value} {below : List Frame} {meth : Method} {c : Code} {h0 : Nat} {ls : Array Slot} (C : bx_C p s m args meth c cX5_divide 20 (some .long) RX5) (hK0 : ob_K RX5 h0 s) (hl : lv_has ls 20 [(5, .int x5)]) (post : Int64 → Prop) (hq : post (fX5_divide_305 x5 s0 s1 s2 s3)) : W p l e rmX5_divide s m args below meth c s.heap [] 0 0 (MQ below (vp_Sl post) args s 0 0 (fun _ => False)) (F0 m 305 ls [.int s3, .int s2, .long s1, .int s0]) := by
  obtain ⟨hx, hb, hml, hr, hlocks, hown, hts⟩ := id C
  unfold fX5_divide_305 at hq
  refine lv_iload hx hb dX5_divide_305 (lv_at hl 0 rfl) ?_
  refine bx_sl C (kX5_rounded l s0 s1 s2 s3 x5) bx_B_true (fun _ _ _ => trivial) tw_methodLink_RX5_98_yX5_rounded mbX5_rounded rfl ⟨rfl, rfl⟩ ⟨Nat.le_of_ble_eq_true rfl, Nat.le_of_ble_eq_true rfl⟩ ⟨Nat.zero_le _, Nat.zero_le _⟩ hl.1 rfl (Nat.le_of_ble_eq_true rfl) dX5_divide_307 ?_
  exact W.lret (v := (fX5_rounded s0 s1 s2 s3 x5)) hx hb hr (fun t ht hW => ⟨_, rfl, hq, ht⟩) (fun _ h => absurd h List.not_mem_nil) dX5_divide_310
set_option maxRecDepth 20000 in
theorem bX5_divide_284 (x5 : Int32) (x6 : Int32) (x10 : Int64) (x14 : Int32) (x17 : Int64) {p : Program} {l : Launch} {e : Env} {s : State} {m : MethodId} {args : Array Value} {below : List Frame} {meth : Method} {c : Code} {h0 : Nat} {ls : Array Slot} (C : bx_C p s m args meth c cX5_divide 20 (some .long) RX5) (hK0 : ob_K RX5 h0 s) (hl : lv_has ls 20 [(5, .int x5), (6, .int x6), (10, .long x10), (14, .int x14), (17, .long x17)]) (post : Int64 → Prop) (hq : post (fX5_divide_284 x5 x6 x10 x14 x17)) : W p l e rmX5_divide s m args below meth c s.heap [] 0 0 (MQ below (vp_Sl post) args s 0 0 (fun _ => False)) (F0 m 284 ls []) := by
  obtain ⟨hx, hb, hml, hr, hlocks, hown, hts⟩ := id C
  unfold fX5_divide_284 at hq
  refine lv_iload hx hb dX5_divide_284 (lv_at hl 1 rfl) ?_
  refine lv_lload hx hb dX5_divide_286 (lv_at hl 4 rfl) ?_
  refine lv_iload hx hb dX5_divide_288 (lv_at hl 3 rfl) ?_
  refine lv_bipush (v := 57) hx hb dX5_divide_290 (by decide) ?_
  refine lv_isub hx hb dX5_divide_292 ?_
  refine lv_lload hx hb dX5_divide_293 (lv_at hl 2 rfl) ?_
  refine lv_lconst (v := 0) hx hb dX5_divide_295 (by decide) ?_
  refine bx_lc_eq (tgt := 304) hx hb dX5_divide_296 dX5_divide_297 (by decide) (fun c11 => ?_) (fun c11 => ?_)
  · rw [if_pos c11] at hq
    refine lv_iconst (v := 0) hx hb dX5_divide_304 (by decide) ?_
    exact bX5_divide_305 x5 x6 x17 (x14 - (57 : Int32)) (0 : Int32) C hK0 (lv_sub hl [0] rfl) post hq
  · rw [if_neg c11] at hq
    refine lv_iconst (v := 1) hx hb dX5_divide_300 (by decide) ?_
    refine lv_goto (tgt := 305) hx hb dX5_divide_301 (by decide) ?_
    exact bX5_divide_305 x5 x6 x17 (x14 - (57 : Int32)) (1 : Int32) C hK0 (lv_sub hl [0] rfl) post hq
set_option maxRecDepth 20000 in
theorem bX5_divide_213 (x5 : Int32) (x6 : Int32) (x12 : Int64) (x14 : Int32) (x15 : Int32) (x16 : Int32) (s0 : Int64) {p : Program} {l : Launch} {e : Env} {s : State} {m : MethodId} {args : Array Value} {below : List Frame} {meth : Method} {c : Code} {h0 : Nat} {ls : Array Slot} (C : bx_C p s m args meth c cX5_divide 20 (some .long) RX5) (hK0 : ob_K RX5 h0 s) (hl : lv_has ls 20 [(5, .int x5), (6, .int x6), (12, .long x12), (14, .int x14), (15, .int x15), (16, .int x16)]) (post : Int64 → Prop) (hq : post (fX5_divide_213 x5 x6 x12 x14 x15 x16 s0)) : W p l e rmX5_divide s m args below meth c s.heap [] 0 0 (MQ below (vp_Sl post) args s 0 0 (fun _ => False)) (F0 m 213 ls [.long s0]) := by
  obtain ⟨hx, hb, hml, hr, hlocks, hown, hts⟩ := id C
  unfold fX5_divide_213 at hq
  refine lv_lstore (lv' := [(10, .long s0), (5, .int x5), (6, .int x6), (12, .long x12), (14, .int x14), (15, .int x15), (16, .int x16)]) hx hb dX5_divide_213 hl (by decide) rfl (fun ls hl => ?_)
  refine lv_lload hx hb dX5_divide_215 (lv_at hl 3 rfl) ?_
  refine lv_iload hx hb dX5_divide_217 (lv_at hl 6 rfl) ?_
  refine bx_lshl hx hb dX5_divide_219 ?_
  refine lv_lstore (lv' := [(12, .long (jl_shl x12 x16)), (10, .long s0), (5, .int x5), (6, .int x6), (14, .int x14), (15, .int x15), (16, .int x16)]) hx hb dX5_divide_220 hl (by decide) rfl (fun ls hl => ?_)
  refine lv_iload hx hb dX5_divide_222 (lv_at hl 4 rfl) ?_
  refine lv_iload hx hb dX5_divide_224 (lv_at hl 6 rfl) ?_
  refine lv_iload hx hb dX5_divide_226 (lv_at hl 5 rfl) ?_
  refine lv_isub hx hb dX5_divide_228 ?_
  refine lv_iadd hx hb dX5_divide_229 ?_
  refine lv_istore (lv' := [(14, .int (x14 + (x16 - x15))), (12, .long (jl_shl x12 x16)), (10, .long s0), (5, .int x5), (6, .int x6), (15, .int x15), (16, .int x16)]) hx hb dX5_divide_230 hl (by decide) rfl (fun ls hl => ?_)
  refine lv_lconst (v := 0) hx hb dX5_divide_232 (by decide) ?_
  refine lv_lstore (lv' := [(17, .long (0 : Int64)), (14, .int (x14 + (x16 - x15))), (12, .long (jl_shl x12 x16)), (10, .long s0), (5, .int x5), (6, .int x6), (15, .int x15), (16, .int x16)]) hx hb dX5_divide_233 hl (by decide) rfl (fun ls hl => ?_)
  refine lv_iconst (v := 0) hx hb dX5_divide_235 (by decide) ?_
  refine lv_istore (lv' := [(19, .int (0 : Int32)), (17, .long (0 : Int64)), (14, .int (x14 + (x16 - x15))), (12, .long (jl_shl x12 x16)), (10, .long s0), (5, .int x5), (6, .int x6), (15, .int x15), (16, .int x16)]) hx hb dX5_divide_236 hl (by decide) rfl (fun ls hl => ?_)
  exact lX5_divide_238 (jl_shl x12 x16) x5 x6 (x14 + (x16 - x15)) C hK0 (fun t => post (fX5_divide_284 x5 x6 t.1 (x14 + (x16 - x15)) t.2.1)) (fun o10 o17 o19 ls hl hq => bX5_divide_284 x5 x6 o10 (x14 + (x16 - x15)) o17 C hK0 (lv_sub hl [0, 1, 2, 3, 4] rfl) post hq) (Nat.succ ((Int32.toInt (58) - Int32.toInt (0 : Int32)).toNat)) s0 (0 : Int64) (0 : Int32) _ (Nat.lt_succ_self _) (lv_sub hl [5, 6, 4, 3, 2, 1, 0] rfl) hq
set_option maxRecDepth 20000 in
theorem bX5_divide_134 (x1 : Int64) (x3 : Int64) (x5 : Int32) (x6 : Int32) (s0 : Int64) {p : Program} {l : Launch} {e : Env} {s : State} {m : MethodId} {args : Array Value} {below : List Frame} {meth : Method} {c : Code} {h0 : Nat} {ls : Array Slot} (C : bx_C p s m args meth c cX5_divide 20 (some .long) RX5) (hK0 : ob_K RX5 h0 s) (hl : lv_has ls 20 [(1, .long x1), (3, .long x3), (5, .int x5), (6, .int x6)]) (post : Int64 → Prop) (hq : post (fX5_divide_134 x1 x3 x5 x6 s0)) : W p l e rmX5_divide s m args below meth c s.heap [] 0 0 (MQ below (vp_Sl post) args s 0 0 (fun _ => False)) (F0 m 134 ls [.long s0]) := by
  obtain ⟨hx, hb, hml, hr, hlocks, hown, hts⟩ := id C
  unfold fX5_divide_134 at hq
  refine lv_lstore (lv' := [(8, .long s0), (1, .long x1), (3, .long x3), (5, .int x5), (6, .int x6)]) hx hb dX5_divide_134 hl (by decide) rfl (fun ls hl => ?_)
  refine lv_lload_n hx hb dX5_divide_136 rfl (lv_at hl 1 rfl) ?_
  refine lv_iload hx hb dX5_divide_137 (lv_at hl 3 rfl) ?_
  refine bx_si C (kX5_isZero l x1 x5) bx_B_true (fun _ _ _ => trivial) tw_methodLink_RX5_127_yX5_isZero mbX5_isZero rfl ⟨rfl, rfl⟩ ⟨Nat.le_of_ble_eq_true rfl, Nat.le_of_ble_eq_true rfl⟩ ⟨Nat.zero_le _, Nat.zero_le _⟩ hl.1 rfl (Nat.le_of_ble_eq_true rfl) dX5_divide_139 ?_
  refine lv_if_ne (tgt := 154) hx hb dX5_divide_142 (by decide) (fun c7 => ?_) (fun c7 => ?_)
  · rw [if_neg c7] at hq
    refine lv_lload hx hb dX5_divide_154 (lv_at hl 0 rfl) ?_
    exact W.lret (v := s0) hx hb hr (fun t ht hW => ⟨_, rfl, hq, ht⟩) (fun _ h => absurd h List.not_mem_nil) dX5_divide_156
  · rw [if_pos c7] at hq
    refine lv_lload_n hx hb dX5_divide_145 rfl (lv_at hl 2 rfl) ?_
    refine lv_iload hx hb dX5_divide_146 (lv_at hl 3 rfl) ?_
    refine bx_si C (kX5_isInfinite l x3 x5) bx_B_true (fun _ _ _ => trivial) tw_methodLink_RX5_112_yX5_isInfinite mbX5_isInfinite rfl ⟨rfl, rfl⟩ ⟨Nat.le_of_ble_eq_true rfl, Nat.le_of_ble_eq_true rfl⟩ ⟨Nat.zero_le _, Nat.zero_le _⟩ hl.1 rfl (Nat.le_of_ble_eq_true rfl) dX5_divide_148 ?_
    refine lv_if_eq (tgt := 157) hx hb dX5_divide_151 (by decide) (fun c8 => ?_) (fun c8 => ?_)
    · rw [if_pos c8] at hq
      refine lv_lload_n hx hb dX5_divide_157 rfl (lv_at hl 1 rfl) ?_
      refine lv_iload hx hb dX5_divide_158 (lv_at hl 3 rfl) ?_
      refine bx_sl C (kX5_digitsOf l x1 x5) bx_B_true (fun _ _ _ => trivial) tw_methodLink_RX5_118_yX5_digitsOf mbX5_digitsOf rfl ⟨rfl, rfl⟩ ⟨Nat.le_of_ble_eq_true rfl, Nat.le_of_ble_eq_true rfl⟩ ⟨Nat.zero_le _, Nat.zero_le _⟩ hl.1 rfl (Nat.le_of_ble_eq_true rfl) dX5_divide_160 ?_
      refine lv_lstore (lv' := [(10, .long (fX5_digitsOf x1 x5)), (8, .long s0), (1, .long x1), (3, .long x3), (5, .int x5), (6, .int x6)]) hx hb dX5_divide_163 hl (by decide) rfl (fun ls hl => ?_)
      refine lv_lload_n hx hb dX5_divide_165 rfl (lv_at hl 3 rfl) ?_
      refine lv_iload hx hb dX5_divide_166 (lv_at hl 4 rfl) ?_
      refine bx_sl C (kX5_digitsOf l x3 x5) bx_B_true (fun _ _ _ => trivial) tw_methodLink_RX5_118_yX5_digitsOf mbX5_digitsOf rfl ⟨rfl, rfl⟩ ⟨Nat.le_of_ble_eq_true rfl, Nat.le_of_ble_eq_true rfl⟩ ⟨Nat.zero_le _, Nat.zero_le _⟩ hl.1 rfl (Nat.le_of_ble_eq_true rfl) dX5_divide_168 ?_
      refine lv_lstore (lv' := [(12, .long (fX5_digitsOf x3 x5)), (10, .long (fX5_digitsOf x1 x5)), (8, .long s0), (1, .long x1), (3, .long x3), (5, .int x5), (6, .int x6)]) hx hb dX5_divide_171 hl (by decide) rfl (fun ls hl => ?_)
      refine lv_lload_n hx hb dX5_divide_173 rfl (lv_at hl 3 rfl) ?_
      refine lv_iload hx hb dX5_divide_174 (lv_at hl 5 rfl) ?_
      refine bx_si C (kX5_exponentOf l x1 x5) bx_B_true (fun _ _ _ => trivial) tw_methodLink_RX5_121_yX5_exponentOf mbX5_exponentOf rfl ⟨rfl, rfl⟩ ⟨Nat.le_of_ble_eq_true rfl, Nat.le_of_ble_eq_true rfl⟩ ⟨Nat.zero_le _, Nat.zero_le _⟩ hl.1 rfl (Nat.le_of_ble_eq_true rfl) dX5_divide_176 ?_
      refine lv_lload_n hx hb dX5_divide_179 rfl (lv_at hl 4 rfl) ?_
      refine lv_iload hx hb dX5_divide_180 (lv_at hl 5 rfl) ?_
      refine bx_si C (kX5_exponentOf l x3 x5) bx_B_true (fun _ _ _ => trivial) tw_methodLink_RX5_121_yX5_exponentOf mbX5_exponentOf rfl ⟨rfl, rfl⟩ ⟨Nat.le_of_ble_eq_true rfl, Nat.le_of_ble_eq_true rfl⟩ ⟨Nat.zero_le _, Nat.zero_le _⟩ hl.1 rfl (Nat.le_of_ble_eq_true rfl) dX5_divide_182 ?_
      refine lv_isub hx hb dX5_divide_185 ?_
      refine lv_istore (lv' := [(14, .int ((fX5_exponentOf x1 x5) - (fX5_exponentOf x3 x5))), (12, .long (fX5_digitsOf x3 x5)), (10, .long (fX5_digitsOf x1 x5)), (8, .long s0), (1, .long x1), (3, .long x3), (5, .int x5), (6, .int x6)]) hx hb dX5_divide_186 hl (by decide) rfl (fun ls hl => ?_)
      refine lv_bipush (v := 53) hx hb dX5_divide_188 (by decide) ?_
      refine lv_lload hx hb dX5_divide_190 (lv_at hl 2 rfl) ?_
      refine bx_si C (kX5_bitsOf l (fX5_digitsOf x1 x5)) bx_B_true (fun _ _ _ => trivial) tw_methodLink_RX5_82_yX5_bitsOf mbX5_bitsOf rfl ⟨rfl, rfl⟩ ⟨Nat.le_of_ble_eq_true rfl, Nat.le_of_ble_eq_true rfl⟩ ⟨Nat.zero_le _, Nat.zero_le _⟩ hl.1 rfl (Nat.le_of_ble_eq_true rfl) dX5_divide_192 ?_
      refine lv_isub hx hb dX5_divide_195 ?_
      refine lv_istore (lv' := [(15, .int ((53 : Int32) - (fX5_bitsOf (fX5_digitsOf x1 x5)))), (14, .int ((fX5_exponentOf x1 x5) - (fX5_exponentOf x3 x5))), (12, .long (fX5_digitsOf x3 x5)), (10, .long (fX5_digitsOf x1 x5)), (8, .long s0), (1, .long x1), (3, .long x3), (5, .int x5), (6, .int x6)]) hx hb dX5_divide_196 hl (by decide) rfl (fun ls hl => ?_)
      refine lv_bipush (v := 53) hx hb dX5_divide_198 (by decide) ?_
      refine lv_lload hx hb dX5_divide_200 (lv_at hl 2 rfl) ?_
      refine bx_si C (kX5_bitsOf l (fX5_digitsOf x3 x5)) bx_B_true (fun _ _ _ => trivial) tw_methodLink_RX5_82_yX5_bitsOf mbX5_bitsOf rfl ⟨rfl, rfl⟩ ⟨Nat.le_of_ble_eq_true rfl, Nat.le_of_ble_eq_true rfl⟩ ⟨Nat.zero_le _, Nat.zero_le _⟩ hl.1 rfl (Nat.le_of_ble_eq_true rfl) dX5_divide_202 ?_
      refine lv_isub hx hb dX5_divide_205 ?_
      refine lv_istore (lv' := [(16, .int ((53 : Int32) - (fX5_bitsOf (fX5_digitsOf x3 x5)))), (15, .int ((53 : Int32) - (fX5_bitsOf (fX5_digitsOf x1 x5)))), (14, .int ((fX5_exponentOf x1 x5) - (fX5_exponentOf x3 x5))), (12, .long (fX5_digitsOf x3 x5)), (10, .long (fX5_digitsOf x1 x5)), (8, .long s0), (1, .long x1), (3, .long x3), (5, .int x5), (6, .int x6)]) hx hb dX5_divide_206 hl (by decide) rfl (fun ls hl => ?_)
      refine lv_lload hx hb dX5_divide_208 (lv_at hl 4 rfl) ?_
      refine lv_iload hx hb dX5_divide_210 (lv_at hl 1 rfl) ?_
      refine bx_lshl hx hb dX5_divide_212 ?_
      exact bX5_divide_213 x5 x6 (fX5_digitsOf x3 x5) ((fX5_exponentOf x1 x5) - (fX5_exponentOf x3 x5)) ((53 : Int32) - (fX5_bitsOf (fX5_digitsOf x1 x5))) ((53 : Int32) - (fX5_bitsOf (fX5_digitsOf x3 x5))) (jl_shl (fX5_digitsOf x1 x5) ((53 : Int32) - (fX5_bitsOf (fX5_digitsOf x1 x5)))) C hK0 (lv_sub hl [8, 9, 3, 2, 1, 0] rfl) post hq
    · rw [if_neg c8] at hq
      refine lv_lload hx hb dX5_divide_154 (lv_at hl 0 rfl) ?_
      exact W.lret (v := s0) hx hb hr (fun t ht hW => ⟨_, rfl, hq, ht⟩) (fun _ h => absurd h List.not_mem_nil) dX5_divide_156
set_option maxRecDepth 20000 in
theorem bX5_divide_81 (x1 : Int64) (x3 : Int64) (x5 : Int32) (x6 : Int32) (s0 : Int32) {p : Program} {l : Launch} {e : Env} {s : State} {m : MethodId} {args : Array Value} {below : List Frame} {meth : Method} {c : Code} {h0 : Nat} {ls : Array Slot} (C : bx_C p s m args meth c cX5_divide 20 (some .long) RX5) (hK0 : ob_K RX5 h0 s) (hl : lv_has ls 20 [(1, .long x1), (3, .long x3), (5, .int x5), (6, .int x6)]) (post : Int64 → Prop) (hq : post (fX5_divide_81 x1 x3 x5 x6 s0)) : W p l e rmX5_divide s m args below meth c s.heap [] 0 0 (MQ below (vp_Sl post) args s 0 0 (fun _ => False)) (F0 m 81 ls [.int s0]) := by
  obtain ⟨hx, hb, hml, hr, hlocks, hown, hts⟩ := id C
  unfold fX5_divide_81 at hq
  refine lv_istore (lv' := [(7, .int s0), (1, .long x1), (3, .long x3), (5, .int x5), (6, .int x6)]) hx hb dX5_divide_81 hl (by decide) rfl (fun ls hl => ?_)
  refine lv_iload hx hb dX5_divide_83 (lv_at hl 0 rfl) ?_
  refine lv_if_eq (tgt := 94) hx hb dX5_divide_85 (by decide) (fun c3 => ?_) (fun c3 => ?_)
  · rw [if_pos c3] at hq
    refine lv_lload_n hx hb dX5_divide_94 rfl (lv_at hl 1 rfl) ?_
    refine lv_iload hx hb dX5_divide_95 (lv_at hl 3 rfl) ?_
    refine bx_si C (kX5_isInfinite l x1 x5) bx_B_true (fun _ _ _ => trivial) tw_methodLink_RX5_112_yX5_isInfinite mbX5_isInfinite rfl ⟨rfl, rfl⟩ ⟨Nat.le_of_ble_eq_true rfl, Nat.le_of_ble_eq_true rfl⟩ ⟨Nat.zero_le _, Nat.zero_le _⟩ hl.1 rfl (Nat.le_of_ble_eq_true rfl) dX5_divide_97 ?_
    refine lv_if_ne (tgt := 112) hx hb dX5_divide_100 (by decide) (fun c4 => ?_) (fun c4 => ?_)
    · rw [if_neg c4] at hq
      exact bX5_divide_112 x5 x6 C hK0 (lv_sub hl [3, 4] rfl) post hq
    · rw [if_pos c4] at hq
      refine lv_lload_n hx hb dX5_divide_103 rfl (lv_at hl 2 rfl) ?_
      refine lv_iload hx hb dX5_divide_104 (lv_at hl 3 rfl) ?_
      refine bx_si C (kX5_isZero l x3 x5) bx_B_true (fun _ _ _ => trivial) tw_methodLink_RX5_127_yX5_isZero mbX5_isZero rfl ⟨rfl, rfl⟩ ⟨Nat.le_of_ble_eq_true rfl, Nat.le_of_ble_eq_true rfl⟩ ⟨Nat.zero_le _, Nat.zero_le _⟩ hl.1 rfl (Nat.le_of_ble_eq_true rfl) dX5_divide_106 ?_
      refine lv_if_eq (tgt := 120) hx hb dX5_divide_109 (by decide) (fun c5 => ?_) (fun c5 => ?_)
      · rw [if_pos c5] at hq
        refine lv_iload hx hb dX5_divide_120 (lv_at hl 4 rfl) ?_
        refine lv_if_eq (tgt := 133) hx hb dX5_divide_122 (by decide) (fun c6 => ?_) (fun c6 => ?_)
        · rw [if_pos c6] at hq
          refine lv_lconst (v := 0) hx hb dX5_divide_133 (by decide) ?_
          exact bX5_divide_134 x1 x3 x5 x6 (0 : Int64) C hK0 (lv_sub hl [1, 2, 3, 4] rfl) post hq
        · rw [if_neg c6] at hq
          refine lv_iload hx hb dX5_divide_125 (lv_at hl 3 rfl) ?_
          refine bx_sl C (kX5_signBit l x5) bx_B_true (fun _ _ _ => trivial) tw_methodLink_RX5_61_yX5_signBit mbX5_signBit rfl ⟨rfl, rfl⟩ ⟨Nat.le_of_ble_eq_true rfl, Nat.le_of_ble_eq_true rfl⟩ ⟨Nat.zero_le _, Nat.zero_le _⟩ hl.1 rfl (Nat.le_of_ble_eq_true rfl) dX5_divide_127 ?_
          refine lv_goto (tgt := 134) hx hb dX5_divide_130 (by decide) ?_
          exact bX5_divide_134 x1 x3 x5 x6 (fX5_signBit x5) C hK0 (lv_sub hl [1, 2, 3, 4] rfl) post hq
      · rw [if_neg c5] at hq
        exact bX5_divide_112 x5 x6 C hK0 (lv_sub hl [3, 4] rfl) post hq
  · rw [if_neg c3] at hq
    refine lv_iload hx hb dX5_divide_88 (lv_at hl 3 rfl) ?_
    refine bx_sl C (kX5_nan l x5) bx_B_true (fun _ _ _ => trivial) tw_methodLink_RX5_106_yX5_nan mbX5_nan rfl ⟨rfl, rfl⟩ ⟨Nat.le_of_ble_eq_true rfl, Nat.le_of_ble_eq_true rfl⟩ ⟨Nat.zero_le _, Nat.zero_le _⟩ hl.1 rfl (Nat.le_of_ble_eq_true rfl) dX5_divide_90 ?_
    exact W.lret (v := (fX5_nan x5)) hx hb hr (fun t ht hW => ⟨_, rfl, hq, ht⟩) (fun _ h => absurd h List.not_mem_nil) dX5_divide_93
set_option maxRecDepth 20000 in
theorem bX5_divide_76 (x1 : Int64) (x3 : Int64) (x5 : Int32) (x6 : Int32) {p : Program} {l : Launch} {e : Env} {s : State} {m : MethodId} {args : Array Value} {below : List Frame} {meth : Method} {c : Code} {h0 : Nat} {ls : Array Slot} (C : bx_C p s m args meth c cX5_divide 20 (some .long) RX5) (hK0 : ob_K RX5 h0 s) (hl : lv_has ls 20 [(1, .long x1), (3, .long x3), (5, .int x5), (6, .int x6)]) (post : Int64 → Prop) (hq : post (fX5_divide_76 x1 x3 x5 x6)) : W p l e rmX5_divide s m args below meth c s.heap [] 0 0 (MQ below (vp_Sl post) args s 0 0 (fun _ => False)) (F0 m 76 ls []) := by
  obtain ⟨hx, hb, hml, hr, hlocks, hown, hts⟩ := id C
  unfold fX5_divide_76 at hq
  refine lv_iconst (v := 1) hx hb dX5_divide_76 (by decide) ?_
  refine lv_goto (tgt := 81) hx hb dX5_divide_77 (by decide) ?_
  exact bX5_divide_81 x1 x3 x5 x6 (1 : Int32) C hK0 (lv_sub hl [0, 1, 2, 3] rfl) post hq
set_option maxRecDepth 20000 in
theorem bX5_divide_80 (x1 : Int64) (x3 : Int64) (x5 : Int32) (x6 : Int32) {p : Program} {l : Launch} {e : Env} {s : State} {m : MethodId} {args : Array Value} {below : List Frame} {meth : Method} {c : Code} {h0 : Nat} {ls : Array Slot} (C : bx_C p s m args meth c cX5_divide 20 (some .long) RX5) (hK0 : ob_K RX5 h0 s) (hl : lv_has ls 20 [(1, .long x1), (3, .long x3), (5, .int x5), (6, .int x6)]) (post : Int64 → Prop) (hq : post (fX5_divide_80 x1 x3 x5 x6)) : W p l e rmX5_divide s m args below meth c s.heap [] 0 0 (MQ below (vp_Sl post) args s 0 0 (fun _ => False)) (F0 m 80 ls []) := by
  obtain ⟨hx, hb, hml, hr, hlocks, hown, hts⟩ := id C
  unfold fX5_divide_80 at hq
  refine lv_iconst (v := 0) hx hb dX5_divide_80 (by decide) ?_
  exact bX5_divide_81 x1 x3 x5 x6 (0 : Int32) C hK0 (lv_sub hl [0, 1, 2, 3] rfl) post hq
set_option maxRecDepth 20000 in
theorem bX5_divide_58 (x1 : Int64) (x3 : Int64) (x5 : Int32) (x6 : Int32) {p : Program} {l : Launch} {e : Env} {s : State} {m : MethodId} {args : Array Value} {below : List Frame} {meth : Method} {c : Code} {h0 : Nat} {ls : Array Slot} (C : bx_C p s m args meth c cX5_divide 20 (some .long) RX5) (hK0 : ob_K RX5 h0 s) (hl : lv_has ls 20 [(1, .long x1), (3, .long x3), (5, .int x5), (6, .int x6)]) (post : Int64 → Prop) (hq : post (fX5_divide_58 x1 x3 x5 x6)) : W p l e rmX5_divide s m args below meth c s.heap [] 0 0 (MQ below (vp_Sl post) args s 0 0 (fun _ => False)) (F0 m 58 ls []) := by
  obtain ⟨hx, hb, hml, hr, hlocks, hown, hts⟩ := id C
  unfold fX5_divide_58 at hq
  refine lv_lload_n hx hb dX5_divide_58 rfl (lv_at hl 0 rfl) ?_
  refine lv_iload hx hb dX5_divide_59 (lv_at hl 2 rfl) ?_
  refine bx_si C (kX5_isZero l x1 x5) bx_B_true (fun _ _ _ => trivial) tw_methodLink_RX5_127_yX5_isZero mbX5_isZero rfl ⟨rfl, rfl⟩ ⟨Nat.le_of_ble_eq_true rfl, Nat.le_of_ble_eq_true rfl⟩ ⟨Nat.zero_le _, Nat.zero_le _⟩ hl.1 rfl (Nat.le_of_ble_eq_true rfl) dX5_divide_61 ?_
  refine lv_if_eq (tgt := 80) hx hb dX5_divide_64 (by decide) (fun c14 => ?_) (fun c14 => ?_)
  · rw [if_pos c14] at hq
    exact bX5_divide_80 x1 x3 x5 x6 C hK0 (lv_sub hl [0, 1, 2, 3] rfl) post hq
  · rw [if_neg c14] at hq
    refine lv_lload_n hx hb dX5_divide_67 rfl (lv_at hl 1 rfl) ?_
    refine lv_iload hx hb dX5_divide_68 (lv_at hl 2 rfl) ?_
    refine bx_si C (kX5_isZero l x3 x5) bx_B_true (fun _ _ _ => trivial) tw_methodLink_RX5_127_yX5_isZero mbX5_isZero rfl ⟨rfl, rfl⟩ ⟨Nat.le_of_ble_eq_true rfl, Nat.le_of_ble_eq_true rfl⟩ ⟨Nat.zero_le _, Nat.zero_le _⟩ hl.1 rfl (Nat.le_of_ble_eq_true rfl) dX5_divide_70 ?_
    refine lv_if_eq (tgt := 80) hx hb dX5_divide_73 (by decide) (fun c15 => ?_) (fun c15 => ?_)
    · rw [if_pos c15] at hq
      exact bX5_divide_80 x1 x3 x5 x6 C hK0 (lv_sub hl [0, 1, 2, 3] rfl) post hq
    · rw [if_neg c15] at hq
      exact bX5_divide_76 x1 x3 x5 x6 C hK0 (lv_sub hl [0, 1, 2, 3] rfl) post hq
set_option maxRecDepth 20000 in
theorem bX5_divide_20 (x1 : Int64) (x3 : Int64) (x5 : Int32) (s0 : Int32) {p : Program} {l : Launch} {e : Env} {s : State} {m : MethodId} {args : Array Value} {below : List Frame} {meth : Method} {c : Code} {h0 : Nat} {ls : Array Slot} (C : bx_C p s m args meth c cX5_divide 20 (some .long) RX5) (hK0 : ob_K RX5 h0 s) (hl : lv_has ls 20 [(1, .long x1), (3, .long x3), (5, .int x5)]) (post : Int64 → Prop) (hq : post (fX5_divide_20 x1 x3 x5 s0)) : W p l e rmX5_divide s m args below meth c s.heap [] 0 0 (MQ below (vp_Sl post) args s 0 0 (fun _ => False)) (F0 m 20 ls [.int s0]) := by
  obtain ⟨hx, hb, hml, hr, hlocks, hown, hts⟩ := id C
  unfold fX5_divide_20 at hq
  refine lv_istore (lv' := [(6, .int s0), (1, .long x1), (3, .long x3), (5, .int x5)]) hx hb dX5_divide_20 hl (by decide) rfl (fun ls hl => ?_)
  refine lv_lload_n hx hb dX5_divide_22 rfl (lv_at hl 1 rfl) ?_
  refine lv_iload hx hb dX5_divide_23 (lv_at hl 3 rfl) ?_
  refine bx_si C (kX5_isNan l x1 x5) bx_B_true (fun _ _ _ => trivial) tw_methodLink_RX5_102_yX5_isNan mbX5_isNan rfl ⟨rfl, rfl⟩ ⟨Nat.le_of_ble_eq_true rfl, Nat.le_of_ble_eq_true rfl⟩ ⟨Nat.zero_le _, Nat.zero_le _⟩ hl.1 rfl (Nat.le_of_ble_eq_true rfl) dX5_divide_25 ?_
  refine lv_if_ne (tgt := 76) hx hb dX5_divide_28 (by decide) (fun c2 => ?_) (fun c2 => ?_)
  · rw [if_neg c2] at hq
    exact bX5_divide_76 x1 x3 x5 s0 C hK0 (lv_sub hl [1, 2, 3, 0] rfl) post hq
  · rw [if_pos c2] at hq
    refine lv_lload_n hx hb dX5_divide_31 rfl (lv_at hl 2 rfl) ?_
    refine lv_iload hx hb dX5_divide_32 (lv_at hl 3 rfl) ?_
    refine bx_si C (kX5_isNan l x3 x5) bx_B_true (fun _ _ _ => trivial) tw_methodLink_RX5_102_yX5_isNan mbX5_isNan rfl ⟨rfl, rfl⟩ ⟨Nat.le_of_ble_eq_true rfl, Nat.le_of_ble_eq_true rfl⟩ ⟨Nat.zero_le _, Nat.zero_le _⟩ hl.1 rfl (Nat.le_of_ble_eq_true rfl) dX5_divide_34 ?_
    refine lv_if_ne (tgt := 76) hx hb dX5_divide_37 (by decide) (fun c12 => ?_) (fun c12 => ?_)
    · rw [if_neg c12] at hq
      exact bX5_divide_76 x1 x3 x5 s0 C hK0 (lv_sub hl [1, 2, 3, 0] rfl) post hq
    · rw [if_pos c12] at hq
      refine lv_lload_n hx hb dX5_divide_40 rfl (lv_at hl 1 rfl) ?_
      refine lv_iload hx hb dX5_divide_41 (lv_at hl 3 rfl) ?_
      refine bx_si C (kX5_isInfinite l x1 x5) bx_B_true (fun _ _ _ => trivial) tw_methodLink_RX5_112_yX5_isInfinite mbX5_isInfinite rfl ⟨rfl, rfl⟩ ⟨Nat.le_of_ble_eq_true rfl, Nat.le_of_ble_eq_true rfl⟩ ⟨Nat.zero_le _, Nat.zero_le _⟩ hl.1 rfl (Nat.le_of_ble_eq_true rfl) dX5_divide_43 ?_
      refine lv_if_eq (tgt := 58) hx hb dX5_divide_46 (by decide) (fun c13 => ?_) (fun c13 => ?_)
      · rw [if_pos c13] at hq
        exact bX5_divide_58 x1 x3 x5 s0 C hK0 (lv_sub hl [1, 2, 3, 0] rfl) post hq
      · rw [if_neg c13] at hq
        refine lv_lload_n hx hb dX5_divide_49 rfl (lv_at hl 2 rfl) ?_
        refine lv_iload hx hb dX5_divide_50 (lv_at hl 3 rfl) ?_
        refine bx_si C (kX5_isInfinite l x3 x5) bx_B_true (fun _ _ _ => trivial) tw_methodLink_RX5_112_yX5_isInfinite mbX5_isInfinite rfl ⟨rfl, rfl⟩ ⟨Nat.le_of_ble_eq_true rfl, Nat.le_of_ble_eq_true rfl⟩ ⟨Nat.zero_le _, Nat.zero_le _⟩ hl.1 rfl (Nat.le_of_ble_eq_true rfl) dX5_divide_52 ?_
        refine lv_if_ne (tgt := 76) hx hb dX5_divide_55 (by decide) (fun c16 => ?_) (fun c16 => ?_)
        · rw [if_neg c16] at hq
          exact bX5_divide_76 x1 x3 x5 s0 C hK0 (lv_sub hl [1, 2, 3, 0] rfl) post hq
        · rw [if_pos c16] at hq
          exact bX5_divide_58 x1 x3 x5 s0 C hK0 (lv_sub hl [1, 2, 3, 0] rfl) post hq
set_option maxRecDepth 20000 in
theorem bX5_divide_0 (x1 : Int64) (x3 : Int64) (x5 : Int32) {p : Program} {l : Launch} {e : Env} {s : State} {m : MethodId} {args : Array Value} {below : List Frame} {meth : Method} {c : Code} {h0 : Nat} {ls : Array Slot} (C : bx_C p s m args meth c cX5_divide 20 (some .long) RX5) (hK0 : ob_K RX5 h0 s) (hl : lv_has ls 20 [(0, .ref h0), (1, .long x1), (3, .long x3), (5, .int x5)]) (post : Int64 → Prop) (hq : post (fX5_divide x1 x3 x5)) : W p l e rmX5_divide s m args below meth c s.heap [] 0 0 (MQ below (vp_Sl post) args s 0 0 (fun _ => False)) (F0 m 0 ls []) := by
  obtain ⟨hx, hb, hml, hr, hlocks, hown, hts⟩ := id C
  unfold fX5_divide at hq
  refine lv_lload_n hx hb dX5_divide_0 rfl (lv_at hl 1 rfl) ?_
  refine lv_iload hx hb dX5_divide_1 (lv_at hl 3 rfl) ?_
  refine bx_si C (kX5_isNegative l x1 x5) bx_B_true (fun _ _ _ => trivial) tw_methodLink_RX5_109_yX5_isNegative mbX5_isNegative rfl ⟨rfl, rfl⟩ ⟨Nat.le_of_ble_eq_true rfl, Nat.le_of_ble_eq_true rfl⟩ ⟨Nat.zero_le _, Nat.zero_le _⟩ hl.1 rfl (Nat.le_of_ble_eq_true rfl) dX5_divide_3 ?_
  refine lv_lload_n hx hb dX5_divide_6 rfl (lv_at hl 2 rfl) ?_
  refine lv_iload hx hb dX5_divide_7 (lv_at hl 3 rfl) ?_
  refine bx_si C (kX5_isNegative l x3 x5) bx_B_true (fun _ _ _ => trivial) tw_methodLink_RX5_109_yX5_isNegative mbX5_isNegative rfl ⟨rfl, rfl⟩ ⟨Nat.le_of_ble_eq_true rfl, Nat.le_of_ble_eq_true rfl⟩ ⟨Nat.zero_le _, Nat.zero_le _⟩ hl.1 rfl (Nat.le_of_ble_eq_true rfl) dX5_divide_9 ?_
  refine lv_icmp_eq (tgt := 19) hx hb dX5_divide_12 (by decide) (fun c1 => ?_) (fun c1 => ?_)
  · rw [if_pos c1] at hq
    refine lv_iconst (v := 0) hx hb dX5_divide_19 (by decide) ?_
    exact bX5_divide_20 x1 x3 x5 (0 : Int32) C hK0 (lv_sub hl [1, 2, 3] rfl) post hq
  · rw [if_neg c1] at hq
    refine lv_iconst (v := 1) hx hb dX5_divide_15 (by decide) ?_
    refine lv_goto (tgt := 20) hx hb dX5_divide_16 (by decide) ?_
    exact bX5_divide_20 x1 x3 x5 (1 : Int32) C hK0 (lv_sub hl [1, 2, 3] rfl) post hq
theorem kX5_divide (l : Launch) (h0 : Nat) (x1 : Int64) (x3 : Int64) (x5 : Int32) : Met l yX5_divide (Cond.code yX5_divide cX5_divide 20 (some .long) :: bw) rmX5_divide (va_Pc [.ref h0, .long x1, .long x3, .int x5] (fun U => ob_K RX5 h0 U)) (vp_Sl (fun r => r = fX5_divide x1 x3 x5)) 0 0 (fun _ => False) := by
  refine bx_ent (by decide) _ _ (Nat.le_of_ble_eq_true rfl) rfl ?_
  intro p e s m below meth c ls C hl hK0
  exact bX5_divide_0 x1 x3 x5 C hK0 hl _ rfl
