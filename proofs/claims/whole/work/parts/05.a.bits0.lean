abbrev rmX0_zeros : Room := { frames := 0, cells := 0, slots := 0, locals := 0 }
theorem mbX0_zeros : mb_S yX0_zeros cX0_zeros 5 (some .int) 1 := ⟨tw_static_yX0_zeros, tw_initialized_RX0, tw_code_yX0_zeros, by decide +kernel, by decide +kernel, by decide +kernel⟩
set_option maxRecDepth 20000 in
theorem bX0_zeros_87 (x2 : Int32) (x3 : Int64) {p : Program} {l : Launch} {e : Env} {s : State} {m : MethodId} {args : Array Value} {below : List Frame} {meth : Method} {c : Code} {ls : Array Slot} (C : bx_C p s m args meth c cX0_zeros 5 (some .int) RX0) (hl : lv_has ls 5 [(2, .int x2), (3, .long x3)]) (post : Int32 → Prop) (hq : post (fX0_zeros_87 x2 x3)) : W p l e rmX0_zeros s m args below meth c s.heap [] 0 0 (MQ below (vp_Si post) args s 0 0 (fun _ => False)) (F0 m 87 ls []) := by
  obtain ⟨hx, hb, hml, hr, hlocks, hown, hts⟩ := id C
  unfold fX0_zeros_87 at hq
  refine lv_lload_n hx hb dX0_zeros_87 rfl (lv_at hl 1 rfl) ?_
  refine lv_lconst (v := 0) hx hb dX0_zeros_88 (by decide) ?_
  refine bx_lc_ge (tgt := 97) hx hb dX0_zeros_89 dX0_zeros_90 (by decide) (fun c6 => ?_) (fun c6 => ?_)
  · rw [if_pos c6] at hq
    refine lv_iload_n hx hb dX0_zeros_97 rfl (lv_at hl 0 rfl) ?_
    refine lv_iconst (v := 1) hx hb dX0_zeros_98 (by decide) ?_
    refine lv_iadd hx hb dX0_zeros_99 ?_
    exact W.iret (v := (x2 + (1 : Int32))) hx hb hr (fun t ht hW => ⟨_, rfl, hq, ht⟩) (fun _ h => absurd h List.not_mem_nil) dX0_zeros_100
  · rw [if_neg c6] at hq
    refine lv_iload_n hx hb dX0_zeros_93 rfl (lv_at hl 0 rfl) ?_
    refine lv_goto (tgt := 100) hx hb dX0_zeros_94 (by decide) ?_
    exact W.iret (v := x2) hx hb hr (fun t ht hW => ⟨_, rfl, hq, ht⟩) (fun _ h => absurd h List.not_mem_nil) dX0_zeros_100
set_option maxRecDepth 20000 in
theorem bX0_zeros_71 (x2 : Int32) (x3 : Int64) {p : Program} {l : Launch} {e : Env} {s : State} {m : MethodId} {args : Array Value} {below : List Frame} {meth : Method} {c : Code} {ls : Array Slot} (C : bx_C p s m args meth c cX0_zeros 5 (some .int) RX0) (hl : lv_has ls 5 [(2, .int x2), (3, .long x3)]) (post : Int32 → Prop) (hq : post (fX0_zeros_71 x2 x3)) : W p l e rmX0_zeros s m args below meth c s.heap [] 0 0 (MQ below (vp_Si post) args s 0 0 (fun _ => False)) (F0 m 71 ls []) := by
  obtain ⟨hx, hb, hml, hr, hlocks, hown, hts⟩ := id C
  unfold fX0_zeros_71 at hq
  refine lv_lload_n hx hb dX0_zeros_71 rfl (lv_at hl 1 rfl) ?_
  refine lv_bipush (v := 62) hx hb dX0_zeros_72 (by decide) ?_
  refine bx_lushr hx hb dX0_zeros_74 ?_
  refine lv_lconst (v := 0) hx hb dX0_zeros_75 (by decide) ?_
  refine bx_lc_ne (tgt := 87) hx hb dX0_zeros_76 dX0_zeros_77 (by decide) (fun c5 => ?_) (fun c5 => ?_)
  · rw [if_neg c5] at hq
    exact bX0_zeros_87 x2 x3 C (lv_sub hl [0, 1] rfl) post hq
  · rw [if_pos c5] at hq
    refine lv_iinc (v := (x2 + 2)) (lv' := [(2, .int (x2 + 2)), (3, .long x3)]) hx hb dX0_zeros_80 hl (k := 0) rfl rfl (by decide) rfl (fun ls hl => ?_)
    refine lv_lload_n hx hb dX0_zeros_83 rfl (lv_at hl 1 rfl) ?_
    refine lv_iconst (v := 2) hx hb dX0_zeros_84 (by decide) ?_
    refine bx_lshl hx hb dX0_zeros_85 ?_
    refine lv_lstore_n (lv' := [(3, .long (jl_shl x3 (2 : Int32))), (2, .int (x2 + 2))]) hx hb dX0_zeros_86 rfl hl (by decide) rfl (fun ls hl => ?_)
    exact bX0_zeros_87 (x2 + 2) (jl_shl x3 (2 : Int32)) C (lv_sub hl [1, 0] rfl) post hq
set_option maxRecDepth 20000 in
theorem bX0_zeros_55 (x2 : Int32) (x3 : Int64) {p : Program} {l : Launch} {e : Env} {s : State} {m : MethodId} {args : Array Value} {below : List Frame} {meth : Method} {c : Code} {ls : Array Slot} (C : bx_C p s m args meth c cX0_zeros 5 (some .int) RX0) (hl : lv_has ls 5 [(2, .int x2), (3, .long x3)]) (post : Int32 → Prop) (hq : post (fX0_zeros_55 x2 x3)) : W p l e rmX0_zeros s m args below meth c s.heap [] 0 0 (MQ below (vp_Si post) args s 0 0 (fun _ => False)) (F0 m 55 ls []) := by
  obtain ⟨hx, hb, hml, hr, hlocks, hown, hts⟩ := id C
  unfold fX0_zeros_55 at hq
  refine lv_lload_n hx hb dX0_zeros_55 rfl (lv_at hl 1 rfl) ?_
  refine lv_bipush (v := 60) hx hb dX0_zeros_56 (by decide) ?_
  refine bx_lushr hx hb dX0_zeros_58 ?_
  refine lv_lconst (v := 0) hx hb dX0_zeros_59 (by decide) ?_
  refine bx_lc_ne (tgt := 71) hx hb dX0_zeros_60 dX0_zeros_61 (by decide) (fun c4 => ?_) (fun c4 => ?_)
  · rw [if_neg c4] at hq
    exact bX0_zeros_71 x2 x3 C (lv_sub hl [0, 1] rfl) post hq
  · rw [if_pos c4] at hq
    refine lv_iinc (v := (x2 + 4)) (lv' := [(2, .int (x2 + 4)), (3, .long x3)]) hx hb dX0_zeros_64 hl (k := 0) rfl rfl (by decide) rfl (fun ls hl => ?_)
    refine lv_lload_n hx hb dX0_zeros_67 rfl (lv_at hl 1 rfl) ?_
    refine lv_iconst (v := 4) hx hb dX0_zeros_68 (by decide) ?_
    refine bx_lshl hx hb dX0_zeros_69 ?_
    refine lv_lstore_n (lv' := [(3, .long (jl_shl x3 (4 : Int32))), (2, .int (x2 + 4))]) hx hb dX0_zeros_70 rfl hl (by decide) rfl (fun ls hl => ?_)
    exact bX0_zeros_71 (x2 + 4) (jl_shl x3 (4 : Int32)) C (lv_sub hl [1, 0] rfl) post hq
set_option maxRecDepth 20000 in
theorem bX0_zeros_38 (x2 : Int32) (x3 : Int64) {p : Program} {l : Launch} {e : Env} {s : State} {m : MethodId} {args : Array Value} {below : List Frame} {meth : Method} {c : Code} {ls : Array Slot} (C : bx_C p s m args meth c cX0_zeros 5 (some .int) RX0) (hl : lv_has ls 5 [(2, .int x2), (3, .long x3)]) (post : Int32 → Prop) (hq : post (fX0_zeros_38 x2 x3)) : W p l e rmX0_zeros s m args below meth c s.heap [] 0 0 (MQ below (vp_Si post) args s 0 0 (fun _ => False)) (F0 m 38 ls []) := by
  obtain ⟨hx, hb, hml, hr, hlocks, hown, hts⟩ := id C
  unfold fX0_zeros_38 at hq
  refine lv_lload_n hx hb dX0_zeros_38 rfl (lv_at hl 1 rfl) ?_
  refine lv_bipush (v := 56) hx hb dX0_zeros_39 (by decide) ?_
  refine bx_lushr hx hb dX0_zeros_41 ?_
  refine lv_lconst (v := 0) hx hb dX0_zeros_42 (by decide) ?_
  refine bx_lc_ne (tgt := 55) hx hb dX0_zeros_43 dX0_zeros_44 (by decide) (fun c3 => ?_) (fun c3 => ?_)
  · rw [if_neg c3] at hq
    exact bX0_zeros_55 x2 x3 C (lv_sub hl [0, 1] rfl) post hq
  · rw [if_pos c3] at hq
    refine lv_iinc (v := (x2 + 8)) (lv' := [(2, .int (x2 + 8)), (3, .long x3)]) hx hb dX0_zeros_47 hl (k := 0) rfl rfl (by decide) rfl (fun ls hl => ?_)
    refine lv_lload_n hx hb dX0_zeros_50 rfl (lv_at hl 1 rfl) ?_
    refine lv_bipush (v := 8) hx hb dX0_zeros_51 (by decide) ?_
    refine bx_lshl hx hb dX0_zeros_53 ?_
    refine lv_lstore_n (lv' := [(3, .long (jl_shl x3 (8 : Int32))), (2, .int (x2 + 8))]) hx hb dX0_zeros_54 rfl hl (by decide) rfl (fun ls hl => ?_)
    exact bX0_zeros_55 (x2 + 8) (jl_shl x3 (8 : Int32)) C (lv_sub hl [1, 0] rfl) post hq
set_option maxRecDepth 20000 in
theorem bX0_zeros_21 (x2 : Int32) (x3 : Int64) {p : Program} {l : Launch} {e : Env} {s : State} {m : MethodId} {args : Array Value} {below : List Frame} {meth : Method} {c : Code} {ls : Array Slot} (C : bx_C p s m args meth c cX0_zeros 5 (some .int) RX0) (hl : lv_has ls 5 [(2, .int x2), (3, .long x3)]) (post : Int32 → Prop) (hq : post (fX0_zeros_21 x2 x3)) : W p l e rmX0_zeros s m args below meth c s.heap [] 0 0 (MQ below (vp_Si post) args s 0 0 (fun _ => False)) (F0 m 21 ls []) := by
  obtain ⟨hx, hb, hml, hr, hlocks, hown, hts⟩ := id C
  unfold fX0_zeros_21 at hq
  refine lv_lload_n hx hb dX0_zeros_21 rfl (lv_at hl 1 rfl) ?_
  refine lv_bipush (v := 48) hx hb dX0_zeros_22 (by decide) ?_
  refine bx_lushr hx hb dX0_zeros_24 ?_
  refine lv_lconst (v := 0) hx hb dX0_zeros_25 (by decide) ?_
  refine bx_lc_ne (tgt := 38) hx hb dX0_zeros_26 dX0_zeros_27 (by decide) (fun c2 => ?_) (fun c2 => ?_)
  · rw [if_neg c2] at hq
    exact bX0_zeros_38 x2 x3 C (lv_sub hl [0, 1] rfl) post hq
  · rw [if_pos c2] at hq
    refine lv_iinc (v := (x2 + 16)) (lv' := [(2, .int (x2 + 16)), (3, .long x3)]) hx hb dX0_zeros_30 hl (k := 0) rfl rfl (by decide) rfl (fun ls hl => ?_)
    refine lv_lload_n hx hb dX0_zeros_33 rfl (lv_at hl 1 rfl) ?_
    refine lv_bipush (v := 16) hx hb dX0_zeros_34 (by decide) ?_
    refine bx_lshl hx hb dX0_zeros_36 ?_
    refine lv_lstore_n (lv' := [(3, .long (jl_shl x3 (16 : Int32))), (2, .int (x2 + 16))]) hx hb dX0_zeros_37 rfl hl (by decide) rfl (fun ls hl => ?_)
    exact bX0_zeros_38 (x2 + 16) (jl_shl x3 (16 : Int32)) C (lv_sub hl [1, 0] rfl) post hq
set_option maxRecDepth 20000 in
theorem bX0_zeros_0 (x0 : Int64) {p : Program} {l : Launch} {e : Env} {s : State} {m : MethodId} {args : Array Value} {below : List Frame} {meth : Method} {c : Code} {ls : Array Slot} (C : bx_C p s m args meth c cX0_zeros 5 (some .int) RX0) (hl : lv_has ls 5 [(0, .long x0)]) (post : Int32 → Prop) (hq : post (fX0_zeros x0)) : W p l e rmX0_zeros s m args below meth c s.heap [] 0 0 (MQ below (vp_Si post) args s 0 0 (fun _ => False)) (F0 m 0 ls []) := by
  obtain ⟨hx, hb, hml, hr, hlocks, hown, hts⟩ := id C
  unfold fX0_zeros at hq
  refine lv_iconst (v := 0) hx hb dX0_zeros_0 (by decide) ?_
  refine lv_istore_n (lv' := [(2, .int (0 : Int32)), (0, .long x0)]) hx hb dX0_zeros_1 rfl hl (by decide) rfl (fun ls hl => ?_)
  refine lv_lload_n hx hb dX0_zeros_2 rfl (lv_at hl 1 rfl) ?_
  refine lv_lstore_n (lv' := [(3, .long x0), (2, .int (0 : Int32)), (0, .long x0)]) hx hb dX0_zeros_3 rfl hl (by decide) rfl (fun ls hl => ?_)
  refine lv_lload_n hx hb dX0_zeros_4 rfl (lv_at hl 0 rfl) ?_
  refine lv_bipush (v := 32) hx hb dX0_zeros_5 (by decide) ?_
  refine bx_lushr hx hb dX0_zeros_7 ?_
  refine lv_lconst (v := 0) hx hb dX0_zeros_8 (by decide) ?_
  refine bx_lc_ne (tgt := 21) hx hb dX0_zeros_9 dX0_zeros_10 (by decide) (fun c1 => ?_) (fun c1 => ?_)
  · rw [if_neg c1] at hq
    exact bX0_zeros_21 (0 : Int32) x0 C (lv_sub hl [1, 0] rfl) post hq
  · rw [if_pos c1] at hq
    refine lv_iinc (v := ((0 : Int32) + 32)) (lv' := [(2, .int ((0 : Int32) + 32)), (3, .long x0), (0, .long x0)]) hx hb dX0_zeros_13 hl (k := 1) rfl rfl (by decide) rfl (fun ls hl => ?_)
    refine lv_lload_n hx hb dX0_zeros_16 rfl (lv_at hl 1 rfl) ?_
    refine lv_bipush (v := 32) hx hb dX0_zeros_17 (by decide) ?_
    refine bx_lshl hx hb dX0_zeros_19 ?_
    refine lv_lstore_n (lv' := [(3, .long (jl_shl x0 (32 : Int32))), (2, .int ((0 : Int32) + 32)), (0, .long x0)]) hx hb dX0_zeros_20 rfl hl (by decide) rfl (fun ls hl => ?_)
    exact bX0_zeros_21 ((0 : Int32) + 32) (jl_shl x0 (32 : Int32)) C (lv_sub hl [1, 0] rfl) post hq
theorem kX0_zeros (l : Launch) (x0 : Int64) : Met l yX0_zeros (Cond.code yX0_zeros cX0_zeros 5 (some .int) :: bw) rmX0_zeros (va_Pc [.long x0] (fun _ => True)) (vp_Si (fun r => r = fX0_zeros x0)) 0 0 (fun _ => False) := by
  refine bx_ent (by decide) _ _ (Nat.le_of_ble_eq_true rfl) rfl ?_
  intro p e s m below meth c ls C hl _
  exact bX0_zeros_0 x0 C hl _ rfl
abbrev rmX0_isBelow : Room := { frames := 0, cells := 0, slots := 0, locals := 0 }
theorem mbX0_isBelow : mb_S yX0_isBelow cX0_isBelow 4 (some .boolean) 2 := ⟨tw_static_yX0_isBelow, tw_initialized_RX0, tw_code_yX0_isBelow, by decide +kernel, by decide +kernel, by decide +kernel⟩
set_option maxRecDepth 20000 in
theorem bX0_isBelow_0 (x0 : Int64) (x2 : Int64) {p : Program} {l : Launch} {e : Env} {s : State} {m : MethodId} {args : Array Value} {below : List Frame} {meth : Method} {c : Code} {ls : Array Slot} (C : bx_C p s m args meth c cX0_isBelow 4 (some .boolean) RX0) (hl : lv_has ls 4 [(0, .long x0), (2, .long x2)]) (post : Int32 → Prop) (hq : post (fX0_isBelow x0 x2)) : W p l e rmX0_isBelow s m args below meth c s.heap [] 0 0 (MQ below (vp_Si post) args s 0 0 (fun _ => False)) (F0 m 0 ls []) := by
  obtain ⟨hx, hb, hml, hr, hlocks, hown, hts⟩ := id C
  unfold fX0_isBelow at hq
  refine lv_lload_n hx hb dX0_isBelow_0 rfl (lv_at hl 0 rfl) ?_
  refine lv_ldc2 (v := -9223372036854775808) hx hb hown (hts _ tw_constantLong_RX0_11_9223372036854775808) dX0_isBelow_1 ?_
  refine lv_ladd hx hb dX0_isBelow_4 ?_
  refine lv_lload_n hx hb dX0_isBelow_5 rfl (lv_at hl 1 rfl) ?_
  refine lv_ldc2 (v := -9223372036854775808) hx hb hown (hts _ tw_constantLong_RX0_11_9223372036854775808) dX0_isBelow_6 ?_
  refine lv_ladd hx hb dX0_isBelow_9 ?_
  refine bx_lc_ge (tgt := 18) hx hb dX0_isBelow_10 dX0_isBelow_11 (by decide) (fun c1 => ?_) (fun c1 => ?_)
  · rw [if_pos c1] at hq
    refine lv_iconst (v := 0) hx hb dX0_isBelow_18 (by decide) ?_
    exact W.zret (v := (0 : Int32)) hx hb hr (ji_z_narrow (by repeat' (first | with_reducible exact ji_z0 | with_reducible exact ji_z1 | with_reducible refine ji_z_ite ?_ ?_ | with_reducible assumption))) (fun t ht hW => ⟨_, rfl, hq, ht⟩) (fun _ h => absurd h List.not_mem_nil) dX0_isBelow_19
  · rw [if_neg c1] at hq
    refine lv_iconst (v := 1) hx hb dX0_isBelow_14 (by decide) ?_
    refine lv_goto (tgt := 19) hx hb dX0_isBelow_15 (by decide) ?_
    exact W.zret (v := (1 : Int32)) hx hb hr (ji_z_narrow (by repeat' (first | with_reducible exact ji_z0 | with_reducible exact ji_z1 | with_reducible refine ji_z_ite ?_ ?_ | with_reducible assumption))) (fun t ht hW => ⟨_, rfl, hq, ht⟩) (fun _ h => absurd h List.not_mem_nil) dX0_isBelow_19
theorem kX0_isBelow (l : Launch) (x0 : Int64) (x2 : Int64) : Met l yX0_isBelow (Cond.code yX0_isBelow cX0_isBelow 4 (some .boolean) :: bw) rmX0_isBelow (va_Pc [.long x0, .long x2] (fun _ => True)) (vp_Si (fun r => r = fX0_isBelow x0 x2)) 0 0 (fun _ => False) := by
  refine bx_ent (by decide) _ _ (Nat.le_of_ble_eq_true rfl) rfl ?_
  intro p e s m below meth c ls C hl _
  exact bX0_isBelow_0 x0 x2 C hl _ rfl
abbrev rmX0_upperProduct : Room := { frames := 0, cells := 0, slots := 0, locals := 0 }
theorem mbX0_upperProduct : mb_S yX0_upperProduct cX0_upperProduct 16 (some .long) 2 := ⟨tw_static_yX0_upperProduct, tw_initialized_RX0, tw_code_yX0_upperProduct, by decide +kernel, by decide +kernel, by decide +kernel⟩
set_option maxRecDepth 20000 in
theorem bX0_upperProduct_40 (x4 : Int64) (x6 : Int64) (x8 : Int64) (s0 : Int64) {p : Program} {l : Launch} {e : Env} {s : State} {m : MethodId} {args : Array Value} {below : List Frame} {meth : Method} {c : Code} {ls : Array Slot} (C : bx_C p s m args meth c cX0_upperProduct 16 (some .long) RX0) (hl : lv_has ls 16 [(4, .long x4), (6, .long x6), (8, .long x8)]) (post : Int64 → Prop) (hq : post (fX0_upperProduct_40 x4 x6 x8 s0)) : W p l e rmX0_upperProduct s m args below meth c s.heap [] 0 0 (MQ below (vp_Sl post) args s 0 0 (fun _ => False)) (F0 m 40 ls [.long s0]) := by
  obtain ⟨hx, hb, hml, hr, hlocks, hown, hts⟩ := id C
  unfold fX0_upperProduct_40 at hq
  refine lv_lstore (lv' := [(12, .long s0), (4, .long x4), (6, .long x6), (8, .long x8)]) hx hb dX0_upperProduct_40 hl (by decide) rfl (fun ls hl => ?_)
  refine lv_lload hx hb dX0_upperProduct_42 (lv_at hl 2 rfl) ?_
  refine lv_lload hx hb dX0_upperProduct_44 (lv_at hl 3 rfl) ?_
  refine lv_lmul hx hb dX0_upperProduct_46 ?_
  refine lv_lload hx hb dX0_upperProduct_47 (lv_at hl 0 rfl) ?_
  refine lv_ldc2 (v := 4294967295) hx hb hown (hts _ tw_constantLong_RX0_13_4294967295) dX0_upperProduct_49 ?_
  refine lv_land hx hb dX0_upperProduct_52 ?_
  refine lv_ladd hx hb dX0_upperProduct_53 ?_
  refine lv_lstore (lv' := [(14, .long ((x6 * x8) + (s0 &&& (4294967295 : Int64)))), (12, .long s0), (4, .long x4), (6, .long x6), (8, .long x8)]) hx hb dX0_upperProduct_54 hl (by decide) rfl (fun ls hl => ?_)
  refine lv_lload hx hb dX0_upperProduct_56 (lv_at hl 2 rfl) ?_
  refine lv_lload hx hb dX0_upperProduct_58 (lv_at hl 4 rfl) ?_
  refine lv_lmul hx hb dX0_upperProduct_60 ?_
  refine lv_lload hx hb dX0_upperProduct_61 (lv_at hl 1 rfl) ?_
  refine lv_bipush (v := 32) hx hb dX0_upperProduct_63 (by decide) ?_
  refine bx_lushr hx hb dX0_upperProduct_65 ?_
  refine lv_ladd hx hb dX0_upperProduct_66 ?_
  refine lv_lload hx hb dX0_upperProduct_67 (lv_at hl 0 rfl) ?_
  refine lv_bipush (v := 32) hx hb dX0_upperProduct_69 (by decide) ?_
  refine bx_lushr hx hb dX0_upperProduct_71 ?_
  refine lv_ladd hx hb dX0_upperProduct_72 ?_
  exact W.lret (v := (((x4 * x8) + (jl_ushr s0 (32 : Int32))) + (jl_ushr ((x6 * x8) + (s0 &&& (4294967295 : Int64))) (32 : Int32)))) hx hb hr (fun t ht hW => ⟨_, rfl, hq, ht⟩) (fun _ h => absurd h List.not_mem_nil) dX0_upperProduct_73
set_option maxRecDepth 20000 in
theorem bX0_upperProduct_0 (x0 : Int64) (x2 : Int64) {p : Program} {l : Launch} {e : Env} {s : State} {m : MethodId} {args : Array Value} {below : List Frame} {meth : Method} {c : Code} {ls : Array Slot} (C : bx_C p s m args meth c cX0_upperProduct 16 (some .long) RX0) (hl : lv_has ls 16 [(0, .long x0), (2, .long x2)]) (post : Int64 → Prop) (hq : post (fX0_upperProduct x0 x2)) : W p l e rmX0_upperProduct s m args below meth c s.heap [] 0 0 (MQ below (vp_Sl post) args s 0 0 (fun _ => False)) (F0 m 0 ls []) := by
  obtain ⟨hx, hb, hml, hr, hlocks, hown, hts⟩ := id C
  unfold fX0_upperProduct at hq
  refine lv_lload_n hx hb dX0_upperProduct_0 rfl (lv_at hl 0 rfl) ?_
  refine lv_bipush (v := 32) hx hb dX0_upperProduct_1 (by decide) ?_
  refine bx_lushr hx hb dX0_upperProduct_3 ?_
  refine lv_lstore (lv' := [(4, .long (jl_ushr x0 (32 : Int32))), (0, .long x0), (2, .long x2)]) hx hb dX0_upperProduct_4 hl (by decide) rfl (fun ls hl => ?_)
  refine lv_lload_n hx hb dX0_upperProduct_6 rfl (lv_at hl 1 rfl) ?_
  refine lv_ldc2 (v := 4294967295) hx hb hown (hts _ tw_constantLong_RX0_13_4294967295) dX0_upperProduct_7 ?_
  refine lv_land hx hb dX0_upperProduct_10 ?_
  refine lv_lstore (lv' := [(6, .long (x0 &&& (4294967295 : Int64))), (4, .long (jl_ushr x0 (32 : Int32))), (0, .long x0), (2, .long x2)]) hx hb dX0_upperProduct_11 hl (by decide) rfl (fun ls hl => ?_)
  refine lv_lload_n hx hb dX0_upperProduct_13 rfl (lv_at hl 3 rfl) ?_
  refine lv_bipush (v := 32) hx hb dX0_upperProduct_14 (by decide) ?_
  refine bx_lushr hx hb dX0_upperProduct_16 ?_
  refine lv_lstore (lv' := [(8, .long (jl_ushr x2 (32 : Int32))), (6, .long (x0 &&& (4294967295 : Int64))), (4, .long (jl_ushr x0 (32 : Int32))), (0, .long x0), (2, .long x2)]) hx hb dX0_upperProduct_17 hl (by decide) rfl (fun ls hl => ?_)
  refine lv_lload_n hx hb dX0_upperProduct_19 rfl (lv_at hl 4 rfl) ?_
  refine lv_ldc2 (v := 4294967295) hx hb hown (hts _ tw_constantLong_RX0_13_4294967295) dX0_upperProduct_20 ?_
  refine lv_land hx hb dX0_upperProduct_23 ?_
  refine lv_lstore (lv' := [(10, .long (x2 &&& (4294967295 : Int64))), (8, .long (jl_ushr x2 (32 : Int32))), (6, .long (x0 &&& (4294967295 : Int64))), (4, .long (jl_ushr x0 (32 : Int32))), (0, .long x0), (2, .long x2)]) hx hb dX0_upperProduct_24 hl (by decide) rfl (fun ls hl => ?_)
  refine lv_lload hx hb dX0_upperProduct_26 (lv_at hl 3 rfl) ?_
  refine lv_lload hx hb dX0_upperProduct_28 (lv_at hl 0 rfl) ?_
  refine lv_lmul hx hb dX0_upperProduct_30 ?_
  refine lv_lload hx hb dX0_upperProduct_31 (lv_at hl 2 rfl) ?_
  refine lv_lload hx hb dX0_upperProduct_33 (lv_at hl 0 rfl) ?_
  refine lv_lmul hx hb dX0_upperProduct_35 ?_
  refine lv_bipush (v := 32) hx hb dX0_upperProduct_36 (by decide) ?_
  refine bx_lushr hx hb dX0_upperProduct_38 ?_
  refine lv_ladd hx hb dX0_upperProduct_39 ?_
  exact bX0_upperProduct_40 (jl_ushr x0 (32 : Int32)) (x0 &&& (4294967295 : Int64)) (jl_ushr x2 (32 : Int32)) (((jl_ushr x0 (32 : Int32)) * (x2 &&& (4294967295 : Int64))) + (jl_ushr ((x0 &&& (4294967295 : Int64)) * (x2 &&& (4294967295 : Int64))) (32 : Int32))) C (lv_sub hl [3, 2, 1] rfl) post hq
theorem kX0_upperProduct (l : Launch) (x0 : Int64) (x2 : Int64) : Met l yX0_upperProduct (Cond.code yX0_upperProduct cX0_upperProduct 16 (some .long) :: bw) rmX0_upperProduct (va_Pc [.long x0, .long x2] (fun _ => True)) (vp_Sl (fun r => r = fX0_upperProduct x0 x2)) 0 0 (fun _ => False) := by
  refine bx_ent (by decide) _ _ (Nat.le_of_ble_eq_true rfl) rfl ?_
  intro p e s m below meth c ls C hl _
  exact bX0_upperProduct_0 x0 x2 C hl _ rfl
abbrev rmX0_loweredLow : Room := { frames := 0, cells := 0, slots := 0, locals := 0 }
theorem mbX0_loweredLow : mb_S yX0_loweredLow cX0_loweredLow 5 (some .long) 3 := ⟨tw_static_yX0_loweredLow, tw_initialized_RX0, tw_code_yX0_loweredLow, by decide +kernel, by decide +kernel, by decide +kernel⟩
set_option maxRecDepth 20000 in
theorem bX0_loweredLow_0 (x0 : Int64) (x2 : Int64) (x4 : Int32) {p : Program} {l : Launch} {e : Env} {s : State} {m : MethodId} {args : Array Value} {below : List Frame} {meth : Method} {c : Code} {ls : Array Slot} (C : bx_C p s m args meth c cX0_loweredLow 5 (some .long) RX0) (hl : lv_has ls 5 [(0, .long x0), (2, .long x2), (4, .int x4)]) (post : Int64 → Prop) (hq : post (fX0_loweredLow x0 x2 x4)) : W p l e rmX0_loweredLow s m args below meth c s.heap [] 0 0 (MQ below (vp_Sl post) args s 0 0 (fun _ => False)) (F0 m 0 ls []) := by
  obtain ⟨hx, hb, hml, hr, hlocks, hown, hts⟩ := id C
  unfold fX0_loweredLow at hq
  refine lv_iload hx hb dX0_loweredLow_0 (lv_at hl 2 rfl) ?_
  refine lv_if_ne (tgt := 7) hx hb dX0_loweredLow_2 (by decide) (fun c1 => ?_) (fun c1 => ?_)
  · rw [if_neg c1] at hq
    refine lv_iload hx hb dX0_loweredLow_7 (lv_at hl 2 rfl) ?_
    refine lv_bipush (v := 64) hx hb dX0_loweredLow_9 (by decide) ?_
    refine lv_icmp_ge (tgt := 46) hx hb dX0_loweredLow_11 (by decide) (fun c2 => ?_) (fun c2 => ?_)
    · rw [if_pos c2] at hq
      refine lv_iload hx hb dX0_loweredLow_46 (lv_at hl 2 rfl) ?_
      refine lv_bipush (v := 64) hx hb dX0_loweredLow_48 (by decide) ?_
      refine lv_icmp_ne (tgt := 68) hx hb dX0_loweredLow_50 (by decide) (fun c3 => ?_) (fun c3 => ?_)
      · rw [if_neg c3] at hq
        refine lv_iload hx hb dX0_loweredLow_68 (lv_at hl 2 rfl) ?_
        refine lv_sipush (v := 128) hx hb dX0_loweredLow_70 (by decide) ?_
        refine lv_icmp_ge (tgt := 106) hx hb dX0_loweredLow_73 (by decide) (fun c4 => ?_) (fun c4 => ?_)
        · rw [if_pos c4] at hq
          refine lv_lload_n hx hb dX0_loweredLow_106 rfl (lv_at hl 0 rfl) ?_
          refine lv_lload_n hx hb dX0_loweredLow_107 rfl (lv_at hl 1 rfl) ?_
          refine lv_lor hx hb dX0_loweredLow_108 ?_
          refine lv_lconst (v := 0) hx hb dX0_loweredLow_109 (by decide) ?_
          refine bx_lc_eq (tgt := 118) hx hb dX0_loweredLow_110 dX0_loweredLow_111 (by decide) (fun c5 => ?_) (fun c5 => ?_)
          · rw [if_pos c5] at hq
            refine lv_lconst (v := 0) hx hb dX0_loweredLow_118 (by decide) ?_
            exact W.lret (v := (0 : Int64)) hx hb hr (fun t ht hW => ⟨_, rfl, hq, ht⟩) (fun _ h => absurd h List.not_mem_nil) dX0_loweredLow_119
          · rw [if_neg c5] at hq
            refine lv_lconst (v := 1) hx hb dX0_loweredLow_114 (by decide) ?_
            refine lv_goto (tgt := 119) hx hb dX0_loweredLow_115 (by decide) ?_
            exact W.lret (v := (1 : Int64)) hx hb hr (fun t ht hW => ⟨_, rfl, hq, ht⟩) (fun _ h => absurd h List.not_mem_nil) dX0_loweredLow_119
        · rw [if_neg c4] at hq
          refine lv_lload_n hx hb dX0_loweredLow_76 rfl (lv_at hl 0 rfl) ?_
          refine lv_iload hx hb dX0_loweredLow_77 (lv_at hl 2 rfl) ?_
          refine lv_bipush (v := 64) hx hb dX0_loweredLow_79 (by decide) ?_
          refine lv_isub hx hb dX0_loweredLow_81 ?_
          refine bx_lushr hx hb dX0_loweredLow_82 ?_
          refine lv_lload_n hx hb dX0_loweredLow_83 rfl (lv_at hl 0 rfl) ?_
          refine lv_sipush (v := 128) hx hb dX0_loweredLow_84 (by decide) ?_
          refine lv_iload hx hb dX0_loweredLow_87 (lv_at hl 2 rfl) ?_
          refine lv_isub hx hb dX0_loweredLow_89 ?_
          refine bx_lshl hx hb dX0_loweredLow_90 ?_
          refine lv_lload_n hx hb dX0_loweredLow_91 rfl (lv_at hl 1 rfl) ?_
          refine lv_lor hx hb dX0_loweredLow_92 ?_
          refine lv_lconst (v := 0) hx hb dX0_loweredLow_93 (by decide) ?_
          refine bx_lc_eq (tgt := 102) hx hb dX0_loweredLow_94 dX0_loweredLow_95 (by decide) (fun c6 => ?_) (fun c6 => ?_)
          · rw [if_pos c6] at hq
            refine lv_iconst (v := 0) hx hb dX0_loweredLow_102 (by decide) ?_
            refine bx_i2l hx hb dX0_loweredLow_103 ?_
            refine lv_lor hx hb dX0_loweredLow_104 ?_
            exact W.lret (v := ((jl_ushr x0 (x4 - (64 : Int32))) ||| (0 : Int32).toInt64)) hx hb hr (fun t ht hW => ⟨_, rfl, hq, ht⟩) (fun _ h => absurd h List.not_mem_nil) dX0_loweredLow_105
          · rw [if_neg c6] at hq
            refine lv_iconst (v := 1) hx hb dX0_loweredLow_98 (by decide) ?_
            refine lv_goto (tgt := 103) hx hb dX0_loweredLow_99 (by decide) ?_
            refine bx_i2l hx hb dX0_loweredLow_103 ?_
            refine lv_lor hx hb dX0_loweredLow_104 ?_
            exact W.lret (v := ((jl_ushr x0 (x4 - (64 : Int32))) ||| (1 : Int32).toInt64)) hx hb hr (fun t ht hW => ⟨_, rfl, hq, ht⟩) (fun _ h => absurd h List.not_mem_nil) dX0_loweredLow_105
      · rw [if_pos c3] at hq
        refine lv_lload_n hx hb dX0_loweredLow_53 rfl (lv_at hl 0 rfl) ?_
        refine lv_lload_n hx hb dX0_loweredLow_54 rfl (lv_at hl 1 rfl) ?_
        refine lv_lconst (v := 0) hx hb dX0_loweredLow_55 (by decide) ?_
        refine bx_lc_eq (tgt := 64) hx hb dX0_loweredLow_56 dX0_loweredLow_57 (by decide) (fun c7 => ?_) (fun c7 => ?_)
        · rw [if_pos c7] at hq
          refine lv_iconst (v := 0) hx hb dX0_loweredLow_64 (by decide) ?_
          refine bx_i2l hx hb dX0_loweredLow_65 ?_
          refine lv_lor hx hb dX0_loweredLow_66 ?_
          exact W.lret (v := (x0 ||| (0 : Int32).toInt64)) hx hb hr (fun t ht hW => ⟨_, rfl, hq, ht⟩) (fun _ h => absurd h List.not_mem_nil) dX0_loweredLow_67
        · rw [if_neg c7] at hq
          refine lv_iconst (v := 1) hx hb dX0_loweredLow_60 (by decide) ?_
          refine lv_goto (tgt := 65) hx hb dX0_loweredLow_61 (by decide) ?_
          refine bx_i2l hx hb dX0_loweredLow_65 ?_
          refine lv_lor hx hb dX0_loweredLow_66 ?_
          exact W.lret (v := (x0 ||| (1 : Int32).toInt64)) hx hb hr (fun t ht hW => ⟨_, rfl, hq, ht⟩) (fun _ h => absurd h List.not_mem_nil) dX0_loweredLow_67
    · rw [if_neg c2] at hq
      refine lv_lload_n hx hb dX0_loweredLow_14 rfl (lv_at hl 0 rfl) ?_
      refine lv_bipush (v := 64) hx hb dX0_loweredLow_15 (by decide) ?_
      refine lv_iload hx hb dX0_loweredLow_17 (lv_at hl 2 rfl) ?_
      refine lv_isub hx hb dX0_loweredLow_19 ?_
      refine bx_lshl hx hb dX0_loweredLow_20 ?_
      refine lv_lload_n hx hb dX0_loweredLow_21 rfl (lv_at hl 1 rfl) ?_
      refine lv_iload hx hb dX0_loweredLow_22 (lv_at hl 2 rfl) ?_
      refine bx_lushr hx hb dX0_loweredLow_24 ?_
      refine lv_lor hx hb dX0_loweredLow_25 ?_
      refine lv_lload_n hx hb dX0_loweredLow_26 rfl (lv_at hl 1 rfl) ?_
      refine lv_bipush (v := 64) hx hb dX0_loweredLow_27 (by decide) ?_
      refine lv_iload hx hb dX0_loweredLow_29 (lv_at hl 2 rfl) ?_
      refine lv_isub hx hb dX0_loweredLow_31 ?_
      refine bx_lshl hx hb dX0_loweredLow_32 ?_
      refine lv_lconst (v := 0) hx hb dX0_loweredLow_33 (by decide) ?_
      refine bx_lc_eq (tgt := 42) hx hb dX0_loweredLow_34 dX0_loweredLow_35 (by decide) (fun c8 => ?_) (fun c8 => ?_)
      · rw [if_pos c8] at hq
        refine lv_iconst (v := 0) hx hb dX0_loweredLow_42 (by decide) ?_
        refine bx_i2l hx hb dX0_loweredLow_43 ?_
        refine lv_lor hx hb dX0_loweredLow_44 ?_
        exact W.lret (v := (((jl_shl x0 ((64 : Int32) - x4)) ||| (jl_ushr x2 x4)) ||| (0 : Int32).toInt64)) hx hb hr (fun t ht hW => ⟨_, rfl, hq, ht⟩) (fun _ h => absurd h List.not_mem_nil) dX0_loweredLow_45
      · rw [if_neg c8] at hq
        refine lv_iconst (v := 1) hx hb dX0_loweredLow_38 (by decide) ?_
        refine lv_goto (tgt := 43) hx hb dX0_loweredLow_39 (by decide) ?_
        refine bx_i2l hx hb dX0_loweredLow_43 ?_
        refine lv_lor hx hb dX0_loweredLow_44 ?_
        exact W.lret (v := (((jl_shl x0 ((64 : Int32) - x4)) ||| (jl_ushr x2 x4)) ||| (1 : Int32).toInt64)) hx hb hr (fun t ht hW => ⟨_, rfl, hq, ht⟩) (fun _ h => absurd h List.not_mem_nil) dX0_loweredLow_45
  · rw [if_pos c1] at hq
    refine lv_lload_n hx hb dX0_loweredLow_5 rfl (lv_at hl 1 rfl) ?_
    exact W.lret (v := x2) hx hb hr (fun t ht hW => ⟨_, rfl, hq, ht⟩) (fun _ h => absurd h List.not_mem_nil) dX0_loweredLow_6
theorem kX0_loweredLow (l : Launch) (x0 : Int64) (x2 : Int64) (x4 : Int32) : Met l yX0_loweredLow (Cond.code yX0_loweredLow cX0_loweredLow 5 (some .long) :: bw) rmX0_loweredLow (va_Pc [.long x0, .long x2, .int x4] (fun _ => True)) (vp_Sl (fun r => r = fX0_loweredLow x0 x2 x4)) 0 0 (fun _ => False) := by
  refine bx_ent (by decide) _ _ (Nat.le_of_ble_eq_true rfl) rfl ?_
  intro p e s m below meth c ls C hl _
  exact bX0_loweredLow_0 x0 x2 x4 C hl _ rfl
abbrev rmX0_lowered : Room := { frames := 1, cells := 0, slots := 0, locals := 24 }
theorem mbX0_lowered : mb_S yX0_lowered cX0_lowered 3 (some .long) 2 := ⟨tw_static_yX0_lowered, tw_initialized_RX0, tw_code_yX0_lowered, by decide +kernel, by decide +kernel, by decide +kernel⟩
set_option maxRecDepth 20000 in
theorem bX0_lowered_0 (x0 : Int64) (x2 : Int32) {p : Program} {l : Launch} {e : Env} {s : State} {m : MethodId} {args : Array Value} {below : List Frame} {meth : Method} {c : Code} {ls : Array Slot} (C : bx_C p s m args meth c cX0_lowered 3 (some .long) RX0) (hl : lv_has ls 3 [(0, .long x0), (2, .int x2)]) (post : Int64 → Prop) (hq : post (fX0_lowered x0 x2)) : W p l e rmX0_lowered s m args below meth c s.heap [] 0 0 (MQ below (vp_Sl post) args s 0 0 (fun _ => False)) (F0 m 0 ls []) := by
  obtain ⟨hx, hb, hml, hr, hlocks, hown, hts⟩ := id C
  unfold fX0_lowered at hq
  refine lv_lconst (v := 0) hx hb dX0_lowered_0 (by decide) ?_
  refine lv_lload_n hx hb dX0_lowered_1 rfl (lv_at hl 0 rfl) ?_
  refine lv_iload_n hx hb dX0_lowered_2 rfl (lv_at hl 1 rfl) ?_
  refine bx_sl C (kX0_loweredLow l (0 : Int64) x0 x2) bx_B_true (fun _ _ _ => trivial) tw_methodLink_RX0_15_yX0_loweredLow mbX0_loweredLow rfl ⟨rfl, rfl⟩ ⟨Nat.le_of_ble_eq_true rfl, Nat.le_of_ble_eq_true rfl⟩ ⟨Nat.zero_le _, Nat.zero_le _⟩ hl.1 rfl (Nat.le_of_ble_eq_true rfl) dX0_lowered_3 ?_
  exact W.lret (v := (fX0_loweredLow (0 : Int64) x0 x2)) hx hb hr (fun t ht hW => ⟨_, rfl, hq, ht⟩) (fun _ h => absurd h List.not_mem_nil) dX0_lowered_6
theorem kX0_lowered (l : Launch) (x0 : Int64) (x2 : Int32) : Met l yX0_lowered (Cond.code yX0_lowered cX0_lowered 3 (some .long) :: bw) rmX0_lowered (va_Pc [.long x0, .int x2] (fun _ => True)) (vp_Sl (fun r => r = fX0_lowered x0 x2)) 0 0 (fun _ => False) := by
  refine bx_ent (by decide) _ _ (Nat.le_of_ble_eq_true rfl) rfl ?_
  intro p e s m below meth c ls C hl _
  exact bX0_lowered_0 x0 x2 C hl _ rfl
abbrev rmX0_loweredHigh : Room := { frames := 0, cells := 0, slots := 0, locals := 0 }
theorem mbX0_loweredHigh : mb_S yX0_loweredHigh cX0_loweredHigh 3 (some .long) 2 := ⟨tw_static_yX0_loweredHigh, tw_initialized_RX0, tw_code_yX0_loweredHigh, by decide +kernel, by decide +kernel, by decide +kernel⟩
set_option maxRecDepth 20000 in
theorem bX0_loweredHigh_0 (x0 : Int64) (x2 : Int32) {p : Program} {l : Launch} {e : Env} {s : State} {m : MethodId} {args : Array Value} {below : List Frame} {meth : Method} {c : Code} {ls : Array Slot} (C : bx_C p s m args meth c cX0_loweredHigh 3 (some .long) RX0) (hl : lv_has ls 3 [(0, .long x0), (2, .int x2)]) (post : Int64 → Prop) (hq : post (fX0_loweredHigh x0 x2)) : W p l e rmX0_loweredHigh s m args below meth c s.heap [] 0 0 (MQ below (vp_Sl post) args s 0 0 (fun _ => False)) (F0 m 0 ls []) := by
  obtain ⟨hx, hb, hml, hr, hlocks, hown, hts⟩ := id C
  unfold fX0_loweredHigh at hq
  refine lv_iload_n hx hb dX0_loweredHigh_0 rfl (lv_at hl 1 rfl) ?_
  refine lv_bipush (v := 64) hx hb dX0_loweredHigh_1 (by decide) ?_
  refine lv_icmp_ge (tgt := 12) hx hb dX0_loweredHigh_3 (by decide) (fun c1 => ?_) (fun c1 => ?_)
  · rw [if_pos c1] at hq
    refine lv_lconst (v := 0) hx hb dX0_loweredHigh_12 (by decide) ?_
    exact W.lret (v := (0 : Int64)) hx hb hr (fun t ht hW => ⟨_, rfl, hq, ht⟩) (fun _ h => absurd h List.not_mem_nil) dX0_loweredHigh_13
  · rw [if_neg c1] at hq
    refine lv_lload_n hx hb dX0_loweredHigh_6 rfl (lv_at hl 0 rfl) ?_
    refine lv_iload_n hx hb dX0_loweredHigh_7 rfl (lv_at hl 1 rfl) ?_
    refine bx_lushr hx hb dX0_loweredHigh_8 ?_
    refine lv_goto (tgt := 13) hx hb dX0_loweredHigh_9 (by decide) ?_
    exact W.lret (v := (jl_ushr x0 x2)) hx hb hr (fun t ht hW => ⟨_, rfl, hq, ht⟩) (fun _ h => absurd h List.not_mem_nil) dX0_loweredHigh_13
theorem kX0_loweredHigh (l : Launch) (x0 : Int64) (x2 : Int32) : Met l yX0_loweredHigh (Cond.code yX0_loweredHigh cX0_loweredHigh 3 (some .long) :: bw) rmX0_loweredHigh (va_Pc [.long x0, .int x2] (fun _ => True)) (vp_Sl (fun r => r = fX0_loweredHigh x0 x2)) 0 0 (fun _ => False) := by
  refine bx_ent (by decide) _ _ (Nat.le_of_ble_eq_true rfl) rfl ?_
  intro p e s m below meth c ls C hl _
  exact bX0_loweredHigh_0 x0 x2 C hl _ rfl
abbrev rmX0_negatedHigh : Room := { frames := 0, cells := 0, slots := 0, locals := 0 }
theorem mbX0_negatedHigh : mb_S yX0_negatedHigh cX0_negatedHigh 4 (some .long) 2 := ⟨tw_static_yX0_negatedHigh, tw_initialized_RX0, tw_code_yX0_negatedHigh, by decide +kernel, by decide +kernel, by decide +kernel⟩
set_option maxRecDepth 20000 in
theorem bX0_negatedHigh_0 (x0 : Int64) (x2 : Int64) {p : Program} {l : Launch} {e : Env} {s : State} {m : MethodId} {args : Array Value} {below : List Frame} {meth : Method} {c : Code} {ls : Array Slot} (C : bx_C p s m args meth c cX0_negatedHigh 4 (some .long) RX0) (hl : lv_has ls 4 [(0, .long x0), (2, .long x2)]) (post : Int64 → Prop) (hq : post (fX0_negatedHigh x0 x2)) : W p l e rmX0_negatedHigh s m args below meth c s.heap [] 0 0 (MQ below (vp_Sl post) args s 0 0 (fun _ => False)) (F0 m 0 ls []) := by
  obtain ⟨hx, hb, hml, hr, hlocks, hown, hts⟩ := id C
  unfold fX0_negatedHigh at hq
  refine lv_lload_n hx hb dX0_negatedHigh_0 rfl (lv_at hl 1 rfl) ?_
  refine lv_lconst (v := 0) hx hb dX0_negatedHigh_1 (by decide) ?_
  refine bx_lc_ne (tgt := 11) hx hb dX0_negatedHigh_2 dX0_negatedHigh_3 (by decide) (fun c1 => ?_) (fun c1 => ?_)
  · rw [if_neg c1] at hq
    refine lv_lload_n hx hb dX0_negatedHigh_11 rfl (lv_at hl 0 rfl) ?_
    refine lv_ldc2 (v := -1) hx hb hown (hts _ tw_constantLong_RX0_21_1) dX0_negatedHigh_12 ?_
    refine lv_lxor hx hb dX0_negatedHigh_15 ?_
    exact W.lret (v := (x0 ^^^ (-1 : Int64))) hx hb hr (fun t ht hW => ⟨_, rfl, hq, ht⟩) (fun _ h => absurd h List.not_mem_nil) dX0_negatedHigh_16
  · rw [if_pos c1] at hq
    refine lv_lload_n hx hb dX0_negatedHigh_6 rfl (lv_at hl 0 rfl) ?_
    refine lv_lneg hx hb dX0_negatedHigh_7 ?_
    refine lv_goto (tgt := 16) hx hb dX0_negatedHigh_8 (by decide) ?_
    exact W.lret (v := (-x0)) hx hb hr (fun t ht hW => ⟨_, rfl, hq, ht⟩) (fun _ h => absurd h List.not_mem_nil) dX0_negatedHigh_16
theorem kX0_negatedHigh (l : Launch) (x0 : Int64) (x2 : Int64) : Met l yX0_negatedHigh (Cond.code yX0_negatedHigh cX0_negatedHigh 4 (some .long) :: bw) rmX0_negatedHigh (va_Pc [.long x0, .long x2] (fun _ => True)) (vp_Sl (fun r => r = fX0_negatedHigh x0 x2)) 0 0 (fun _ => False) := by
  refine bx_ent (by decide) _ _ (Nat.le_of_ble_eq_true rfl) rfl ?_
  intro p e s m below meth c ls C hl _
  exact bX0_negatedHigh_0 x0 x2 C hl _ rfl
abbrev rmX3_isWord : Room := { frames := 0, cells := 0, slots := 0, locals := 0 }
theorem mbX3_isWord : mb_S yX3_isWord cX3_isWord 1 (some .boolean) 1 := ⟨tw_static_yX3_isWord, tw_initialized_RX3, tw_code_yX3_isWord, by decide +kernel, by decide +kernel, by decide +kernel⟩
set_option maxRecDepth 20000 in
theorem bX3_isWord_0 (x0 : Int32) {p : Program} {l : Launch} {e : Env} {s : State} {m : MethodId} {args : Array Value} {below : List Frame} {meth : Method} {c : Code} {ls : Array Slot} (C : bx_C p s m args meth c cX3_isWord 1 (some .boolean) RX3) (hl : lv_has ls 1 [(0, .int x0)]) (post : Int32 → Prop) (hq : post (fX3_isWord x0)) : W p l e rmX3_isWord s m args below meth c s.heap [] 0 0 (MQ below (vp_Si post) args s 0 0 (fun _ => False)) (F0 m 0 ls []) := by
  obtain ⟨hx, hb, hml, hr, hlocks, hown, hts⟩ := id C
  unfold fX3_isWord at hq
  refine lv_iload_n hx hb dX3_isWord_0 rfl (lv_at hl 0 rfl) ?_
  refine lv_if_lt (tgt := 14) hx hb dX3_isWord_1 (by decide) (fun c1 => ?_) (fun c1 => ?_)
  · rw [if_pos c1] at hq
    refine lv_iconst (v := 0) hx hb dX3_isWord_14 (by decide) ?_
    exact W.zret (v := (0 : Int32)) hx hb hr (ji_z_narrow (by repeat' (first | with_reducible exact ji_z0 | with_reducible exact ji_z1 | with_reducible refine ji_z_ite ?_ ?_ | with_reducible assumption))) (fun t ht hW => ⟨_, rfl, hq, ht⟩) (fun _ h => absurd h List.not_mem_nil) dX3_isWord_15
  · rw [if_neg c1] at hq
    refine lv_iload_n hx hb dX3_isWord_4 rfl (lv_at hl 0 rfl) ?_
    refine lv_bipush (v := 16) hx hb dX3_isWord_5 (by decide) ?_
    refine lv_icmp_ge (tgt := 14) hx hb dX3_isWord_7 (by decide) (fun c2 => ?_) (fun c2 => ?_)
    · rw [if_pos c2] at hq
      refine lv_iconst (v := 0) hx hb dX3_isWord_14 (by decide) ?_
      exact W.zret (v := (0 : Int32)) hx hb hr (ji_z_narrow (by repeat' (first | with_reducible exact ji_z0 | with_reducible exact ji_z1 | with_reducible refine ji_z_ite ?_ ?_ | with_reducible assumption))) (fun t ht hW => ⟨_, rfl, hq, ht⟩) (fun _ h => absurd h List.not_mem_nil) dX3_isWord_15
    · rw [if_neg c2] at hq
      refine lv_iconst (v := 1) hx hb dX3_isWord_10 (by decide) ?_
      refine lv_goto (tgt := 15) hx hb dX3_isWord_11 (by decide) ?_
      exact W.zret (v := (1 : Int32)) hx hb hr (ji_z_narrow (by repeat' (first | with_reducible exact ji_z0 | with_reducible exact ji_z1 | with_reducible refine ji_z_ite ?_ ?_ | with_reducible assumption))) (fun t ht hW => ⟨_, rfl, hq, ht⟩) (fun _ h => absurd h List.not_mem_nil) dX3_isWord_15
theorem kX3_isWord (l : Launch) (x0 : Int32) : Met l yX3_isWord (Cond.code yX3_isWord cX3_isWord 1 (some .boolean) :: bw) rmX3_isWord (va_Pc [.int x0] (fun _ => True)) (vp_Si (fun r => r = fX3_isWord x0)) 0 0 (fun _ => False) := by
  refine bx_ent (by decide) _ _ (Nat.le_of_ble_eq_true rfl) rfl ?_
  intro p e s m below meth c ls C hl _
  exact bX3_isWord_0 x0 C hl _ rfl
abbrev rmX3_isStep : Room := { frames := 0, cells := 0, slots := 0, locals := 0 }
theorem mbX3_isStep : mb_S yX3_isStep cX3_isStep 1 (some .boolean) 1 := ⟨tw_static_yX3_isStep, tw_initialized_RX3, tw_code_yX3_isStep, by decide +kernel, by decide +kernel, by decide +kernel⟩
set_option maxRecDepth 20000 in
theorem bX3_isStep_0 (x0 : Int32) {p : Program} {l : Launch} {e : Env} {s : State} {m : MethodId} {args : Array Value} {below : List Frame} {meth : Method} {c : Code} {ls : Array Slot} (C : bx_C p s m args meth c cX3_isStep 1 (some .boolean) RX3) (hl : lv_has ls 1 [(0, .int x0)]) (post : Int32 → Prop) (hq : post (fX3_isStep x0)) : W p l e rmX3_isStep s m args below meth c s.heap [] 0 0 (MQ below (vp_Si post) args s 0 0 (fun _ => False)) (F0 m 0 ls []) := by
  obtain ⟨hx, hb, hml, hr, hlocks, hown, hts⟩ := id C
  unfold fX3_isStep at hq
  refine lv_iload_n hx hb dX3_isStep_0 rfl (lv_at hl 0 rfl) ?_
  refine lv_if_lt (tgt := 14) hx hb dX3_isStep_1 (by decide) (fun c1 => ?_) (fun c1 => ?_)
  · rw [if_pos c1] at hq
    refine lv_iconst (v := 0) hx hb dX3_isStep_14 (by decide) ?_
    exact W.zret (v := (0 : Int32)) hx hb hr (ji_z_narrow (by repeat' (first | with_reducible exact ji_z0 | with_reducible exact ji_z1 | with_reducible refine ji_z_ite ?_ ?_ | with_reducible assumption))) (fun t ht hW => ⟨_, rfl, hq, ht⟩) (fun _ h => absurd h List.not_mem_nil) dX3_isStep_15
  · rw [if_neg c1] at hq
    refine lv_iload_n hx hb dX3_isStep_4 rfl (lv_at hl 0 rfl) ?_
    refine lv_bipush (v := 40) hx hb dX3_isStep_5 (by decide) ?_
    refine lv_icmp_ge (tgt := 14) hx hb dX3_isStep_7 (by decide) (fun c2 => ?_) (fun c2 => ?_)
    · rw [if_pos c2] at hq
      refine lv_iconst (v := 0) hx hb dX3_isStep_14 (by decide) ?_
      exact W.zret (v := (0 : Int32)) hx hb hr (ji_z_narrow (by repeat' (first | with_reducible exact ji_z0 | with_reducible exact ji_z1 | with_reducible refine ji_z_ite ?_ ?_ | with_reducible assumption))) (fun t ht hW => ⟨_, rfl, hq, ht⟩) (fun _ h => absurd h List.not_mem_nil) dX3_isStep_15
    · rw [if_neg c2] at hq
      refine lv_iconst (v := 1) hx hb dX3_isStep_10 (by decide) ?_
      refine lv_goto (tgt := 15) hx hb dX3_isStep_11 (by decide) ?_
      exact W.zret (v := (1 : Int32)) hx hb hr (ji_z_narrow (by repeat' (first | with_reducible exact ji_z0 | with_reducible exact ji_z1 | with_reducible refine ji_z_ite ?_ ?_ | with_reducible assumption))) (fun t ht hW => ⟨_, rfl, hq, ht⟩) (fun _ h => absurd h List.not_mem_nil) dX3_isStep_15
theorem kX3_isStep (l : Launch) (x0 : Int32) : Met l yX3_isStep (Cond.code yX3_isStep cX3_isStep 1 (some .boolean) :: bw) rmX3_isStep (va_Pc [.int x0] (fun _ => True)) (vp_Si (fun r => r = fX3_isStep x0)) 0 0 (fun _ => False) := by
  refine bx_ent (by decide) _ _ (Nat.le_of_ble_eq_true rfl) rfl ?_
  intro p e s m below meth c ls C hl _
  exact bX3_isStep_0 x0 C hl _ rfl
abbrev rmX3_isAct : Room := { frames := 0, cells := 0, slots := 0, locals := 0 }
theorem mbX3_isAct : mb_S yX3_isAct cX3_isAct 1 (some .boolean) 1 := ⟨tw_static_yX3_isAct, tw_initialized_RX3, tw_code_yX3_isAct, by decide +kernel, by decide +kernel, by decide +kernel⟩
set_option maxRecDepth 20000 in
theorem bX3_isAct_0 (x0 : Int32) {p : Program} {l : Launch} {e : Env} {s : State} {m : MethodId} {args : Array Value} {below : List Frame} {meth : Method} {c : Code} {ls : Array Slot} (C : bx_C p s m args meth c cX3_isAct 1 (some .boolean) RX3) (hl : lv_has ls 1 [(0, .int x0)]) (post : Int32 → Prop) (hq : post (fX3_isAct x0)) : W p l e rmX3_isAct s m args below meth c s.heap [] 0 0 (MQ below (vp_Si post) args s 0 0 (fun _ => False)) (F0 m 0 ls []) := by
  obtain ⟨hx, hb, hml, hr, hlocks, hown, hts⟩ := id C
  unfold fX3_isAct at hq
  refine lv_iload_n hx hb dX3_isAct_0 rfl (lv_at hl 0 rfl) ?_
  refine lv_if_lt (tgt := 14) hx hb dX3_isAct_1 (by decide) (fun c1 => ?_) (fun c1 => ?_)
  · rw [if_pos c1] at hq
    refine lv_iconst (v := 0) hx hb dX3_isAct_14 (by decide) ?_
    exact W.zret (v := (0 : Int32)) hx hb hr (ji_z_narrow (by repeat' (first | with_reducible exact ji_z0 | with_reducible exact ji_z1 | with_reducible refine ji_z_ite ?_ ?_ | with_reducible assumption))) (fun t ht hW => ⟨_, rfl, hq, ht⟩) (fun _ h => absurd h List.not_mem_nil) dX3_isAct_15
  · rw [if_neg c1] at hq
    refine lv_iload_n hx hb dX3_isAct_4 rfl (lv_at hl 0 rfl) ?_
    refine lv_bipush (v := 24) hx hb dX3_isAct_5 (by decide) ?_
    refine lv_icmp_ge (tgt := 14) hx hb dX3_isAct_7 (by decide) (fun c2 => ?_) (fun c2 => ?_)
    · rw [if_pos c2] at hq
      refine lv_iconst (v := 0) hx hb dX3_isAct_14 (by decide) ?_
      exact W.zret (v := (0 : Int32)) hx hb hr (ji_z_narrow (by repeat' (first | with_reducible exact ji_z0 | with_reducible exact ji_z1 | with_reducible refine ji_z_ite ?_ ?_ | with_reducible assumption))) (fun t ht hW => ⟨_, rfl, hq, ht⟩) (fun _ h => absurd h List.not_mem_nil) dX3_isAct_15
    · rw [if_neg c2] at hq
      refine lv_iconst (v := 1) hx hb dX3_isAct_10 (by decide) ?_
      refine lv_goto (tgt := 15) hx hb dX3_isAct_11 (by decide) ?_
      exact W.zret (v := (1 : Int32)) hx hb hr (ji_z_narrow (by repeat' (first | with_reducible exact ji_z0 | with_reducible exact ji_z1 | with_reducible refine ji_z_ite ?_ ?_ | with_reducible assumption))) (fun t ht hW => ⟨_, rfl, hq, ht⟩) (fun _ h => absurd h List.not_mem_nil) dX3_isAct_15
theorem kX3_isAct (l : Launch) (x0 : Int32) : Met l yX3_isAct (Cond.code yX3_isAct cX3_isAct 1 (some .boolean) :: bw) rmX3_isAct (va_Pc [.int x0] (fun _ => True)) (vp_Si (fun r => r = fX3_isAct x0)) 0 0 (fun _ => False) := by
  refine bx_ent (by decide) _ _ (Nat.le_of_ble_eq_true rfl) rfl ?_
  intro p e s m below meth c ls C hl _
  exact bX3_isAct_0 x0 C hl _ rfl
abbrev rmX3_isJump : Room := { frames := 0, cells := 0, slots := 0, locals := 0 }
theorem mbX3_isJump : mb_S yX3_isJump cX3_isJump 1 (some .boolean) 1 := ⟨tw_static_yX3_isJump, tw_initialized_RX3, tw_code_yX3_isJump, by decide +kernel, by decide +kernel, by decide +kernel⟩
set_option maxRecDepth 20000 in
theorem bX3_isJump_0 (x0 : Int32) {p : Program} {l : Launch} {e : Env} {s : State} {m : MethodId} {args : Array Value} {below : List Frame} {meth : Method} {c : Code} {ls : Array Slot} (C : bx_C p s m args meth c cX3_isJump 1 (some .boolean) RX3) (hl : lv_has ls 1 [(0, .int x0)]) (post : Int32 → Prop) (hq : post (fX3_isJump x0)) : W p l e rmX3_isJump s m args below meth c s.heap [] 0 0 (MQ below (vp_Si post) args s 0 0 (fun _ => False)) (F0 m 0 ls []) := by
  obtain ⟨hx, hb, hml, hr, hlocks, hown, hts⟩ := id C
  unfold fX3_isJump at hq
  refine lv_iload_n hx hb dX3_isJump_0 rfl (lv_at hl 0 rfl) ?_
  refine lv_bipush (v := 30) hx hb dX3_isJump_1 (by decide) ?_
  refine lv_icmp_lt (tgt := 16) hx hb dX3_isJump_3 (by decide) (fun c1 => ?_) (fun c1 => ?_)
  · rw [if_pos c1] at hq
    refine lv_iconst (v := 0) hx hb dX3_isJump_16 (by decide) ?_
    exact W.zret (v := (0 : Int32)) hx hb hr (ji_z_narrow (by repeat' (first | with_reducible exact ji_z0 | with_reducible exact ji_z1 | with_reducible refine ji_z_ite ?_ ?_ | with_reducible assumption))) (fun t ht hW => ⟨_, rfl, hq, ht⟩) (fun _ h => absurd h List.not_mem_nil) dX3_isJump_17
  · rw [if_neg c1] at hq
    refine lv_iload_n hx hb dX3_isJump_6 rfl (lv_at hl 0 rfl) ?_
    refine lv_bipush (v := 38) hx hb dX3_isJump_7 (by decide) ?_
    refine lv_icmp_ge (tgt := 16) hx hb dX3_isJump_9 (by decide) (fun c2 => ?_) (fun c2 => ?_)
    · rw [if_pos c2] at hq
      refine lv_iconst (v := 0) hx hb dX3_isJump_16 (by decide) ?_
      exact W.zret (v := (0 : Int32)) hx hb hr (ji_z_narrow (by repeat' (first | with_reducible exact ji_z0 | with_reducible exact ji_z1 | with_reducible refine ji_z_ite ?_ ?_ | with_reducible assumption))) (fun t ht hW => ⟨_, rfl, hq, ht⟩) (fun _ h => absurd h List.not_mem_nil) dX3_isJump_17
    · rw [if_neg c2] at hq
      refine lv_iconst (v := 1) hx hb dX3_isJump_12 (by decide) ?_
      refine lv_goto (tgt := 17) hx hb dX3_isJump_13 (by decide) ?_
      exact W.zret (v := (1 : Int32)) hx hb hr (ji_z_narrow (by repeat' (first | with_reducible exact ji_z0 | with_reducible exact ji_z1 | with_reducible refine ji_z_ite ?_ ?_ | with_reducible assumption))) (fun t ht hW => ⟨_, rfl, hq, ht⟩) (fun _ h => absurd h List.not_mem_nil) dX3_isJump_17
theorem kX3_isJump (l : Launch) (x0 : Int32) : Met l yX3_isJump (Cond.code yX3_isJump cX3_isJump 1 (some .boolean) :: bw) rmX3_isJump (va_Pc [.int x0] (fun _ => True)) (vp_Si (fun r => r = fX3_isJump x0)) 0 0 (fun _ => False) := by
  refine bx_ent (by decide) _ _ (Nat.le_of_ble_eq_true rfl) rfl ?_
  intro p e s m below meth c ls C hl _
  exact bX3_isJump_0 x0 C hl _ rfl
abbrev rmX3_fits : Room := { frames := 1, cells := 0, slots := 0, locals := 20 }
theorem mbX3_fits : mb_S yX3_fits cX3_fits 6 (some .boolean) 5 := ⟨tw_static_yX3_fits, tw_initialized_RX3, tw_code_yX3_fits, by decide +kernel, by decide +kernel, by decide +kernel⟩
set_option maxRecDepth 20000 in
theorem bX3_fits_32 (x2 : Int32) (x3 : Int32) (x4 : Int32) (s0 : Int32) {p : Program} {l : Launch} {e : Env} {s : State} {m : MethodId} {args : Array Value} {below : List Frame} {meth : Method} {c : Code} {ls : Array Slot} (C : bx_C p s m args meth c cX3_fits 6 (some .boolean) RX3) (hl : lv_has ls 6 [(2, .int x2), (3, .int x3), (4, .int x4)]) (post : Int32 → Prop) (hq : post (fX3_fits_32 x2 x3 x4 s0)) : W p l e rmX3_fits s m args below meth c s.heap [] 0 0 (MQ below (vp_Si post) args s 0 0 (fun _ => False)) (F0 m 32 ls [.int s0]) := by
  obtain ⟨hx, hb, hml, hr, hlocks, hown, hts⟩ := id C
  unfold fX3_fits_32 at hq
  refine lv_istore (lv' := [(5, .int s0), (2, .int x2), (3, .int x3), (4, .int x4)]) hx hb dX3_fits_32 hl (by decide) rfl (fun ls hl => ?_)
  refine lv_iload hx hb dX3_fits_34 (lv_at hl 0 rfl) ?_
  refine lv_if_eq (tgt := 65) hx hb dX3_fits_36 (by decide) (fun c3 => ?_) (fun c3 => ?_)
  · rw [if_pos c3] at hq
    refine lv_iconst (v := 0) hx hb dX3_fits_65 (by decide) ?_
    exact W.zret (v := (0 : Int32)) hx hb hr (ji_z_narrow (by repeat' (first | with_reducible exact ji_z0 | with_reducible exact ji_z1 | with_reducible refine ji_z_ite ?_ ?_ | with_reducible assumption | with_reducible exact zX3_isAct .. | with_reducible exact zX3_isJump .. | with_reducible exact zX3_isWord .. | with_reducible exact zX3_isStep ..))) (fun t ht hW => ⟨_, rfl, hq, ht⟩) (fun _ h => absurd h List.not_mem_nil) dX3_fits_66
  · rw [if_neg c3] at hq
    refine lv_iload_n hx hb dX3_fits_39 rfl (lv_at hl 1 rfl) ?_
    refine bx_si C (kX3_isWord l x2) bx_B_true (fun _ _ _ => trivial) tw_methodLink_RX3_41_yX3_isWord mbX3_isWord rfl ⟨rfl, rfl⟩ ⟨Nat.le_of_ble_eq_true rfl, Nat.le_of_ble_eq_true rfl⟩ ⟨Nat.zero_le _, Nat.zero_le _⟩ hl.1 rfl (Nat.le_of_ble_eq_true rfl) dX3_fits_40 ?_
    refine lv_if_eq (tgt := 65) hx hb dX3_fits_43 (by decide) (fun c4 => ?_) (fun c4 => ?_)
    · rw [if_pos c4] at hq
      refine lv_iconst (v := 0) hx hb dX3_fits_65 (by decide) ?_
      exact W.zret (v := (0 : Int32)) hx hb hr (ji_z_narrow (by repeat' (first | with_reducible exact ji_z0 | with_reducible exact ji_z1 | with_reducible refine ji_z_ite ?_ ?_ | with_reducible assumption | with_reducible exact zX3_isAct .. | with_reducible exact zX3_isJump .. | with_reducible exact zX3_isWord .. | with_reducible exact zX3_isStep ..))) (fun t ht hW => ⟨_, rfl, hq, ht⟩) (fun _ h => absurd h List.not_mem_nil) dX3_fits_66
    · rw [if_neg c4] at hq
      refine lv_iload_n hx hb dX3_fits_46 rfl (lv_at hl 2 rfl) ?_
      refine bx_si C (kX3_isWord l x3) bx_B_true (fun _ _ _ => trivial) tw_methodLink_RX3_41_yX3_isWord mbX3_isWord rfl ⟨rfl, rfl⟩ ⟨Nat.le_of_ble_eq_true rfl, Nat.le_of_ble_eq_true rfl⟩ ⟨Nat.zero_le _, Nat.zero_le _⟩ hl.1 rfl (Nat.le_of_ble_eq_true rfl) dX3_fits_47 ?_
      refine lv_if_eq (tgt := 65) hx hb dX3_fits_50 (by decide) (fun c5 => ?_) (fun c5 => ?_)
      · rw [if_pos c5] at hq
        refine lv_iconst (v := 0) hx hb dX3_fits_65 (by decide) ?_
        exact W.zret (v := (0 : Int32)) hx hb hr (ji_z_narrow (by repeat' (first | with_reducible exact ji_z0 | with_reducible exact ji_z1 | with_reducible refine ji_z_ite ?_ ?_ | with_reducible assumption | with_reducible exact zX3_isAct .. | with_reducible exact zX3_isJump .. | with_reducible exact zX3_isWord .. | with_reducible exact zX3_isStep ..))) (fun t ht hW => ⟨_, rfl, hq, ht⟩) (fun _ h => absurd h List.not_mem_nil) dX3_fits_66
      · rw [if_neg c5] at hq
        refine lv_iload hx hb dX3_fits_53 (lv_at hl 3 rfl) ?_
        refine bx_si C (kX3_isWord l x4) bx_B_true (fun _ _ _ => trivial) tw_methodLink_RX3_41_yX3_isWord mbX3_isWord rfl ⟨rfl, rfl⟩ ⟨Nat.le_of_ble_eq_true rfl, Nat.le_of_ble_eq_true rfl⟩ ⟨Nat.zero_le _, Nat.zero_le _⟩ hl.1 rfl (Nat.le_of_ble_eq_true rfl) dX3_fits_55 ?_
        refine lv_if_eq (tgt := 65) hx hb dX3_fits_58 (by decide) (fun c6 => ?_) (fun c6 => ?_)
        · rw [if_pos c6] at hq
          refine lv_iconst (v := 0) hx hb dX3_fits_65 (by decide) ?_
          exact W.zret (v := (0 : Int32)) hx hb hr (ji_z_narrow (by repeat' (first | with_reducible exact ji_z0 | with_reducible exact ji_z1 | with_reducible refine ji_z_ite ?_ ?_ | with_reducible assumption | with_reducible exact zX3_isAct .. | with_reducible exact zX3_isJump .. | with_reducible exact zX3_isWord .. | with_reducible exact zX3_isStep ..))) (fun t ht hW => ⟨_, rfl, hq, ht⟩) (fun _ h => absurd h List.not_mem_nil) dX3_fits_66
        · rw [if_neg c6] at hq
          refine lv_iconst (v := 1) hx hb dX3_fits_61 (by decide) ?_
          refine lv_goto (tgt := 66) hx hb dX3_fits_62 (by decide) ?_
          exact W.zret (v := (1 : Int32)) hx hb hr (ji_z_narrow (by repeat' (first | with_reducible exact ji_z0 | with_reducible exact ji_z1 | with_reducible refine ji_z_ite ?_ ?_ | with_reducible assumption | with_reducible exact zX3_isAct .. | with_reducible exact zX3_isJump .. | with_reducible exact zX3_isWord .. | with_reducible exact zX3_isStep ..))) (fun t ht hW => ⟨_, rfl, hq, ht⟩) (fun _ h => absurd h List.not_mem_nil) dX3_fits_66
set_option maxRecDepth 20000 in
theorem bX3_fits_14 (x0 : Int32) (x1 : Int32) (x2 : Int32) (x3 : Int32) (x4 : Int32) {p : Program} {l : Launch} {e : Env} {s : State} {m : MethodId} {args : Array Value} {below : List Frame} {meth : Method} {c : Code} {ls : Array Slot} (C : bx_C p s m args meth c cX3_fits 6 (some .boolean) RX3) (hl : lv_has ls 6 [(0, .int x0), (1, .int x1), (2, .int x2), (3, .int x3), (4, .int x4)]) (post : Int32 → Prop) (hq : post (fX3_fits_14 x0 x1 x2 x3 x4)) : W p l e rmX3_fits s m args below meth c s.heap [] 0 0 (MQ below (vp_Si post) args s 0 0 (fun _ => False)) (F0 m 14 ls []) := by
  obtain ⟨hx, hb, hml, hr, hlocks, hown, hts⟩ := id C
  unfold fX3_fits_14 at hq
  refine lv_iload_n hx hb dX3_fits_14 rfl (lv_at hl 0 rfl) ?_
  refine bx_si C (kX3_isAct l x0) bx_B_true (fun _ _ _ => trivial) tw_methodLink_RX3_34_yX3_isAct mbX3_isAct rfl ⟨rfl, rfl⟩ ⟨Nat.le_of_ble_eq_true rfl, Nat.le_of_ble_eq_true rfl⟩ ⟨Nat.zero_le _, Nat.zero_le _⟩ hl.1 rfl (Nat.le_of_ble_eq_true rfl) dX3_fits_15 ?_
  refine lv_if_eq (tgt := 28) hx hb dX3_fits_18 (by decide) (fun c2 => ?_) (fun c2 => ?_)
  · rw [if_pos c2] at hq
    refine lv_iload_n hx hb dX3_fits_28 rfl (lv_at hl 1 rfl) ?_
    refine bx_si C (kX3_isStep l x1) bx_B_true (fun _ _ _ => trivial) tw_methodLink_RX3_44_yX3_isStep mbX3_isStep rfl ⟨rfl, rfl⟩ ⟨Nat.le_of_ble_eq_true rfl, Nat.le_of_ble_eq_true rfl⟩ ⟨Nat.zero_le _, Nat.zero_le _⟩ hl.1 rfl (Nat.le_of_ble_eq_true rfl) dX3_fits_29 ?_
    exact bX3_fits_32 x2 x3 x4 (fX3_isStep x1) C (lv_sub hl [2, 3, 4] rfl) post hq
  · rw [if_neg c2] at hq
    refine lv_iload_n hx hb dX3_fits_21 rfl (lv_at hl 1 rfl) ?_
    refine bx_si C (kX3_isWord l x1) bx_B_true (fun _ _ _ => trivial) tw_methodLink_RX3_41_yX3_isWord mbX3_isWord rfl ⟨rfl, rfl⟩ ⟨Nat.le_of_ble_eq_true rfl, Nat.le_of_ble_eq_true rfl⟩ ⟨Nat.zero_le _, Nat.zero_le _⟩ hl.1 rfl (Nat.le_of_ble_eq_true rfl) dX3_fits_22 ?_
    refine lv_goto (tgt := 32) hx hb dX3_fits_25 (by decide) ?_
    exact bX3_fits_32 x2 x3 x4 (fX3_isWord x1) C (lv_sub hl [2, 3, 4] rfl) post hq
set_option maxRecDepth 20000 in
theorem bX3_fits_0 (x0 : Int32) (x1 : Int32) (x2 : Int32) (x3 : Int32) (x4 : Int32) {p : Program} {l : Launch} {e : Env} {s : State} {m : MethodId} {args : Array Value} {below : List Frame} {meth : Method} {c : Code} {ls : Array Slot} (C : bx_C p s m args meth c cX3_fits 6 (some .boolean) RX3) (hl : lv_has ls 6 [(0, .int x0), (1, .int x1), (2, .int x2), (3, .int x3), (4, .int x4)]) (post : Int32 → Prop) (hq : post (fX3_fits x0 x1 x2 x3 x4)) : W p l e rmX3_fits s m args below meth c s.heap [] 0 0 (MQ below (vp_Si post) args s 0 0 (fun _ => False)) (F0 m 0 ls []) := by
  obtain ⟨hx, hb, hml, hr, hlocks, hown, hts⟩ := id C
  unfold fX3_fits at hq
  refine lv_iload_n hx hb dX3_fits_0 rfl (lv_at hl 0 rfl) ?_
  refine bx_si C (kX3_isAct l x0) bx_B_true (fun _ _ _ => trivial) tw_methodLink_RX3_34_yX3_isAct mbX3_isAct rfl ⟨rfl, rfl⟩ ⟨Nat.le_of_ble_eq_true rfl, Nat.le_of_ble_eq_true rfl⟩ ⟨Nat.zero_le _, Nat.zero_le _⟩ hl.1 rfl (Nat.le_of_ble_eq_true rfl) dX3_fits_1 ?_
  refine lv_if_ne (tgt := 14) hx hb dX3_fits_4 (by decide) (fun c1 => ?_) (fun c1 => ?_)
  · rw [if_neg c1] at hq
    exact bX3_fits_14 x0 x1 x2 x3 x4 C (lv_sub hl [0, 1, 2, 3, 4] rfl) post hq
  · rw [if_pos c1] at hq
    refine lv_iload_n hx hb dX3_fits_7 rfl (lv_at hl 0 rfl) ?_
    refine bx_si C (kX3_isJump l x0) bx_B_true (fun _ _ _ => trivial) tw_methodLink_RX3_38_yX3_isJump mbX3_isJump rfl ⟨rfl, rfl⟩ ⟨Nat.le_of_ble_eq_true rfl, Nat.le_of_ble_eq_true rfl⟩ ⟨Nat.zero_le _, Nat.zero_le _⟩ hl.1 rfl (Nat.le_of_ble_eq_true rfl) dX3_fits_8 ?_
    refine lv_if_eq (tgt := 67) hx hb dX3_fits_11 (by decide) (fun c7 => ?_) (fun c7 => ?_)
    · rw [if_pos c7] at hq
      refine lv_iload_n hx hb dX3_fits_67 rfl (lv_at hl 0 rfl) ?_
      by_cases c8 : x0 = 40
      · rw [if_pos c8] at hq
        refine lv_tableIn (tgt := 100) hx hb dX3_fits_68 (by rw [c8]; decide) (by rw [c8]; decide) (by rw [c8]; rfl) (by decide) ?_
        refine lv_iconst (v := 1) hx hb dX3_fits_100 (by decide) ?_
        exact W.zret (v := (1 : Int32)) hx hb hr (ji_z_narrow (by repeat' (first | with_reducible exact ji_z0 | with_reducible exact ji_z1 | with_reducible refine ji_z_ite ?_ ?_ | with_reducible assumption | with_reducible exact zX3_isAct .. | with_reducible exact zX3_isJump .. | with_reducible exact zX3_isWord .. | with_reducible exact zX3_isStep .. | with_reducible exact zX3_fits_32 .. | with_reducible exact zX3_fits_14 ..))) (fun t ht hW => ⟨_, rfl, hq, ht⟩) (fun _ h => absurd h List.not_mem_nil) dX3_fits_101
      rw [if_neg c8] at hq
      by_cases c9 : x0 = 41
      · rw [if_pos c9] at hq
        refine lv_tableIn (tgt := 102) hx hb dX3_fits_68 (by rw [c9]; decide) (by rw [c9]; decide) (by rw [c9]; rfl) (by decide) ?_
        refine lv_iload_n hx hb dX3_fits_102 rfl (lv_at hl 1 rfl) ?_
        refine bx_si C (kX3_isWord l x1) bx_B_true (fun _ _ _ => trivial) tw_methodLink_RX3_41_yX3_isWord mbX3_isWord rfl ⟨rfl, rfl⟩ ⟨Nat.le_of_ble_eq_true rfl, Nat.le_of_ble_eq_true rfl⟩ ⟨Nat.zero_le _, Nat.zero_le _⟩ hl.1 rfl (Nat.le_of_ble_eq_true rfl) dX3_fits_103 ?_
        exact W.zret (v := (fX3_isWord x1)) hx hb hr (ji_z_narrow (by repeat' (first | with_reducible exact ji_z0 | with_reducible exact ji_z1 | with_reducible refine ji_z_ite ?_ ?_ | with_reducible assumption | with_reducible exact zX3_isAct .. | with_reducible exact zX3_isJump .. | with_reducible exact zX3_isWord .. | with_reducible exact zX3_isStep .. | with_reducible exact zX3_fits_32 .. | with_reducible exact zX3_fits_14 ..))) (fun t ht hW => ⟨_, rfl, hq, ht⟩) (fun _ h => absurd h List.not_mem_nil) dX3_fits_106
      rw [if_neg c9] at hq
      by_cases c10 : x0 = 42
      · rw [if_pos c10] at hq
        refine lv_tableIn (tgt := 107) hx hb dX3_fits_68 (by rw [c10]; decide) (by rw [c10]; decide) (by rw [c10]; rfl) (by decide) ?_
        refine lv_iload_n hx hb dX3_fits_107 rfl (lv_at hl 1 rfl) ?_
        refine bx_si C (kX3_isWord l x1) bx_B_true (fun _ _ _ => trivial) tw_methodLink_RX3_41_yX3_isWord mbX3_isWord rfl ⟨rfl, rfl⟩ ⟨Nat.le_of_ble_eq_true rfl, Nat.le_of_ble_eq_true rfl⟩ ⟨Nat.zero_le _, Nat.zero_le _⟩ hl.1 rfl (Nat.le_of_ble_eq_true rfl) dX3_fits_108 ?_
        refine lv_if_eq (tgt := 132) hx hb dX3_fits_111 (by decide) (fun c11 => ?_) (fun c11 => ?_)
        · rw [if_pos c11] at hq
          refine lv_iconst (v := 0) hx hb dX3_fits_132 (by decide) ?_
          exact W.zret (v := (0 : Int32)) hx hb hr (ji_z_narrow (by repeat' (first | with_reducible exact ji_z0 | with_reducible exact ji_z1 | with_reducible refine ji_z_ite ?_ ?_ | with_reducible assumption | with_reducible exact zX3_isAct .. | with_reducible exact zX3_isJump .. | with_reducible exact zX3_isWord .. | with_reducible exact zX3_isStep .. | with_reducible exact zX3_fits_32 .. | with_reducible exact zX3_fits_14 ..))) (fun t ht hW => ⟨_, rfl, hq, ht⟩) (fun _ h => absurd h List.not_mem_nil) dX3_fits_133
        · rw [if_neg c11] at hq
          refine lv_iload_n hx hb dX3_fits_114 rfl (lv_at hl 2 rfl) ?_
          refine bx_si C (kX3_isWord l x2) bx_B_true (fun _ _ _ => trivial) tw_methodLink_RX3_41_yX3_isWord mbX3_isWord rfl ⟨rfl, rfl⟩ ⟨Nat.le_of_ble_eq_true rfl, Nat.le_of_ble_eq_true rfl⟩ ⟨Nat.zero_le _, Nat.zero_le _⟩ hl.1 rfl (Nat.le_of_ble_eq_true rfl) dX3_fits_115 ?_
          refine lv_if_eq (tgt := 132) hx hb dX3_fits_118 (by decide) (fun c12 => ?_) (fun c12 => ?_)
          · rw [if_pos c12] at hq
            refine lv_iconst (v := 0) hx hb dX3_fits_132 (by decide) ?_
            exact W.zret (v := (0 : Int32)) hx hb hr (ji_z_narrow (by repeat' (first | with_reducible exact ji_z0 | with_reducible exact ji_z1 | with_reducible refine ji_z_ite ?_ ?_ | with_reducible assumption | with_reducible exact zX3_isAct .. | with_reducible exact zX3_isJump .. | with_reducible exact zX3_isWord .. | with_reducible exact zX3_isStep .. | with_reducible exact zX3_fits_32 .. | with_reducible exact zX3_fits_14 ..))) (fun t ht hW => ⟨_, rfl, hq, ht⟩) (fun _ h => absurd h List.not_mem_nil) dX3_fits_133
          · rw [if_neg c12] at hq
            refine lv_iload_n hx hb dX3_fits_121 rfl (lv_at hl 3 rfl) ?_
            refine bx_si C (kX3_isWord l x3) bx_B_true (fun _ _ _ => trivial) tw_methodLink_RX3_41_yX3_isWord mbX3_isWord rfl ⟨rfl, rfl⟩ ⟨Nat.le_of_ble_eq_true rfl, Nat.le_of_ble_eq_true rfl⟩ ⟨Nat.zero_le _, Nat.zero_le _⟩ hl.1 rfl (Nat.le_of_ble_eq_true rfl) dX3_fits_122 ?_
            refine lv_if_eq (tgt := 132) hx hb dX3_fits_125 (by decide) (fun c13 => ?_) (fun c13 => ?_)
            · rw [if_pos c13] at hq
              refine lv_iconst (v := 0) hx hb dX3_fits_132 (by decide) ?_
              exact W.zret (v := (0 : Int32)) hx hb hr (ji_z_narrow (by repeat' (first | with_reducible exact ji_z0 | with_reducible exact ji_z1 | with_reducible refine ji_z_ite ?_ ?_ | with_reducible assumption | with_reducible exact zX3_isAct .. | with_reducible exact zX3_isJump .. | with_reducible exact zX3_isWord .. | with_reducible exact zX3_isStep .. | with_reducible exact zX3_fits_32 .. | with_reducible exact zX3_fits_14 ..))) (fun t ht hW => ⟨_, rfl, hq, ht⟩) (fun _ h => absurd h List.not_mem_nil) dX3_fits_133
            · rw [if_neg c13] at hq
              refine lv_iconst (v := 1) hx hb dX3_fits_128 (by decide) ?_
              refine lv_goto (tgt := 133) hx hb dX3_fits_129 (by decide) ?_
              exact W.zret (v := (1 : Int32)) hx hb hr (ji_z_narrow (by repeat' (first | with_reducible exact ji_z0 | with_reducible exact ji_z1 | with_reducible refine ji_z_ite ?_ ?_ | with_reducible assumption | with_reducible exact zX3_isAct .. | with_reducible exact zX3_isJump .. | with_reducible exact zX3_isWord .. | with_reducible exact zX3_isStep .. | with_reducible exact zX3_fits_32 .. | with_reducible exact zX3_fits_14 ..))) (fun t ht hW => ⟨_, rfl, hq, ht⟩) (fun _ h => absurd h List.not_mem_nil) dX3_fits_133
      rw [if_neg c10] at hq
      by_cases c14 : x0 = 43
      · rw [if_pos c14] at hq
        refine lv_tableIn (tgt := 134) hx hb dX3_fits_68 (by rw [c14]; decide) (by rw [c14]; decide) (by rw [c14]; rfl) (by decide) ?_
        refine lv_iload_n hx hb dX3_fits_134 rfl (lv_at hl 1 rfl) ?_
        refine bx_si C (kX3_isStep l x1) bx_B_true (fun _ _ _ => trivial) tw_methodLink_RX3_44_yX3_isStep mbX3_isStep rfl ⟨rfl, rfl⟩ ⟨Nat.le_of_ble_eq_true rfl, Nat.le_of_ble_eq_true rfl⟩ ⟨Nat.zero_le _, Nat.zero_le _⟩ hl.1 rfl (Nat.le_of_ble_eq_true rfl) dX3_fits_135 ?_
        exact W.zret (v := (fX3_isStep x1)) hx hb hr (ji_z_narrow (by repeat' (first | with_reducible exact ji_z0 | with_reducible exact ji_z1 | with_reducible refine ji_z_ite ?_ ?_ | with_reducible assumption | with_reducible exact zX3_isAct .. | with_reducible exact zX3_isJump .. | with_reducible exact zX3_isWord .. | with_reducible exact zX3_isStep .. | with_reducible exact zX3_fits_32 .. | with_reducible exact zX3_fits_14 ..))) (fun t ht hW => ⟨_, rfl, hq, ht⟩) (fun _ h => absurd h List.not_mem_nil) dX3_fits_138
      rw [if_neg c14] at hq
      refine lv_tableOut (tgt := 139) hx hb dX3_fits_68 (sw_out (40) (43) (fun n h1 h2 => ?_)) (by decide) ?_
      · rcases (show n = 40 ∨ n = 41 ∨ n = 42 ∨ n = 43 by omega) with rfl | rfl | rfl | rfl
        · exact c8
        · exact c9
        · exact c10
        · exact c14
      refine lv_iconst (v := 0) hx hb dX3_fits_139 (by decide) ?_
      exact W.zret (v := (0 : Int32)) hx hb hr (ji_z_narrow (by repeat' (first | with_reducible exact ji_z0 | with_reducible exact ji_z1 | with_reducible refine ji_z_ite ?_ ?_ | with_reducible assumption | with_reducible exact zX3_isAct .. | with_reducible exact zX3_isJump .. | with_reducible exact zX3_isWord .. | with_reducible exact zX3_isStep .. | with_reducible exact zX3_fits_32 .. | with_reducible exact zX3_fits_14 ..))) (fun t ht hW => ⟨_, rfl, hq, ht⟩) (fun _ h => absurd h List.not_mem_nil) dX3_fits_140
    · rw [if_neg c7] at hq
      exact bX3_fits_14 x0 x1 x2 x3 x4 C (lv_sub hl [0, 1, 2, 3, 4] rfl) post hq
theorem kX3_fits (l : Launch) (x0 : Int32) (x1 : Int32) (x2 : Int32) (x3 : Int32) (x4 : Int32) : Met l yX3_fits (Cond.code yX3_fits cX3_fits 6 (some .boolean) :: bw) rmX3_fits (va_Pc [.int x0, .int x1, .int x2, .int x3, .int x4] (fun _ => True)) (vp_Si (fun r => r = fX3_fits x0 x1 x2 x3 x4)) 0 0 (fun _ => False) := by
  refine bx_ent (by decide) _ _ (Nat.le_of_ble_eq_true rfl) rfl ?_
  intro p e s m below meth c ls C hl _
  exact bX3_fits_0 x0 x1 x2 x3 x4 C hl _ rfl
