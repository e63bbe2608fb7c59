abbrev rmX2_size : Room := { frames := 0, cells := 0, slots := 0, locals := 0 }
theorem mbX2_size : mb_V RX2 yX2_size cX2_size 3 (some .long) 1 := ⟨⟨tw_instanceMethod_yX2_size, tw_selects_RX2_yX2_size_yX2_size, tw_initialized_RX2, tw_code_yX2_size⟩, rfl, by decide +kernel, by decide +kernel, by decide +kernel⟩
theorem BX2_size {w : Bool} {h0 : Nat} : bx_B (fun U => fo_K w h0 U) := fo_B w h0
set_option maxRecDepth 20000 in
theorem bX2_size_0 (w : Bool) (x1 : Int64) {p : Program} {l : Launch} {e : Env} {s : State} {m : MethodId} {args : Array Value} {below : List Frame} {meth : Method} {c : Code} {h0 : Nat} {ls : Array Slot} (C : bx_C p s m args meth c cX2_size 3 (some .long) RX2) (hK0 : fo_K w h0 s) (hl : lv_has ls 3 [(0, .ref h0), (1, .long x1)]) (post : Int64 → Prop) (hq : post (fX2_size w x1)) : W p l e rmX2_size s m args below meth c s.heap [] 0 0 (MQ below (vp_Sl post) args s 0 0 (fun _ => False)) (F0 m 0 ls []) := by
  obtain ⟨hx, hb, hml, hr, hlocks, hown, hts⟩ := id C
  unfold fX2_size at hq
  refine lv_lload_n hx hb dX2_size_0 rfl (lv_at hl 1 rfl) ?_
  refine lv_aload_n hx hb dX2_size_1 rfl (lv_at hl 0 rfl) ?_
  refine vk_getf (v := .long (fo_sign w)) hx hb (fo_sign_K hK0) va_S.rf hown (hts _ tw_fieldLink_RX2_42_GlulxFloats_Form_sign_J) (fun _ h9 => h9) dX2_size_2 ?_
  refine lv_lconst (v := 1) hx hb dX2_size_5 (by decide) ?_
  refine lv_lsub hx hb dX2_size_6 ?_
  refine lv_land hx hb dX2_size_7 ?_
  exact W.lret (v := (x1 &&& ((fo_sign w) - (1 : Int64)))) hx hb hr (fun t ht hW => ⟨_, rfl, hq, ht⟩) (fun _ h => absurd h List.not_mem_nil) dX2_size_8
theorem kX2_size (l : Launch) (w : Bool) (h0 : Nat) (x1 : Int64) : Met l yX2_size (Cond.code yX2_size cX2_size 3 (some .long) :: bw) rmX2_size (va_Pc [.ref h0, .long x1] (fun U => fo_K w h0 U)) (vp_Sl (fun r => r = fX2_size w x1)) 0 0 (fun _ => False) := by
  refine bx_ent (by decide) _ _ (Nat.le_of_ble_eq_true rfl) rfl ?_
  intro p e s m below meth c ls C hl hK0
  exact bX2_size_0 w x1 C hK0 hl _ rfl
abbrev rmX2_isNan : Room := { frames := 1, cells := 0, slots := 0, locals := 22 }
theorem mbX2_isNan : mb_V RX2 yX2_isNan cX2_isNan 3 (some .boolean) 1 := ⟨⟨tw_instanceMethod_yX2_isNan, tw_selects_RX2_yX2_isNan_yX2_isNan, tw_initialized_RX2, tw_code_yX2_isNan⟩, rfl, by decide +kernel, by decide +kernel, by decide +kernel⟩
theorem BX2_isNan {w : Bool} {h0 : Nat} : bx_B (fun U => fo_K w h0 U) := fo_B w h0
set_option maxRecDepth 20000 in
theorem bX2_isNan_0 (w : Bool) (x1 : Int64) {p : Program} {l : Launch} {e : Env} {s : State} {m : MethodId} {args : Array Value} {below : List Frame} {meth : Method} {c : Code} {h0 : Nat} {ls : Array Slot} (C : bx_C p s m args meth c cX2_isNan 3 (some .boolean) RX2) (hK0 : fo_K w h0 s) (hl : lv_has ls 3 [(0, .ref h0), (1, .long x1)]) (post : Int32 → Prop) (hq : post (fX2_isNan w x1)) : W p l e rmX2_isNan s m args below meth c s.heap [] 0 0 (MQ below (vp_Si post) args s 0 0 (fun _ => False)) (F0 m 0 ls []) := by
  obtain ⟨hx, hb, hml, hr, hlocks, hown, hts⟩ := id C
  unfold fX2_isNan at hq
  refine lv_aload_n hx hb dX2_isNan_0 rfl (lv_at hl 0 rfl) ?_
  refine lv_lload_n hx hb dX2_isNan_1 rfl (lv_at hl 1 rfl) ?_
  refine bx_vl C (kX2_size l w h0 x1) BX2_size (fun U u1 u2 => fo_B w h0 s U u1 u2 hK0) (fun U u1 u2 => (fo_B w h0 s U u1 u2 hK0).1) tw_methodLink_RX2_82_yX2_size mbX2_size rfl ⟨rfl, rfl⟩ ⟨Nat.le_of_ble_eq_true rfl, Nat.le_of_ble_eq_true rfl⟩ ⟨Nat.zero_le _, Nat.zero_le _⟩ hl.1 rfl (Nat.le_of_ble_eq_true rfl) dX2_isNan_2 ?_
  refine lv_aload_n hx hb dX2_isNan_5 rfl (lv_at hl 0 rfl) ?_
  refine vk_getf (v := .long (fo_infinity w)) hx hb (fo_infinity_K hK0) va_S.rf hown (hts _ tw_fieldLink_RX2_49_GlulxFloats_Form_infinity_J) (fun _ h9 => h9) dX2_isNan_6 ?_
  refine bx_lc_le (tgt := 17) hx hb dX2_isNan_9 dX2_isNan_10 (by decide) (fun c1 => ?_) (fun c1 => ?_)
  · rw [if_pos c1] at hq
    refine lv_iconst (v := 0) hx hb dX2_isNan_17 (by decide) ?_
    exact W.zret (v := (0 : Int32)) hx hb hr (ji_z_narrow (by repeat' (first | with_reducible exact ji_z0 | with_reducible exact ji_z1 | with_reducible refine ji_z_ite ?_ ?_ | with_reducible assumption))) (fun t ht hW => ⟨_, rfl, hq, ht⟩) (fun _ h => absurd h List.not_mem_nil) dX2_isNan_18
  · rw [if_neg c1] at hq
    refine lv_iconst (v := 1) hx hb dX2_isNan_13 (by decide) ?_
    refine lv_goto (tgt := 18) hx hb dX2_isNan_14 (by decide) ?_
    exact W.zret (v := (1 : Int32)) hx hb hr (ji_z_narrow (by repeat' (first | with_reducible exact ji_z0 | with_reducible exact ji_z1 | with_reducible refine ji_z_ite ?_ ?_ | with_reducible assumption))) (fun t ht hW => ⟨_, rfl, hq, ht⟩) (fun _ h => absurd h List.not_mem_nil) dX2_isNan_18
theorem kX2_isNan (l : Launch) (w : Bool) (h0 : Nat) (x1 : Int64) : Met l yX2_isNan (Cond.code yX2_isNan cX2_isNan 3 (some .boolean) :: bw) rmX2_isNan (va_Pc [.ref h0, .long x1] (fun U => fo_K w h0 U)) (vp_Si (fun r => r = fX2_isNan w x1)) 0 0 (fun _ => False) := by
  refine bx_ent (by decide) _ _ (Nat.le_of_ble_eq_true rfl) rfl ?_
  intro p e s m below meth c ls C hl hK0
  exact bX2_isNan_0 w x1 C hK0 hl _ rfl
abbrev rmX2_isInfinite : Room := { frames := 1, cells := 0, slots := 0, locals := 22 }
theorem mbX2_isInfinite : mb_V RX2 yX2_isInfinite cX2_isInfinite 3 (some .boolean) 1 := ⟨⟨tw_instanceMethod_yX2_isInfinite, tw_selects_RX2_yX2_isInfinite_yX2_isInfinite, tw_initialized_RX2, tw_code_yX2_isInfinite⟩, rfl, by decide +kernel, by decide +kernel, by decide +kernel⟩
theorem BX2_isInfinite {w : Bool} {h0 : Nat} : bx_B (fun U => fo_K w h0 U) := fo_B w h0
set_option maxRecDepth 20000 in
theorem bX2_isInfinite_0 (w : Bool) (x1 : Int64) {p : Program} {l : Launch} {e : Env} {s : State} {m : MethodId} {args : Array Value} {below : List Frame} {meth : Method} {c : Code} {h0 : Nat} {ls : Array Slot} (C : bx_C p s m args meth c cX2_isInfinite 3 (some .boolean) RX2) (hK0 : fo_K w h0 s) (hl : lv_has ls 3 [(0, .ref h0), (1, .long x1)]) (post : Int32 → Prop) (hq : post (fX2_isInfinite w x1)) : W p l e rmX2_isInfinite s m args below meth c s.heap [] 0 0 (MQ below (vp_Si post) args s 0 0 (fun _ => False)) (F0 m 0 ls []) := by
  obtain ⟨hx, hb, hml, hr, hlocks, hown, hts⟩ := id C
  unfold fX2_isInfinite at hq
  refine lv_aload_n hx hb dX2_isInfinite_0 rfl (lv_at hl 0 rfl) ?_
  refine lv_lload_n hx hb dX2_isInfinite_1 rfl (lv_at hl 1 rfl) ?_
  refine bx_vl C (kX2_size l w h0 x1) BX2_size (fun U u1 u2 => fo_B w h0 s U u1 u2 hK0) (fun U u1 u2 => (fo_B w h0 s U u1 u2 hK0).1) tw_methodLink_RX2_82_yX2_size mbX2_size rfl ⟨rfl, rfl⟩ ⟨Nat.le_of_ble_eq_true rfl, Nat.le_of_ble_eq_true rfl⟩ ⟨Nat.zero_le _, Nat.zero_le _⟩ hl.1 rfl (Nat.le_of_ble_eq_true rfl) dX2_isInfinite_2 ?_
  refine lv_aload_n hx hb dX2_isInfinite_5 rfl (lv_at hl 0 rfl) ?_
  refine vk_getf (v := .long (fo_infinity w)) hx hb (fo_infinity_K hK0) va_S.rf hown (hts _ tw_fieldLink_RX2_49_GlulxFloats_Form_infinity_J) (fun _ h9 => h9) dX2_isInfinite_6 ?_
  refine bx_lc_ne (tgt := 17) hx hb dX2_isInfinite_9 dX2_isInfinite_10 (by decide) (fun c1 => ?_) (fun c1 => ?_)
  · rw [if_neg c1] at hq
    refine lv_iconst (v := 0) hx hb dX2_isInfinite_17 (by decide) ?_
    exact W.zret (v := (0 : Int32)) hx hb hr (ji_z_narrow (by repeat' (first | with_reducible exact ji_z0 | with_reducible exact ji_z1 | with_reducible refine ji_z_ite ?_ ?_ | with_reducible assumption))) (fun t ht hW => ⟨_, rfl, hq, ht⟩) (fun _ h => absurd h List.not_mem_nil) dX2_isInfinite_18
  · rw [if_pos c1] at hq
    refine lv_iconst (v := 1) hx hb dX2_isInfinite_13 (by decide) ?_
    refine lv_goto (tgt := 18) hx hb dX2_isInfinite_14 (by decide) ?_
    exact W.zret (v := (1 : Int32)) hx hb hr (ji_z_narrow (by repeat' (first | with_reducible exact ji_z0 | with_reducible exact ji_z1 | with_reducible refine ji_z_ite ?_ ?_ | with_reducible assumption))) (fun t ht hW => ⟨_, rfl, hq, ht⟩) (fun _ h => absurd h List.not_mem_nil) dX2_isInfinite_18
theorem kX2_isInfinite (l : Launch) (w : Bool) (h0 : Nat) (x1 : Int64) : Met l yX2_isInfinite (Cond.code yX2_isInfinite cX2_isInfinite 3 (some .boolean) :: bw) rmX2_isInfinite (va_Pc [.ref h0, .long x1] (fun U => fo_K w h0 U)) (vp_Si (fun r => r = fX2_isInfinite w x1)) 0 0 (fun _ => False) := by
  refine bx_ent (by decide) _ _ (Nat.le_of_ble_eq_true rfl) rfl ?_
  intro p e s m below meth c ls C hl hK0
  exact bX2_isInfinite_0 w x1 C hK0 hl _ rfl
abbrev rmX2_isZero : Room := { frames := 1, cells := 0, slots := 0, locals := 22 }
theorem mbX2_isZero : mb_V RX2 yX2_isZero cX2_isZero 3 (some .boolean) 1 := ⟨⟨tw_instanceMethod_yX2_isZero, tw_selects_RX2_yX2_isZero_yX2_isZero, tw_initialized_RX2, tw_code_yX2_isZero⟩, rfl, by decide +kernel, by decide +kernel, by decide +kernel⟩
theorem BX2_isZero {w : Bool} {h0 : Nat} : bx_B (fun U => fo_K w h0 U) := fo_B w h0
set_option maxRecDepth 20000 in
theorem bX2_isZero_0 (w : Bool) (x1 : Int64) {p : Program} {l : Launch} {e : Env} {s : State} {m : MethodId} {args : Array Value} {below : List Frame} {meth : Method} {c : Code} {h0 : Nat} {ls : Array Slot} (C : bx_C p s m args meth c cX2_isZero 3 (some .boolean) RX2) (hK0 : fo_K w h0 s) (hl : lv_has ls 3 [(0, .ref h0), (1, .long x1)]) (post : Int32 → Prop) (hq : post (fX2_isZero w x1)) : W p l e rmX2_isZero s m args below meth c s.heap [] 0 0 (MQ below (vp_Si post) args s 0 0 (fun _ => False)) (F0 m 0 ls []) := by
  obtain ⟨hx, hb, hml, hr, hlocks, hown, hts⟩ := id C
  unfold fX2_isZero at hq
  refine lv_aload_n hx hb dX2_isZero_0 rfl (lv_at hl 0 rfl) ?_
  refine lv_lload_n hx hb dX2_isZero_1 rfl (lv_at hl 1 rfl) ?_
  refine bx_vl C (kX2_size l w h0 x1) BX2_size (fun U u1 u2 => fo_B w h0 s U u1 u2 hK0) (fun U u1 u2 => (fo_B w h0 s U u1 u2 hK0).1) tw_methodLink_RX2_82_yX2_size mbX2_size rfl ⟨rfl, rfl⟩ ⟨Nat.le_of_ble_eq_true rfl, Nat.le_of_ble_eq_true rfl⟩ ⟨Nat.zero_le _, Nat.zero_le _⟩ hl.1 rfl (Nat.le_of_ble_eq_true rfl) dX2_isZero_2 ?_
  refine lv_lconst (v := 0) hx hb dX2_isZero_5 (by decide) ?_
  refine bx_lc_ne (tgt := 14) hx hb dX2_isZero_6 dX2_isZero_7 (by decide) (fun c1 => ?_) (fun c1 => ?_)
  · rw [if_neg c1] at hq
    refine lv_iconst (v := 0) hx hb dX2_isZero_14 (by decide) ?_
    exact W.zret (v := (0 : Int32)) hx hb hr (ji_z_narrow (by repeat' (first | with_reducible exact ji_z0 | with_reducible exact ji_z1 | with_reducible refine ji_z_ite ?_ ?_ | with_reducible assumption))) (fun t ht hW => ⟨_, rfl, hq, ht⟩) (fun _ h => absurd h List.not_mem_nil) dX2_isZero_15
  · rw [if_pos c1] at hq
    refine lv_iconst (v := 1) hx hb dX2_isZero_10 (by decide) ?_
    refine lv_goto (tgt := 15) hx hb dX2_isZero_11 (by decide) ?_
    exact W.zret (v := (1 : Int32)) hx hb hr (ji_z_narrow (by repeat' (first | with_reducible exact ji_z0 | with_reducible exact ji_z1 | with_reducible refine ji_z_ite ?_ ?_ | with_reducible assumption))) (fun t ht hW => ⟨_, rfl, hq, ht⟩) (fun _ h => absurd h List.not_mem_nil) dX2_isZero_15
theorem kX2_isZero (l : Launch) (w : Bool) (h0 : Nat) (x1 : Int64) : Met l yX2_isZero (Cond.code yX2_isZero cX2_isZero 3 (some .boolean) :: bw) rmX2_isZero (va_Pc [.ref h0, .long x1] (fun U => fo_K w h0 U)) (vp_Si (fun r => r = fX2_isZero w x1)) 0 0 (fun _ => False) := by
  refine bx_ent (by decide) _ _ (Nat.le_of_ble_eq_true rfl) rfl ?_
  intro p e s m below meth c ls C hl hK0
  exact bX2_isZero_0 w x1 C hK0 hl _ rfl
abbrev rmX2_biased : Room := { frames := 0, cells := 0, slots := 0, locals := 0 }
theorem mbX2_biased : mb_V RX2 yX2_biased cX2_biased 3 (some .int) 1 := ⟨⟨tw_instanceMethod_yX2_biased, tw_selects_RX2_yX2_biased_yX2_biased, tw_initialized_RX2, tw_code_yX2_biased⟩, rfl, by decide +kernel, by decide +kernel, by decide +kernel⟩
theorem BX2_biased {w : Bool} {h0 : Nat} : bx_B (fun U => fo_K w h0 U) := fo_B w h0
set_option maxRecDepth 20000 in
theorem bX2_biased_0 (w : Bool) (x1 : Int64) {p : Program} {l : Launch} {e : Env} {s : State} {m : MethodId} {args : Array Value} {below : List Frame} {meth : Method} {c : Code} {h0 : Nat} {ls : Array Slot} (C : bx_C p s m args meth c cX2_biased 3 (some .int) RX2) (hK0 : fo_K w h0 s) (hl : lv_has ls 3 [(0, .ref h0), (1, .long x1)]) (post : Int32 → Prop) (hq : post (fX2_biased w x1)) : W p l e rmX2_biased s m args below meth c s.heap [] 0 0 (MQ below (vp_Si post) args s 0 0 (fun _ => False)) (F0 m 0 ls []) := by
  obtain ⟨hx, hb, hml, hr, hlocks, hown, hts⟩ := id C
  unfold fX2_biased at hq
  refine lv_lload_n hx hb dX2_biased_0 rfl (lv_at hl 1 rfl) ?_
  refine lv_aload_n hx hb dX2_biased_1 rfl (lv_at hl 0 rfl) ?_
  refine vk_getf (v := .int (fo_fraction w)) hx hb (fo_fraction_K hK0) va_S.rf hown (hts _ tw_fieldLink_RX2_29_GlulxFloats_Form_fraction_I) (fun _ h9 => h9) dX2_biased_2 ?_
  refine bx_lushr hx hb dX2_biased_5 ?_
  refine bx_l2i hx hb dX2_biased_6 ?_
  refine lv_aload_n hx hb dX2_biased_7 rfl (lv_at hl 0 rfl) ?_
  refine vk_getf (v := .int (fo_top w)) hx hb (fo_top_K hK0) va_S.rf hown (hts _ tw_fieldLink_RX2_36_GlulxFloats_Form_top_I) (fun _ h9 => h9) dX2_biased_8 ?_
  refine lv_iand hx hb dX2_biased_11 ?_
  exact W.iret (v := ((jl_ushr x1 (fo_fraction w)).toInt32 &&& (fo_top w))) hx hb hr (fun t ht hW => ⟨_, rfl, hq, ht⟩) (fun _ h => absurd h List.not_mem_nil) dX2_biased_12
theorem kX2_biased (l : Launch) (w : Bool) (h0 : Nat) (x1 : Int64) : Met l yX2_biased (Cond.code yX2_biased cX2_biased 3 (some .int) :: bw) rmX2_biased (va_Pc [.ref h0, .long x1] (fun U => fo_K w h0 U)) (vp_Si (fun r => r = fX2_biased w x1)) 0 0 (fun _ => False) := by
  refine bx_ent (by decide) _ _ (Nat.le_of_ble_eq_true rfl) rfl ?_
  intro p e s m below meth c ls C hl hK0
  exact bX2_biased_0 w x1 C hK0 hl _ rfl
abbrev rmX2_scale : Room := { frames := 1, cells := 0, slots := 0, locals := 24 }
theorem mbX2_scale : mb_V RX2 yX2_scale cX2_scale 3 (some .int) 1 := ⟨⟨tw_instanceMethod_yX2_scale, tw_selects_RX2_yX2_scale_yX2_scale, tw_initialized_RX2, tw_code_yX2_scale⟩, rfl, by decide +kernel, by decide +kernel, by decide +kernel⟩
theorem BX2_scale {w : Bool} {h0 : Nat} : bx_B (fun U => fo_K w h0 U) := fo_B w h0
set_option maxRecDepth 20000 in
theorem bX2_scale_0 (w : Bool) (x1 : Int64) {p : Program} {l : Launch} {e : Env} {s : State} {m : MethodId} {args : Array Value} {below : List Frame} {meth : Method} {c : Code} {h0 : Nat} {ls : Array Slot} (C : bx_C p s m args meth c cX2_scale 3 (some .int) RX2) (hK0 : fo_K w h0 s) (hl : lv_has ls 3 [(0, .ref h0), (1, .long x1)]) (post : Int32 → Prop) (hq : post (fX2_scale w x1)) : W p l e rmX2_scale s m args below meth c s.heap [] 0 0 (MQ below (vp_Si post) args s 0 0 (fun _ => False)) (F0 m 0 ls []) := by
  obtain ⟨hx, hb, hml, hr, hlocks, hown, hts⟩ := id C
  unfold fX2_scale at hq
  refine lv_aload_n hx hb dX2_scale_0 rfl (lv_at hl 0 rfl) ?_
  refine lv_lload_n hx hb dX2_scale_1 rfl (lv_at hl 1 rfl) ?_
  refine bx_vi C (kX2_biased l w h0 x1) BX2_biased (fun U u1 u2 => fo_B w h0 s U u1 u2 hK0) (fun U u1 u2 => (fo_B w h0 s U u1 u2 hK0).1) tw_methodLink_RX2_101_yX2_biased mbX2_biased rfl ⟨rfl, rfl⟩ ⟨Nat.le_of_ble_eq_true rfl, Nat.le_of_ble_eq_true rfl⟩ ⟨Nat.zero_le _, Nat.zero_le _⟩ hl.1 rfl (Nat.le_of_ble_eq_true rfl) dX2_scale_2 ?_
  refine lv_iconst (v := 1) hx hb dX2_scale_5 (by decide) ?_
  refine va_mmax hx hb (by rw [hml]; exact hl.1.symm) hown (hts _ tw_methodLink_RX2_130_Mmax_name) (hts _ tw_static_Mmax_name) (hts _ tw_initialized_Math) (hts _ tw_code_Lib_Math_max_name) (Nat.le_of_ble_eq_true rfl) (Nat.le_of_ble_eq_true rfl) (Nat.zero_le _) (Nat.zero_le _) dX2_scale_6 ?_
  refine bx_as (v := .int (ji_max (fX2_biased w x1) (1 : Int32))) rfl ?_
  refine lv_aload_n hx hb dX2_scale_9 rfl (lv_at hl 0 rfl) ?_
  refine vk_getf (v := .int (fo_bias w)) hx hb (fo_bias_K hK0) va_S.rf hown (hts _ tw_fieldLink_RX2_33_GlulxFloats_Form_bias_I) (fun _ h9 => h9) dX2_scale_10 ?_
  refine lv_isub hx hb dX2_scale_13 ?_
  refine lv_aload_n hx hb dX2_scale_14 rfl (lv_at hl 0 rfl) ?_
  refine vk_getf (v := .int (fo_fraction w)) hx hb (fo_fraction_K hK0) va_S.rf hown (hts _ tw_fieldLink_RX2_29_GlulxFloats_Form_fraction_I) (fun _ h9 => h9) dX2_scale_15 ?_
  refine lv_isub hx hb dX2_scale_18 ?_
  exact W.iret (v := (((ji_max (fX2_biased w x1) (1 : Int32)) - (fo_bias w)) - (fo_fraction w))) hx hb hr (fun t ht hW => ⟨_, rfl, hq, ht⟩) (fun _ h => absurd h List.not_mem_nil) dX2_scale_19
theorem kX2_scale (l : Launch) (w : Bool) (h0 : Nat) (x1 : Int64) : Met l yX2_scale (Cond.code yX2_scale cX2_scale 3 (some .int) :: bw) rmX2_scale (va_Pc [.ref h0, .long x1] (fun U => fo_K w h0 U)) (vp_Si (fun r => r = fX2_scale w x1)) 0 0 (fun _ => False) := by
  refine bx_ent (by decide) _ _ (Nat.le_of_ble_eq_true rfl) rfl ?_
  intro p e s m below meth c ls C hl hK0
  exact bX2_scale_0 w x1 C hK0 hl _ rfl
abbrev rmX2_plain : Room := { frames := 1, cells := 0, slots := 0, locals := 22 }
theorem mbX2_plain : mb_V RX2 yX2_plain cX2_plain 5 (some .long) 1 := ⟨⟨tw_instanceMethod_yX2_plain, tw_selects_RX2_yX2_plain_yX2_plain, tw_initialized_RX2, tw_code_yX2_plain⟩, rfl, by decide +kernel, by decide +kernel, by decide +kernel⟩
theorem BX2_plain {w : Bool} {h0 : Nat} : bx_B (fun U => fo_K w h0 U) := fo_B w h0
set_option maxRecDepth 20000 in
theorem bX2_plain_0 (w : Bool) (x1 : Int64) {p : Program} {l : Launch} {e : Env} {s : State} {m : MethodId} {args : Array Value} {below : List Frame} {meth : Method} {c : Code} {h0 : Nat} {ls : Array Slot} (C : bx_C p s m args meth c cX2_plain 5 (some .long) RX2) (hK0 : fo_K w h0 s) (hl : lv_has ls 5 [(0, .ref h0), (1, .long x1)]) (post : Int64 → Prop) (hq : post (fX2_plain w x1)) : W p l e rmX2_plain s m args below meth c s.heap [] 0 0 (MQ below (vp_Sl post) args s 0 0 (fun _ => False)) (F0 m 0 ls []) := by
  obtain ⟨hx, hb, hml, hr, hlocks, hown, hts⟩ := id C
  unfold fX2_plain at hq
  refine lv_lload_n hx hb dX2_plain_0 rfl (lv_at hl 1 rfl) ?_
  refine lv_lconst (v := 1) hx hb dX2_plain_1 (by decide) ?_
  refine lv_aload_n hx hb dX2_plain_2 rfl (lv_at hl 0 rfl) ?_
  refine vk_getf (v := .int (fo_fraction w)) hx hb (fo_fraction_K hK0) va_S.rf hown (hts _ tw_fieldLink_RX2_29_GlulxFloats_Form_fraction_I) (fun _ h9 => h9) dX2_plain_3 ?_
  refine bx_lshl hx hb dX2_plain_6 ?_
  refine lv_lconst (v := 1) hx hb dX2_plain_7 (by decide) ?_
  refine lv_lsub hx hb dX2_plain_8 ?_
  refine lv_land hx hb dX2_plain_9 ?_
  refine lv_lstore_n (lv' := [(3, .long (x1 &&& ((jl_shl (1 : Int64) (fo_fraction w)) - (1 : Int64)))), (0, .ref h0), (1, .long x1)]) hx hb dX2_plain_10 rfl hl (by decide) rfl (fun ls hl => ?_)
  refine lv_aload_n hx hb dX2_plain_11 rfl (lv_at hl 1 rfl) ?_
  refine lv_lload_n hx hb dX2_plain_12 rfl (lv_at hl 2 rfl) ?_
  refine bx_vi C (kX2_biased l w h0 x1) BX2_biased (fun U u1 u2 => fo_B w h0 s U u1 u2 hK0) (fun U u1 u2 => (fo_B w h0 s U u1 u2 hK0).1) tw_methodLink_RX2_101_yX2_biased mbX2_biased rfl ⟨rfl, rfl⟩ ⟨Nat.le_of_ble_eq_true rfl, Nat.le_of_ble_eq_true rfl⟩ ⟨Nat.zero_le _, Nat.zero_le _⟩ hl.1 rfl (Nat.le_of_ble_eq_true rfl) dX2_plain_13 ?_
  refine lv_if_ne (tgt := 23) hx hb dX2_plain_16 (by decide) (fun c1 => ?_) (fun c1 => ?_)
  · rw [if_neg c1] at hq
    refine lv_lload_n hx hb dX2_plain_23 rfl (lv_at hl 0 rfl) ?_
    refine lv_lconst (v := 1) hx hb dX2_plain_24 (by decide) ?_
    refine lv_aload_n hx hb dX2_plain_25 rfl (lv_at hl 1 rfl) ?_
    refine vk_getf (v := .int (fo_fraction w)) hx hb (fo_fraction_K hK0) va_S.rf hown (hts _ tw_fieldLink_RX2_29_GlulxFloats_Form_fraction_I) (fun _ h9 => h9) dX2_plain_26 ?_
    refine bx_lshl hx hb dX2_plain_29 ?_
    refine lv_lor hx hb dX2_plain_30 ?_
    exact W.lret (v := ((x1 &&& ((jl_shl (1 : Int64) (fo_fraction w)) - (1 : Int64))) ||| (jl_shl (1 : Int64) (fo_fraction w)))) hx hb hr (fun t ht hW => ⟨_, rfl, hq, ht⟩) (fun _ h => absurd h List.not_mem_nil) dX2_plain_31
  · rw [if_pos c1] at hq
    refine lv_lload_n hx hb dX2_plain_19 rfl (lv_at hl 0 rfl) ?_
    refine lv_goto (tgt := 31) hx hb dX2_plain_20 (by decide) ?_
    exact W.lret (v := (x1 &&& ((jl_shl (1 : Int64) (fo_fraction w)) - (1 : Int64)))) hx hb hr (fun t ht hW => ⟨_, rfl, hq, ht⟩) (fun _ h => absurd h List.not_mem_nil) dX2_plain_31
theorem kX2_plain (l : Launch) (w : Bool) (h0 : Nat) (x1 : Int64) : Met l yX2_plain (Cond.code yX2_plain cX2_plain 5 (some .long) :: bw) rmX2_plain (va_Pc [.ref h0, .long x1] (fun U => fo_K w h0 U)) (vp_Sl (fun r => r = fX2_plain w x1)) 0 0 (fun _ => False) := by
  refine bx_ent (by decide) _ _ (Nat.le_of_ble_eq_true rfl) rfl ?_
  intro p e s m below meth c ls C hl hK0
  exact bX2_plain_0 w x1 C hK0 hl _ rfl
abbrev rmX2_isNegative : Room := { frames := 0, cells := 0, slots := 0, locals := 0 }
theorem mbX2_isNegative : mb_V RX2 yX2_isNegative cX2_isNegative 3 (some .boolean) 1 := ⟨⟨tw_instanceMethod_yX2_isNegative, tw_selects_RX2_yX2_isNegative_yX2_isNegative, tw_initialized_RX2, tw_code_yX2_isNegative⟩, rfl, by decide +kernel, by decide +kernel, by decide +kernel⟩
theorem BX2_isNegative {w : Bool} {h0 : Nat} : bx_B (fun U => fo_K w h0 U) := fo_B w h0
set_option maxRecDepth 20000 in
theorem bX2_isNegative_0 (w : Bool) (x1 : Int64) {p : Program} {l : Launch} {e : Env} {s : State} {m : MethodId} {args : Array Value} {below : List Frame} {meth : Method} {c : Code} {h0 : Nat} {ls : Array Slot} (C : bx_C p s m args meth c cX2_isNegative 3 (some .boolean) RX2) (hK0 : fo_K w h0 s) (hl : lv_has ls 3 [(0, .ref h0), (1, .long x1)]) (post : Int32 → Prop) (hq : post (fX2_isNegative w x1)) : W p l e rmX2_isNegative s m args below meth c s.heap [] 0 0 (MQ below (vp_Si post) args s 0 0 (fun _ => False)) (F0 m 0 ls []) := by
  obtain ⟨hx, hb, hml, hr, hlocks, hown, hts⟩ := id C
  unfold fX2_isNegative at hq
  refine lv_lload_n hx hb dX2_isNegative_0 rfl (lv_at hl 1 rfl) ?_
  refine lv_aload_n hx hb dX2_isNegative_1 rfl (lv_at hl 0 rfl) ?_
  refine vk_getf (v := .long (fo_sign w)) hx hb (fo_sign_K hK0) va_S.rf hown (hts _ tw_fieldLink_RX2_42_GlulxFloats_Form_sign_J) (fun _ h9 => h9) dX2_isNegative_2 ?_
  refine lv_land hx hb dX2_isNegative_5 ?_
  refine lv_lconst (v := 0) hx hb dX2_isNegative_6 (by decide) ?_
  refine bx_lc_eq (tgt := 15) hx hb dX2_isNegative_7 dX2_isNegative_8 (by decide) (fun c1 => ?_) (fun c1 => ?_)
  · rw [if_pos c1] at hq
    refine lv_iconst (v := 0) hx hb dX2_isNegative_15 (by decide) ?_
    exact W.zret (v := (0 : Int32)) hx hb hr (ji_z_narrow (by repeat' (first | with_reducible exact ji_z0 | with_reducible exact ji_z1 | with_reducible refine ji_z_ite ?_ ?_ | with_reducible assumption))) (fun t ht hW => ⟨_, rfl, hq, ht⟩) (fun _ h => absurd h List.not_mem_nil) dX2_isNegative_16
  · rw [if_neg c1] at hq
    refine lv_iconst (v := 1) hx hb dX2_isNegative_11 (by decide) ?_
    refine lv_goto (tgt := 16) hx hb dX2_isNegative_12 (by decide) ?_
    exact W.zret (v := (1 : Int32)) hx hb hr (ji_z_narrow (by repeat' (first | with_reducible exact ji_z0 | with_reducible exact ji_z1 | with_reducible refine ji_z_ite ?_ ?_ | with_reducible assumption))) (fun t ht hW => ⟨_, rfl, hq, ht⟩) (fun _ h => absurd h List.not_mem_nil) dX2_isNegative_16
theorem kX2_isNegative (l : Launch) (w : Bool) (h0 : Nat) (x1 : Int64) : Met l yX2_isNegative (Cond.code yX2_isNegative cX2_isNegative 3 (some .boolean) :: bw) rmX2_isNegative (va_Pc [.ref h0, .long x1] (fun U => fo_K w h0 U)) (vp_Si (fun r => r = fX2_isNegative w x1)) 0 0 (fun _ => False) := by
  refine bx_ent (by decide) _ _ (Nat.le_of_ble_eq_true rfl) rfl ?_
  intro p e s m below meth c ls C hl hK0
  exact bX2_isNegative_0 w x1 C hK0 hl _ rfl
abbrev rmX2_rounded : Room := { frames := 1, cells := 0, slots := 0, locals := 24 }
theorem mbX2_rounded : mb_V RX2 yX2_rounded cX2_rounded 18 (some .long) 3 := ⟨⟨tw_instanceMethod_yX2_rounded, tw_selects_RX2_yX2_rounded_yX2_rounded, tw_initialized_RX2, tw_code_yX2_rounded⟩, rfl, by decide +kernel, by decide +kernel, by decide +kernel⟩
theorem BX2_rounded {w : Bool} {h0 : Nat} : bx_B (fun U => fo_K w h0 U) := fo_B w h0
set_option maxRecDepth 20000 in
theorem bX2_rounded_158 (w : Bool) (x8 : Int32) (x9 : Int64) (x12 : Int64) {p : Program} {l : Launch} {e : Env} {s : State} {m : MethodId} {args : Array Value} {below : List Frame} {meth : Method} {c : Code} {h0 : Nat} {ls : Array Slot} (C : bx_C p s m args meth c cX2_rounded 18 (some .long) RX2) (hK0 : fo_K w h0 s) (hl : lv_has ls 18 [(0, .ref h0), (8, .int x8), (9, .long x9), (12, .long x12)]) (post : Int64 → Prop) (hq : post (fX2_rounded_158 w x8 x9 x12)) : W p l e rmX2_rounded s m args below meth c s.heap [] 0 0 (MQ below (vp_Sl post) args s 0 0 (fun _ => False)) (F0 m 158 ls []) := by
  obtain ⟨hx, hb, hml, hr, hlocks, hown, hts⟩ := id C
  unfold fX2_rounded_158 at hq
  refine lv_lload hx hb dX2_rounded_158 (lv_at hl 2 rfl) ?_
  refine lv_iload hx hb dX2_rounded_160 (lv_at hl 1 rfl) ?_
  refine lv_iconst (v := 1) hx hb dX2_rounded_162 (by decide) ?_
  refine va_mmax hx hb (by rw [hml]; exact hl.1.symm) hown (hts _ tw_methodLink_RX2_130_Mmax_name) (hts _ tw_static_Mmax_name) (hts _ tw_initialized_Math) (hts _ tw_code_Lib_Math_max_name) (Nat.le_of_ble_eq_true rfl) (Nat.le_of_ble_eq_true rfl) (Nat.zero_le _) (Nat.zero_le _) dX2_rounded_163 ?_
  refine bx_as (v := .int (ji_max x8 (1 : Int32))) rfl ?_
  refine lv_iconst (v := 1) hx hb dX2_rounded_166 (by decide) ?_
  refine lv_isub hx hb dX2_rounded_167 ?_
  refine bx_i2l hx hb dX2_rounded_168 ?_
  refine lv_aload_n hx hb dX2_rounded_169 rfl (lv_at hl 0 rfl) ?_
  refine vk_getf (v := .int (fo_fraction w)) hx hb (fo_fraction_K hK0) va_S.rf hown (hts _ tw_fieldLink_RX2_29_GlulxFloats_Form_fraction_I) (fun _ h9 => h9) dX2_rounded_170 ?_
  refine bx_lshl hx hb dX2_rounded_173 ?_
  refine lv_lload hx hb dX2_rounded_174 (lv_at hl 3 rfl) ?_
  refine lv_ladd hx hb dX2_rounded_176 ?_
  refine lv_lor hx hb dX2_rounded_177 ?_
  exact W.lret (v := (x9 ||| ((jl_shl (((ji_max x8 (1 : Int32)) - (1 : Int32)).toInt64) (fo_fraction w)) + x12))) hx hb hr (fun t ht hW => ⟨_, rfl, hq, ht⟩) (fun _ h => absurd h List.not_mem_nil) dX2_rounded_178
set_option maxRecDepth 20000 in
theorem bX2_rounded_152 (w : Bool) (x8 : Int32) (x9 : Int64) (x12 : Int64) {p : Program} {l : Launch} {e : Env} {s : State} {m : MethodId} {args : Array Value} {below : List Frame} {meth : Method} {c : Code} {h0 : Nat} {ls : Array Slot} (C : bx_C p s m args meth c cX2_rounded 18 (some .long) RX2) (hK0 : fo_K w h0 s) (hl : lv_has ls 18 [(0, .ref h0), (8, .int x8), (9, .long x9), (12, .long x12)]) (post : Int64 → Prop) (hq : post (fX2_rounded_152 w x8 x9 x12)) : W p l e rmX2_rounded s m args below meth c s.heap [] 0 0 (MQ below (vp_Sl post) args s 0 0 (fun _ => False)) (F0 m 152 ls []) := by
  obtain ⟨hx, hb, hml, hr, hlocks, hown, hts⟩ := id C
  unfold fX2_rounded_152 at hq
  refine lv_lload hx hb dX2_rounded_152 (lv_at hl 3 rfl) ?_
  refine lv_lconst (v := 1) hx hb dX2_rounded_154 (by decide) ?_
  refine lv_ladd hx hb dX2_rounded_155 ?_
  refine lv_lstore (lv' := [(12, .long (x12 + (1 : Int64))), (0, .ref h0), (8, .int x8), (9, .long x9)]) hx hb dX2_rounded_156 hl (by decide) rfl (fun ls hl => ?_)
  exact bX2_rounded_158 w x8 x9 (x12 + (1 : Int64)) C hK0 (lv_sub hl [1, 2, 3, 0] rfl) post hq
set_option maxRecDepth 20000 in
theorem bX2_rounded_90 (w : Bool) (x6 : Int64) (x8 : Int32) (x9 : Int64) (s0 : Int32) {p : Program} {l : Launch} {e : Env} {s : State} {m : MethodId} {args : Array Value} {below : List Frame} {meth : Method} {c : Code} {h0 : Nat} {ls : Array Slot} (C : bx_C p s m args meth c cX2_rounded 18 (some .long) RX2) (hK0 : fo_K w h0 s) (hl : lv_has ls 18 [(0, .ref h0), (6, .long x6), (8, .int x8), (9, .long x9)]) (post : Int64 → Prop) (hq : post (fX2_rounded_90 w x6 x8 x9 s0)) : W p l e rmX2_rounded s m args below meth c s.heap [] 0 0 (MQ below (vp_Sl post) args s 0 0 (fun _ => False)) (F0 m 90 ls [.int s0]) := by
  obtain ⟨hx, hb, hml, hr, hlocks, hown, hts⟩ := id C
  unfold fX2_rounded_90 at hq
  refine lv_istore (lv' := [(11, .int s0), (0, .ref h0), (6, .long x6), (8, .int x8), (9, .long x9)]) hx hb dX2_rounded_90 hl (by decide) rfl (fun ls hl => ?_)
  refine lv_iload hx hb dX2_rounded_92 (lv_at hl 0 rfl) ?_
  refine lv_bipush (v := 63) hx hb dX2_rounded_94 (by decide) ?_
  refine lv_icmp_le (tgt := 102) hx hb dX2_rounded_96 (by decide) (fun c4 => ?_) (fun c4 => ?_)
  · rw [if_pos c4] at hq
    refine lv_lload hx hb dX2_rounded_102 (lv_at hl 2 rfl) ?_
    refine lv_iload hx hb dX2_rounded_104 (lv_at hl 0 rfl) ?_
    refine bx_lushr hx hb dX2_rounded_106 ?_
    refine lv_lstore (lv' := [(12, .long (jl_ushr x6 s0)), (11, .int s0), (0, .ref h0), (6, .long x6), (8, .int x8), (9, .long x9)]) hx hb dX2_rounded_107 hl (by decide) rfl (fun ls hl => ?_)
    refine lv_lload hx hb dX2_rounded_109 (lv_at hl 3 rfl) ?_
    refine lv_lload hx hb dX2_rounded_111 (lv_at hl 0 rfl) ?_
    refine lv_iload hx hb dX2_rounded_113 (lv_at hl 1 rfl) ?_
    refine bx_lshl hx hb dX2_rounded_115 ?_
    refine lv_lsub hx hb dX2_rounded_116 ?_
    refine lv_lstore (lv' := [(14, .long (x6 - (jl_shl (jl_ushr x6 s0) s0))), (12, .long (jl_ushr x6 s0)), (11, .int s0), (0, .ref h0), (6, .long x6), (8, .int x8), (9, .long x9)]) hx hb dX2_rounded_117 hl (by decide) rfl (fun ls hl => ?_)
    refine lv_lconst (v := 1) hx hb dX2_rounded_119 (by decide) ?_
    refine lv_iload hx hb dX2_rounded_120 (lv_at hl 2 rfl) ?_
    refine lv_iconst (v := 1) hx hb dX2_rounded_122 (by decide) ?_
    refine lv_isub hx hb dX2_rounded_123 ?_
    refine bx_lshl hx hb dX2_rounded_124 ?_
    refine lv_lstore (lv' := [(16, .long (jl_shl (1 : Int64) (s0 - (1 : Int32)))), (14, .long (x6 - (jl_shl (jl_ushr x6 s0) s0))), (12, .long (jl_ushr x6 s0)), (11, .int s0), (0, .ref h0), (6, .long x6), (8, .int x8), (9, .long x9)]) hx hb dX2_rounded_125 hl (by decide) rfl (fun ls hl => ?_)
    refine lv_lload hx hb dX2_rounded_127 (lv_at hl 1 rfl) ?_
    refine lv_lload hx hb dX2_rounded_129 (lv_at hl 0 rfl) ?_
    refine bx_lc_gt (tgt := 152) hx hb dX2_rounded_131 dX2_rounded_132 (by decide) (fun c5 => ?_) (fun c5 => ?_)
    · rw [if_pos c5] at hq
      exact bX2_rounded_152 w x8 x9 (jl_ushr x6 s0) C hK0 (lv_sub hl [4, 6, 7, 2] rfl) post hq
    · rw [if_neg c5] at hq
      refine lv_lload hx hb dX2_rounded_135 (lv_at hl 1 rfl) ?_
      refine lv_lload hx hb dX2_rounded_137 (lv_at hl 0 rfl) ?_
      refine bx_lc_ne (tgt := 158) hx hb dX2_rounded_139 dX2_rounded_140 (by decide) (fun c6 => ?_) (fun c6 => ?_)
      · rw [if_neg c6] at hq
        exact bX2_rounded_158 w x8 x9 (jl_ushr x6 s0) C hK0 (lv_sub hl [4, 6, 7, 2] rfl) post hq
      · rw [if_pos c6] at hq
        refine lv_lload hx hb dX2_rounded_143 (lv_at hl 2 rfl) ?_
        refine lv_lconst (v := 1) hx hb dX2_rounded_145 (by decide) ?_
        refine lv_land hx hb dX2_rounded_146 ?_
        refine lv_lconst (v := 0) hx hb dX2_rounded_147 (by decide) ?_
        refine bx_lc_eq (tgt := 158) hx hb dX2_rounded_148 dX2_rounded_149 (by decide) (fun c7 => ?_) (fun c7 => ?_)
        · rw [if_pos c7] at hq
          exact bX2_rounded_158 w x8 x9 (jl_ushr x6 s0) C hK0 (lv_sub hl [4, 6, 7, 2] rfl) post hq
        · rw [if_neg c7] at hq
          exact bX2_rounded_152 w x8 x9 (jl_ushr x6 s0) C hK0 (lv_sub hl [4, 6, 7, 2] rfl) post hq
  · rw [if_neg c4] at hq
    refine lv_lload hx hb dX2_rounded_99 (lv_at hl 4 rfl) ?_
    exact W.lret (v := x9) hx hb hr (fun t ht hW => ⟨_, rfl, hq, ht⟩) (fun _ h => absurd h List.not_mem_nil) dX2_rounded_101
set_option maxRecDepth 20000 in
theorem bX2_rounded_55 (w : Bool) (x6 : Int64) (x8 : Int32) (s0 : Int64) {p : Program} {l : Launch} {e : Env} {s : State} {m : MethodId} {args : Array Value} {below : List Frame} {meth : Method} {c : Code} {h0 : Nat} {ls : Array Slot} (C : bx_C p s m args meth c cX2_rounded 18 (some .long) RX2) (hK0 : fo_K w h0 s) (hl : lv_has ls 18 [(0, .ref h0), (6, .long x6), (8, .int x8)]) (post : Int64 → Prop) (hq : post (fX2_rounded_55 w x6 x8 s0)) : W p l e rmX2_rounded s m args below meth c s.heap [] 0 0 (MQ below (vp_Sl post) args s 0 0 (fun _ => False)) (F0 m 55 ls [.long s0]) := by
  obtain ⟨hx, hb, hml, hr, hlocks, hown, hts⟩ := id C
  unfold fX2_rounded_55 at hq
  refine lv_lstore (lv' := [(9, .long s0), (0, .ref h0), (6, .long x6), (8, .int x8)]) hx hb dX2_rounded_55 hl (by decide) rfl (fun ls hl => ?_)
  refine lv_iload hx hb dX2_rounded_57 (lv_at hl 3 rfl) ?_
  refine lv_aload_n hx hb dX2_rounded_59 rfl (lv_at hl 1 rfl) ?_
  refine vk_getf (v := .int (fo_top w)) hx hb (fo_top_K hK0) va_S.rf hown (hts _ tw_fieldLink_RX2_36_GlulxFloats_Form_top_I) (fun _ h9 => h9) dX2_rounded_60 ?_
  refine lv_icmp_lt (tgt := 74) hx hb dX2_rounded_63 (by decide) (fun c3 => ?_) (fun c3 => ?_)
  · rw [if_pos c3] at hq
    refine lv_bipush (v := 62) hx hb dX2_rounded_74 (by decide) ?_
    refine lv_aload_n hx hb dX2_rounded_76 rfl (lv_at hl 1 rfl) ?_
    refine vk_getf (v := .int (fo_fraction w)) hx hb (fo_fraction_K hK0) va_S.rf hown (hts _ tw_fieldLink_RX2_29_GlulxFloats_Form_fraction_I) (fun _ h9 => h9) dX2_rounded_77 ?_
    refine lv_isub hx hb dX2_rounded_80 ?_
    refine lv_iconst (v := 1) hx hb dX2_rounded_81 (by decide) ?_
    refine lv_iload hx hb dX2_rounded_82 (lv_at hl 3 rfl) ?_
    refine lv_isub hx hb dX2_rounded_84 ?_
    refine lv_iconst (v := 0) hx hb dX2_rounded_85 (by decide) ?_
    refine va_mmax hx hb (by rw [hml]; exact hl.1.symm) hown (hts _ tw_methodLink_RX2_130_Mmax_name) (hts _ tw_static_Mmax_name) (hts _ tw_initialized_Math) (hts _ tw_code_Lib_Math_max_name) (Nat.le_of_ble_eq_true rfl) (Nat.le_of_ble_eq_true rfl) (Nat.zero_le _) (Nat.zero_le _) dX2_rounded_86 ?_
    refine bx_as (v := .int (ji_max ((1 : Int32) - x8) (0 : Int32))) rfl ?_
    refine lv_iadd hx hb dX2_rounded_89 ?_
    exact bX2_rounded_90 w x6 x8 s0 (((62 : Int32) - (fo_fraction w)) + (ji_max ((1 : Int32) - x8) (0 : Int32))) C hK0 (lv_sub hl [1, 2, 3, 0] rfl) post hq
  · rw [if_neg c3] at hq
    refine lv_lload hx hb dX2_rounded_66 (lv_at hl 0 rfl) ?_
    refine lv_aload_n hx hb dX2_rounded_68 rfl (lv_at hl 1 rfl) ?_
    refine vk_getf (v := .long (fo_infinity w)) hx hb (fo_infinity_K hK0) va_S.rf hown (hts _ tw_fieldLink_RX2_49_GlulxFloats_Form_infinity_J) (fun _ h9 => h9) dX2_rounded_69 ?_
    refine lv_lor hx hb dX2_rounded_72 ?_
    exact W.lret (v := (s0 ||| (fo_infinity w))) hx hb hr (fun t ht hW => ⟨_, rfl, hq, ht⟩) (fun _ h => absurd h List.not_mem_nil) dX2_rounded_73
set_option maxRecDepth 20000 in
theorem bX2_rounded_27 (w : Bool) (x1 : Int32) (x2 : Int32) (x5 : Int32) (s0 : Int64) {p : Program} {l : Launch} {e : Env} {s : State} {m : MethodId} {args : Array Value} {below : List Frame} {meth : Method} {c : Code} {h0 : Nat} {ls : Array Slot} (C : bx_C p s m args meth c cX2_rounded 18 (some .long) RX2) (hK0 : fo_K w h0 s) (hl : lv_has ls 18 [(0, .ref h0), (1, .int x1), (2, .int x2), (5, .int x5)]) (post : Int64 → Prop) (hq : post (fX2_rounded_27 w x1 x2 x5 s0)) : W p l e rmX2_rounded s m args below meth c s.heap [] 0 0 (MQ below (vp_Sl post) args s 0 0 (fun _ => False)) (F0 m 27 ls [.long s0]) := by
  obtain ⟨hx, hb, hml, hr, hlocks, hown, hts⟩ := id C
  unfold fX2_rounded_27 at hq
  refine lv_lstore (lv' := [(6, .long s0), (0, .ref h0), (1, .int x1), (2, .int x2), (5, .int x5)]) hx hb dX2_rounded_27 hl (by decide) rfl (fun ls hl => ?_)
  refine lv_iload_n hx hb dX2_rounded_29 rfl (lv_at hl 3 rfl) ?_
  refine lv_bipush (v := 63) hx hb dX2_rounded_30 (by decide) ?_
  refine lv_iadd hx hb dX2_rounded_32 ?_
  refine lv_iload hx hb dX2_rounded_33 (lv_at hl 4 rfl) ?_
  refine lv_isub hx hb dX2_rounded_35 ?_
  refine lv_aload_n hx hb dX2_rounded_36 rfl (lv_at hl 1 rfl) ?_
  refine vk_getf (v := .int (fo_bias w)) hx hb (fo_bias_K hK0) va_S.rf hown (hts _ tw_fieldLink_RX2_33_GlulxFloats_Form_bias_I) (fun _ h9 => h9) dX2_rounded_37 ?_
  refine lv_iadd hx hb dX2_rounded_40 ?_
  refine lv_istore (lv' := [(8, .int (((x2 + (63 : Int32)) - x5) + (fo_bias w))), (6, .long s0), (0, .ref h0), (1, .int x1), (2, .int x2), (5, .int x5)]) hx hb dX2_rounded_41 hl (by decide) rfl (fun ls hl => ?_)
  refine lv_iload_n hx hb dX2_rounded_43 rfl (lv_at hl 3 rfl) ?_
  refine lv_if_eq (tgt := 54) hx hb dX2_rounded_44 (by decide) (fun c2 => ?_) (fun c2 => ?_)
  · rw [if_pos c2] at hq
    refine lv_lconst (v := 0) hx hb dX2_rounded_54 (by decide) ?_
    exact bX2_rounded_55 w s0 (((x2 + (63 : Int32)) - x5) + (fo_bias w)) (0 : Int64) C hK0 (lv_sub hl [2, 1, 0] rfl) post hq
  · rw [if_neg c2] at hq
    refine lv_aload_n hx hb dX2_rounded_47 rfl (lv_at hl 2 rfl) ?_
    refine vk_getf (v := .long (fo_sign w)) hx hb (fo_sign_K hK0) va_S.rf hown (hts _ tw_fieldLink_RX2_42_GlulxFloats_Form_sign_J) (fun _ h9 => h9) dX2_rounded_48 ?_
    refine lv_goto (tgt := 55) hx hb dX2_rounded_51 (by decide) ?_
    exact bX2_rounded_55 w s0 (((x2 + (63 : Int32)) - x5) + (fo_bias w)) (fo_sign w) C hK0 (lv_sub hl [2, 1, 0] rfl) post hq
set_option maxRecDepth 20000 in
theorem bX2_rounded_0 (w : Bool) (x1 : Int32) (x2 : Int32) (x3 : Int64) {p : Program} {l : Launch} {e : Env} {s : State} {m : MethodId} {args : Array Value} {below : List Frame} {meth : Method} {c : Code} {h0 : Nat} {ls : Array Slot} (C : bx_C p s m args meth c cX2_rounded 18 (some .long) RX2) (hK0 : fo_K w h0 s) (hl : lv_has ls 18 [(0, .ref h0), (1, .int x1), (2, .int x2), (3, .long x3)]) (post : Int64 → Prop) (hq : post (fX2_rounded w x1 x2 x3)) : W p l e rmX2_rounded s m args below meth c s.heap [] 0 0 (MQ below (vp_Sl post) args s 0 0 (fun _ => False)) (F0 m 0 ls []) := by
  obtain ⟨hx, hb, hml, hr, hlocks, hown, hts⟩ := id C
  unfold fX2_rounded at hq
  refine lv_lload_n hx hb dX2_rounded_0 rfl (lv_at hl 3 rfl) ?_
  refine bx_si C (kX0_zeros l x3) bx_B_true (fun _ _ _ => trivial) tw_methodLink_RX2_160_yX0_zeros mbX0_zeros rfl ⟨rfl, rfl⟩ ⟨Nat.le_of_ble_eq_true rfl, Nat.le_of_ble_eq_true rfl⟩ ⟨Nat.zero_le _, Nat.zero_le _⟩ hl.1 rfl (Nat.le_of_ble_eq_true rfl) dX2_rounded_1 ?_
  refine lv_istore (lv' := [(5, .int (fX0_zeros x3)), (0, .ref h0), (1, .int x1), (2, .int x2), (3, .long x3)]) hx hb dX2_rounded_4 hl (by decide) rfl (fun ls hl => ?_)
  refine lv_iload hx hb dX2_rounded_6 (lv_at hl 0 rfl) ?_
  refine lv_if_ne (tgt := 21) hx hb dX2_rounded_8 (by decide) (fun c1 => ?_) (fun c1 => ?_)
  · rw [if_neg c1] at hq
    refine lv_lload_n hx hb dX2_rounded_21 rfl (lv_at hl 4 rfl) ?_
    refine lv_iload hx hb dX2_rounded_22 (lv_at hl 0 rfl) ?_
    refine lv_iconst (v := 1) hx hb dX2_rounded_24 (by decide) ?_
    refine lv_isub hx hb dX2_rounded_25 ?_
    refine bx_lshl hx hb dX2_rounded_26 ?_
    exact bX2_rounded_27 w x1 x2 (fX0_zeros x3) (jl_shl x3 ((fX0_zeros x3) - (1 : Int32))) C hK0 (lv_sub hl [1, 2, 3, 0] rfl) post hq
  · rw [if_pos c1] at hq
    refine lv_lload_n hx hb dX2_rounded_11 rfl (lv_at hl 4 rfl) ?_
    refine lv_iconst (v := 1) hx hb dX2_rounded_12 (by decide) ?_
    refine bx_lushr hx hb dX2_rounded_13 ?_
    refine lv_lload_n hx hb dX2_rounded_14 rfl (lv_at hl 4 rfl) ?_
    refine lv_lconst (v := 1) hx hb dX2_rounded_15 (by decide) ?_
    refine lv_land hx hb dX2_rounded_16 ?_
    refine lv_lor hx hb dX2_rounded_17 ?_
    refine lv_goto (tgt := 27) hx hb dX2_rounded_18 (by decide) ?_
    exact bX2_rounded_27 w x1 x2 (fX0_zeros x3) ((jl_ushr x3 (1 : Int32)) ||| (x3 &&& (1 : Int64))) C hK0 (lv_sub hl [1, 2, 3, 0] rfl) post hq
theorem kX2_rounded (l : Launch) (w : Bool) (h0 : Nat) (x1 : Int32) (x2 : Int32) (x3 : Int64) : Met l yX2_rounded (Cond.code yX2_rounded cX2_rounded 18 (some .long) :: bw) rmX2_rounded (va_Pc [.ref h0, .int x1, .int x2, .long x3] (fun U => fo_K w h0 U)) (vp_Sl (fun r => r = fX2_rounded w x1 x2 x3)) 0 0 (fun _ => False) := by
  refine bx_ent (by decide) _ _ (Nat.le_of_ble_eq_true rfl) rfl ?_
  intro p e s m below meth c ls C hl hK0
  exact bX2_rounded_0 w x1 x2 x3 C hK0 hl _ rfl
abbrev rmX2_sum : Room := { frames := 2, cells := 0, slots := 0, locals := 61 }
theorem mbX2_sum : mb_V RX2 yX2_sum cX2_sum 13 (some .long) 2 := ⟨⟨tw_instanceMethod_yX2_sum, tw_selects_RX2_yX2_sum_yX2_sum, tw_initialized_RX2, tw_code_yX2_sum⟩, rfl, by decide +kernel, by decide +kernel, by decide +kernel⟩
theorem BX2_sum {w : Bool} {h0 : Nat} : bx_B (fun U => fo_K w h0 U) := fo_B w h0
set_option maxRecDepth 20000 in
theorem bX2_sum_205 (w : Bool) (x5 : Int32) (x6 : Int32) (x11 : Int64) (s1 : Int32) {p : Program} {l : Launch} {e : Env} {s : State} {m : MethodId} {args : Array Value} {below : List Frame} {meth : Method} {c : Code} {h0 : Nat} {ls : Array Slot} (C : bx_C p s m args meth c cX2_sum 13 (some .long) RX2) (hK0 : fo_K w h0 s) (hl : lv_has ls 13 [(5, .int x5), (6, .int x6), (11, .long x11)]) (post : Int64 → Prop) (hq : post (fX2_sum_205 w x5 x6 x11 s1)) : W p l e rmX2_sum s m args below meth c s.heap [] 0 0 (MQ below (vp_Sl post) args s 0 0 (fun _ => False)) (F0 m 205 ls [.int s1, .ref h0]) := by
  obtain ⟨hx, hb, hml, hr, hlocks, hown, hts⟩ := id C
  unfold fX2_sum_205 at hq
  refine lv_iload hx hb dX2_sum_205 (lv_at hl 1 rfl) ?_
  refine lv_iload hx hb dX2_sum_207 (lv_at hl 0 rfl) ?_
  refine lv_isub hx hb dX2_sum_209 ?_
  refine lv_lload hx hb dX2_sum_210 (lv_at hl 2 rfl) ?_
  refine va_mabs_long hx hb (by rw [hml]; exact hl.1.symm) hown (hts _ tw_methodLink_RX2_157_MLabs_long_x) (hts _ tw_static_MLabs_long_x) (hts _ tw_initialized_Math) (hts _ tw_code_Lib_MathLoose_abs_long_x) (Nat.le_of_ble_eq_true rfl) (Nat.le_of_ble_eq_true rfl) (Nat.zero_le _) (Nat.zero_le _) dX2_sum_212 ?_
  refine bx_as (v := .long (jl_abs x11)) rfl ?_
  refine bx_vl C (kX2_rounded l w h0 s1 (x6 - x5) (jl_abs x11)) BX2_rounded (fun U u1 u2 => fo_B w h0 s U u1 u2 hK0) (fun U u1 u2 => (fo_B w h0 s U u1 u2 hK0).1) tw_methodLink_RX2_148_yX2_rounded mbX2_rounded rfl ⟨rfl, rfl⟩ ⟨Nat.le_of_ble_eq_true rfl, Nat.le_of_ble_eq_true rfl⟩ ⟨Nat.zero_le _, Nat.zero_le _⟩ hl.1 rfl (Nat.le_of_ble_eq_true rfl) dX2_sum_215 ?_
  exact W.lret (v := (fX2_rounded w s1 (x6 - x5) (jl_abs x11))) hx hb hr (fun t ht hW => ⟨_, rfl, hq, ht⟩) (fun _ h => absurd h List.not_mem_nil) dX2_sum_218
set_option maxRecDepth 20000 in
theorem bX2_sum_180 (w : Bool) (x5 : Int32) (x6 : Int32) (s0 : Int64) (s1 : Int64) {p : Program} {l : Launch} {e : Env} {s : State} {m : MethodId} {args : Array Value} {below : List Frame} {meth : Method} {c : Code} {h0 : Nat} {ls : Array Slot} (C : bx_C p s m args meth c cX2_sum 13 (some .long) RX2) (hK0 : fo_K w h0 s) (hl : lv_has ls 13 [(0, .ref h0), (5, .int x5), (6, .int x6)]) (post : Int64 → Prop) (hq : post (fX2_sum_180 w x5 x6 s0 s1)) : W p l e rmX2_sum s m args below meth c s.heap [] 0 0 (MQ below (vp_Sl post) args s 0 0 (fun _ => False)) (F0 m 180 ls [.long s1, .long s0]) := by
  obtain ⟨hx, hb, hml, hr, hlocks, hown, hts⟩ := id C
  unfold fX2_sum_180 at hq
  refine lv_ladd hx hb dX2_sum_180 ?_
  refine lv_lstore (lv' := [(11, .long (s0 + s1)), (0, .ref h0), (5, .int x5), (6, .int x6)]) hx hb dX2_sum_181 hl (by decide) rfl (fun ls hl => ?_)
  refine lv_lload hx hb dX2_sum_183 (lv_at hl 0 rfl) ?_
  refine lv_lconst (v := 0) hx hb dX2_sum_185 (by decide) ?_
  refine bx_lc_ne (tgt := 192) hx hb dX2_sum_186 dX2_sum_187 (by decide) (fun c8 => ?_) (fun c8 => ?_)
  · rw [if_neg c8] at hq
    refine lv_aload_n hx hb dX2_sum_192 rfl (lv_at hl 1 rfl) ?_
    refine lv_lload hx hb dX2_sum_193 (lv_at hl 0 rfl) ?_
    refine lv_lconst (v := 0) hx hb dX2_sum_195 (by decide) ?_
    refine bx_lc_ge (tgt := 204) hx hb dX2_sum_196 dX2_sum_197 (by decide) (fun c9 => ?_) (fun c9 => ?_)
    · rw [if_pos c9] at hq
      refine lv_iconst (v := 0) hx hb dX2_sum_204 (by decide) ?_
      exact bX2_sum_205 w x5 x6 (s0 + s1) (0 : Int32) C hK0 (lv_sub hl [2, 3, 0] rfl) post hq
    · rw [if_neg c9] at hq
      refine lv_iconst (v := 1) hx hb dX2_sum_200 (by decide) ?_
      refine lv_goto (tgt := 205) hx hb dX2_sum_201 (by decide) ?_
      exact bX2_sum_205 w x5 x6 (s0 + s1) (1 : Int32) C hK0 (lv_sub hl [2, 3, 0] rfl) post hq
  · rw [if_pos c8] at hq
    refine lv_lconst (v := 0) hx hb dX2_sum_190 (by decide) ?_
    exact W.lret (v := (0 : Int64)) hx hb hr (fun t ht hW => ⟨_, rfl, hq, ht⟩) (fun _ h => absurd h List.not_mem_nil) dX2_sum_191
set_option maxRecDepth 20000 in
theorem bX2_sum_164 (w : Bool) (x3 : Int64) (x5 : Int32) (x6 : Int32) (x9 : Int64) (s0 : Int64) {p : Program} {l : Launch} {e : Env} {s : State} {m : MethodId} {args : Array Value} {below : List Frame} {meth : Method} {c : Code} {h0 : Nat} {ls : Array Slot} (C : bx_C p s m args meth c cX2_sum 13 (some .long) RX2) (hK0 : fo_K w h0 s) (hl : lv_has ls 13 [(0, .ref h0), (3, .long x3), (5, .int x5), (6, .int x6), (9, .long x9)]) (post : Int64 → Prop) (hq : post (fX2_sum_164 w x3 x5 x6 x9 s0)) : W p l e rmX2_sum s m args below meth c s.heap [] 0 0 (MQ below (vp_Sl post) args s 0 0 (fun _ => False)) (F0 m 164 ls [.long s0]) := by
  obtain ⟨hx, hb, hml, hr, hlocks, hown, hts⟩ := id C
  unfold fX2_sum_164 at hq
  refine lv_aload_n hx hb dX2_sum_164 rfl (lv_at hl 0 rfl) ?_
  refine lv_lload_n hx hb dX2_sum_165 rfl (lv_at hl 1 rfl) ?_
  refine bx_vi C (kX2_isNegative l w h0 x3) BX2_isNegative (fun U u1 u2 => fo_B w h0 s U u1 u2 hK0) (fun U u1 u2 => (fo_B w h0 s U u1 u2 hK0).1) tw_methodLink_RX2_136_yX2_isNegative mbX2_isNegative rfl ⟨rfl, rfl⟩ ⟨Nat.le_of_ble_eq_true rfl, Nat.le_of_ble_eq_true rfl⟩ ⟨Nat.zero_le _, Nat.zero_le _⟩ hl.1 rfl (Nat.le_of_ble_eq_true rfl) dX2_sum_166 ?_
  refine lv_if_eq (tgt := 178) hx hb dX2_sum_169 (by decide) (fun c7 => ?_) (fun c7 => ?_)
  · rw [if_pos c7] at hq
    refine lv_lload hx hb dX2_sum_178 (lv_at hl 4 rfl) ?_
    exact bX2_sum_180 w x5 x6 s0 x9 C hK0 (lv_sub hl [0, 2, 3] rfl) post hq
  · rw [if_neg c7] at hq
    refine lv_lload hx hb dX2_sum_172 (lv_at hl 4 rfl) ?_
    refine lv_lneg hx hb dX2_sum_174 ?_
    refine lv_goto (tgt := 180) hx hb dX2_sum_175 (by decide) ?_
    exact bX2_sum_180 w x5 x6 s0 (-x9) C hK0 (lv_sub hl [0, 2, 3] rfl) post hq
set_option maxRecDepth 20000 in
theorem bX2_sum_146 (w : Bool) (x1 : Int64) (x3 : Int64) (x5 : Int32) (x6 : Int32) (x7 : Int64) (s0 : Int64) {p : Program} {l : Launch} {e : Env} {s : State} {m : MethodId} {args : Array Value} {below : List Frame} {meth : Method} {c : Code} {h0 : Nat} {ls : Array Slot} (C : bx_C p s m args meth c cX2_sum 13 (some .long) RX2) (hK0 : fo_K w h0 s) (hl : lv_has ls 13 [(0, .ref h0), (1, .long x1), (3, .long x3), (5, .int x5), (6, .int x6), (7, .long x7)]) (post : Int64 → Prop) (hq : post (fX2_sum_146 w x1 x3 x5 x6 x7 s0)) : W p l e rmX2_sum s m args below meth c s.heap [] 0 0 (MQ below (vp_Sl post) args s 0 0 (fun _ => False)) (F0 m 146 ls [.long s0]) := by
  obtain ⟨hx, hb, hml, hr, hlocks, hown, hts⟩ := id C
  unfold fX2_sum_146 at hq
  refine lv_lstore (lv' := [(9, .long s0), (0, .ref h0), (1, .long x1), (3, .long x3), (5, .int x5), (6, .int x6), (7, .long x7)]) hx hb dX2_sum_146 hl (by decide) rfl (fun ls hl => ?_)
  refine lv_aload_n hx hb dX2_sum_148 rfl (lv_at hl 1 rfl) ?_
  refine lv_lload_n hx hb dX2_sum_149 rfl (lv_at hl 2 rfl) ?_
  refine bx_vi C (kX2_isNegative l w h0 x1) BX2_isNegative (fun U u1 u2 => fo_B w h0 s U u1 u2 hK0) (fun U u1 u2 => (fo_B w h0 s U u1 u2 hK0).1) tw_methodLink_RX2_136_yX2_isNegative mbX2_isNegative rfl ⟨rfl, rfl⟩ ⟨Nat.le_of_ble_eq_true rfl, Nat.le_of_ble_eq_true rfl⟩ ⟨Nat.zero_le _, Nat.zero_le _⟩ hl.1 rfl (Nat.le_of_ble_eq_true rfl) dX2_sum_150 ?_
  refine lv_if_eq (tgt := 162) hx hb dX2_sum_153 (by decide) (fun c6 => ?_) (fun c6 => ?_)
  · rw [if_pos c6] at hq
    refine lv_lload hx hb dX2_sum_162 (lv_at hl 6 rfl) ?_
    exact bX2_sum_164 w x3 x5 x6 s0 x7 C hK0 (lv_sub hl [1, 3, 4, 5, 0] rfl) post hq
  · rw [if_neg c6] at hq
    refine lv_lload hx hb dX2_sum_156 (lv_at hl 6 rfl) ?_
    refine lv_lneg hx hb dX2_sum_158 ?_
    refine lv_goto (tgt := 164) hx hb dX2_sum_159 (by decide) ?_
    exact bX2_sum_164 w x3 x5 x6 s0 (-x7) C hK0 (lv_sub hl [1, 3, 4, 5, 0] rfl) post hq
set_option maxRecDepth 20000 in
theorem bX2_sum_125 (w : Bool) (x1 : Int64) (x3 : Int64) (x5 : Int32) (x6 : Int32) (s0 : Int64) {p : Program} {l : Launch} {e : Env} {s : State} {m : MethodId} {args : Array Value} {below : List Frame} {meth : Method} {c : Code} {h0 : Nat} {ls : Array Slot} (C : bx_C p s m args meth c cX2_sum 13 (some .long) RX2) (hK0 : fo_K w h0 s) (hl : lv_has ls 13 [(0, .ref h0), (1, .long x1), (3, .long x3), (5, .int x5), (6, .int x6)]) (post : Int64 → Prop) (hq : post (fX2_sum_125 w x1 x3 x5 x6 s0)) : W p l e rmX2_sum s m args below meth c s.heap [] 0 0 (MQ below (vp_Sl post) args s 0 0 (fun _ => False)) (F0 m 125 ls [.long s0]) := by
  obtain ⟨hx, hb, hml, hr, hlocks, hown, hts⟩ := id C
  unfold fX2_sum_125 at hq
  refine lv_lstore (lv' := [(7, .long s0), (0, .ref h0), (1, .long x1), (3, .long x3), (5, .int x5), (6, .int x6)]) hx hb dX2_sum_125 hl (by decide) rfl (fun ls hl => ?_)
  refine lv_aload_n hx hb dX2_sum_127 rfl (lv_at hl 1 rfl) ?_
  refine lv_lload_n hx hb dX2_sum_128 rfl (lv_at hl 3 rfl) ?_
  refine bx_vl C (kX2_plain l w h0 x3) BX2_plain (fun U u1 u2 => fo_B w h0 s U u1 u2 hK0) (fun U u1 u2 => (fo_B w h0 s U u1 u2 hK0).1) tw_methodLink_RX2_145_yX2_plain mbX2_plain rfl ⟨rfl, rfl⟩ ⟨Nat.le_of_ble_eq_true rfl, Nat.le_of_ble_eq_true rfl⟩ ⟨Nat.zero_le _, Nat.zero_le _⟩ hl.1 rfl (Nat.le_of_ble_eq_true rfl) dX2_sum_129 ?_
  refine lv_iload hx hb dX2_sum_132 (lv_at hl 4 rfl) ?_
  refine bx_lshl hx hb dX2_sum_134 ?_
  refine lv_iload hx hb dX2_sum_135 (lv_at hl 5 rfl) ?_
  refine lv_aload_n hx hb dX2_sum_137 rfl (lv_at hl 1 rfl) ?_
  refine lv_lload_n hx hb dX2_sum_138 rfl (lv_at hl 3 rfl) ?_
  refine bx_vi C (kX2_scale l w h0 x3) BX2_scale (fun U u1 u2 => fo_B w h0 s U u1 u2 hK0) (fun U u1 u2 => (fo_B w h0 s U u1 u2 hK0).1) tw_methodLink_RX2_142_yX2_scale mbX2_scale rfl ⟨rfl, rfl⟩ ⟨Nat.le_of_ble_eq_true rfl, Nat.le_of_ble_eq_true rfl⟩ ⟨Nat.zero_le _, Nat.zero_le _⟩ hl.1 rfl (Nat.le_of_ble_eq_true rfl) dX2_sum_139 ?_
  refine lv_isub hx hb dX2_sum_142 ?_
  refine bx_sl C (kX0_lowered l (jl_shl (fX2_plain w x3) x5) (x6 - (fX2_scale w x3))) bx_B_true (fun _ _ _ => trivial) tw_methodLink_RX2_152_yX0_lowered mbX0_lowered rfl ⟨rfl, rfl⟩ ⟨Nat.le_of_ble_eq_true rfl, Nat.le_of_ble_eq_true rfl⟩ ⟨Nat.zero_le _, Nat.zero_le _⟩ hl.1 rfl (Nat.le_of_ble_eq_true rfl) dX2_sum_143 ?_
  exact bX2_sum_146 w x1 x3 x5 x6 s0 (fX0_lowered (jl_shl (fX2_plain w x3) x5) (x6 - (fX2_scale w x3))) C hK0 (lv_sub hl [1, 2, 3, 4, 5, 0] rfl) post hq
set_option maxRecDepth 20000 in
theorem bX2_sum_82 (w : Bool) (x1 : Int64) (x3 : Int64) {p : Program} {l : Launch} {e : Env} {s : State} {m : MethodId} {args : Array Value} {below : List Frame} {meth : Method} {c : Code} {h0 : Nat} {ls : Array Slot} (C : bx_C p s m args meth c cX2_sum 13 (some .long) RX2) (hK0 : fo_K w h0 s) (hl : lv_has ls 13 [(0, .ref h0), (1, .long x1), (3, .long x3)]) (post : Int64 → Prop) (hq : post (fX2_sum_82 w x1 x3)) : W p l e rmX2_sum s m args below meth c s.heap [] 0 0 (MQ below (vp_Sl post) args s 0 0 (fun _ => False)) (F0 m 82 ls []) := by
  obtain ⟨hx, hb, hml, hr, hlocks, hown, hts⟩ := id C
  unfold fX2_sum_82 at hq
  refine lv_bipush (v := 61) hx hb dX2_sum_82 (by decide) ?_
  refine lv_aload_n hx hb dX2_sum_84 rfl (lv_at hl 0 rfl) ?_
  refine vk_getf (v := .int (fo_fraction w)) hx hb (fo_fraction_K hK0) va_S.rf hown (hts _ tw_fieldLink_RX2_29_GlulxFloats_Form_fraction_I) (fun _ h9 => h9) dX2_sum_85 ?_
  refine lv_isub hx hb dX2_sum_88 ?_
  refine lv_istore (lv' := [(5, .int ((61 : Int32) - (fo_fraction w))), (0, .ref h0), (1, .long x1), (3, .long x3)]) hx hb dX2_sum_89 hl (by decide) rfl (fun ls hl => ?_)
  refine lv_aload_n hx hb dX2_sum_91 rfl (lv_at hl 1 rfl) ?_
  refine lv_lload_n hx hb dX2_sum_92 rfl (lv_at hl 2 rfl) ?_
  refine bx_vi C (kX2_scale l w h0 x1) BX2_scale (fun U u1 u2 => fo_B w h0 s U u1 u2 hK0) (fun U u1 u2 => (fo_B w h0 s U u1 u2 hK0).1) tw_methodLink_RX2_142_yX2_scale mbX2_scale rfl ⟨rfl, rfl⟩ ⟨Nat.le_of_ble_eq_true rfl, Nat.le_of_ble_eq_true rfl⟩ ⟨Nat.zero_le _, Nat.zero_le _⟩ hl.1 rfl (Nat.le_of_ble_eq_true rfl) dX2_sum_93 ?_
  refine lv_aload_n hx hb dX2_sum_96 rfl (lv_at hl 1 rfl) ?_
  refine lv_lload_n hx hb dX2_sum_97 rfl (lv_at hl 3 rfl) ?_
  refine bx_vi C (kX2_scale l w h0 x3) BX2_scale (fun U u1 u2 => fo_B w h0 s U u1 u2 hK0) (fun U u1 u2 => (fo_B w h0 s U u1 u2 hK0).1) tw_methodLink_RX2_142_yX2_scale mbX2_scale rfl ⟨rfl, rfl⟩ ⟨Nat.le_of_ble_eq_true rfl, Nat.le_of_ble_eq_true rfl⟩ ⟨Nat.zero_le _, Nat.zero_le _⟩ hl.1 rfl (Nat.le_of_ble_eq_true rfl) dX2_sum_98 ?_
  refine va_mmax hx hb (by rw [hml]; exact hl.1.symm) hown (hts _ tw_methodLink_RX2_130_Mmax_name) (hts _ tw_static_Mmax_name) (hts _ tw_initialized_Math) (hts _ tw_code_Lib_Math_max_name) (Nat.le_of_ble_eq_true rfl) (Nat.le_of_ble_eq_true rfl) (Nat.zero_le _) (Nat.zero_le _) dX2_sum_101 ?_
  refine bx_as (v := .int (ji_max (fX2_scale w x1) (fX2_scale w x3))) rfl ?_
  refine lv_istore (lv' := [(6, .int (ji_max (fX2_scale w x1) (fX2_scale w x3))), (5, .int ((61 : Int32) - (fo_fraction w))), (0, .ref h0), (1, .long x1), (3, .long x3)]) hx hb dX2_sum_104 hl (by decide) rfl (fun ls hl => ?_)
  refine lv_aload_n hx hb dX2_sum_106 rfl (lv_at hl 2 rfl) ?_
  refine lv_lload_n hx hb dX2_sum_107 rfl (lv_at hl 3 rfl) ?_
  refine bx_vl C (kX2_plain l w h0 x1) BX2_plain (fun U u1 u2 => fo_B w h0 s U u1 u2 hK0) (fun U u1 u2 => (fo_B w h0 s U u1 u2 hK0).1) tw_methodLink_RX2_145_yX2_plain mbX2_plain rfl ⟨rfl, rfl⟩ ⟨Nat.le_of_ble_eq_true rfl, Nat.le_of_ble_eq_true rfl⟩ ⟨Nat.zero_le _, Nat.zero_le _⟩ hl.1 rfl (Nat.le_of_ble_eq_true rfl) dX2_sum_108 ?_
  refine lv_iload hx hb dX2_sum_111 (lv_at hl 1 rfl) ?_
  refine bx_lshl hx hb dX2_sum_113 ?_
  refine lv_iload hx hb dX2_sum_114 (lv_at hl 0 rfl) ?_
  refine lv_aload_n hx hb dX2_sum_116 rfl (lv_at hl 2 rfl) ?_
  refine lv_lload_n hx hb dX2_sum_117 rfl (lv_at hl 3 rfl) ?_
  refine bx_vi C (kX2_scale l w h0 x1) BX2_scale (fun U u1 u2 => fo_B w h0 s U u1 u2 hK0) (fun U u1 u2 => (fo_B w h0 s U u1 u2 hK0).1) tw_methodLink_RX2_142_yX2_scale mbX2_scale rfl ⟨rfl, rfl⟩ ⟨Nat.le_of_ble_eq_true rfl, Nat.le_of_ble_eq_true rfl⟩ ⟨Nat.zero_le _, Nat.zero_le _⟩ hl.1 rfl (Nat.le_of_ble_eq_true rfl) dX2_sum_118 ?_
  refine lv_isub hx hb dX2_sum_121 ?_
  refine bx_sl C (kX0_lowered l (jl_shl (fX2_plain w x1) ((61 : Int32) - (fo_fraction w))) ((ji_max (fX2_scale w x1) (fX2_scale w x3)) - (fX2_scale w x1))) bx_B_true (fun _ _ _ => trivial) tw_methodLink_RX2_152_yX0_lowered mbX0_lowered rfl ⟨rfl, rfl⟩ ⟨Nat.le_of_ble_eq_true rfl, Nat.le_of_ble_eq_true rfl⟩ ⟨Nat.zero_le _, Nat.zero_le _⟩ hl.1 rfl (Nat.le_of_ble_eq_true rfl) dX2_sum_122 ?_
  exact bX2_sum_125 w x1 x3 ((61 : Int32) - (fo_fraction w)) (ji_max (fX2_scale w x1) (fX2_scale w x3)) (fX0_lowered (jl_shl (fX2_plain w x1) ((61 : Int32) - (fo_fraction w))) ((ji_max (fX2_scale w x1) (fX2_scale w x3)) - (fX2_scale w x1))) C hK0 (lv_sub hl [2, 3, 4, 1, 0] rfl) post hq
set_option maxRecDepth 20000 in
theorem bX2_sum_0 (w : Bool) (x1 : Int64) (x3 : Int64) {p : Program} {l : Launch} {e : Env} {s : State} {m : MethodId} {args : Array Value} {below : List Frame} {meth : Method} {c : Code} {h0 : Nat} {ls : Array Slot} (C : bx_C p s m args meth c cX2_sum 13 (some .long) RX2) (hK0 : fo_K w h0 s) (hl : lv_has ls 13 [(0, .ref h0), (1, .long x1), (3, .long x3)]) (post : Int64 → Prop) (hq : post (fX2_sum w x1 x3)) : W p l e rmX2_sum s m args below meth c s.heap [] 0 0 (MQ below (vp_Sl post) args s 0 0 (fun _ => False)) (F0 m 0 ls []) := by
  obtain ⟨hx, hb, hml, hr, hlocks, hown, hts⟩ := id C
  unfold fX2_sum at hq
  refine lv_aload_n hx hb dX2_sum_0 rfl (lv_at hl 0 rfl) ?_
  refine lv_lload_n hx hb dX2_sum_1 rfl (lv_at hl 1 rfl) ?_
  refine bx_vi C (kX2_isNan l w h0 x1) BX2_isNan (fun U u1 u2 => fo_B w h0 s U u1 u2 hK0) (fun U u1 u2 => (fo_B w h0 s U u1 u2 hK0).1) tw_methodLink_RX2_116_yX2_isNan mbX2_isNan rfl ⟨rfl, rfl⟩ ⟨Nat.le_of_ble_eq_true rfl, Nat.le_of_ble_eq_true rfl⟩ ⟨Nat.zero_le _, Nat.zero_le _⟩ hl.1 rfl (Nat.le_of_ble_eq_true rfl) dX2_sum_2 ?_
  refine lv_if_ne (tgt := 16) hx hb dX2_sum_5 (by decide) (fun c1 => ?_) (fun c1 => ?_)
  · rw [if_neg c1] at hq
    refine lv_aload_n hx hb dX2_sum_16 rfl (lv_at hl 0 rfl) ?_
    refine vk_getf (v := .long (fo_nan w)) hx hb (fo_nan_K hK0) va_S.rf hown (hts _ tw_fieldLink_RX2_52_GlulxFloats_Form_nan_J) (fun _ h9 => h9) dX2_sum_17 ?_
    exact W.lret (v := (fo_nan w)) hx hb hr (fun t ht hW => ⟨_, rfl, hq, ht⟩) (fun _ h => absurd h List.not_mem_nil) dX2_sum_20
  · rw [if_pos c1] at hq
    refine lv_aload_n hx hb dX2_sum_8 rfl (lv_at hl 0 rfl) ?_
    refine lv_lload_n hx hb dX2_sum_9 rfl (lv_at hl 2 rfl) ?_
    refine bx_vi C (kX2_isNan l w h0 x3) BX2_isNan (fun U u1 u2 => fo_B w h0 s U u1 u2 hK0) (fun U u1 u2 => (fo_B w h0 s U u1 u2 hK0).1) tw_methodLink_RX2_116_yX2_isNan mbX2_isNan rfl ⟨rfl, rfl⟩ ⟨Nat.le_of_ble_eq_true rfl, Nat.le_of_ble_eq_true rfl⟩ ⟨Nat.zero_le _, Nat.zero_le _⟩ hl.1 rfl (Nat.le_of_ble_eq_true rfl) dX2_sum_10 ?_
    refine lv_if_eq (tgt := 21) hx hb dX2_sum_13 (by decide) (fun c2 => ?_) (fun c2 => ?_)
    · rw [if_pos c2] at hq
      refine lv_aload_n hx hb dX2_sum_21 rfl (lv_at hl 0 rfl) ?_
      refine lv_lload_n hx hb dX2_sum_22 rfl (lv_at hl 1 rfl) ?_
      refine bx_vi C (kX2_isInfinite l w h0 x1) BX2_isInfinite (fun U u1 u2 => fo_B w h0 s U u1 u2 hK0) (fun U u1 u2 => (fo_B w h0 s U u1 u2 hK0).1) tw_methodLink_RX2_127_yX2_isInfinite mbX2_isInfinite rfl ⟨rfl, rfl⟩ ⟨Nat.le_of_ble_eq_true rfl, Nat.le_of_ble_eq_true rfl⟩ ⟨Nat.zero_le _, Nat.zero_le _⟩ hl.1 rfl (Nat.le_of_ble_eq_true rfl) dX2_sum_23 ?_
      refine lv_if_eq (tgt := 52) hx hb dX2_sum_26 (by decide) (fun c3 => ?_) (fun c3 => ?_)
      · rw [if_pos c3] at hq
        refine lv_aload_n hx hb dX2_sum_52 rfl (lv_at hl 0 rfl) ?_
        refine lv_lload_n hx hb dX2_sum_53 rfl (lv_at hl 2 rfl) ?_
        refine bx_vi C (kX2_isInfinite l w h0 x3) BX2_isInfinite (fun U u1 u2 => fo_B w h0 s U u1 u2 hK0) (fun U u1 u2 => (fo_B w h0 s U u1 u2 hK0).1) tw_methodLink_RX2_127_yX2_isInfinite mbX2_isInfinite rfl ⟨rfl, rfl⟩ ⟨Nat.le_of_ble_eq_true rfl, Nat.le_of_ble_eq_true rfl⟩ ⟨Nat.zero_le _, Nat.zero_le _⟩ hl.1 rfl (Nat.le_of_ble_eq_true rfl) dX2_sum_54 ?_
        refine lv_if_eq (tgt := 62) hx hb dX2_sum_57 (by decide) (fun c4 => ?_) (fun c4 => ?_)
        · rw [if_pos c4] at hq
          refine lv_aload_n hx hb dX2_sum_62 rfl (lv_at hl 0 rfl) ?_
          refine lv_lload_n hx hb dX2_sum_63 rfl (lv_at hl 1 rfl) ?_
          refine bx_vi C (kX2_isZero l w h0 x1) BX2_isZero (fun U u1 u2 => fo_B w h0 s U u1 u2 hK0) (fun U u1 u2 => (fo_B w h0 s U u1 u2 hK0).1) tw_methodLink_RX2_139_yX2_isZero mbX2_isZero rfl ⟨rfl, rfl⟩ ⟨Nat.le_of_ble_eq_true rfl, Nat.le_of_ble_eq_true rfl⟩ ⟨Nat.zero_le _, Nat.zero_le _⟩ hl.1 rfl (Nat.le_of_ble_eq_true rfl) dX2_sum_64 ?_
          refine lv_if_eq (tgt := 82) hx hb dX2_sum_67 (by decide) (fun c5 => ?_) (fun c5 => ?_)
          · rw [if_pos c5] at hq
            exact bX2_sum_82 w x1 x3 C hK0 (lv_sub hl [0, 1, 2] rfl) post hq
          · rw [if_neg c5] at hq
            refine lv_aload_n hx hb dX2_sum_70 rfl (lv_at hl 0 rfl) ?_
            refine lv_lload_n hx hb dX2_sum_71 rfl (lv_at hl 2 rfl) ?_
            refine bx_vi C (kX2_isZero l w h0 x3) BX2_isZero (fun U u1 u2 => fo_B w h0 s U u1 u2 hK0) (fun U u1 u2 => (fo_B w h0 s U u1 u2 hK0).1) tw_methodLink_RX2_139_yX2_isZero mbX2_isZero rfl ⟨rfl, rfl⟩ ⟨Nat.le_of_ble_eq_true rfl, Nat.le_of_ble_eq_true rfl⟩ ⟨Nat.zero_le _, Nat.zero_le _⟩ hl.1 rfl (Nat.le_of_ble_eq_true rfl) dX2_sum_72 ?_
            refine lv_if_eq (tgt := 82) hx hb dX2_sum_75 (by decide) (fun c10 => ?_) (fun c10 => ?_)
            · rw [if_pos c10] at hq
              exact bX2_sum_82 w x1 x3 C hK0 (lv_sub hl [0, 1, 2] rfl) post hq
            · rw [if_neg c10] at hq
              refine lv_lload_n hx hb dX2_sum_78 rfl (lv_at hl 1 rfl) ?_
              refine lv_lload_n hx hb dX2_sum_79 rfl (lv_at hl 2 rfl) ?_
              refine lv_land hx hb dX2_sum_80 ?_
              exact W.lret (v := (x1 &&& x3)) hx hb hr (fun t ht hW => ⟨_, rfl, hq, ht⟩) (fun _ h => absurd h List.not_mem_nil) dX2_sum_81
        · rw [if_neg c4] at hq
          refine lv_lload_n hx hb dX2_sum_60 rfl (lv_at hl 2 rfl) ?_
          exact W.lret (v := x3) hx hb hr (fun t ht hW => ⟨_, rfl, hq, ht⟩) (fun _ h => absurd h List.not_mem_nil) dX2_sum_61
      · rw [if_neg c3] at hq
        refine lv_aload_n hx hb dX2_sum_29 rfl (lv_at hl 0 rfl) ?_
        refine lv_lload_n hx hb dX2_sum_30 rfl (lv_at hl 2 rfl) ?_
        refine bx_vi C (kX2_isInfinite l w h0 x3) BX2_isInfinite (fun U u1 u2 => fo_B w h0 s U u1 u2 hK0) (fun U u1 u2 => (fo_B w h0 s U u1 u2 hK0).1) tw_methodLink_RX2_127_yX2_isInfinite mbX2_isInfinite rfl ⟨rfl, rfl⟩ ⟨Nat.le_of_ble_eq_true rfl, Nat.le_of_ble_eq_true rfl⟩ ⟨Nat.zero_le _, Nat.zero_le _⟩ hl.1 rfl (Nat.le_of_ble_eq_true rfl) dX2_sum_31 ?_
        refine lv_if_eq (tgt := 50) hx hb dX2_sum_34 (by decide) (fun c11 => ?_) (fun c11 => ?_)
        · rw [if_pos c11] at hq
          refine lv_lload_n hx hb dX2_sum_50 rfl (lv_at hl 1 rfl) ?_
          exact W.lret (v := x1) hx hb hr (fun t ht hW => ⟨_, rfl, hq, ht⟩) (fun _ h => absurd h List.not_mem_nil) dX2_sum_51
        · rw [if_neg c11] at hq
          refine lv_lload_n hx hb dX2_sum_37 rfl (lv_at hl 1 rfl) ?_
          refine lv_lload_n hx hb dX2_sum_38 rfl (lv_at hl 2 rfl) ?_
          refine bx_lc_eq (tgt := 50) hx hb dX2_sum_39 dX2_sum_40 (by decide) (fun c12 => ?_) (fun c12 => ?_)
          · rw [if_pos c12] at hq
            refine lv_lload_n hx hb dX2_sum_50 rfl (lv_at hl 1 rfl) ?_
            exact W.lret (v := x1) hx hb hr (fun t ht hW => ⟨_, rfl, hq, ht⟩) (fun _ h => absurd h List.not_mem_nil) dX2_sum_51
          · rw [if_neg c12] at hq
            refine lv_aload_n hx hb dX2_sum_43 rfl (lv_at hl 0 rfl) ?_
            refine vk_getf (v := .long (fo_nan w)) hx hb (fo_nan_K hK0) va_S.rf hown (hts _ tw_fieldLink_RX2_52_GlulxFloats_Form_nan_J) (fun _ h9 => h9) dX2_sum_44 ?_
            refine lv_goto (tgt := 51) hx hb dX2_sum_47 (by decide) ?_
            exact W.lret (v := (fo_nan w)) hx hb hr (fun t ht hW => ⟨_, rfl, hq, ht⟩) (fun _ h => absurd h List.not_mem_nil) dX2_sum_51
    · rw [if_neg c2] at hq
      refine lv_aload_n hx hb dX2_sum_16 rfl (lv_at hl 0 rfl) ?_
      refine vk_getf (v := .long (fo_nan w)) hx hb (fo_nan_K hK0) va_S.rf hown (hts _ tw_fieldLink_RX2_52_GlulxFloats_Form_nan_J) (fun _ h9 => h9) dX2_sum_17 ?_
      exact W.lret (v := (fo_nan w)) hx hb hr (fun t ht hW => ⟨_, rfl, hq, ht⟩) (fun _ h => absurd h List.not_mem_nil) dX2_sum_20
theorem kX2_sum (l : Launch) (w : Bool) (h0 : Nat) (x1 : Int64) (x3 : Int64) : Met l yX2_sum (Cond.code yX2_sum cX2_sum 13 (some .long) :: bw) rmX2_sum (va_Pc [.ref h0, .long x1, .long x3] (fun U => fo_K w h0 U)) (vp_Sl (fun r => r = fX2_sum w x1 x3)) 0 0 (fun _ => False) := by
  refine bx_ent (by decide) _ _ (Nat.le_of_ble_eq_true rfl) rfl ?_
  intro p e s m below meth c ls C hl hK0
  exact bX2_sum_0 w x1 x3 C hK0 hl _ rfl
abbrev rmX2_product : Room := { frames := 2, cells := 0, slots := 0, locals := 61 }
theorem mbX2_product : mb_V RX2 yX2_product cX2_product 15 (some .long) 2 := ⟨⟨tw_instanceMethod_yX2_product, tw_selects_RX2_yX2_product_yX2_product, tw_initialized_RX2, tw_code_yX2_product⟩, rfl, by decide +kernel, by decide +kernel, by decide +kernel⟩
theorem BX2_product {w : Bool} {h0 : Nat} : bx_B (fun U => fo_K w h0 U) := fo_B w h0
set_option maxRecDepth 20000 in
theorem bX2_product_47 (w : Bool) (x1 : Int64) (x3 : Int64) (x5 : Int64) {p : Program} {l : Launch} {e : Env} {s : State} {m : MethodId} {args : Array Value} {below : List Frame} {meth : Method} {c : Code} {h0 : Nat} {ls : Array Slot} (C : bx_C p s m args meth c cX2_product 15 (some .long) RX2) (hK0 : fo_K w h0 s) (hl : lv_has ls 15 [(0, .ref h0), (1, .long x1), (3, .long x3), (5, .long x5)]) (post : Int64 → Prop) (hq : post (fX2_product_47 w x1 x3 x5)) : W p l e rmX2_product s m args below meth c s.heap [] 0 0 (MQ below (vp_Sl post) args s 0 0 (fun _ => False)) (F0 m 47 ls []) := by
  obtain ⟨hx, hb, hml, hr, hlocks, hown, hts⟩ := id C
  unfold fX2_product_47 at hq
  refine lv_aload_n hx hb dX2_product_47 rfl (lv_at hl 0 rfl) ?_
  refine lv_lload_n hx hb dX2_product_48 rfl (lv_at hl 1 rfl) ?_
  refine bx_vi C (kX2_isZero l w h0 x1) BX2_isZero (fun U u1 u2 => fo_B w h0 s U u1 u2 hK0) (fun U u1 u2 => (fo_B w h0 s U u1 u2 hK0).1) tw_methodLink_RX2_139_yX2_isZero mbX2_isZero rfl ⟨rfl, rfl⟩ ⟨Nat.le_of_ble_eq_true rfl, Nat.le_of_ble_eq_true rfl⟩ ⟨Nat.zero_le _, Nat.zero_le _⟩ hl.1 rfl (Nat.le_of_ble_eq_true rfl) dX2_product_49 ?_
  refine lv_if_ne (tgt := 63) hx hb dX2_product_52 (by decide) (fun c4 => ?_) (fun c4 => ?_)
  · rw [if_neg c4] at hq
    refine lv_aload_n hx hb dX2_product_63 rfl (lv_at hl 0 rfl) ?_
    refine vk_getf (v := .long (fo_nan w)) hx hb (fo_nan_K hK0) va_S.rf hown (hts _ tw_fieldLink_RX2_52_GlulxFloats_Form_nan_J) (fun _ h9 => h9) dX2_product_64 ?_
    refine lv_goto (tgt := 77) hx hb dX2_product_67 (by decide) ?_
    exact W.lret (v := (fo_nan w)) hx hb hr (fun t ht hW => ⟨_, rfl, hq, ht⟩) (fun _ h => absurd h List.not_mem_nil) dX2_product_77
  · rw [if_pos c4] at hq
    refine lv_aload_n hx hb dX2_product_55 rfl (lv_at hl 0 rfl) ?_
    refine lv_lload_n hx hb dX2_product_56 rfl (lv_at hl 2 rfl) ?_
    refine bx_vi C (kX2_isZero l w h0 x3) BX2_isZero (fun U u1 u2 => fo_B w h0 s U u1 u2 hK0) (fun U u1 u2 => (fo_B w h0 s U u1 u2 hK0).1) tw_methodLink_RX2_139_yX2_isZero mbX2_isZero rfl ⟨rfl, rfl⟩ ⟨Nat.le_of_ble_eq_true rfl, Nat.le_of_ble_eq_true rfl⟩ ⟨Nat.zero_le _, Nat.zero_le _⟩ hl.1 rfl (Nat.le_of_ble_eq_true rfl) dX2_product_57 ?_
    refine lv_if_eq (tgt := 70) hx hb dX2_product_60 (by decide) (fun c5 => ?_) (fun c5 => ?_)
    · rw [if_pos c5] at hq
      refine lv_lload hx hb dX2_product_70 (lv_at hl 3 rfl) ?_
      refine lv_aload_n hx hb dX2_product_72 rfl (lv_at hl 0 rfl) ?_
      refine vk_getf (v := .long (fo_infinity w)) hx hb (fo_infinity_K hK0) va_S.rf hown (hts _ tw_fieldLink_RX2_49_GlulxFloats_Form_infinity_J) (fun _ h9 => h9) dX2_product_73 ?_
      refine lv_lor hx hb dX2_product_76 ?_
      exact W.lret (v := (x5 ||| (fo_infinity w))) hx hb hr (fun t ht hW => ⟨_, rfl, hq, ht⟩) (fun _ h => absurd h List.not_mem_nil) dX2_product_77
    · rw [if_neg c5] at hq
      refine lv_aload_n hx hb dX2_product_63 rfl (lv_at hl 0 rfl) ?_
      refine vk_getf (v := .long (fo_nan w)) hx hb (fo_nan_K hK0) va_S.rf hown (hts _ tw_fieldLink_RX2_52_GlulxFloats_Form_nan_J) (fun _ h9 => h9) dX2_product_64 ?_
      refine lv_goto (tgt := 77) hx hb dX2_product_67 (by decide) ?_
      exact W.lret (v := (fo_nan w)) hx hb hr (fun t ht hW => ⟨_, rfl, hq, ht⟩) (fun _ h => absurd h List.not_mem_nil) dX2_product_77
set_option maxRecDepth 20000 in
theorem bX2_product_178 (w : Bool) (x1 : Int64) (x3 : Int64) (x11 : Int32) (x12 : Int32) (x13 : Int64) (s1 : Int32) {p : Program} {l : Launch} {e : Env} {s : State} {m : MethodId} {args : Array Value} {below : List Frame} {meth : Method} {c : Code} {h0 : Nat} {ls : Array Slot} (C : bx_C p s m args meth c cX2_product 15 (some .long) RX2) (hK0 : fo_K w h0 s) (hl : lv_has ls 15 [(0, .ref h0), (1, .long x1), (3, .long x3), (11, .int x11), (12, .int x12), (13, .long x13)]) (post : Int64 → Prop) (hq : post (fX2_product_178 w x1 x3 x11 x12 x13 s1)) : W p l e rmX2_product s m args below meth c s.heap [] 0 0 (MQ below (vp_Sl post) args s 0 0 (fun _ => False)) (F0 m 178 ls [.int s1, .ref h0]) := by
  obtain ⟨hx, hb, hml, hr, hlocks, hown, hts⟩ := id C
  unfold fX2_product_178 at hq
  refine lv_aload_n hx hb dX2_product_178 rfl (lv_at hl 0 rfl) ?_
  refine lv_lload_n hx hb dX2_product_179 rfl (lv_at hl 1 rfl) ?_
  refine bx_vi C (kX2_scale l w h0 x1) BX2_scale (fun U u1 u2 => fo_B w h0 s U u1 u2 hK0) (fun U u1 u2 => (fo_B w h0 s U u1 u2 hK0).1) tw_methodLink_RX2_142_yX2_scale mbX2_scale rfl ⟨rfl, rfl⟩ ⟨Nat.le_of_ble_eq_true rfl, Nat.le_of_ble_eq_true rfl⟩ ⟨Nat.zero_le _, Nat.zero_le _⟩ hl.1 rfl (Nat.le_of_ble_eq_true rfl) dX2_product_180 ?_
  refine lv_iload hx hb dX2_product_183 (lv_at hl 3 rfl) ?_
  refine lv_isub hx hb dX2_product_185 ?_
  refine lv_aload_n hx hb dX2_product_186 rfl (lv_at hl 0 rfl) ?_
  refine lv_lload_n hx hb dX2_product_187 rfl (lv_at hl 2 rfl) ?_
  refine bx_vi C (kX2_scale l w h0 x3) BX2_scale (fun U u1 u2 => fo_B w h0 s U u1 u2 hK0) (fun U u1 u2 => (fo_B w h0 s U u1 u2 hK0).1) tw_methodLink_RX2_142_yX2_scale mbX2_scale rfl ⟨rfl, rfl⟩ ⟨Nat.le_of_ble_eq_true rfl, Nat.le_of_ble_eq_true rfl⟩ ⟨Nat.zero_le _, Nat.zero_le _⟩ hl.1 rfl (Nat.le_of_ble_eq_true rfl) dX2_product_188 ?_
  refine lv_iadd hx hb dX2_product_191 ?_
  refine lv_iload hx hb dX2_product_192 (lv_at hl 4 rfl) ?_
  refine lv_isub hx hb dX2_product_194 ?_
  refine lv_bipush (v := 64) hx hb dX2_product_195 (by decide) ?_
  refine lv_iadd hx hb dX2_product_197 ?_
  refine lv_lload hx hb dX2_product_198 (lv_at hl 5 rfl) ?_
  refine bx_vl C (kX2_rounded l w h0 s1 (((((fX2_scale w x1) - x11) + (fX2_scale w x3)) - x12) + (64 : Int32)) x13) BX2_rounded (fun U u1 u2 => fo_B w h0 s U u1 u2 hK0) (fun U u1 u2 => (fo_B w h0 s U u1 u2 hK0).1) tw_methodLink_RX2_148_yX2_rounded mbX2_rounded rfl ⟨rfl, rfl⟩ ⟨Nat.le_of_ble_eq_true rfl, Nat.le_of_ble_eq_true rfl⟩ ⟨Nat.zero_le _, Nat.zero_le _⟩ hl.1 rfl (Nat.le_of_ble_eq_true rfl) dX2_product_200 ?_
  exact W.lret (v := (fX2_rounded w s1 (((((fX2_scale w x1) - x11) + (fX2_scale w x3)) - x12) + (64 : Int32)) x13)) hx hb hr (fun t ht hW => ⟨_, rfl, hq, ht⟩) (fun _ h => absurd h List.not_mem_nil) dX2_product_203
set_option maxRecDepth 20000 in
theorem bX2_product_161 (w : Bool) (x1 : Int64) (x3 : Int64) (x5 : Int64) (x11 : Int32) (x12 : Int32) (s0 : Int64) (s1 : Int32) {p : Program} {l : Launch} {e : Env} {s : State} {m : MethodId} {args : Array Value} {below : List Frame} {meth : Method} {c : Code} {h0 : Nat} {ls : Array Slot} (C : bx_C p s m args meth c cX2_product 15 (some .long) RX2) (hK0 : fo_K w h0 s) (hl : lv_has ls 15 [(0, .ref h0), (1, .long x1), (3, .long x3), (5, .long x5), (11, .int x11), (12, .int x12)]) (post : Int64 → Prop) (hq : post (fX2_product_161 w x1 x3 x5 x11 x12 s0 s1)) : W p l e rmX2_product s m args below meth c s.heap [] 0 0 (MQ below (vp_Sl post) args s 0 0 (fun _ => False)) (F0 m 161 ls [.int s1, .long s0]) := by
  obtain ⟨hx, hb, hml, hr, hlocks, hown, hts⟩ := id C
  unfold fX2_product_161 at hq
  refine bx_i2l hx hb dX2_product_161 ?_
  refine lv_lor hx hb dX2_product_162 ?_
  refine lv_lstore (lv' := [(13, .long (s0 ||| s1.toInt64)), (0, .ref h0), (1, .long x1), (3, .long x3), (5, .long x5), (11, .int x11), (12, .int x12)]) hx hb dX2_product_163 hl (by decide) rfl (fun ls hl => ?_)
  refine lv_aload_n hx hb dX2_product_165 rfl (lv_at hl 1 rfl) ?_
  refine lv_lload hx hb dX2_product_166 (lv_at hl 4 rfl) ?_
  refine lv_lconst (v := 0) hx hb dX2_product_168 (by decide) ?_
  refine bx_lc_eq (tgt := 177) hx hb dX2_product_169 dX2_product_170 (by decide) (fun c10 => ?_) (fun c10 => ?_)
  · rw [if_pos c10] at hq
    refine lv_iconst (v := 0) hx hb dX2_product_177 (by decide) ?_
    exact bX2_product_178 w x1 x3 x11 x12 (s0 ||| s1.toInt64) (0 : Int32) C hK0 (lv_sub hl [1, 2, 3, 5, 6, 0] rfl) post hq
  · rw [if_neg c10] at hq
    refine lv_iconst (v := 1) hx hb dX2_product_173 (by decide) ?_
    refine lv_goto (tgt := 178) hx hb dX2_product_174 (by decide) ?_
    exact bX2_product_178 w x1 x3 x11 x12 (s0 ||| s1.toInt64) (1 : Int32) C hK0 (lv_sub hl [1, 2, 3, 5, 6, 0] rfl) post hq
set_option maxRecDepth 20000 in
theorem bX2_product_0 (w : Bool) (x1 : Int64) (x3 : Int64) {p : Program} {l : Launch} {e : Env} {s : State} {m : MethodId} {args : Array Value} {below : List Frame} {meth : Method} {c : Code} {h0 : Nat} {ls : Array Slot} (C : bx_C p s m args meth c cX2_product 15 (some .long) RX2) (hK0 : fo_K w h0 s) (hl : lv_has ls 15 [(0, .ref h0), (1, .long x1), (3, .long x3)]) (post : Int64 → Prop) (hq : post (fX2_product w x1 x3)) : W p l e rmX2_product s m args below meth c s.heap [] 0 0 (MQ below (vp_Sl post) args s 0 0 (fun _ => False)) (F0 m 0 ls []) := by
  obtain ⟨hx, hb, hml, hr, hlocks, hown, hts⟩ := id C
  unfold fX2_product at hq
  refine lv_aload_n hx hb dX2_product_0 rfl (lv_at hl 0 rfl) ?_
  refine lv_lload_n hx hb dX2_product_1 rfl (lv_at hl 1 rfl) ?_
  refine bx_vi C (kX2_isNan l w h0 x1) BX2_isNan (fun U u1 u2 => fo_B w h0 s U u1 u2 hK0) (fun U u1 u2 => (fo_B w h0 s U u1 u2 hK0).1) tw_methodLink_RX2_116_yX2_isNan mbX2_isNan rfl ⟨rfl, rfl⟩ ⟨Nat.le_of_ble_eq_true rfl, Nat.le_of_ble_eq_true rfl⟩ ⟨Nat.zero_le _, Nat.zero_le _⟩ hl.1 rfl (Nat.le_of_ble_eq_true rfl) dX2_product_2 ?_
  refine lv_if_ne (tgt := 16) hx hb dX2_product_5 (by decide) (fun c1 => ?_) (fun c1 => ?_)
  · rw [if_neg c1] at hq
    refine lv_aload_n hx hb dX2_product_16 rfl (lv_at hl 0 rfl) ?_
    refine vk_getf (v := .long (fo_nan w)) hx hb (fo_nan_K hK0) va_S.rf hown (hts _ tw_fieldLink_RX2_52_GlulxFloats_Form_nan_J) (fun _ h9 => h9) dX2_product_17 ?_
    exact W.lret (v := (fo_nan w)) hx hb hr (fun t ht hW => ⟨_, rfl, hq, ht⟩) (fun _ h => absurd h List.not_mem_nil) dX2_product_20
  · rw [if_pos c1] at hq
    refine lv_aload_n hx hb dX2_product_8 rfl (lv_at hl 0 rfl) ?_
    refine lv_lload_n hx hb dX2_product_9 rfl (lv_at hl 2 rfl) ?_
    refine bx_vi C (kX2_isNan l w h0 x3) BX2_isNan (fun U u1 u2 => fo_B w h0 s U u1 u2 hK0) (fun U u1 u2 => (fo_B w h0 s U u1 u2 hK0).1) tw_methodLink_RX2_116_yX2_isNan mbX2_isNan rfl ⟨rfl, rfl⟩ ⟨Nat.le_of_ble_eq_true rfl, Nat.le_of_ble_eq_true rfl⟩ ⟨Nat.zero_le _, Nat.zero_le _⟩ hl.1 rfl (Nat.le_of_ble_eq_true rfl) dX2_product_10 ?_
    refine lv_if_eq (tgt := 21) hx hb dX2_product_13 (by decide) (fun c2 => ?_) (fun c2 => ?_)
    · rw [if_pos c2] at hq
      refine lv_lload_n hx hb dX2_product_21 rfl (lv_at hl 1 rfl) ?_
      refine lv_lload_n hx hb dX2_product_22 rfl (lv_at hl 2 rfl) ?_
      refine lv_lxor hx hb dX2_product_23 ?_
      refine lv_aload_n hx hb dX2_product_24 rfl (lv_at hl 0 rfl) ?_
      refine vk_getf (v := .long (fo_sign w)) hx hb (fo_sign_K hK0) va_S.rf hown (hts _ tw_fieldLink_RX2_42_GlulxFloats_Form_sign_J) (fun _ h9 => h9) dX2_product_25 ?_
      refine lv_land hx hb dX2_product_28 ?_
      refine lv_lstore (lv' := [(5, .long ((x1 ^^^ x3) &&& (fo_sign w))), (0, .ref h0), (1, .long x1), (3, .long x3)]) hx hb dX2_product_29 hl (by decide) rfl (fun ls hl => ?_)
      refine lv_aload_n hx hb dX2_product_31 rfl (lv_at hl 1 rfl) ?_
      refine lv_lload_n hx hb dX2_product_32 rfl (lv_at hl 2 rfl) ?_
      refine bx_vi C (kX2_isInfinite l w h0 x1) BX2_isInfinite (fun U u1 u2 => fo_B w h0 s U u1 u2 hK0) (fun U u1 u2 => (fo_B w h0 s U u1 u2 hK0).1) tw_methodLink_RX2_127_yX2_isInfinite mbX2_isInfinite rfl ⟨rfl, rfl⟩ ⟨Nat.le_of_ble_eq_true rfl, Nat.le_of_ble_eq_true rfl⟩ ⟨Nat.zero_le _, Nat.zero_le _⟩ hl.1 rfl (Nat.le_of_ble_eq_true rfl) dX2_product_33 ?_
      refine lv_if_ne (tgt := 47) hx hb dX2_product_36 (by decide) (fun c3 => ?_) (fun c3 => ?_)
      · rw [if_neg c3] at hq
        exact bX2_product_47 w x1 x3 ((x1 ^^^ x3) &&& (fo_sign w)) C hK0 (lv_sub hl [1, 2, 3, 0] rfl) post hq
      · rw [if_pos c3] at hq
        refine lv_aload_n hx hb dX2_product_39 rfl (lv_at hl 1 rfl) ?_
        refine lv_lload_n hx hb dX2_product_40 rfl (lv_at hl 3 rfl) ?_
        refine bx_vi C (kX2_isInfinite l w h0 x3) BX2_isInfinite (fun U u1 u2 => fo_B w h0 s U u1 u2 hK0) (fun U u1 u2 => (fo_B w h0 s U u1 u2 hK0).1) tw_methodLink_RX2_127_yX2_isInfinite mbX2_isInfinite rfl ⟨rfl, rfl⟩ ⟨Nat.le_of_ble_eq_true rfl, Nat.le_of_ble_eq_true rfl⟩ ⟨Nat.zero_le _, Nat.zero_le _⟩ hl.1 rfl (Nat.le_of_ble_eq_true rfl) dX2_product_41 ?_
        refine lv_if_eq (tgt := 78) hx hb dX2_product_44 (by decide) (fun c6 => ?_) (fun c6 => ?_)
        · rw [if_pos c6] at hq
          refine lv_aload_n hx hb dX2_product_78 rfl (lv_at hl 1 rfl) ?_
          refine lv_lload_n hx hb dX2_product_79 rfl (lv_at hl 2 rfl) ?_
          refine bx_vi C (kX2_isZero l w h0 x1) BX2_isZero (fun U u1 u2 => fo_B w h0 s U u1 u2 hK0) (fun U u1 u2 => (fo_B w h0 s U u1 u2 hK0).1) tw_methodLink_RX2_139_yX2_isZero mbX2_isZero rfl ⟨rfl, rfl⟩ ⟨Nat.le_of_ble_eq_true rfl, Nat.le_of_ble_eq_true rfl⟩ ⟨Nat.zero_le _, Nat.zero_le _⟩ hl.1 rfl (Nat.le_of_ble_eq_true rfl) dX2_product_80 ?_
          refine lv_if_ne (tgt := 94) hx hb dX2_product_83 (by decide) (fun c7 => ?_) (fun c7 => ?_)
          · rw [if_neg c7] at hq
            refine lv_lload hx hb dX2_product_94 (lv_at hl 0 rfl) ?_
            exact W.lret (v := ((x1 ^^^ x3) &&& (fo_sign w))) hx hb hr (fun t ht hW => ⟨_, rfl, hq, ht⟩) (fun _ h => absurd h List.not_mem_nil) dX2_product_96
          · rw [if_pos c7] at hq
            refine lv_aload_n hx hb dX2_product_86 rfl (lv_at hl 1 rfl) ?_
            refine lv_lload_n hx hb dX2_product_87 rfl (lv_at hl 3 rfl) ?_
            refine bx_vi C (kX2_isZero l w h0 x3) BX2_isZero (fun U u1 u2 => fo_B w h0 s U u1 u2 hK0) (fun U u1 u2 => (fo_B w h0 s U u1 u2 hK0).1) tw_methodLink_RX2_139_yX2_isZero mbX2_isZero rfl ⟨rfl, rfl⟩ ⟨Nat.le_of_ble_eq_true rfl, Nat.le_of_ble_eq_true rfl⟩ ⟨Nat.zero_le _, Nat.zero_le _⟩ hl.1 rfl (Nat.le_of_ble_eq_true rfl) dX2_product_88 ?_
            refine lv_if_eq (tgt := 97) hx hb dX2_product_91 (by decide) (fun c8 => ?_) (fun c8 => ?_)
            · rw [if_pos c8] at hq
              refine lv_aload_n hx hb dX2_product_97 rfl (lv_at hl 1 rfl) ?_
              refine lv_lload_n hx hb dX2_product_98 rfl (lv_at hl 2 rfl) ?_
              refine bx_vl C (kX2_plain l w h0 x1) BX2_plain (fun U u1 u2 => fo_B w h0 s U u1 u2 hK0) (fun U u1 u2 => (fo_B w h0 s U u1 u2 hK0).1) tw_methodLink_RX2_145_yX2_plain mbX2_plain rfl ⟨rfl, rfl⟩ ⟨Nat.le_of_ble_eq_true rfl, Nat.le_of_ble_eq_true rfl⟩ ⟨Nat.zero_le _, Nat.zero_le _⟩ hl.1 rfl (Nat.le_of_ble_eq_true rfl) dX2_product_99 ?_
              refine lv_lstore (lv' := [(7, .long (fX2_plain w x1)), (5, .long ((x1 ^^^ x3) &&& (fo_sign w))), (0, .ref h0), (1, .long x1), (3, .long x3)]) hx hb dX2_product_102 hl (by decide) rfl (fun ls hl => ?_)
              refine lv_aload_n hx hb dX2_product_104 rfl (lv_at hl 2 rfl) ?_
              refine lv_lload_n hx hb dX2_product_105 rfl (lv_at hl 4 rfl) ?_
              refine bx_vl C (kX2_plain l w h0 x3) BX2_plain (fun U u1 u2 => fo_B w h0 s U u1 u2 hK0) (fun U u1 u2 => (fo_B w h0 s U u1 u2 hK0).1) tw_methodLink_RX2_145_yX2_plain mbX2_plain rfl ⟨rfl, rfl⟩ ⟨Nat.le_of_ble_eq_true rfl, Nat.le_of_ble_eq_true rfl⟩ ⟨Nat.zero_le _, Nat.zero_le _⟩ hl.1 rfl (Nat.le_of_ble_eq_true rfl) dX2_product_106 ?_
              refine lv_lstore (lv' := [(9, .long (fX2_plain w x3)), (7, .long (fX2_plain w x1)), (5, .long ((x1 ^^^ x3) &&& (fo_sign w))), (0, .ref h0), (1, .long x1), (3, .long x3)]) hx hb dX2_product_109 hl (by decide) rfl (fun ls hl => ?_)
              refine lv_lload hx hb dX2_product_111 (lv_at hl 1 rfl) ?_
              refine bx_si C (kX0_zeros l (fX2_plain w x1)) bx_B_true (fun _ _ _ => trivial) tw_methodLink_RX2_160_yX0_zeros mbX0_zeros rfl ⟨rfl, rfl⟩ ⟨Nat.le_of_ble_eq_true rfl, Nat.le_of_ble_eq_true rfl⟩ ⟨Nat.zero_le _, Nat.zero_le _⟩ hl.1 rfl (Nat.le_of_ble_eq_true rfl) dX2_product_113 ?_
              refine lv_istore (lv' := [(11, .int (fX0_zeros (fX2_plain w x1))), (9, .long (fX2_plain w x3)), (7, .long (fX2_plain w x1)), (5, .long ((x1 ^^^ x3) &&& (fo_sign w))), (0, .ref h0), (1, .long x1), (3, .long x3)]) hx hb dX2_product_116 hl (by decide) rfl (fun ls hl => ?_)
              refine lv_lload hx hb dX2_product_118 (lv_at hl 1 rfl) ?_
              refine bx_si C (kX0_zeros l (fX2_plain w x3)) bx_B_true (fun _ _ _ => trivial) tw_methodLink_RX2_160_yX0_zeros mbX0_zeros rfl ⟨rfl, rfl⟩ ⟨Nat.le_of_ble_eq_true rfl, Nat.le_of_ble_eq_true rfl⟩ ⟨Nat.zero_le _, Nat.zero_le _⟩ hl.1 rfl (Nat.le_of_ble_eq_true rfl) dX2_product_120 ?_
              refine lv_istore (lv' := [(12, .int (fX0_zeros (fX2_plain w x3))), (11, .int (fX0_zeros (fX2_plain w x1))), (9, .long (fX2_plain w x3)), (7, .long (fX2_plain w x1)), (5, .long ((x1 ^^^ x3) &&& (fo_sign w))), (0, .ref h0), (1, .long x1), (3, .long x3)]) hx hb dX2_product_123 hl (by decide) rfl (fun ls hl => ?_)
              refine lv_lload hx hb dX2_product_125 (lv_at hl 3 rfl) ?_
              refine lv_iload hx hb dX2_product_127 (lv_at hl 1 rfl) ?_
              refine bx_lshl hx hb dX2_product_129 ?_
              refine lv_lstore (lv' := [(7, .long (jl_shl (fX2_plain w x1) (fX0_zeros (fX2_plain w x1)))), (12, .int (fX0_zeros (fX2_plain w x3))), (11, .int (fX0_zeros (fX2_plain w x1))), (9, .long (fX2_plain w x3)), (5, .long ((x1 ^^^ x3) &&& (fo_sign w))), (0, .ref h0), (1, .long x1), (3, .long x3)]) hx hb dX2_product_130 hl (by decide) rfl (fun ls hl => ?_)
              refine lv_lload hx hb dX2_product_132 (lv_at hl 3 rfl) ?_
              refine lv_iload hx hb dX2_product_134 (lv_at hl 1 rfl) ?_
              refine bx_lshl hx hb dX2_product_136 ?_
              refine lv_lstore (lv' := [(9, .long (jl_shl (fX2_plain w x3) (fX0_zeros (fX2_plain w x3)))), (7, .long (jl_shl (fX2_plain w x1) (fX0_zeros (fX2_plain w x1)))), (12, .int (fX0_zeros (fX2_plain w x3))), (11, .int (fX0_zeros (fX2_plain w x1))), (5, .long ((x1 ^^^ x3) &&& (fo_sign w))), (0, .ref h0), (1, .long x1), (3, .long x3)]) hx hb dX2_product_137 hl (by decide) rfl (fun ls hl => ?_)
              refine lv_lload hx hb dX2_product_139 (lv_at hl 1 rfl) ?_
              refine lv_lload hx hb dX2_product_141 (lv_at hl 0 rfl) ?_
              refine bx_sl C (kX0_upperProduct l (jl_shl (fX2_plain w x1) (fX0_zeros (fX2_plain w x1))) (jl_shl (fX2_plain w x3) (fX0_zeros (fX2_plain w x3)))) bx_B_true (fun _ _ _ => trivial) tw_methodLink_RX2_163_yX0_upperProduct mbX0_upperProduct rfl ⟨rfl, rfl⟩ ⟨Nat.le_of_ble_eq_true rfl, Nat.le_of_ble_eq_true rfl⟩ ⟨Nat.zero_le _, Nat.zero_le _⟩ hl.1 rfl (Nat.le_of_ble_eq_true rfl) dX2_product_143 ?_
              refine lv_lload hx hb dX2_product_146 (lv_at hl 1 rfl) ?_
              refine lv_lload hx hb dX2_product_148 (lv_at hl 0 rfl) ?_
              refine lv_lmul hx hb dX2_product_150 ?_
              refine lv_lconst (v := 0) hx hb dX2_product_151 (by decide) ?_
              refine bx_lc_eq (tgt := 160) hx hb dX2_product_152 dX2_product_153 (by decide) (fun c9 => ?_) (fun c9 => ?_)
              · rw [if_pos c9] at hq
                refine lv_iconst (v := 0) hx hb dX2_product_160 (by decide) ?_
                exact bX2_product_161 w x1 x3 ((x1 ^^^ x3) &&& (fo_sign w)) (fX0_zeros (fX2_plain w x1)) (fX0_zeros (fX2_plain w x3)) (fX0_upperProduct (jl_shl (fX2_plain w x1) (fX0_zeros (fX2_plain w x1))) (jl_shl (fX2_plain w x3) (fX0_zeros (fX2_plain w x3)))) (0 : Int32) C hK0 (lv_sub hl [5, 6, 7, 4, 3, 2] rfl) post hq
              · rw [if_neg c9] at hq
                refine lv_iconst (v := 1) hx hb dX2_product_156 (by decide) ?_
                refine lv_goto (tgt := 161) hx hb dX2_product_157 (by decide) ?_
                exact bX2_product_161 w x1 x3 ((x1 ^^^ x3) &&& (fo_sign w)) (fX0_zeros (fX2_plain w x1)) (fX0_zeros (fX2_plain w x3)) (fX0_upperProduct (jl_shl (fX2_plain w x1) (fX0_zeros (fX2_plain w x1))) (jl_shl (fX2_plain w x3) (fX0_zeros (fX2_plain w x3)))) (1 : Int32) C hK0 (lv_sub hl [5, 6, 7, 4, 3, 2] rfl) post hq
            · rw [if_neg c8] at hq
              refine lv_lload hx hb dX2_product_94 (lv_at hl 0 rfl) ?_
              exact W.lret (v := ((x1 ^^^ x3) &&& (fo_sign w))) hx hb hr (fun t ht hW => ⟨_, rfl, hq, ht⟩) (fun _ h => absurd h List.not_mem_nil) dX2_product_96
        · rw [if_neg c6] at hq
          exact bX2_product_47 w x1 x3 ((x1 ^^^ x3) &&& (fo_sign w)) C hK0 (lv_sub hl [1, 2, 3, 0] rfl) post hq
    · rw [if_neg c2] at hq
      refine lv_aload_n hx hb dX2_product_16 rfl (lv_at hl 0 rfl) ?_
      refine vk_getf (v := .long (fo_nan w)) hx hb (fo_nan_K hK0) va_S.rf hown (hts _ tw_fieldLink_RX2_52_GlulxFloats_Form_nan_J) (fun _ h9 => h9) dX2_product_17 ?_
      exact W.lret (v := (fo_nan w)) hx hb hr (fun t ht hW => ⟨_, rfl, hq, ht⟩) (fun _ h => absurd h List.not_mem_nil) dX2_product_20
theorem kX2_product (l : Launch) (w : Bool) (h0 : Nat) (x1 : Int64) (x3 : Int64) : Met l yX2_product (Cond.code yX2_product cX2_product 15 (some .long) :: bw) rmX2_product (va_Pc [.ref h0, .long x1, .long x3] (fun U => fo_K w h0 U)) (vp_Sl (fun r => r = fX2_product w x1 x3)) 0 0 (fun _ => False) := by
  refine bx_ent (by decide) _ _ (Nat.le_of_ble_eq_true rfl) rfl ?_
  intro p e s m below meth c ls C hl hK0
  exact bX2_product_0 w x1 x3 C hK0 hl _ rfl
abbrev rmX2_divided : Room := { frames := 2, cells := 0, slots := 0, locals := 61 }
theorem mbX2_divided : mb_V RX2 yX2_divided cX2_divided 17 (some .long) 3 := ⟨⟨tw_instanceMethod_yX2_divided, tw_selects_RX2_yX2_divided_yX2_divided, tw_initialized_RX2, tw_code_yX2_divided⟩, rfl, by decide +kernel, by decide +kernel, by decide +kernel⟩
theorem BX2_divided {w : Bool} {h0 : Nat} : bx_B (fun U => fo_K w h0 U) := fo_B w h0
set_option maxRecDepth 20000 in
theorem lX2_divided_117 (w : Bool) (x8 : Int64) (x15 : Int32) (x1 : Int32) {p : Program} {l : Launch} {e : Env} {s : State} {m : MethodId} {args : Array Value} {below : List Frame} {meth : Method} {c : Code} {h0 : Nat} {Q : State → Prop} (C : bx_C p s m args meth c cX2_divided 17 (some .long) RX2) (hK0 : fo_K w h0 s) (h8 : ¬ x8 = (0 : Int64)) (h15 : 0 < x15.toInt ∧ x15.toInt < 100) (post : Int64 × Int64 × Int32 × Int32 → Prop) (kx : ∀ (o6 : Int64) (o12 : Int64) (o14 : Int32) (o16 : Int32) (ls : Array Slot), lv_has ls 17 [(0, .ref h0), (1, .int x1), (6, .long o6), (12, .long o12), (14, .int o14), (16, .int o16)] → post (o6, o12, o14, o16) → W p l e rmX2_divided s m args below meth c s.heap [] 0 0 Q (F0 m 172 ls [])) :
    ∀ (n : Nat) (x6 : Int64) (x12 : Int64) (x14 : Int32) (x16 : Int32) (ls : Array Slot), (Int32.toInt ((fo_fraction w) + (3 : Int32)) - Int32.toInt x16).toNat < n → lv_has ls 17 [(0, .ref h0), (1, .int x1), (6, .long x6), (8, .long x8), (12, .long x12), (14, .int x14), (15, .int x15), (16, .int x16)] → post (gX2_divided_117 w x8 x15 n x6 x12 x14 x16) → W p l e rmX2_divided s m args below meth c s.heap [] 0 0 Q (F0 m 117 ls []) := by
  obtain ⟨hx, hb, hml, hr, hlocks, hown, hts⟩ := id C
  intro n
  induction n with
  | zero =>
    intro x6 x12 x14 x16 ls hm
    exact absurd hm (Nat.not_lt_zero _)
  | succ n ih =>
    intro x6 x12 x14 x16 ls hm hl hq
    rw [gX2_divided_117] at hq
    refine lv_iload hx hb dX2_divided_117 (lv_at hl 7 rfl) ?_
    refine lv_aload_n hx hb dX2_divided_119 rfl (lv_at hl 0 rfl) ?_
    refine vk_getf (v := .int (fo_fraction w)) hx hb (fo_fraction_K hK0) va_S.rf hown (hts _ tw_fieldLink_RX2_29_GlulxFloats_Form_fraction_I) (fun _ h9 => h9) dX2_divided_120 ?_
    refine lv_iconst (v := 3) hx hb dX2_divided_123 (by decide) ?_
    refine lv_iadd hx hb dX2_divided_124 ?_
    refine lv_icmp_ge (tgt := 172) hx hb dX2_divided_125 (by decide) (fun c2 => ?_) (fun c2 => ?_)
    · rw [if_pos c2] at hq
      exact kx x6 x12 x14 x16 _ (lv_sub hl [0, 1, 2, 4, 5, 7] rfl) hq
    · rw [if_neg c2] at hq
      refine lv_lload hx hb dX2_divided_128 (lv_at hl 2 rfl) ?_
      refine lv_iload hx hb dX2_divided_130 (lv_at hl 6 rfl) ?_
      refine bx_lshl hx hb dX2_divided_132 ?_
      refine lv_lstore (lv' := [(6, .long (jl_shl x6 x15)), (0, .ref h0), (1, .int x1), (8, .long x8), (12, .long x12), (14, .int x14), (15, .int x15), (16, .int x16)]) hx hb dX2_divided_133 hl (by decide) rfl (fun ls hl => ?_)
      refine lv_lload hx hb dX2_divided_135 (lv_at hl 4 rfl) ?_
      refine lv_iload hx hb dX2_divided_137 (lv_at hl 6 rfl) ?_
      refine bx_lshl hx hb dX2_divided_139 ?_
      refine lv_lload hx hb dX2_divided_140 (lv_at hl 0 rfl) ?_
      refine lv_lload hx hb dX2_divided_142 (lv_at hl 3 rfl) ?_
      refine lv_ldiv hx hb dX2_divided_144 (by first | assumption | decide) ?_
      refine lv_lor hx hb dX2_divided_145 ?_
      refine lv_lstore (lv' := [(12, .long ((jl_shl x12 x15) ||| ((jl_shl x6 x15) / x8))), (6, .long (jl_shl x6 x15)), (0, .ref h0), (1, .int x1), (8, .long x8), (14, .int x14), (15, .int x15), (16, .int x16)]) hx hb dX2_divided_146 hl (by decide) rfl (fun ls hl => ?_)
      refine lv_lload hx hb dX2_divided_148 (lv_at hl 1 rfl) ?_
      refine lv_lload hx hb dX2_divided_150 (lv_at hl 4 rfl) ?_
      refine bx_lrem hx hb dX2_divided_152 (by first | assumption | decide) ?_
      refine lv_lstore (lv' := [(6, .long (jl_rem (jl_shl x6 x15) x8)), (12, .long ((jl_shl x12 x15) ||| ((jl_shl x6 x15) / x8))), (0, .ref h0), (1, .int x1), (8, .long x8), (14, .int x14), (15, .int x15), (16, .int x16)]) hx hb dX2_divided_153 hl (by decide) rfl (fun ls hl => ?_)
      refine lv_iload hx hb dX2_divided_155 (lv_at hl 5 rfl) ?_
      refine lv_iload hx hb dX2_divided_157 (lv_at hl 6 rfl) ?_
      refine lv_isub hx hb dX2_divided_159 ?_
      refine lv_istore (lv' := [(14, .int (x14 - x15)), (6, .long (jl_rem (jl_shl x6 x15) x8)), (12, .long ((jl_shl x12 x15) ||| ((jl_shl x6 x15) / x8))), (0, .ref h0), (1, .int x1), (8, .long x8), (15, .int x15), (16, .int x16)]) hx hb dX2_divided_160 hl (by decide) rfl (fun ls hl => ?_)
      refine lv_iload hx hb dX2_divided_162 (lv_at hl 7 rfl) ?_
      refine lv_iload hx hb dX2_divided_164 (lv_at hl 6 rfl) ?_
      refine lv_iadd hx hb dX2_divided_166 ?_
      refine lv_istore (lv' := [(16, .int (x16 + x15)), (14, .int (x14 - x15)), (6, .long (jl_rem (jl_shl x6 x15) x8)), (12, .long ((jl_shl x12 x15) ||| ((jl_shl x6 x15) / x8))), (0, .ref h0), (1, .int x1), (8, .long x8), (15, .int x15)]) hx hb dX2_divided_167 hl (by decide) rfl (fun ls hl => ?_)
      refine lv_goto (tgt := 117) hx hb dX2_divided_169 (by decide) ?_
      exact ih (jl_rem (jl_shl x6 x15) x8) ((jl_shl x12 x15) ||| ((jl_shl x6 x15) / x8)) (x14 - x15) (x16 + x15) _ (lp_st (by assumption) h15 (by cases w <;> decide) hm) (lv_sub hl [4, 5, 2, 6, 3, 1, 7, 0] rfl) hq
set_option maxRecDepth 20000 in
theorem bX2_divided_194 (w : Bool) (s1 : Int32) (s2 : Int32) (s3 : Int64) (s4 : Int32) {p : Program} {l : Launch} {e : Env} {s : State} {m : MethodId} {args : Array Value} {below : List Frame} {meth : Method} {c : Code} {h0 : Nat} {ls : Array Slot} (C : bx_C p s m args meth c cX2_divided 17 (some .long) RX2) (hK0 : fo_K w h0 s) (hl : lv_has ls 17 []) (post : Int64 → Prop) (hq : post (fX2_divided_194 w s1 s2 s3 s4)) : W p l e rmX2_divided s m args below meth c s.heap [] 0 0 (MQ below (vp_Sl post) args s 0 0 (fun _ => False)) (F0 m 194 ls [.int s4, .long s3, .int s2, .int s1, .ref h0]) := by
  obtain ⟨hx, hb, hml, hr, hlocks, hown, hts⟩ := id C
  unfold fX2_divided_194 at hq
  refine bx_i2l hx hb dX2_divided_194 ?_
  refine lv_lor hx hb dX2_divided_195 ?_
  refine bx_vl C (kX2_rounded l w h0 s1 s2 (s3 ||| s4.toInt64)) BX2_rounded (fun U u1 u2 => fo_B w h0 s U u1 u2 hK0) (fun U u1 u2 => (fo_B w h0 s U u1 u2 hK0).1) tw_methodLink_RX2_148_yX2_rounded mbX2_rounded rfl ⟨rfl, rfl⟩ ⟨Nat.le_of_ble_eq_true rfl, Nat.le_of_ble_eq_true rfl⟩ ⟨Nat.zero_le _, Nat.zero_le _⟩ hl.1 rfl (Nat.le_of_ble_eq_true rfl) dX2_divided_196 ?_
  exact W.lret (v := (fX2_rounded w s1 s2 (s3 ||| s4.toInt64))) hx hb hr (fun t ht hW => ⟨_, rfl, hq, ht⟩) (fun _ h => absurd h List.not_mem_nil) dX2_divided_199
set_option maxRecDepth 20000 in
theorem bX2_divided_172 (w : Bool) (x1 : Int32) (x6 : Int64) (x12 : Int64) (x14 : Int32) {p : Program} {l : Launch} {e : Env} {s : State} {m : MethodId} {args : Array Value} {below : List Frame} {meth : Method} {c : Code} {h0 : Nat} {ls : Array Slot} (C : bx_C p s m args meth c cX2_divided 17 (some .long) RX2) (hK0 : fo_K w h0 s) (hl : lv_has ls 17 [(0, .ref h0), (1, .int x1), (6, .long x6), (12, .long x12), (14, .int x14)]) (post : Int64 → Prop) (hq : post (fX2_divided_172 w x1 x6 x12 x14)) : W p l e rmX2_divided s m args below meth c s.heap [] 0 0 (MQ below (vp_Sl post) args s 0 0 (fun _ => False)) (F0 m 172 ls []) := by
  obtain ⟨hx, hb, hml, hr, hlocks, hown, hts⟩ := id C
  unfold fX2_divided_172 at hq
  refine lv_aload_n hx hb dX2_divided_172 rfl (lv_at hl 0 rfl) ?_
  refine lv_iload_n hx hb dX2_divided_173 rfl (lv_at hl 1 rfl) ?_
  refine lv_iload hx hb dX2_divided_174 (lv_at hl 4 rfl) ?_
  refine lv_iconst (v := 1) hx hb dX2_divided_176 (by decide) ?_
  refine lv_isub hx hb dX2_divided_177 ?_
  refine lv_lload hx hb dX2_divided_178 (lv_at hl 3 rfl) ?_
  refine lv_iconst (v := 1) hx hb dX2_divided_180 (by decide) ?_
  refine bx_lshl hx hb dX2_divided_181 ?_
  refine lv_lload hx hb dX2_divided_182 (lv_at hl 2 rfl) ?_
  refine lv_lconst (v := 0) hx hb dX2_divided_184 (by decide) ?_
  refine bx_lc_eq (tgt := 193) hx hb dX2_divided_185 dX2_divided_186 (by decide) (fun c3 => ?_) (fun c3 => ?_)
  · rw [if_pos c3] at hq
    refine lv_iconst (v := 0) hx hb dX2_divided_193 (by decide) ?_
    exact bX2_divided_194 w x1 (x14 - (1 : Int32)) (jl_shl x12 (1 : Int32)) (0 : Int32) C hK0 (lv_sub hl [] rfl) post hq
  · rw [if_neg c3] at hq
    refine lv_iconst (v := 1) hx hb dX2_divided_189 (by decide) ?_
    refine lv_goto (tgt := 194) hx hb dX2_divided_190 (by decide) ?_
    exact bX2_divided_194 w x1 (x14 - (1 : Int32)) (jl_shl x12 (1 : Int32)) (1 : Int32) C hK0 (lv_sub hl [] rfl) post hq
set_option maxRecDepth 20000 in
theorem bX2_divided_59 (w : Bool) (x1 : Int32) (x2 : Int64) (x4 : Int64) (x6 : Int64) (x8 : Int64) (x10 : Int32) (x11 : Int32) {p : Program} {l : Launch} {e : Env} {s : State} {m : MethodId} {args : Array Value} {below : List Frame} {meth : Method} {c : Code} {h0 : Nat} {ls : Array Slot} (C : bx_C p s m args meth c cX2_divided 17 (some .long) RX2) (hK0 : fo_K w h0 s) (hl : lv_has ls 17 [(0, .ref h0), (1, .int x1), (2, .long x2), (4, .long x4), (6, .long x6), (8, .long x8), (10, .int x10), (11, .int x11)]) (post : Int64 → Prop) (hq : post (fX2_divided_59 w x1 x2 x4 x6 x8 x10 x11)) : W p l e rmX2_divided s m args below meth c s.heap [] 0 0 (MQ below (vp_Sl post) args s 0 0 (fun _ => False)) (F0 m 59 ls []) := by
  obtain ⟨hx, hb, hml, hr, hlocks, hown, hts⟩ := id C
  unfold fX2_divided_59 at hq
  refine lv_lload hx hb dX2_divided_59 (lv_at hl 5 rfl) ?_
  refine lv_lconst (v := 0) hx hb dX2_divided_61 (by decide) ?_
  refine bx_lc_ne (tgt := 71) hx hb dX2_divided_62 dX2_divided_63 (by decide) (fun c1 => ?_) (fun c1 => ?_)
  · rw [if_neg c1] at hq
    refine lv_lload hx hb dX2_divided_71 (lv_at hl 4 rfl) ?_
    refine lv_lload hx hb dX2_divided_73 (lv_at hl 5 rfl) ?_
    refine lv_ldiv hx hb dX2_divided_75 (by first | assumption | decide) ?_
    refine lv_lstore (lv' := [(12, .long (x6 / x8)), (0, .ref h0), (1, .int x1), (2, .long x2), (4, .long x4), (6, .long x6), (8, .long x8), (10, .int x10), (11, .int x11)]) hx hb dX2_divided_76 hl (by decide) rfl (fun ls hl => ?_)
    refine lv_lload hx hb dX2_divided_78 (lv_at hl 5 rfl) ?_
    refine lv_lload hx hb dX2_divided_80 (lv_at hl 6 rfl) ?_
    refine bx_lrem hx hb dX2_divided_82 (by first | assumption | decide) ?_
    refine lv_lstore (lv' := [(6, .long (jl_rem x6 x8)), (12, .long (x6 / x8)), (0, .ref h0), (1, .int x1), (2, .long x2), (4, .long x4), (8, .long x8), (10, .int x10), (11, .int x11)]) hx hb dX2_divided_83 hl (by decide) rfl (fun ls hl => ?_)
    refine lv_aload_n hx hb dX2_divided_85 rfl (lv_at hl 2 rfl) ?_
    refine lv_lload_n hx hb dX2_divided_86 rfl (lv_at hl 4 rfl) ?_
    refine bx_vi C (kX2_scale l w h0 x2) BX2_scale (fun U u1 u2 => fo_B w h0 s U u1 u2 hK0) (fun U u1 u2 => (fo_B w h0 s U u1 u2 hK0).1) tw_methodLink_RX2_142_yX2_scale mbX2_scale rfl ⟨rfl, rfl⟩ ⟨Nat.le_of_ble_eq_true rfl, Nat.le_of_ble_eq_true rfl⟩ ⟨Nat.zero_le _, Nat.zero_le _⟩ hl.1 rfl (Nat.le_of_ble_eq_true rfl) dX2_divided_87 ?_
    refine lv_iload hx hb dX2_divided_90 (lv_at hl 7 rfl) ?_
    refine lv_isub hx hb dX2_divided_92 ?_
    refine lv_aload_n hx hb dX2_divided_93 rfl (lv_at hl 2 rfl) ?_
    refine lv_lload hx hb dX2_divided_94 (lv_at hl 5 rfl) ?_
    refine bx_vi C (kX2_scale l w h0 x4) BX2_scale (fun U u1 u2 => fo_B w h0 s U u1 u2 hK0) (fun U u1 u2 => (fo_B w h0 s U u1 u2 hK0).1) tw_methodLink_RX2_142_yX2_scale mbX2_scale rfl ⟨rfl, rfl⟩ ⟨Nat.le_of_ble_eq_true rfl, Nat.le_of_ble_eq_true rfl⟩ ⟨Nat.zero_le _, Nat.zero_le _⟩ hl.1 rfl (Nat.le_of_ble_eq_true rfl) dX2_divided_96 ?_
    refine lv_isub hx hb dX2_divided_99 ?_
    refine lv_iload hx hb dX2_divided_100 (lv_at hl 8 rfl) ?_
    refine lv_iadd hx hb dX2_divided_102 ?_
    refine lv_istore (lv' := [(14, .int ((((fX2_scale w x2) - x10) - (fX2_scale w x4)) + x11)), (6, .long (jl_rem x6 x8)), (12, .long (x6 / x8)), (0, .ref h0), (1, .int x1), (2, .long x2), (4, .long x4), (8, .long x8), (10, .int x10), (11, .int x11)]) hx hb dX2_divided_103 hl (by decide) rfl (fun ls hl => ?_)
    refine lv_bipush (v := 62) hx hb dX2_divided_105 (by decide) ?_
    refine lv_aload_n hx hb dX2_divided_107 rfl (lv_at hl 3 rfl) ?_
    refine vk_getf (v := .int (fo_fraction w)) hx hb (fo_fraction_K hK0) va_S.rf hown (hts _ tw_fieldLink_RX2_29_GlulxFloats_Form_fraction_I) (fun _ h9 => h9) dX2_divided_108 ?_
    refine lv_isub hx hb dX2_divided_111 ?_
    refine lv_istore (lv' := [(15, .int ((62 : Int32) - (fo_fraction w))), (14, .int ((((fX2_scale w x2) - x10) - (fX2_scale w x4)) + x11)), (6, .long (jl_rem x6 x8)), (12, .long (x6 / x8)), (0, .ref h0), (1, .int x1), (2, .long x2), (4, .long x4), (8, .long x8), (10, .int x10), (11, .int x11)]) hx hb dX2_divided_112 hl (by decide) rfl (fun ls hl => ?_)
    refine lv_iconst (v := 0) hx hb dX2_divided_114 (by decide) ?_
    refine lv_istore (lv' := [(16, .int (0 : Int32)), (15, .int ((62 : Int32) - (fo_fraction w))), (14, .int ((((fX2_scale w x2) - x10) - (fX2_scale w x4)) + x11)), (6, .long (jl_rem x6 x8)), (12, .long (x6 / x8)), (0, .ref h0), (1, .int x1), (2, .long x2), (4, .long x4), (8, .long x8), (10, .int x10), (11, .int x11)]) hx hb dX2_divided_115 hl (by decide) rfl (fun ls hl => ?_)
    exact lX2_divided_117 w x8 ((62 : Int32) - (fo_fraction w)) x1 C hK0 (by assumption) (by cases w <;> decide) (fun t => post (fX2_divided_172 w x1 t.1 t.2.1 t.2.2.1)) (fun o6 o12 o14 o16 ls hl hq => bX2_divided_172 w x1 o6 o12 o14 C hK0 (lv_sub hl [0, 1, 2, 3, 4] rfl) post hq) (Nat.succ ((Int32.toInt ((fo_fraction w) + (3 : Int32)) - Int32.toInt (0 : Int32)).toNat)) (jl_rem x6 x8) (x6 / x8) ((((fX2_scale w x2) - x10) - (fX2_scale w x4)) + x11) (0 : Int32) _ (Nat.lt_succ_self _) (lv_sub hl [5, 6, 3, 9, 4, 2, 1, 0] rfl) hq
  · rw [if_pos c1] at hq
    refine lv_aload_n hx hb dX2_divided_66 rfl (lv_at hl 0 rfl) ?_
    refine vk_getf (v := .long (fo_nan w)) hx hb (fo_nan_K hK0) va_S.rf hown (hts _ tw_fieldLink_RX2_52_GlulxFloats_Form_nan_J) (fun _ h9 => h9) dX2_divided_67 ?_
    exact W.lret (v := (fo_nan w)) hx hb hr (fun t ht hW => ⟨_, rfl, hq, ht⟩) (fun _ h => absurd h List.not_mem_nil) dX2_divided_70
set_option maxRecDepth 20000 in
theorem bX2_divided_0 (w : Bool) (x1 : Int32) (x2 : Int64) (x4 : Int64) {p : Program} {l : Launch} {e : Env} {s : State} {m : MethodId} {args : Array Value} {below : List Frame} {meth : Method} {c : Code} {h0 : Nat} {ls : Array Slot} (C : bx_C p s m args meth c cX2_divided 17 (some .long) RX2) (hK0 : fo_K w h0 s) (hl : lv_has ls 17 [(0, .ref h0), (1, .int x1), (2, .long x2), (4, .long x4)]) (post : Int64 → Prop) (hq : post (fX2_divided w x1 x2 x4)) : W p l e rmX2_divided s m args below meth c s.heap [] 0 0 (MQ below (vp_Sl post) args s 0 0 (fun _ => False)) (F0 m 0 ls []) := by
  obtain ⟨hx, hb, hml, hr, hlocks, hown, hts⟩ := id C
  unfold fX2_divided at hq
  refine lv_aload_n hx hb dX2_divided_0 rfl (lv_at hl 0 rfl) ?_
  refine lv_lload_n hx hb dX2_divided_1 rfl (lv_at hl 2 rfl) ?_
  refine bx_vl C (kX2_plain l w h0 x2) BX2_plain (fun U u1 u2 => fo_B w h0 s U u1 u2 hK0) (fun U u1 u2 => (fo_B w h0 s U u1 u2 hK0).1) tw_methodLink_RX2_145_yX2_plain mbX2_plain rfl ⟨rfl, rfl⟩ ⟨Nat.le_of_ble_eq_true rfl, Nat.le_of_ble_eq_true rfl⟩ ⟨Nat.zero_le _, Nat.zero_le _⟩ hl.1 rfl (Nat.le_of_ble_eq_true rfl) dX2_divided_2 ?_
  refine lv_lstore (lv' := [(6, .long (fX2_plain w x2)), (0, .ref h0), (1, .int x1), (2, .long x2), (4, .long x4)]) hx hb dX2_divided_5 hl (by decide) rfl (fun ls hl => ?_)
  refine lv_aload_n hx hb dX2_divided_7 rfl (lv_at hl 1 rfl) ?_
  refine lv_lload hx hb dX2_divided_8 (lv_at hl 4 rfl) ?_
  refine bx_vl C (kX2_plain l w h0 x4) BX2_plain (fun U u1 u2 => fo_B w h0 s U u1 u2 hK0) (fun U u1 u2 => (fo_B w h0 s U u1 u2 hK0).1) tw_methodLink_RX2_145_yX2_plain mbX2_plain rfl ⟨rfl, rfl⟩ ⟨Nat.le_of_ble_eq_true rfl, Nat.le_of_ble_eq_true rfl⟩ ⟨Nat.zero_le _, Nat.zero_le _⟩ hl.1 rfl (Nat.le_of_ble_eq_true rfl) dX2_divided_10 ?_
  refine lv_lstore (lv' := [(8, .long (fX2_plain w x4)), (6, .long (fX2_plain w x2)), (0, .ref h0), (1, .int x1), (2, .long x2), (4, .long x4)]) hx hb dX2_divided_13 hl (by decide) rfl (fun ls hl => ?_)
  refine lv_lload hx hb dX2_divided_15 (lv_at hl 1 rfl) ?_
  refine bx_si C (kX0_zeros l (fX2_plain w x2)) bx_B_true (fun _ _ _ => trivial) tw_methodLink_RX2_160_yX0_zeros mbX0_zeros rfl ⟨rfl, rfl⟩ ⟨Nat.le_of_ble_eq_true rfl, Nat.le_of_ble_eq_true rfl⟩ ⟨Nat.zero_le _, Nat.zero_le _⟩ hl.1 rfl (Nat.le_of_ble_eq_true rfl) dX2_divided_17 ?_
  refine lv_bipush (v := 63) hx hb dX2_divided_20 (by decide) ?_
  refine lv_aload_n hx hb dX2_divided_22 rfl (lv_at hl 2 rfl) ?_
  refine vk_getf (v := .int (fo_fraction w)) hx hb (fo_fraction_K hK0) va_S.rf hown (hts _ tw_fieldLink_RX2_29_GlulxFloats_Form_fraction_I) (fun _ h9 => h9) dX2_divided_23 ?_
  refine lv_isub hx hb dX2_divided_26 ?_
  refine lv_isub hx hb dX2_divided_27 ?_
  refine lv_istore (lv' := [(10, .int ((fX0_zeros (fX2_plain w x2)) - ((63 : Int32) - (fo_fraction w)))), (8, .long (fX2_plain w x4)), (6, .long (fX2_plain w x2)), (0, .ref h0), (1, .int x1), (2, .long x2), (4, .long x4)]) hx hb dX2_divided_28 hl (by decide) rfl (fun ls hl => ?_)
  refine lv_lload hx hb dX2_divided_30 (lv_at hl 1 rfl) ?_
  refine bx_si C (kX0_zeros l (fX2_plain w x4)) bx_B_true (fun _ _ _ => trivial) tw_methodLink_RX2_160_yX0_zeros mbX0_zeros rfl ⟨rfl, rfl⟩ ⟨Nat.le_of_ble_eq_true rfl, Nat.le_of_ble_eq_true rfl⟩ ⟨Nat.zero_le _, Nat.zero_le _⟩ hl.1 rfl (Nat.le_of_ble_eq_true rfl) dX2_divided_32 ?_
  refine lv_bipush (v := 63) hx hb dX2_divided_35 (by decide) ?_
  refine lv_aload_n hx hb dX2_divided_37 rfl (lv_at hl 3 rfl) ?_
  refine vk_getf (v := .int (fo_fraction w)) hx hb (fo_fraction_K hK0) va_S.rf hown (hts _ tw_fieldLink_RX2_29_GlulxFloats_Form_fraction_I) (fun _ h9 => h9) dX2_divided_38 ?_
  refine lv_isub hx hb dX2_divided_41 ?_
  refine lv_isub hx hb dX2_divided_42 ?_
  refine lv_istore (lv' := [(11, .int ((fX0_zeros (fX2_plain w x4)) - ((63 : Int32) - (fo_fraction w)))), (10, .int ((fX0_zeros (fX2_plain w x2)) - ((63 : Int32) - (fo_fraction w)))), (8, .long (fX2_plain w x4)), (6, .long (fX2_plain w x2)), (0, .ref h0), (1, .int x1), (2, .long x2), (4, .long x4)]) hx hb dX2_divided_43 hl (by decide) rfl (fun ls hl => ?_)
  refine lv_lload hx hb dX2_divided_45 (lv_at hl 3 rfl) ?_
  refine lv_iload hx hb dX2_divided_47 (lv_at hl 1 rfl) ?_
  refine bx_lshl hx hb dX2_divided_49 ?_
  refine lv_lstore (lv' := [(6, .long (jl_shl (fX2_plain w x2) ((fX0_zeros (fX2_plain w x2)) - ((63 : Int32) - (fo_fraction w))))), (11, .int ((fX0_zeros (fX2_plain w x4)) - ((63 : Int32) - (fo_fraction w)))), (10, .int ((fX0_zeros (fX2_plain w x2)) - ((63 : Int32) - (fo_fraction w)))), (8, .long (fX2_plain w x4)), (0, .ref h0), (1, .int x1), (2, .long x2), (4, .long x4)]) hx hb dX2_divided_50 hl (by decide) rfl (fun ls hl => ?_)
  refine lv_lload hx hb dX2_divided_52 (lv_at hl 3 rfl) ?_
  refine lv_iload hx hb dX2_divided_54 (lv_at hl 1 rfl) ?_
  refine bx_lshl hx hb dX2_divided_56 ?_
  refine lv_lstore (lv' := [(8, .long (jl_shl (fX2_plain w x4) ((fX0_zeros (fX2_plain w x4)) - ((63 : Int32) - (fo_fraction w))))), (6, .long (jl_shl (fX2_plain w x2) ((fX0_zeros (fX2_plain w x2)) - ((63 : Int32) - (fo_fraction w))))), (11, .int ((fX0_zeros (fX2_plain w x4)) - ((63 : Int32) - (fo_fraction w)))), (10, .int ((fX0_zeros (fX2_plain w x2)) - ((63 : Int32) - (fo_fraction w)))), (0, .ref h0), (1, .int x1), (2, .long x2), (4, .long x4)]) hx hb dX2_divided_57 hl (by decide) rfl (fun ls hl => ?_)
  exact bX2_divided_59 w x1 x2 x4 (jl_shl (fX2_plain w x2) ((fX0_zeros (fX2_plain w x2)) - ((63 : Int32) - (fo_fraction w)))) (jl_shl (fX2_plain w x4) ((fX0_zeros (fX2_plain w x4)) - ((63 : Int32) - (fo_fraction w)))) ((fX0_zeros (fX2_plain w x2)) - ((63 : Int32) - (fo_fraction w))) ((fX0_zeros (fX2_plain w x4)) - ((63 : Int32) - (fo_fraction w))) C hK0 (lv_sub hl [4, 5, 6, 7, 1, 0, 3, 2] rfl) post hq
theorem kX2_divided (l : Launch) (w : Bool) (h0 : Nat) (x1 : Int32) (x2 : Int64) (x4 : Int64) : Met l yX2_divided (Cond.code yX2_divided cX2_divided 17 (some .long) :: bw) rmX2_divided (va_Pc [.ref h0, .int x1, .long x2, .long x4] (fun U => fo_K w h0 U)) (vp_Sl (fun r => r = fX2_divided w x1 x2 x4)) 0 0 (fun _ => False) := by
  refine bx_ent (by decide) _ _ (Nat.le_of_ble_eq_true rfl) rfl ?_
  intro p e s m below meth c ls C hl hK0
  exact bX2_divided_0 w x1 x2 x4 C hK0 hl _ rfl
abbrev rmX2_quotient : Room := { frames := 3, cells := 0, slots := 0, locals := 97 }
theorem mbX2_quotient : mb_V RX2 yX2_quotient cX2_quotient 7 (some .long) 2 := ⟨⟨tw_instanceMethod_yX2_quotient, tw_selects_RX2_yX2_quotient_yX2_quotient, tw_initialized_RX2, tw_code_yX2_quotient⟩, rfl, by decide +kernel, by decide +kernel, by decide +kernel⟩
theorem BX2_quotient {w : Bool} {h0 : Nat} : bx_B (fun U => fo_K w h0 U) := fo_B w h0
set_option maxRecDepth 20000 in
theorem bX2_quotient_119 (w : Bool) (x1 : Int64) (x3 : Int64) (s1 : Int32) {p : Program} {l : Launch} {e : Env} {s : State} {m : MethodId} {args : Array Value} {below : List Frame} {meth : Method} {c : Code} {h0 : Nat} {ls : Array Slot} (C : bx_C p s m args meth c cX2_quotient 7 (some .long) RX2) (hK0 : fo_K w h0 s) (hl : lv_has ls 7 [(1, .long x1), (3, .long x3)]) (post : Int64 → Prop) (hq : post (fX2_quotient_119 w x1 x3 s1)) : W p l e rmX2_quotient s m args below meth c s.heap [] 0 0 (MQ below (vp_Sl post) args s 0 0 (fun _ => False)) (F0 m 119 ls [.int s1, .ref h0]) := by
  obtain ⟨hx, hb, hml, hr, hlocks, hown, hts⟩ := id C
  unfold fX2_quotient_119 at hq
  refine lv_lload_n hx hb dX2_quotient_119 rfl (lv_at hl 0 rfl) ?_
  refine lv_lload_n hx hb dX2_quotient_120 rfl (lv_at hl 1 rfl) ?_
  refine bx_vl C (kX2_divided l w h0 s1 x1 x3) BX2_divided (fun U u1 u2 => fo_B w h0 s U u1 u2 hK0) (fun U u1 u2 => (fo_B w h0 s U u1 u2 hK0).1) tw_methodLink_RX2_166_yX2_divided mbX2_divided rfl ⟨rfl, rfl⟩ ⟨Nat.le_of_ble_eq_true rfl, Nat.le_of_ble_eq_true rfl⟩ ⟨Nat.zero_le _, Nat.zero_le _⟩ hl.1 rfl (Nat.le_of_ble_eq_true rfl) dX2_quotient_121 ?_
  exact W.lret (v := (fX2_divided w s1 x1 x3)) hx hb hr (fun t ht hW => ⟨_, rfl, hq, ht⟩) (fun _ h => absurd h List.not_mem_nil) dX2_quotient_124
set_option maxRecDepth 20000 in
theorem bX2_quotient_53 (w : Bool) (x1 : Int64) (x3 : Int64) {p : Program} {l : Launch} {e : Env} {s : State} {m : MethodId} {args : Array Value} {below : List Frame} {meth : Method} {c : Code} {h0 : Nat} {ls : Array Slot} (C : bx_C p s m args meth c cX2_quotient 7 (some .long) RX2) (hK0 : fo_K w h0 s) (hl : lv_has ls 7 [(0, .ref h0), (1, .long x1), (3, .long x3)]) (post : Int64 → Prop) (hq : post (fX2_quotient_53 w x1 x3)) : W p l e rmX2_quotient s m args below meth c s.heap [] 0 0 (MQ below (vp_Sl post) args s 0 0 (fun _ => False)) (F0 m 53 ls []) := by
  obtain ⟨hx, hb, hml, hr, hlocks, hown, hts⟩ := id C
  unfold fX2_quotient_53 at hq
  refine lv_lload_n hx hb dX2_quotient_53 rfl (lv_at hl 1 rfl) ?_
  refine lv_lload_n hx hb dX2_quotient_54 rfl (lv_at hl 2 rfl) ?_
  refine lv_lxor hx hb dX2_quotient_55 ?_
  refine lv_aload_n hx hb dX2_quotient_56 rfl (lv_at hl 0 rfl) ?_
  refine vk_getf (v := .long (fo_sign w)) hx hb (fo_sign_K hK0) va_S.rf hown (hts _ tw_fieldLink_RX2_42_GlulxFloats_Form_sign_J) (fun _ h9 => h9) dX2_quotient_57 ?_
  refine lv_land hx hb dX2_quotient_60 ?_
  refine lv_lstore (lv' := [(5, .long ((x1 ^^^ x3) &&& (fo_sign w))), (0, .ref h0), (1, .long x1), (3, .long x3)]) hx hb dX2_quotient_61 hl (by decide) rfl (fun ls hl => ?_)
  refine lv_aload_n hx hb dX2_quotient_63 rfl (lv_at hl 1 rfl) ?_
  refine lv_lload_n hx hb dX2_quotient_64 rfl (lv_at hl 2 rfl) ?_
  refine bx_vi C (kX2_isInfinite l w h0 x1) BX2_isInfinite (fun U u1 u2 => fo_B w h0 s U u1 u2 hK0) (fun U u1 u2 => (fo_B w h0 s U u1 u2 hK0).1) tw_methodLink_RX2_127_yX2_isInfinite mbX2_isInfinite rfl ⟨rfl, rfl⟩ ⟨Nat.le_of_ble_eq_true rfl, Nat.le_of_ble_eq_true rfl⟩ ⟨Nat.zero_le _, Nat.zero_le _⟩ hl.1 rfl (Nat.le_of_ble_eq_true rfl) dX2_quotient_65 ?_
  refine lv_if_ne (tgt := 79) hx hb dX2_quotient_68 (by decide) (fun c5 => ?_) (fun c5 => ?_)
  · rw [if_neg c5] at hq
    refine lv_lload hx hb dX2_quotient_79 (lv_at hl 0 rfl) ?_
    refine lv_aload_n hx hb dX2_quotient_81 rfl (lv_at hl 1 rfl) ?_
    refine vk_getf (v := .long (fo_infinity w)) hx hb (fo_infinity_K hK0) va_S.rf hown (hts _ tw_fieldLink_RX2_49_GlulxFloats_Form_infinity_J) (fun _ h9 => h9) dX2_quotient_82 ?_
    refine lv_lor hx hb dX2_quotient_85 ?_
    exact W.lret (v := (((x1 ^^^ x3) &&& (fo_sign w)) ||| (fo_infinity w))) hx hb hr (fun t ht hW => ⟨_, rfl, hq, ht⟩) (fun _ h => absurd h List.not_mem_nil) dX2_quotient_86
  · rw [if_pos c5] at hq
    refine lv_aload_n hx hb dX2_quotient_71 rfl (lv_at hl 1 rfl) ?_
    refine lv_lload_n hx hb dX2_quotient_72 rfl (lv_at hl 3 rfl) ?_
    refine bx_vi C (kX2_isZero l w h0 x3) BX2_isZero (fun U u1 u2 => fo_B w h0 s U u1 u2 hK0) (fun U u1 u2 => (fo_B w h0 s U u1 u2 hK0).1) tw_methodLink_RX2_139_yX2_isZero mbX2_isZero rfl ⟨rfl, rfl⟩ ⟨Nat.le_of_ble_eq_true rfl, Nat.le_of_ble_eq_true rfl⟩ ⟨Nat.zero_le _, Nat.zero_le _⟩ hl.1 rfl (Nat.le_of_ble_eq_true rfl) dX2_quotient_73 ?_
    refine lv_if_eq (tgt := 87) hx hb dX2_quotient_76 (by decide) (fun c6 => ?_) (fun c6 => ?_)
    · rw [if_pos c6] at hq
      refine lv_aload_n hx hb dX2_quotient_87 rfl (lv_at hl 1 rfl) ?_
      refine lv_lload_n hx hb dX2_quotient_88 rfl (lv_at hl 3 rfl) ?_
      refine bx_vi C (kX2_isInfinite l w h0 x3) BX2_isInfinite (fun U u1 u2 => fo_B w h0 s U u1 u2 hK0) (fun U u1 u2 => (fo_B w h0 s U u1 u2 hK0).1) tw_methodLink_RX2_127_yX2_isInfinite mbX2_isInfinite rfl ⟨rfl, rfl⟩ ⟨Nat.le_of_ble_eq_true rfl, Nat.le_of_ble_eq_true rfl⟩ ⟨Nat.zero_le _, Nat.zero_le _⟩ hl.1 rfl (Nat.le_of_ble_eq_true rfl) dX2_quotient_89 ?_
      refine lv_if_ne (tgt := 103) hx hb dX2_quotient_92 (by decide) (fun c7 => ?_) (fun c7 => ?_)
      · rw [if_neg c7] at hq
        refine lv_lload hx hb dX2_quotient_103 (lv_at hl 0 rfl) ?_
        exact W.lret (v := ((x1 ^^^ x3) &&& (fo_sign w))) hx hb hr (fun t ht hW => ⟨_, rfl, hq, ht⟩) (fun _ h => absurd h List.not_mem_nil) dX2_quotient_105
      · rw [if_pos c7] at hq
        refine lv_aload_n hx hb dX2_quotient_95 rfl (lv_at hl 1 rfl) ?_
        refine lv_lload_n hx hb dX2_quotient_96 rfl (lv_at hl 2 rfl) ?_
        refine bx_vi C (kX2_isZero l w h0 x1) BX2_isZero (fun U u1 u2 => fo_B w h0 s U u1 u2 hK0) (fun U u1 u2 => (fo_B w h0 s U u1 u2 hK0).1) tw_methodLink_RX2_139_yX2_isZero mbX2_isZero rfl ⟨rfl, rfl⟩ ⟨Nat.le_of_ble_eq_true rfl, Nat.le_of_ble_eq_true rfl⟩ ⟨Nat.zero_le _, Nat.zero_le _⟩ hl.1 rfl (Nat.le_of_ble_eq_true rfl) dX2_quotient_97 ?_
        refine lv_if_eq (tgt := 106) hx hb dX2_quotient_100 (by decide) (fun c8 => ?_) (fun c8 => ?_)
        · rw [if_pos c8] at hq
          refine lv_aload_n hx hb dX2_quotient_106 rfl (lv_at hl 1 rfl) ?_
          refine lv_lload hx hb dX2_quotient_107 (lv_at hl 0 rfl) ?_
          refine lv_lconst (v := 0) hx hb dX2_quotient_109 (by decide) ?_
          refine bx_lc_eq (tgt := 118) hx hb dX2_quotient_110 dX2_quotient_111 (by decide) (fun c9 => ?_) (fun c9 => ?_)
          · rw [if_pos c9] at hq
            refine lv_iconst (v := 0) hx hb dX2_quotient_118 (by decide) ?_
            exact bX2_quotient_119 w x1 x3 (0 : Int32) C hK0 (lv_sub hl [2, 3] rfl) post hq
          · rw [if_neg c9] at hq
            refine lv_iconst (v := 1) hx hb dX2_quotient_114 (by decide) ?_
            refine lv_goto (tgt := 119) hx hb dX2_quotient_115 (by decide) ?_
            exact bX2_quotient_119 w x1 x3 (1 : Int32) C hK0 (lv_sub hl [2, 3] rfl) post hq
        · rw [if_neg c8] at hq
          refine lv_lload hx hb dX2_quotient_103 (lv_at hl 0 rfl) ?_
          exact W.lret (v := ((x1 ^^^ x3) &&& (fo_sign w))) hx hb hr (fun t ht hW => ⟨_, rfl, hq, ht⟩) (fun _ h => absurd h List.not_mem_nil) dX2_quotient_105
    · rw [if_neg c6] at hq
      refine lv_lload hx hb dX2_quotient_79 (lv_at hl 0 rfl) ?_
      refine lv_aload_n hx hb dX2_quotient_81 rfl (lv_at hl 1 rfl) ?_
      refine vk_getf (v := .long (fo_infinity w)) hx hb (fo_infinity_K hK0) va_S.rf hown (hts _ tw_fieldLink_RX2_49_GlulxFloats_Form_infinity_J) (fun _ h9 => h9) dX2_quotient_82 ?_
      refine lv_lor hx hb dX2_quotient_85 ?_
      exact W.lret (v := (((x1 ^^^ x3) &&& (fo_sign w)) ||| (fo_infinity w))) hx hb hr (fun t ht hW => ⟨_, rfl, hq, ht⟩) (fun _ h => absurd h List.not_mem_nil) dX2_quotient_86
set_option maxRecDepth 20000 in
theorem bX2_quotient_32 (w : Bool) (x1 : Int64) (x3 : Int64) {p : Program} {l : Launch} {e : Env} {s : State} {m : MethodId} {args : Array Value} {below : List Frame} {meth : Method} {c : Code} {h0 : Nat} {ls : Array Slot} (C : bx_C p s m args meth c cX2_quotient 7 (some .long) RX2) (hK0 : fo_K w h0 s) (hl : lv_has ls 7 [(0, .ref h0), (1, .long x1), (3, .long x3)]) (post : Int64 → Prop) (hq : post (fX2_quotient_32 w x1 x3)) : W p l e rmX2_quotient s m args below meth c s.heap [] 0 0 (MQ below (vp_Sl post) args s 0 0 (fun _ => False)) (F0 m 32 ls []) := by
  obtain ⟨hx, hb, hml, hr, hlocks, hown, hts⟩ := id C
  unfold fX2_quotient_32 at hq
  refine lv_aload_n hx hb dX2_quotient_32 rfl (lv_at hl 0 rfl) ?_
  refine lv_lload_n hx hb dX2_quotient_33 rfl (lv_at hl 1 rfl) ?_
  refine bx_vi C (kX2_isZero l w h0 x1) BX2_isZero (fun U u1 u2 => fo_B w h0 s U u1 u2 hK0) (fun U u1 u2 => (fo_B w h0 s U u1 u2 hK0).1) tw_methodLink_RX2_139_yX2_isZero mbX2_isZero rfl ⟨rfl, rfl⟩ ⟨Nat.le_of_ble_eq_true rfl, Nat.le_of_ble_eq_true rfl⟩ ⟨Nat.zero_le _, Nat.zero_le _⟩ hl.1 rfl (Nat.le_of_ble_eq_true rfl) dX2_quotient_34 ?_
  refine lv_if_eq (tgt := 53) hx hb dX2_quotient_37 (by decide) (fun c4 => ?_) (fun c4 => ?_)
  · rw [if_pos c4] at hq
    exact bX2_quotient_53 w x1 x3 C hK0 (lv_sub hl [0, 1, 2] rfl) post hq
  · rw [if_neg c4] at hq
    refine lv_aload_n hx hb dX2_quotient_40 rfl (lv_at hl 0 rfl) ?_
    refine lv_lload_n hx hb dX2_quotient_41 rfl (lv_at hl 2 rfl) ?_
    refine bx_vi C (kX2_isZero l w h0 x3) BX2_isZero (fun U u1 u2 => fo_B w h0 s U u1 u2 hK0) (fun U u1 u2 => (fo_B w h0 s U u1 u2 hK0).1) tw_methodLink_RX2_139_yX2_isZero mbX2_isZero rfl ⟨rfl, rfl⟩ ⟨Nat.le_of_ble_eq_true rfl, Nat.le_of_ble_eq_true rfl⟩ ⟨Nat.zero_le _, Nat.zero_le _⟩ hl.1 rfl (Nat.le_of_ble_eq_true rfl) dX2_quotient_42 ?_
    refine lv_if_eq (tgt := 53) hx hb dX2_quotient_45 (by decide) (fun c10 => ?_) (fun c10 => ?_)
    · rw [if_pos c10] at hq
      exact bX2_quotient_53 w x1 x3 C hK0 (lv_sub hl [0, 1, 2] rfl) post hq
    · rw [if_neg c10] at hq
      refine lv_aload_n hx hb dX2_quotient_48 rfl (lv_at hl 0 rfl) ?_
      refine vk_getf (v := .long (fo_nan w)) hx hb (fo_nan_K hK0) va_S.rf hown (hts _ tw_fieldLink_RX2_52_GlulxFloats_Form_nan_J) (fun _ h9 => h9) dX2_quotient_49 ?_
      exact W.lret (v := (fo_nan w)) hx hb hr (fun t ht hW => ⟨_, rfl, hq, ht⟩) (fun _ h => absurd h List.not_mem_nil) dX2_quotient_52
set_option maxRecDepth 20000 in
theorem bX2_quotient_0 (w : Bool) (x1 : Int64) (x3 : Int64) {p : Program} {l : Launch} {e : Env} {s : State} {m : MethodId} {args : Array Value} {below : List Frame} {meth : Method} {c : Code} {h0 : Nat} {ls : Array Slot} (C : bx_C p s m args meth c cX2_quotient 7 (some .long) RX2) (hK0 : fo_K w h0 s) (hl : lv_has ls 7 [(0, .ref h0), (1, .long x1), (3, .long x3)]) (post : Int64 → Prop) (hq : post (fX2_quotient w x1 x3)) : W p l e rmX2_quotient s m args below meth c s.heap [] 0 0 (MQ below (vp_Sl post) args s 0 0 (fun _ => False)) (F0 m 0 ls []) := by
  obtain ⟨hx, hb, hml, hr, hlocks, hown, hts⟩ := id C
  unfold fX2_quotient at hq
  refine lv_aload_n hx hb dX2_quotient_0 rfl (lv_at hl 0 rfl) ?_
  refine lv_lload_n hx hb dX2_quotient_1 rfl (lv_at hl 1 rfl) ?_
  refine bx_vi C (kX2_isNan l w h0 x1) BX2_isNan (fun U u1 u2 => fo_B w h0 s U u1 u2 hK0) (fun U u1 u2 => (fo_B w h0 s U u1 u2 hK0).1) tw_methodLink_RX2_116_yX2_isNan mbX2_isNan rfl ⟨rfl, rfl⟩ ⟨Nat.le_of_ble_eq_true rfl, Nat.le_of_ble_eq_true rfl⟩ ⟨Nat.zero_le _, Nat.zero_le _⟩ hl.1 rfl (Nat.le_of_ble_eq_true rfl) dX2_quotient_2 ?_
  refine lv_if_ne (tgt := 48) hx hb dX2_quotient_5 (by decide) (fun c1 => ?_) (fun c1 => ?_)
  · rw [if_neg c1] at hq
    refine lv_aload_n hx hb dX2_quotient_48 rfl (lv_at hl 0 rfl) ?_
    refine vk_getf (v := .long (fo_nan w)) hx hb (fo_nan_K hK0) va_S.rf hown (hts _ tw_fieldLink_RX2_52_GlulxFloats_Form_nan_J) (fun _ h9 => h9) dX2_quotient_49 ?_
    exact W.lret (v := (fo_nan w)) hx hb hr (fun t ht hW => ⟨_, rfl, hq, ht⟩) (fun _ h => absurd h List.not_mem_nil) dX2_quotient_52
  · rw [if_pos c1] at hq
    refine lv_aload_n hx hb dX2_quotient_8 rfl (lv_at hl 0 rfl) ?_
    refine lv_lload_n hx hb dX2_quotient_9 rfl (lv_at hl 2 rfl) ?_
    refine bx_vi C (kX2_isNan l w h0 x3) BX2_isNan (fun U u1 u2 => fo_B w h0 s U u1 u2 hK0) (fun U u1 u2 => (fo_B w h0 s U u1 u2 hK0).1) tw_methodLink_RX2_116_yX2_isNan mbX2_isNan rfl ⟨rfl, rfl⟩ ⟨Nat.le_of_ble_eq_true rfl, Nat.le_of_ble_eq_true rfl⟩ ⟨Nat.zero_le _, Nat.zero_le _⟩ hl.1 rfl (Nat.le_of_ble_eq_true rfl) dX2_quotient_10 ?_
    refine lv_if_ne (tgt := 48) hx hb dX2_quotient_13 (by decide) (fun c2 => ?_) (fun c2 => ?_)
    · rw [if_neg c2] at hq
      refine lv_aload_n hx hb dX2_quotient_48 rfl (lv_at hl 0 rfl) ?_
      refine vk_getf (v := .long (fo_nan w)) hx hb (fo_nan_K hK0) va_S.rf hown (hts _ tw_fieldLink_RX2_52_GlulxFloats_Form_nan_J) (fun _ h9 => h9) dX2_quotient_49 ?_
      exact W.lret (v := (fo_nan w)) hx hb hr (fun t ht hW => ⟨_, rfl, hq, ht⟩) (fun _ h => absurd h List.not_mem_nil) dX2_quotient_52
    · rw [if_pos c2] at hq
      refine lv_aload_n hx hb dX2_quotient_16 rfl (lv_at hl 0 rfl) ?_
      refine lv_lload_n hx hb dX2_quotient_17 rfl (lv_at hl 1 rfl) ?_
      refine bx_vi C (kX2_isInfinite l w h0 x1) BX2_isInfinite (fun U u1 u2 => fo_B w h0 s U u1 u2 hK0) (fun U u1 u2 => (fo_B w h0 s U u1 u2 hK0).1) tw_methodLink_RX2_127_yX2_isInfinite mbX2_isInfinite rfl ⟨rfl, rfl⟩ ⟨Nat.le_of_ble_eq_true rfl, Nat.le_of_ble_eq_true rfl⟩ ⟨Nat.zero_le _, Nat.zero_le _⟩ hl.1 rfl (Nat.le_of_ble_eq_true rfl) dX2_quotient_18 ?_
      refine lv_if_eq (tgt := 32) hx hb dX2_quotient_21 (by decide) (fun c3 => ?_) (fun c3 => ?_)
      · rw [if_pos c3] at hq
        exact bX2_quotient_32 w x1 x3 C hK0 (lv_sub hl [0, 1, 2] rfl) post hq
      · rw [if_neg c3] at hq
        refine lv_aload_n hx hb dX2_quotient_24 rfl (lv_at hl 0 rfl) ?_
        refine lv_lload_n hx hb dX2_quotient_25 rfl (lv_at hl 2 rfl) ?_
        refine bx_vi C (kX2_isInfinite l w h0 x3) BX2_isInfinite (fun U u1 u2 => fo_B w h0 s U u1 u2 hK0) (fun U u1 u2 => (fo_B w h0 s U u1 u2 hK0).1) tw_methodLink_RX2_127_yX2_isInfinite mbX2_isInfinite rfl ⟨rfl, rfl⟩ ⟨Nat.le_of_ble_eq_true rfl, Nat.le_of_ble_eq_true rfl⟩ ⟨Nat.zero_le _, Nat.zero_le _⟩ hl.1 rfl (Nat.le_of_ble_eq_true rfl) dX2_quotient_26 ?_
        refine lv_if_ne (tgt := 48) hx hb dX2_quotient_29 (by decide) (fun c11 => ?_) (fun c11 => ?_)
        · rw [if_neg c11] at hq
          refine lv_aload_n hx hb dX2_quotient_48 rfl (lv_at hl 0 rfl) ?_
          refine vk_getf (v := .long (fo_nan w)) hx hb (fo_nan_K hK0) va_S.rf hown (hts _ tw_fieldLink_RX2_52_GlulxFloats_Form_nan_J) (fun _ h9 => h9) dX2_quotient_49 ?_
          exact W.lret (v := (fo_nan w)) hx hb hr (fun t ht hW => ⟨_, rfl, hq, ht⟩) (fun _ h => absurd h List.not_mem_nil) dX2_quotient_52
        · rw [if_pos c11] at hq
          exact bX2_quotient_32 w x1 x3 C hK0 (lv_sub hl [0, 1, 2] rfl) post hq
theorem kX2_quotient (l : Launch) (w : Bool) (h0 : Nat) (x1 : Int64) (x3 : Int64) : Met l yX2_quotient (Cond.code yX2_quotient cX2_quotient 7 (some .long) :: bw) rmX2_quotient (va_Pc [.ref h0, .long x1, .long x3] (fun U => fo_K w h0 U)) (vp_Sl (fun r => r = fX2_quotient w x1 x3)) 0 0 (fun _ => False) := by
  refine bx_ent (by decide) _ _ (Nat.le_of_ble_eq_true rfl) rfl ?_
  intro p e s m below meth c ls C hl hK0
  exact bX2_quotient_0 w x1 x3 C hK0 hl _ rfl
