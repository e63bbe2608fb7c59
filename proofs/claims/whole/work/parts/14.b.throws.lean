def fX4_act (x1 : Int32) (x2 : Int32) (x3 : Int32) (x4 : Int32) : Int32 := (fX2_acted false x1 (x2.toInt64 &&& (4294967295 : Int64)) (x3.toInt64 &&& (4294967295 : Int64)) (x4.toInt64 &&& (4294967295 : Int64))).toInt32
abbrev rmX4_act : Room := { frames := 8, cells := 1, slots := 6, locals := 300 }
theorem mbX4_act : mb_V RX4 yX4_act cX4_act 5 (some .int) 4 := ⟨⟨tw_instanceMethod_yX4_act, tw_selects_RX4_yX4_act_yX4_act, tw_initialized_RX4, tw_code_yX4_act⟩, rfl, by decide +kernel, by decide +kernel, by decide +kernel⟩
set_option maxRecDepth 20000 in
theorem kX4_act (l : Launch) (hl0 : l.stackTraces = false) (af ad h0 : Nat) (x1 : Int32) (x2 : Int32) (x3 : Int32) (x4 : Int32) : vx_Met l yX4_act (Cond.code yX4_act cX4_act 5 (some .int) :: bw) rmX4_act (va_Pc [.ref h0, .int x1, .int x2, .int x3, .int x4] (xk_K af ad (fun _ => False))) (Qn (fX4_act x1 x2 x3 x4) (ac_in x1 24)) (Xn "java/lang/IllegalArgumentException" (ac_in x1 24)) 1 6 (fun _ => False) := by
  refine vx_ent (by decide) _ _ (Nat.le_of_ble_eq_true rfl) rfl ?_
  intro p e s m below meth c ls C htab hl hK
  obtain ⟨hF, hE⟩ := hK
  obtain ⟨hx, hb, hml, hr, hlocks, hown, hts⟩ := id C
  refine lv_iload_n hx hb dX4_act_0 rfl (lv_at hl 1 rfl) ?_
  refine lv_if_lt (tgt := 10) hx hb dX4_act_1 (by decide) (fun c1 => ?_) (fun c1 => ?_)
  · obtain ⟨xh, xU, xN, ⟨a4, x4s⟩, ⟨a5, x5s⟩, -⟩ := hE
    exact vx_throwS (names := ["java/lang/RuntimeException", "java/lang/Exception"]) hx hb hl0 hown (by decide) (by decide) (hts _ tw_classLink_RX4_23_java_lang_IllegalArgumentException) (hts _ tw_initialized_java_lang_IllegalArgumentException) x4s (fun w hw => ex_wd (List.mem_append_left _ hw) (State.WarmedH.refl s) (xh w (List.mem_append_left _ hw))) xI_ot xU xN va_S.rf (by rw [hml]; exact hl.1) dX4_act_10 dX4_act_13 dX4_act_14 dX4_act_16 dX4_act_19 (fun x hx9 => (htab x hx9).elim) (Nat.le_of_ble_eq_true rfl) (Nat.le_of_ble_eq_true rfl) (Nat.le_of_ble_eq_true rfl) (Nat.le_of_ble_eq_true rfl) hlocks (fun t _ h2 h3 => ⟨(), fun q => q.1 c1, rfl, ⟨h2, fun q hq _ => h3 q hq⟩⟩) (fun _ h => absurd h List.not_mem_nil) (Nat.le_refl _) (Nat.le_refl _)
  refine lv_iload_n hx hb dX4_act_4 rfl (lv_at hl 1 rfl) ?_
  refine lv_bipush (v := 24) hx hb dX4_act_5 (by decide) ?_
  refine lv_icmp_lt (tgt := 20) hx hb dX4_act_7 (by decide) (fun c2 => ?_) (fun c2 => ?_)
  · refine vx_ret ?_
    refine W.widen (k := 1) (n := 6) (Nat.zero_le _) (Nat.zero_le _) ?_
    refine va_gets (v := .ref af) hx hb hF.1.1 va_S.rf hown (hts _ tw_fieldLink_RX4_30_GlulxFloats_Form_FLOAT_LGlulxFloats_Form) (fun _ h9 => h9) dX4_act_20 ?_
    refine lv_iload_n hx hb dX4_act_23 rfl (lv_at hl 1 rfl) ?_
    refine lv_iload_n hx hb dX4_act_24 rfl (lv_at hl 2 rfl) ?_
    refine bx_i2l hx hb dX4_act_25 ?_
    refine lv_ldc2 (v := 4294967295) hx hb hown (hts _ tw_constantLong_RX4_36_4294967295) dX4_act_26 ?_
    refine lv_land hx hb dX4_act_29 ?_
    refine lv_iload_n hx hb dX4_act_30 rfl (lv_at hl 3 rfl) ?_
    refine bx_i2l hx hb dX4_act_31 ?_
    refine lv_ldc2 (v := 4294967295) hx hb hown (hts _ tw_constantLong_RX4_36_4294967295) dX4_act_32 ?_
    refine lv_land hx hb dX4_act_35 ?_
    refine lv_iload hx hb dX4_act_36 (lv_at hl 4 rfl) ?_
    refine bx_i2l hx hb dX4_act_38 ?_
    refine lv_ldc2 (v := 4294967295) hx hb hown (hts _ tw_constantLong_RX4_36_4294967295) dX4_act_39 ?_
    refine lv_land hx hb dX4_act_42 ?_
    refine bx_vl C (kX2_acted l false af x1 (x2.toInt64 &&& (4294967295 : Int64)) (x3.toInt64 &&& (4294967295 : Int64)) (x4.toInt64 &&& (4294967295 : Int64))) BX2_acted (fun U u1 u2 => fo_at hF.1.2 va_S.rf u1 u2) (fun U u1 u2 => (fo_at hF.1.2 va_S.rf u1 u2).1) tw_methodLink_RX4_38_yX2_acted mbX2_acted rfl ⟨rfl, rfl⟩ ⟨Nat.le_of_ble_eq_true rfl, Nat.le_of_ble_eq_true rfl⟩ ⟨Nat.le_of_ble_eq_true rfl, Nat.le_of_ble_eq_true rfl⟩ hl.1 rfl (Nat.le_of_ble_eq_true rfl) dX4_act_43 ?_
    refine bx_l2i hx hb dX4_act_46 ?_
    exact W.iret (v := (fX2_acted false x1 (x2.toInt64 &&& (4294967295 : Int64)) (x3.toInt64 &&& (4294967295 : Int64)) (x4.toInt64 &&& (4294967295 : Int64))).toInt32) hx hb hr (fun t ht hW => ⟨⟨_, (), rfl, ⟨⟨c1, c2⟩, rfl⟩, trivial⟩, va_S.rf.F ht⟩) (fun _ h => absurd h List.not_mem_nil) dX4_act_47 hlocks
  · obtain ⟨xh, xU, xN, ⟨a4, x4s⟩, ⟨a5, x5s⟩, -⟩ := hE
    exact vx_throwS (names := ["java/lang/RuntimeException", "java/lang/Exception"]) hx hb hl0 hown (by decide) (by decide) (hts _ tw_classLink_RX4_23_java_lang_IllegalArgumentException) (hts _ tw_initialized_java_lang_IllegalArgumentException) x4s (fun w hw => ex_wd (List.mem_append_left _ hw) (State.WarmedH.refl s) (xh w (List.mem_append_left _ hw))) xI_ot xU xN va_S.rf (by rw [hml]; exact hl.1) dX4_act_10 dX4_act_13 dX4_act_14 dX4_act_16 dX4_act_19 (fun x hx9 => (htab x hx9).elim) (Nat.le_of_ble_eq_true rfl) (Nat.le_of_ble_eq_true rfl) (Nat.le_of_ble_eq_true rfl) (Nat.le_of_ble_eq_true rfl) hlocks (fun t _ h2 h3 => ⟨(), fun q => c2 q.2, rfl, ⟨h2, fun q hq _ => h3 q hq⟩⟩) (fun _ h => absurd h List.not_mem_nil) (Nat.le_refl _) (Nat.le_refl _)
def fX4_wide (x1 : Int32) (x2 : Int64) (x4 : Int64) (x6 : Int64) : Int64 := (fX2_acted true x1 x2 x4 x6)
abbrev rmX4_wide : Room := { frames := 8, cells := 1, slots := 6, locals := 300 }
theorem mbX4_wide : mb_V RX4 yX4_wide cX4_wide 8 (some .long) 4 := ⟨⟨tw_instanceMethod_yX4_wide, tw_selects_RX4_yX4_wide_yX4_wide, tw_initialized_RX4, tw_code_yX4_wide⟩, rfl, by decide +kernel, by decide +kernel, by decide +kernel⟩
set_option maxRecDepth 20000 in
theorem kX4_wide (l : Launch) (hl0 : l.stackTraces = false) (af ad h0 : Nat) (x1 : Int32) (x2 : Int64) (x4 : Int64) (x6 : Int64) : vx_Met l yX4_wide (Cond.code yX4_wide cX4_wide 8 (some .long) :: bw) rmX4_wide (va_Pc [.ref h0, .int x1, .long x2, .long x4, .long x6] (xk_K af ad (fun _ => False))) (Ql1 (fX4_wide x1 x2 x4 x6) (ac_in x1 24)) (Xn "java/lang/IllegalArgumentException" (ac_in x1 24)) 1 6 (fun _ => False) := by
  refine vx_ent (by decide) _ _ (Nat.le_of_ble_eq_true rfl) rfl ?_
  intro p e s m below meth c ls C htab hl hK
  obtain ⟨hF, hE⟩ := hK
  obtain ⟨hx, hb, hml, hr, hlocks, hown, hts⟩ := id C
  refine lv_iload_n hx hb dX4_wide_0 rfl (lv_at hl 1 rfl) ?_
  refine lv_if_lt (tgt := 10) hx hb dX4_wide_1 (by decide) (fun c1 => ?_) (fun c1 => ?_)
  · obtain ⟨xh, xU, xN, ⟨a4, x4s⟩, ⟨a5, x5s⟩, -⟩ := hE
    exact vx_throwS (names := ["java/lang/RuntimeException", "java/lang/Exception"]) hx hb hl0 hown (by decide) (by decide) (hts _ tw_classLink_RX4_23_java_lang_IllegalArgumentException) (hts _ tw_initialized_java_lang_IllegalArgumentException) x4s (fun w hw => ex_wd (List.mem_append_left _ hw) (State.WarmedH.refl s) (xh w (List.mem_append_left _ hw))) xI_ot xU xN va_S.rf (by rw [hml]; exact hl.1) dX4_wide_10 dX4_wide_13 dX4_wide_14 dX4_wide_16 dX4_wide_19 (fun x hx9 => (htab x hx9).elim) (Nat.le_of_ble_eq_true rfl) (Nat.le_of_ble_eq_true rfl) (Nat.le_of_ble_eq_true rfl) (Nat.le_of_ble_eq_true rfl) hlocks (fun t _ h2 h3 => ⟨(), fun q => q.1 c1, rfl, ⟨h2, fun q hq _ => h3 q hq⟩⟩) (fun _ h => absurd h List.not_mem_nil) (Nat.le_refl _) (Nat.le_refl _)
  refine lv_iload_n hx hb dX4_wide_4 rfl (lv_at hl 1 rfl) ?_
  refine lv_bipush (v := 24) hx hb dX4_wide_5 (by decide) ?_
  refine lv_icmp_lt (tgt := 20) hx hb dX4_wide_7 (by decide) (fun c2 => ?_) (fun c2 => ?_)
  · refine vx_ret ?_
    refine W.widen (k := 1) (n := 6) (Nat.zero_le _) (Nat.zero_le _) ?_
    refine va_gets (v := .ref ad) hx hb hF.2.1 va_S.rf hown (hts _ tw_fieldLink_RX4_42_GlulxFloats_Form_DOUBLE_LGlulxFloats_Form) (fun _ h9 => h9) dX4_wide_20 ?_
    refine lv_iload_n hx hb dX4_wide_23 rfl (lv_at hl 1 rfl) ?_
    refine lv_lload_n hx hb dX4_wide_24 rfl (lv_at hl 2 rfl) ?_
    refine lv_lload hx hb dX4_wide_25 (lv_at hl 3 rfl) ?_
    refine lv_lload hx hb dX4_wide_27 (lv_at hl 4 rfl) ?_
    refine bx_vl C (kX2_acted l true ad x1 x2 x4 x6) BX2_acted (fun U u1 u2 => fo_at hF.2.2 va_S.rf u1 u2) (fun U u1 u2 => (fo_at hF.2.2 va_S.rf u1 u2).1) tw_methodLink_RX4_38_yX2_acted mbX2_acted rfl ⟨rfl, rfl⟩ ⟨Nat.le_of_ble_eq_true rfl, Nat.le_of_ble_eq_true rfl⟩ ⟨Nat.le_of_ble_eq_true rfl, Nat.le_of_ble_eq_true rfl⟩ hl.1 rfl (Nat.le_of_ble_eq_true rfl) dX4_wide_29 ?_
    exact W.lret (v := (fX2_acted true x1 x2 x4 x6)) hx hb hr (fun t ht hW => ⟨⟨_, (), rfl, ⟨⟨c1, c2⟩, rfl⟩, trivial⟩, va_S.rf.F ht⟩) (fun _ h => absurd h List.not_mem_nil) dX4_wide_32 hlocks
  · obtain ⟨xh, xU, xN, ⟨a4, x4s⟩, ⟨a5, x5s⟩, -⟩ := hE
    exact vx_throwS (names := ["java/lang/RuntimeException", "java/lang/Exception"]) hx hb hl0 hown (by decide) (by decide) (hts _ tw_classLink_RX4_23_java_lang_IllegalArgumentException) (hts _ tw_initialized_java_lang_IllegalArgumentException) x4s (fun w hw => ex_wd (List.mem_append_left _ hw) (State.WarmedH.refl s) (xh w (List.mem_append_left _ hw))) xI_ot xU xN va_S.rf (by rw [hml]; exact hl.1) dX4_wide_10 dX4_wide_13 dX4_wide_14 dX4_wide_16 dX4_wide_19 (fun x hx9 => (htab x hx9).elim) (Nat.le_of_ble_eq_true rfl) (Nat.le_of_ble_eq_true rfl) (Nat.le_of_ble_eq_true rfl) (Nat.le_of_ble_eq_true rfl) hlocks (fun t _ h2 h3 => ⟨(), fun q => c2 q.2, rfl, ⟨h2, fun q hq _ => h3 q hq⟩⟩) (fun _ h => absurd h List.not_mem_nil) (Nat.le_refl _) (Nat.le_refl _)
def fX4_test (x1 : Int32) (x2 : Int32) (x3 : Int32) (x4 : Int32) : Int32 := (if (fX2_holds false x1 (x2.toInt64 &&& (4294967295 : Int64)) (x3.toInt64 &&& (4294967295 : Int64)) (x4.toInt64 &&& (4294967295 : Int64))) = 0 then (0 : Int32) else (1 : Int32))
abbrev rmX4_test : Room := { frames := 8, cells := 1, slots := 6, locals := 300 }
theorem mbX4_test : mb_V RX4 yX4_test cX4_test 5 (some .int) 4 := ⟨⟨tw_instanceMethod_yX4_test, tw_selects_RX4_yX4_test_yX4_test, tw_initialized_RX4, tw_code_yX4_test⟩, rfl, by decide +kernel, by decide +kernel, by decide +kernel⟩
set_option maxRecDepth 20000 in
theorem kX4_test (l : Launch) (hl0 : l.stackTraces = false) (af ad h0 : Nat) (x1 : Int32) (x2 : Int32) (x3 : Int32) (x4 : Int32) : vx_Met l yX4_test (Cond.code yX4_test cX4_test 5 (some .int) :: bw) rmX4_test (va_Pc [.ref h0, .int x1, .int x2, .int x3, .int x4] (xk_K af ad (fun _ => False))) (Qn (fX4_test x1 x2 x3 x4) (ac_in x1 8)) (Xn "java/lang/IllegalArgumentException" (ac_in x1 8)) 1 6 (fun _ => False) := by
  refine vx_ent (by decide) _ _ (Nat.le_of_ble_eq_true rfl) rfl ?_
  intro p e s m below meth c ls C htab hl hK
  obtain ⟨hF, hE⟩ := hK
  obtain ⟨hx, hb, hml, hr, hlocks, hown, hts⟩ := id C
  refine lv_iload_n hx hb dX4_test_0 rfl (lv_at hl 1 rfl) ?_
  refine lv_if_lt (tgt := 10) hx hb dX4_test_1 (by decide) (fun c1 => ?_) (fun c1 => ?_)
  · obtain ⟨xh, xU, xN, ⟨a4, x4s⟩, ⟨a5, x5s⟩, -⟩ := hE
    exact vx_throwS (names := ["java/lang/RuntimeException", "java/lang/Exception"]) hx hb hl0 hown (by decide) (by decide) (hts _ tw_classLink_RX4_23_java_lang_IllegalArgumentException) (hts _ tw_initialized_java_lang_IllegalArgumentException) x5s (fun w hw => ex_wd (List.mem_append_left _ hw) (State.WarmedH.refl s) (xh w (List.mem_append_left _ hw))) xI_ot xU xN va_S.rf (by rw [hml]; exact hl.1) dX4_test_10 dX4_test_13 dX4_test_14 dX4_test_16 dX4_test_19 (fun x hx9 => (htab x hx9).elim) (Nat.le_of_ble_eq_true rfl) (Nat.le_of_ble_eq_true rfl) (Nat.le_of_ble_eq_true rfl) (Nat.le_of_ble_eq_true rfl) hlocks (fun t _ h2 h3 => ⟨(), fun q => q.1 c1, rfl, ⟨h2, fun q hq _ => h3 q hq⟩⟩) (fun _ h => absurd h List.not_mem_nil) (Nat.le_refl _) (Nat.le_refl _)
  refine lv_iload_n hx hb dX4_test_4 rfl (lv_at hl 1 rfl) ?_
  refine lv_bipush (v := 8) hx hb dX4_test_5 (by decide) ?_
  refine lv_icmp_lt (tgt := 20) hx hb dX4_test_7 (by decide) (fun c2 => ?_) (fun c2 => ?_)
  · refine vx_ret ?_
    refine W.widen (k := 1) (n := 6) (Nat.zero_le _) (Nat.zero_le _) ?_
    refine va_gets (v := .ref af) hx hb hF.1.1 va_S.rf hown (hts _ tw_fieldLink_RX4_30_GlulxFloats_Form_FLOAT_LGlulxFloats_Form) (fun _ h9 => h9) dX4_test_20 ?_
    refine lv_iload_n hx hb dX4_test_23 rfl (lv_at hl 1 rfl) ?_
    refine lv_iload_n hx hb dX4_test_24 rfl (lv_at hl 2 rfl) ?_
    refine bx_i2l hx hb dX4_test_25 ?_
    refine lv_ldc2 (v := 4294967295) hx hb hown (hts _ tw_constantLong_RX4_36_4294967295) dX4_test_26 ?_
    refine lv_land hx hb dX4_test_29 ?_
    refine lv_iload_n hx hb dX4_test_30 rfl (lv_at hl 3 rfl) ?_
    refine bx_i2l hx hb dX4_test_31 ?_
    refine lv_ldc2 (v := 4294967295) hx hb hown (hts _ tw_constantLong_RX4_36_4294967295) dX4_test_32 ?_
    refine lv_land hx hb dX4_test_35 ?_
    refine lv_iload hx hb dX4_test_36 (lv_at hl 4 rfl) ?_
    refine bx_i2l hx hb dX4_test_38 ?_
    refine lv_ldc2 (v := 4294967295) hx hb hown (hts _ tw_constantLong_RX4_36_4294967295) dX4_test_39 ?_
    refine lv_land hx hb dX4_test_42 ?_
    refine bx_vi C (kX2_holds l false af x1 (x2.toInt64 &&& (4294967295 : Int64)) (x3.toInt64 &&& (4294967295 : Int64)) (x4.toInt64 &&& (4294967295 : Int64))) BX2_holds (fun U u1 u2 => fo_at hF.1.2 va_S.rf u1 u2) (fun U u1 u2 => (fo_at hF.1.2 va_S.rf u1 u2).1) tw_methodLink_RX4_47_yX2_holds mbX2_holds rfl ⟨rfl, rfl⟩ ⟨Nat.le_of_ble_eq_true rfl, Nat.le_of_ble_eq_true rfl⟩ ⟨Nat.le_of_ble_eq_true rfl, Nat.le_of_ble_eq_true rfl⟩ hl.1 rfl (Nat.le_of_ble_eq_true rfl) dX4_test_43 ?_
    refine lv_if_eq (tgt := 53) hx hb dX4_test_46 (by decide) (fun c3 => ?_) (fun c3 => ?_)
    · refine lv_iconst (v := 0) hx hb dX4_test_53 (by decide) ?_
      exact W.iret (v := (0 : Int32)) hx hb hr (fun t ht hW => ⟨⟨_, (), rfl, ⟨⟨c1, c2⟩, (if_pos c3).symm⟩, trivial⟩, va_S.rf.F ht⟩) (fun _ h => absurd h List.not_mem_nil) dX4_test_54 hlocks
    · refine lv_iconst (v := 1) hx hb dX4_test_49 (by decide) ?_
      refine lv_goto (tgt := 54) hx hb dX4_test_50 (by decide) ?_
      exact W.iret (v := (1 : Int32)) hx hb hr (fun t ht hW => ⟨⟨_, (), rfl, ⟨⟨c1, c2⟩, (if_neg c3).symm⟩, trivial⟩, va_S.rf.F ht⟩) (fun _ h => absurd h List.not_mem_nil) dX4_test_54 hlocks
  · obtain ⟨xh, xU, xN, ⟨a4, x4s⟩, ⟨a5, x5s⟩, -⟩ := hE
    exact vx_throwS (names := ["java/lang/RuntimeException", "java/lang/Exception"]) hx hb hl0 hown (by decide) (by decide) (hts _ tw_classLink_RX4_23_java_lang_IllegalArgumentException) (hts _ tw_initialized_java_lang_IllegalArgumentException) x5s (fun w hw => ex_wd (List.mem_append_left _ hw) (State.WarmedH.refl s) (xh w (List.mem_append_left _ hw))) xI_ot xU xN va_S.rf (by rw [hml]; exact hl.1) dX4_test_10 dX4_test_13 dX4_test_14 dX4_test_16 dX4_test_19 (fun x hx9 => (htab x hx9).elim) (Nat.le_of_ble_eq_true rfl) (Nat.le_of_ble_eq_true rfl) (Nat.le_of_ble_eq_true rfl) (Nat.le_of_ble_eq_true rfl) hlocks (fun t _ h2 h3 => ⟨(), fun q => c2 q.2, rfl, ⟨h2, fun q hq _ => h3 q hq⟩⟩) (fun _ h => absurd h List.not_mem_nil) (Nat.le_refl _) (Nat.le_refl _)
def fX4_wideTest (x1 : Int32) (x2 : Int64) (x4 : Int64) (x6 : Int64) : Int32 := (if (fX2_holds true x1 x2 x4 x6) = 0 then (0 : Int32) else (1 : Int32))
abbrev rmX4_wideTest : Room := { frames := 8, cells := 1, slots := 6, locals := 300 }
theorem mbX4_wideTest : mb_V RX4 yX4_wideTest cX4_wideTest 8 (some .int) 4 := ⟨⟨tw_instanceMethod_yX4_wideTest, tw_selects_RX4_yX4_wideTest_yX4_wideTest, tw_initialized_RX4, tw_code_yX4_wideTest⟩, rfl, by decide +kernel, by decide +kernel, by decide +kernel⟩
set_option maxRecDepth 20000 in
theorem kX4_wideTest (l : Launch) (hl0 : l.stackTraces = false) (af ad h0 : Nat) (x1 : Int32) (x2 : Int64) (x4 : Int64) (x6 : Int64) : vx_Met l yX4_wideTest (Cond.code yX4_wideTest cX4_wideTest 8 (some .int) :: bw) rmX4_wideTest (va_Pc [.ref h0, .int x1, .long x2, .long x4, .long x6] (xk_K af ad (fun _ => False))) (Qn (fX4_wideTest x1 x2 x4 x6) (ac_in x1 8)) (Xn "java/lang/IllegalArgumentException" (ac_in x1 8)) 1 6 (fun _ => False) := by
  refine vx_ent (by decide) _ _ (Nat.le_of_ble_eq_true rfl) rfl ?_
  intro p e s m below meth c ls C htab hl hK
  obtain ⟨hF, hE⟩ := hK
  obtain ⟨hx, hb, hml, hr, hlocks, hown, hts⟩ := id C
  refine lv_iload_n hx hb dX4_wideTest_0 rfl (lv_at hl 1 rfl) ?_
  refine lv_if_lt (tgt := 10) hx hb dX4_wideTest_1 (by decide) (fun c1 => ?_) (fun c1 => ?_)
  · obtain ⟨xh, xU, xN, ⟨a4, x4s⟩, ⟨a5, x5s⟩, -⟩ := hE
    exact vx_throwS (names := ["java/lang/RuntimeException", "java/lang/Exception"]) hx hb hl0 hown (by decide) (by decide) (hts _ tw_classLink_RX4_23_java_lang_IllegalArgumentException) (hts _ tw_initialized_java_lang_IllegalArgumentException) x5s (fun w hw => ex_wd (List.mem_append_left _ hw) (State.WarmedH.refl s) (xh w (List.mem_append_left _ hw))) xI_ot xU xN va_S.rf (by rw [hml]; exact hl.1) dX4_wideTest_10 dX4_wideTest_13 dX4_wideTest_14 dX4_wideTest_16 dX4_wideTest_19 (fun x hx9 => (htab x hx9).elim) (Nat.le_of_ble_eq_true rfl) (Nat.le_of_ble_eq_true rfl) (Nat.le_of_ble_eq_true rfl) (Nat.le_of_ble_eq_true rfl) hlocks (fun t _ h2 h3 => ⟨(), fun q => q.1 c1, rfl, ⟨h2, fun q hq _ => h3 q hq⟩⟩) (fun _ h => absurd h List.not_mem_nil) (Nat.le_refl _) (Nat.le_refl _)
  refine lv_iload_n hx hb dX4_wideTest_4 rfl (lv_at hl 1 rfl) ?_
  refine lv_bipush (v := 8) hx hb dX4_wideTest_5 (by decide) ?_
  refine lv_icmp_lt (tgt := 20) hx hb dX4_wideTest_7 (by decide) (fun c2 => ?_) (fun c2 => ?_)
  · refine vx_ret ?_
    refine W.widen (k := 1) (n := 6) (Nat.zero_le _) (Nat.zero_le _) ?_
    refine va_gets (v := .ref ad) hx hb hF.2.1 va_S.rf hown (hts _ tw_fieldLink_RX4_42_GlulxFloats_Form_DOUBLE_LGlulxFloats_Form) (fun _ h9 => h9) dX4_wideTest_20 ?_
    refine lv_iload_n hx hb dX4_wideTest_23 rfl (lv_at hl 1 rfl) ?_
    refine lv_lload_n hx hb dX4_wideTest_24 rfl (lv_at hl 2 rfl) ?_
    refine lv_lload hx hb dX4_wideTest_25 (lv_at hl 3 rfl) ?_
    refine lv_lload hx hb dX4_wideTest_27 (lv_at hl 4 rfl) ?_
    refine bx_vi C (kX2_holds l true ad x1 x2 x4 x6) BX2_holds (fun U u1 u2 => fo_at hF.2.2 va_S.rf u1 u2) (fun U u1 u2 => (fo_at hF.2.2 va_S.rf u1 u2).1) tw_methodLink_RX4_47_yX2_holds mbX2_holds rfl ⟨rfl, rfl⟩ ⟨Nat.le_of_ble_eq_true rfl, Nat.le_of_ble_eq_true rfl⟩ ⟨Nat.le_of_ble_eq_true rfl, Nat.le_of_ble_eq_true rfl⟩ hl.1 rfl (Nat.le_of_ble_eq_true rfl) dX4_wideTest_29 ?_
    refine lv_if_eq (tgt := 39) hx hb dX4_wideTest_32 (by decide) (fun c3 => ?_) (fun c3 => ?_)
    · refine lv_iconst (v := 0) hx hb dX4_wideTest_39 (by decide) ?_
      exact W.iret (v := (0 : Int32)) hx hb hr (fun t ht hW => ⟨⟨_, (), rfl, ⟨⟨c1, c2⟩, (if_pos c3).symm⟩, trivial⟩, va_S.rf.F ht⟩) (fun _ h => absurd h List.not_mem_nil) dX4_wideTest_40 hlocks
    · refine lv_iconst (v := 1) hx hb dX4_wideTest_35 (by decide) ?_
      refine lv_goto (tgt := 40) hx hb dX4_wideTest_36 (by decide) ?_
      exact W.iret (v := (1 : Int32)) hx hb hr (fun t ht hW => ⟨⟨_, (), rfl, ⟨⟨c1, c2⟩, (if_neg c3).symm⟩, trivial⟩, va_S.rf.F ht⟩) (fun _ h => absurd h List.not_mem_nil) dX4_wideTest_40 hlocks
  · obtain ⟨xh, xU, xN, ⟨a4, x4s⟩, ⟨a5, x5s⟩, -⟩ := hE
    exact vx_throwS (names := ["java/lang/RuntimeException", "java/lang/Exception"]) hx hb hl0 hown (by decide) (by decide) (hts _ tw_classLink_RX4_23_java_lang_IllegalArgumentException) (hts _ tw_initialized_java_lang_IllegalArgumentException) x5s (fun w hw => ex_wd (List.mem_append_left _ hw) (State.WarmedH.refl s) (xh w (List.mem_append_left _ hw))) xI_ot xU xN va_S.rf (by rw [hml]; exact hl.1) dX4_wideTest_10 dX4_wideTest_13 dX4_wideTest_14 dX4_wideTest_16 dX4_wideTest_19 (fun x hx9 => (htab x hx9).elim) (Nat.le_of_ble_eq_true rfl) (Nat.le_of_ble_eq_true rfl) (Nat.le_of_ble_eq_true rfl) (Nat.le_of_ble_eq_true rfl) hlocks (fun t _ h2 h3 => ⟨(), fun q => c2 q.2, rfl, ⟨h2, fun q hq _ => h3 q hq⟩⟩) (fun _ h => absurd h List.not_mem_nil) (Nat.le_refl _) (Nat.le_refl _)
