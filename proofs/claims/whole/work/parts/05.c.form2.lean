abbrev rmX2_fused : Room := { frames := 3, cells := 0, slots := 0, locals := 111 }
theorem mbX2_fused : mb_V RX2 yX2_fused cX2_fused 7 (some .long) 3 := ⟨⟨tw_instanceMethod_yX2_fused, tw_selects_RX2_yX2_fused_yX2_fused, tw_initialized_RX2, tw_code_yX2_fused⟩, rfl, by decide +kernel, by decide +kernel, by decide +kernel⟩
theorem BX2_fused {w : Bool} {h0 : Nat} : bx_B (fun U => fo_K w h0 U) := fo_B w h0
set_option maxRecDepth 20000 in
theorem bX2_fused_62 (w : Bool) (x1 : Int64) (x3 : Int64) (x5 : Int64) {p : Program} {l : Launch} {e : Env} {s : State} {m : MethodId} {args : Array Value} {below : List Frame} {meth : Method} {c : Code} {h0 : Nat} {ls : Array Slot} (C : bx_C p s m args meth c cX2_fused 7 (some .long) RX2) (hK0 : fo_K w h0 s) (hl : lv_has ls 7 [(0, .ref h0), (1, .long x1), (3, .long x3), (5, .long x5)]) (post : Int64 → Prop) (hq : post (fX2_fused_62 w x1 x3 x5)) : W p l e rmX2_fused s m args below meth c s.heap [] 0 0 (MQ below (vp_Sl post) args s 0 0 (fun _ => False)) (F0 m 62 ls []) := by
  obtain ⟨hx, hb, hml, hr, hlocks, hown, hts⟩ := id C
  unfold fX2_fused_62 at hq
  refine lv_aload_n hx hb dX2_fused_62 rfl (lv_at hl 0 rfl) ?_
  refine lv_aload_n hx hb dX2_fused_63 rfl (lv_at hl 0 rfl) ?_
  refine lv_lload_n hx hb dX2_fused_64 rfl (lv_at hl 1 rfl) ?_
  refine lv_lload_n hx hb dX2_fused_65 rfl (lv_at hl 2 rfl) ?_
  refine bx_vl C (kX2_product l w h0 x1 x3) BX2_product (fun U u1 u2 => fo_B w h0 s U u1 u2 hK0) (fun U u1 u2 => (fo_B w h0 s U u1 u2 hK0).1) tw_methodLink_RX2_59_yX2_product mbX2_product rfl ⟨rfl, rfl⟩ ⟨Nat.le_of_ble_eq_true rfl, Nat.le_of_ble_eq_true rfl⟩ ⟨Nat.zero_le _, Nat.zero_le _⟩ hl.1 rfl (Nat.le_of_ble_eq_true rfl) dX2_fused_66 ?_
  refine lv_lload hx hb dX2_fused_69 (lv_at hl 3 rfl) ?_
  refine bx_vl C (kX2_sum l w h0 (fX2_product w x1 x3) x5) BX2_sum (fun U u1 u2 => fo_B w h0 s U u1 u2 hK0) (fun U u1 u2 => (fo_B w h0 s U u1 u2 hK0).1) tw_methodLink_RX2_55_yX2_sum mbX2_sum rfl ⟨rfl, rfl⟩ ⟨Nat.le_of_ble_eq_true rfl, Nat.le_of_ble_eq_true rfl⟩ ⟨Nat.zero_le _, Nat.zero_le _⟩ hl.1 rfl (Nat.le_of_ble_eq_true rfl) dX2_fused_71 ?_
  exact W.lret (v := (fX2_sum w (fX2_product w x1 x3) x5)) hx hb hr (fun t ht hW => ⟨_, rfl, hq, ht⟩) (fun _ h => absurd h List.not_mem_nil) dX2_fused_74
set_option maxRecDepth 20000 in
theorem bX2_fused_0 (w : Bool) (x1 : Int64) (x3 : Int64) (x5 : Int64) {p : Program} {l : Launch} {e : Env} {s : State} {m : MethodId} {args : Array Value} {below : List Frame} {meth : Method} {c : Code} {h0 : Nat} {ls : Array Slot} (C : bx_C p s m args meth c cX2_fused 7 (some .long) RX2) (hK0 : fo_K w h0 s) (hl : lv_has ls 7 [(0, .ref h0), (1, .long x1), (3, .long x3), (5, .long x5)]) (post : Int64 → Prop) (hq : post (fX2_fused w x1 x3 x5)) : W p l e rmX2_fused s m args below meth c s.heap [] 0 0 (MQ below (vp_Sl post) args s 0 0 (fun _ => False)) (F0 m 0 ls []) := by
  obtain ⟨hx, hb, hml, hr, hlocks, hown, hts⟩ := id C
  unfold fX2_fused at hq
  refine lv_aload_n hx hb dX2_fused_0 rfl (lv_at hl 0 rfl) ?_
  refine lv_lload_n hx hb dX2_fused_1 rfl (lv_at hl 1 rfl) ?_
  refine bx_vi C (kX2_isNan l w h0 x1) BX2_isNan (fun U u1 u2 => fo_B w h0 s U u1 u2 hK0) (fun U u1 u2 => (fo_B w h0 s U u1 u2 hK0).1) tw_methodLink_RX2_116_yX2_isNan mbX2_isNan rfl ⟨rfl, rfl⟩ ⟨Nat.le_of_ble_eq_true rfl, Nat.le_of_ble_eq_true rfl⟩ ⟨Nat.zero_le _, Nat.zero_le _⟩ hl.1 rfl (Nat.le_of_ble_eq_true rfl) dX2_fused_2 ?_
  refine lv_if_ne (tgt := 25) hx hb dX2_fused_5 (by decide) (fun c1 => ?_) (fun c1 => ?_)
  · rw [if_neg c1] at hq
    refine lv_aload_n hx hb dX2_fused_25 rfl (lv_at hl 0 rfl) ?_
    refine vk_getf (v := .long (fo_nan w)) hx hb (fo_nan_K hK0) va_S.rf hown (hts _ tw_fieldLink_RX2_52_GlulxFloats_Form_nan_J) (fun _ h9 => h9) dX2_fused_26 ?_
    exact W.lret (v := (fo_nan w)) hx hb hr (fun t ht hW => ⟨_, rfl, hq, ht⟩) (fun _ h => absurd h List.not_mem_nil) dX2_fused_29
  · rw [if_pos c1] at hq
    refine lv_aload_n hx hb dX2_fused_8 rfl (lv_at hl 0 rfl) ?_
    refine lv_lload_n hx hb dX2_fused_9 rfl (lv_at hl 2 rfl) ?_
    refine bx_vi C (kX2_isNan l w h0 x3) BX2_isNan (fun U u1 u2 => fo_B w h0 s U u1 u2 hK0) (fun U u1 u2 => (fo_B w h0 s U u1 u2 hK0).1) tw_methodLink_RX2_116_yX2_isNan mbX2_isNan rfl ⟨rfl, rfl⟩ ⟨Nat.le_of_ble_eq_true rfl, Nat.le_of_ble_eq_true rfl⟩ ⟨Nat.zero_le _, Nat.zero_le _⟩ hl.1 rfl (Nat.le_of_ble_eq_true rfl) dX2_fused_10 ?_
    refine lv_if_ne (tgt := 25) hx hb dX2_fused_13 (by decide) (fun c2 => ?_) (fun c2 => ?_)
    · rw [if_neg c2] at hq
      refine lv_aload_n hx hb dX2_fused_25 rfl (lv_at hl 0 rfl) ?_
      refine vk_getf (v := .long (fo_nan w)) hx hb (fo_nan_K hK0) va_S.rf hown (hts _ tw_fieldLink_RX2_52_GlulxFloats_Form_nan_J) (fun _ h9 => h9) dX2_fused_26 ?_
      exact W.lret (v := (fo_nan w)) hx hb hr (fun t ht hW => ⟨_, rfl, hq, ht⟩) (fun _ h => absurd h List.not_mem_nil) dX2_fused_29
    · rw [if_pos c2] at hq
      refine lv_aload_n hx hb dX2_fused_16 rfl (lv_at hl 0 rfl) ?_
      refine lv_lload hx hb dX2_fused_17 (lv_at hl 3 rfl) ?_
      refine bx_vi C (kX2_isNan l w h0 x5) BX2_isNan (fun U u1 u2 => fo_B w h0 s U u1 u2 hK0) (fun U u1 u2 => (fo_B w h0 s U u1 u2 hK0).1) tw_methodLink_RX2_116_yX2_isNan mbX2_isNan rfl ⟨rfl, rfl⟩ ⟨Nat.le_of_ble_eq_true rfl, Nat.le_of_ble_eq_true rfl⟩ ⟨Nat.zero_le _, Nat.zero_le _⟩ hl.1 rfl (Nat.le_of_ble_eq_true rfl) dX2_fused_19 ?_
      refine lv_if_eq (tgt := 30) hx hb dX2_fused_22 (by decide) (fun c3 => ?_) (fun c3 => ?_)
      · rw [if_pos c3] at hq
        refine lv_aload_n hx hb dX2_fused_30 rfl (lv_at hl 0 rfl) ?_
        refine lv_lload_n hx hb dX2_fused_31 rfl (lv_at hl 1 rfl) ?_
        refine bx_vi C (kX2_isInfinite l w h0 x1) BX2_isInfinite (fun U u1 u2 => fo_B w h0 s U u1 u2 hK0) (fun U u1 u2 => (fo_B w h0 s U u1 u2 hK0).1) tw_methodLink_RX2_127_yX2_isInfinite mbX2_isInfinite rfl ⟨rfl, rfl⟩ ⟨Nat.le_of_ble_eq_true rfl, Nat.le_of_ble_eq_true rfl⟩ ⟨Nat.zero_le _, Nat.zero_le _⟩ hl.1 rfl (Nat.le_of_ble_eq_true rfl) dX2_fused_32 ?_
        refine lv_if_ne (tgt := 62) hx hb dX2_fused_35 (by decide) (fun c4 => ?_) (fun c4 => ?_)
        · rw [if_neg c4] at hq
          exact bX2_fused_62 w x1 x3 x5 C hK0 (lv_sub hl [0, 1, 2, 3] rfl) post hq
        · rw [if_pos c4] at hq
          refine lv_aload_n hx hb dX2_fused_38 rfl (lv_at hl 0 rfl) ?_
          refine lv_lload_n hx hb dX2_fused_39 rfl (lv_at hl 2 rfl) ?_
          refine bx_vi C (kX2_isInfinite l w h0 x3) BX2_isInfinite (fun U u1 u2 => fo_B w h0 s U u1 u2 hK0) (fun U u1 u2 => (fo_B w h0 s U u1 u2 hK0).1) tw_methodLink_RX2_127_yX2_isInfinite mbX2_isInfinite rfl ⟨rfl, rfl⟩ ⟨Nat.le_of_ble_eq_true rfl, Nat.le_of_ble_eq_true rfl⟩ ⟨Nat.zero_le _, Nat.zero_le _⟩ hl.1 rfl (Nat.le_of_ble_eq_true rfl) dX2_fused_40 ?_
          refine lv_if_ne (tgt := 62) hx hb dX2_fused_43 (by decide) (fun c5 => ?_) (fun c5 => ?_)
          · rw [if_neg c5] at hq
            exact bX2_fused_62 w x1 x3 x5 C hK0 (lv_sub hl [0, 1, 2, 3] rfl) post hq
          · rw [if_pos c5] at hq
            refine lv_aload_n hx hb dX2_fused_46 rfl (lv_at hl 0 rfl) ?_
            refine lv_lload_n hx hb dX2_fused_47 rfl (lv_at hl 1 rfl) ?_
            refine bx_vi C (kX2_isZero l w h0 x1) BX2_isZero (fun U u1 u2 => fo_B w h0 s U u1 u2 hK0) (fun U u1 u2 => (fo_B w h0 s U u1 u2 hK0).1) tw_methodLink_RX2_139_yX2_isZero mbX2_isZero rfl ⟨rfl, rfl⟩ ⟨Nat.le_of_ble_eq_true rfl, Nat.le_of_ble_eq_true rfl⟩ ⟨Nat.zero_le _, Nat.zero_le _⟩ hl.1 rfl (Nat.le_of_ble_eq_true rfl) dX2_fused_48 ?_
            refine lv_if_ne (tgt := 62) hx hb dX2_fused_51 (by decide) (fun c6 => ?_) (fun c6 => ?_)
            · rw [if_neg c6] at hq
              exact bX2_fused_62 w x1 x3 x5 C hK0 (lv_sub hl [0, 1, 2, 3] rfl) post hq
            · rw [if_pos c6] at hq
              refine lv_aload_n hx hb dX2_fused_54 rfl (lv_at hl 0 rfl) ?_
              refine lv_lload_n hx hb dX2_fused_55 rfl (lv_at hl 2 rfl) ?_
              refine bx_vi C (kX2_isZero l w h0 x3) BX2_isZero (fun U u1 u2 => fo_B w h0 s U u1 u2 hK0) (fun U u1 u2 => (fo_B w h0 s U u1 u2 hK0).1) tw_methodLink_RX2_139_yX2_isZero mbX2_isZero rfl ⟨rfl, rfl⟩ ⟨Nat.le_of_ble_eq_true rfl, Nat.le_of_ble_eq_true rfl⟩ ⟨Nat.zero_le _, Nat.zero_le _⟩ hl.1 rfl (Nat.le_of_ble_eq_true rfl) dX2_fused_56 ?_
              refine lv_if_eq (tgt := 75) hx hb dX2_fused_59 (by decide) (fun c7 => ?_) (fun c7 => ?_)
              · rw [if_pos c7] at hq
                refine lv_aload_n hx hb dX2_fused_75 rfl (lv_at hl 0 rfl) ?_
                refine lv_lload hx hb dX2_fused_76 (lv_at hl 3 rfl) ?_
                refine bx_vi C (kX2_isInfinite l w h0 x5) BX2_isInfinite (fun U u1 u2 => fo_B w h0 s U u1 u2 hK0) (fun U u1 u2 => (fo_B w h0 s U u1 u2 hK0).1) tw_methodLink_RX2_127_yX2_isInfinite mbX2_isInfinite rfl ⟨rfl, rfl⟩ ⟨Nat.le_of_ble_eq_true rfl, Nat.le_of_ble_eq_true rfl⟩ ⟨Nat.zero_le _, Nat.zero_le _⟩ hl.1 rfl (Nat.le_of_ble_eq_true rfl) dX2_fused_78 ?_
                refine lv_if_eq (tgt := 87) hx hb dX2_fused_81 (by decide) (fun c8 => ?_) (fun c8 => ?_)
                · rw [if_pos c8] at hq
                  refine lv_aload_n hx hb dX2_fused_87 rfl (lv_at hl 0 rfl) ?_
                  refine lv_lload hx hb dX2_fused_88 (lv_at hl 3 rfl) ?_
                  refine bx_vi C (kX2_isZero l w h0 x5) BX2_isZero (fun U u1 u2 => fo_B w h0 s U u1 u2 hK0) (fun U u1 u2 => (fo_B w h0 s U u1 u2 hK0).1) tw_methodLink_RX2_139_yX2_isZero mbX2_isZero rfl ⟨rfl, rfl⟩ ⟨Nat.le_of_ble_eq_true rfl, Nat.le_of_ble_eq_true rfl⟩ ⟨Nat.zero_le _, Nat.zero_le _⟩ hl.1 rfl (Nat.le_of_ble_eq_true rfl) dX2_fused_90 ?_
                  refine lv_if_eq (tgt := 105) hx hb dX2_fused_93 (by decide) (fun c9 => ?_) (fun c9 => ?_)
                  · rw [if_pos c9] at hq
                    refine lv_aload_n hx hb dX2_fused_105 rfl (lv_at hl 0 rfl) ?_
                    refine lv_lload_n hx hb dX2_fused_106 rfl (lv_at hl 1 rfl) ?_
                    refine lv_lload_n hx hb dX2_fused_107 rfl (lv_at hl 2 rfl) ?_
                    refine lv_lload hx hb dX2_fused_108 (lv_at hl 3 rfl) ?_
                    refine bx_vl C (kX2_fusedFinite l w h0 x1 x3 x5) BX2_fusedFinite (fun U u1 u2 => fo_B w h0 s U u1 u2 hK0) (fun U u1 u2 => (fo_B w h0 s U u1 u2 hK0).1) tw_methodLink_RX2_181_yX2_fusedFinite mbX2_fusedFinite rfl ⟨rfl, rfl⟩ ⟨Nat.le_of_ble_eq_true rfl, Nat.le_of_ble_eq_true rfl⟩ ⟨Nat.zero_le _, Nat.zero_le _⟩ hl.1 rfl (Nat.le_of_ble_eq_true rfl) dX2_fused_110 ?_
                    exact W.lret (v := (fX2_fusedFinite w x1 x3 x5)) hx hb hr (fun t ht hW => ⟨_, rfl, hq, ht⟩) (fun _ h => absurd h List.not_mem_nil) dX2_fused_113
                  · rw [if_neg c9] at hq
                    refine lv_aload_n hx hb dX2_fused_96 rfl (lv_at hl 0 rfl) ?_
                    refine lv_lload_n hx hb dX2_fused_97 rfl (lv_at hl 1 rfl) ?_
                    refine lv_lload_n hx hb dX2_fused_98 rfl (lv_at hl 2 rfl) ?_
                    refine bx_vl C (kX2_product l w h0 x1 x3) BX2_product (fun U u1 u2 => fo_B w h0 s U u1 u2 hK0) (fun U u1 u2 => (fo_B w h0 s U u1 u2 hK0).1) tw_methodLink_RX2_59_yX2_product mbX2_product rfl ⟨rfl, rfl⟩ ⟨Nat.le_of_ble_eq_true rfl, Nat.le_of_ble_eq_true rfl⟩ ⟨Nat.zero_le _, Nat.zero_le _⟩ hl.1 rfl (Nat.le_of_ble_eq_true rfl) dX2_fused_99 ?_
                    refine lv_goto (tgt := 113) hx hb dX2_fused_102 (by decide) ?_
                    exact W.lret (v := (fX2_product w x1 x3)) hx hb hr (fun t ht hW => ⟨_, rfl, hq, ht⟩) (fun _ h => absurd h List.not_mem_nil) dX2_fused_113
                · rw [if_neg c8] at hq
                  refine lv_lload hx hb dX2_fused_84 (lv_at hl 3 rfl) ?_
                  exact W.lret (v := x5) hx hb hr (fun t ht hW => ⟨_, rfl, hq, ht⟩) (fun _ h => absurd h List.not_mem_nil) dX2_fused_86
              · rw [if_neg c7] at hq
                exact bX2_fused_62 w x1 x3 x5 C hK0 (lv_sub hl [0, 1, 2, 3] rfl) post hq
      · rw [if_neg c3] at hq
        refine lv_aload_n hx hb dX2_fused_25 rfl (lv_at hl 0 rfl) ?_
        refine vk_getf (v := .long (fo_nan w)) hx hb (fo_nan_K hK0) va_S.rf hown (hts _ tw_fieldLink_RX2_52_GlulxFloats_Form_nan_J) (fun _ h9 => h9) dX2_fused_26 ?_
        exact W.lret (v := (fo_nan w)) hx hb hr (fun t ht hW => ⟨_, rfl, hq, ht⟩) (fun _ h => absurd h List.not_mem_nil) dX2_fused_29
theorem kX2_fused (l : Launch) (w : Bool) (h0 : Nat) (x1 : Int64) (x3 : Int64) (x5 : Int64) : Met l yX2_fused (Cond.code yX2_fused cX2_fused 7 (some .long) :: bw) rmX2_fused (va_Pc [.ref h0, .long x1, .long x3, .long x5] (fun U => fo_K w h0 U)) (vp_Sl (fun r => r = fX2_fused w x1 x3 x5)) 0 0 (fun _ => False) := by
  refine bx_ent (by decide) _ _ (Nat.le_of_ble_eq_true rfl) rfl ?_
  intro p e s m below meth c ls C hl hK0
  exact bX2_fused_0 w x1 x3 x5 C hK0 hl _ rfl
abbrev rmX2_ofWhole : Room := { frames := 2, cells := 0, slots := 0, locals := 61 }
theorem mbX2_ofWhole : mb_V RX2 yX2_ofWhole cX2_ofWhole 2 (some .long) 1 := ⟨⟨tw_instanceMethod_yX2_ofWhole, tw_selects_RX2_yX2_ofWhole_yX2_ofWhole, tw_initialized_RX2, tw_code_yX2_ofWhole⟩, rfl, by decide +kernel, by decide +kernel, by decide +kernel⟩
theorem BX2_ofWhole {w : Bool} {h0 : Nat} : bx_B (fun U => fo_K w h0 U) := fo_B w h0
set_option maxRecDepth 20000 in
theorem bX2_ofWhole_18 (w : Bool) (x1 : Int32) (s1 : Int32) {p : Program} {l : Launch} {e : Env} {s : State} {m : MethodId} {args : Array Value} {below : List Frame} {meth : Method} {c : Code} {h0 : Nat} {ls : Array Slot} (C : bx_C p s m args meth c cX2_ofWhole 2 (some .long) RX2) (hK0 : fo_K w h0 s) (hl : lv_has ls 2 [(1, .int x1)]) (post : Int64 → Prop) (hq : post (fX2_ofWhole_18 w x1 s1)) : W p l e rmX2_ofWhole s m args below meth c s.heap [] 0 0 (MQ below (vp_Sl post) args s 0 0 (fun _ => False)) (F0 m 18 ls [.int s1, .ref h0]) := by
  obtain ⟨hx, hb, hml, hr, hlocks, hown, hts⟩ := id C
  unfold fX2_ofWhole_18 at hq
  refine lv_iconst (v := 0) hx hb dX2_ofWhole_18 (by decide) ?_
  refine lv_iload_n hx hb dX2_ofWhole_19 rfl (lv_at hl 0 rfl) ?_
  refine bx_i2l hx hb dX2_ofWhole_20 ?_
  refine va_mabs_long hx hb (by rw [hml]; exact hl.1.symm) hown (hts _ tw_methodLink_RX2_157_MLabs_long_x) (hts _ tw_static_MLabs_long_x) (hts _ tw_initialized_Math) (hts _ tw_code_Lib_MathLoose_abs_long_x) (Nat.le_of_ble_eq_true rfl) (Nat.le_of_ble_eq_true rfl) (Nat.zero_le _) (Nat.zero_le _) dX2_ofWhole_21 ?_
  refine bx_as (v := .long (jl_abs x1.toInt64)) rfl ?_
  refine bx_vl C (kX2_rounded l w h0 s1 (0 : Int32) (jl_abs x1.toInt64)) BX2_rounded (fun U u1 u2 => fo_B w h0 s U u1 u2 hK0) (fun U u1 u2 => (fo_B w h0 s U u1 u2 hK0).1) tw_methodLink_RX2_148_yX2_rounded mbX2_rounded rfl ⟨rfl, rfl⟩ ⟨Nat.le_of_ble_eq_true rfl, Nat.le_of_ble_eq_true rfl⟩ ⟨Nat.zero_le _, Nat.zero_le _⟩ hl.1 rfl (Nat.le_of_ble_eq_true rfl) dX2_ofWhole_24 ?_
  exact W.lret (v := (fX2_rounded w s1 (0 : Int32) (jl_abs x1.toInt64))) hx hb hr (fun t ht hW => ⟨_, rfl, hq, ht⟩) (fun _ h => absurd h List.not_mem_nil) dX2_ofWhole_27
set_option maxRecDepth 20000 in
theorem bX2_ofWhole_0 (w : Bool) (x1 : Int32) {p : Program} {l : Launch} {e : Env} {s : State} {m : MethodId} {args : Array Value} {below : List Frame} {meth : Method} {c : Code} {h0 : Nat} {ls : Array Slot} (C : bx_C p s m args meth c cX2_ofWhole 2 (some .long) RX2) (hK0 : fo_K w h0 s) (hl : lv_has ls 2 [(0, .ref h0), (1, .int x1)]) (post : Int64 → Prop) (hq : post (fX2_ofWhole w x1)) : W p l e rmX2_ofWhole s m args below meth c s.heap [] 0 0 (MQ below (vp_Sl post) args s 0 0 (fun _ => False)) (F0 m 0 ls []) := by
  obtain ⟨hx, hb, hml, hr, hlocks, hown, hts⟩ := id C
  unfold fX2_ofWhole at hq
  refine lv_iload_n hx hb dX2_ofWhole_0 rfl (lv_at hl 1 rfl) ?_
  refine lv_if_ne (tgt := 8) hx hb dX2_ofWhole_1 (by decide) (fun c1 => ?_) (fun c1 => ?_)
  · rw [if_neg c1] at hq
    refine lv_aload_n hx hb dX2_ofWhole_8 rfl (lv_at hl 0 rfl) ?_
    refine lv_iload_n hx hb dX2_ofWhole_9 rfl (lv_at hl 1 rfl) ?_
    refine lv_if_ge (tgt := 17) hx hb dX2_ofWhole_10 (by decide) (fun c2 => ?_) (fun c2 => ?_)
    · rw [if_pos c2] at hq
      refine lv_iconst (v := 0) hx hb dX2_ofWhole_17 (by decide) ?_
      exact bX2_ofWhole_18 w x1 (0 : Int32) C hK0 (lv_sub hl [1] rfl) post hq
    · rw [if_neg c2] at hq
      refine lv_iconst (v := 1) hx hb dX2_ofWhole_13 (by decide) ?_
      refine lv_goto (tgt := 18) hx hb dX2_ofWhole_14 (by decide) ?_
      exact bX2_ofWhole_18 w x1 (1 : Int32) C hK0 (lv_sub hl [1] rfl) post hq
  · rw [if_pos c1] at hq
    refine lv_lconst (v := 0) hx hb dX2_ofWhole_4 (by decide) ?_
    refine lv_goto (tgt := 27) hx hb dX2_ofWhole_5 (by decide) ?_
    exact W.lret (v := (0 : Int64)) hx hb hr (fun t ht hW => ⟨_, rfl, hq, ht⟩) (fun _ h => absurd h List.not_mem_nil) dX2_ofWhole_27
theorem kX2_ofWhole (l : Launch) (w : Bool) (h0 : Nat) (x1 : Int32) : Met l yX2_ofWhole (Cond.code yX2_ofWhole cX2_ofWhole 2 (some .long) :: bw) rmX2_ofWhole (va_Pc [.ref h0, .int x1] (fun U => fo_K w h0 U)) (vp_Sl (fun r => r = fX2_ofWhole w x1)) 0 0 (fun _ => False) := by
  refine bx_ent (by decide) _ _ (Nat.le_of_ble_eq_true rfl) rfl ?_
  intro p e s m below meth c ls C hl hK0
  exact bX2_ofWhole_0 w x1 C hK0 hl _ rfl
abbrev rmX2_cut : Room := { frames := 2, cells := 0, slots := 0, locals := 46 }
theorem mbX2_cut : mb_V RX2 yX2_cut cX2_cut 6 (some .long) 1 := ⟨⟨tw_instanceMethod_yX2_cut, tw_selects_RX2_yX2_cut_yX2_cut, tw_initialized_RX2, tw_code_yX2_cut⟩, rfl, by decide +kernel, by decide +kernel, by decide +kernel⟩
theorem BX2_cut {w : Bool} {h0 : Nat} : bx_B (fun U => fo_K w h0 U) := fo_B w h0
set_option maxRecDepth 20000 in
theorem bX2_cut_76 (w : Bool) (x1 : Int64) (s0 : Int64) {p : Program} {l : Launch} {e : Env} {s : State} {m : MethodId} {args : Array Value} {below : List Frame} {meth : Method} {c : Code} {h0 : Nat} {ls : Array Slot} (C : bx_C p s m args meth c cX2_cut 6 (some .long) RX2) (hK0 : fo_K w h0 s) (hl : lv_has ls 6 [(0, .ref h0), (1, .long x1)]) (post : Int64 → Prop) (hq : post (fX2_cut_76 w x1 s0)) : W p l e rmX2_cut s m args below meth c s.heap [] 0 0 (MQ below (vp_Sl post) args s 0 0 (fun _ => False)) (F0 m 76 ls [.long s0]) := by
  obtain ⟨hx, hb, hml, hr, hlocks, hown, hts⟩ := id C
  unfold fX2_cut_76 at hq
  refine lv_lstore (lv' := [(4, .long s0), (0, .ref h0), (1, .long x1)]) hx hb dX2_cut_76 hl (by decide) rfl (fun ls hl => ?_)
  refine lv_aload_n hx hb dX2_cut_78 rfl (lv_at hl 1 rfl) ?_
  refine lv_lload_n hx hb dX2_cut_79 rfl (lv_at hl 2 rfl) ?_
  refine bx_vi C (kX2_isNegative l w h0 x1) BX2_isNegative (fun U u1 u2 => fo_B w h0 s U u1 u2 hK0) (fun U u1 u2 => (fo_B w h0 s U u1 u2 hK0).1) tw_methodLink_RX2_136_yX2_isNegative mbX2_isNegative rfl ⟨rfl, rfl⟩ ⟨Nat.le_of_ble_eq_true rfl, Nat.le_of_ble_eq_true rfl⟩ ⟨Nat.zero_le _, Nat.zero_le _⟩ hl.1 rfl (Nat.le_of_ble_eq_true rfl) dX2_cut_80 ?_
  refine lv_if_eq (tgt := 92) hx hb dX2_cut_83 (by decide) (fun c4 => ?_) (fun c4 => ?_)
  · rw [if_pos c4] at hq
    refine lv_lload hx hb dX2_cut_92 (lv_at hl 0 rfl) ?_
    exact W.lret (v := s0) hx hb hr (fun t ht hW => ⟨_, rfl, hq, ht⟩) (fun _ h => absurd h List.not_mem_nil) dX2_cut_94
  · rw [if_neg c4] at hq
    refine lv_lload hx hb dX2_cut_86 (lv_at hl 0 rfl) ?_
    refine lv_lneg hx hb dX2_cut_88 ?_
    refine lv_goto (tgt := 94) hx hb dX2_cut_89 (by decide) ?_
    exact W.lret (v := (-s0)) hx hb hr (fun t ht hW => ⟨_, rfl, hq, ht⟩) (fun _ h => absurd h List.not_mem_nil) dX2_cut_94
set_option maxRecDepth 20000 in
theorem bX2_cut_0 (w : Bool) (x1 : Int64) {p : Program} {l : Launch} {e : Env} {s : State} {m : MethodId} {args : Array Value} {below : List Frame} {meth : Method} {c : Code} {h0 : Nat} {ls : Array Slot} (C : bx_C p s m args meth c cX2_cut 6 (some .long) RX2) (hK0 : fo_K w h0 s) (hl : lv_has ls 6 [(0, .ref h0), (1, .long x1)]) (post : Int64 → Prop) (hq : post (fX2_cut w x1)) : W p l e rmX2_cut s m args below meth c s.heap [] 0 0 (MQ below (vp_Sl post) args s 0 0 (fun _ => False)) (F0 m 0 ls []) := by
  obtain ⟨hx, hb, hml, hr, hlocks, hown, hts⟩ := id C
  unfold fX2_cut at hq
  refine lv_aload_n hx hb dX2_cut_0 rfl (lv_at hl 0 rfl) ?_
  refine lv_lload_n hx hb dX2_cut_1 rfl (lv_at hl 1 rfl) ?_
  refine bx_vi C (kX2_biased l w h0 x1) BX2_biased (fun U u1 u2 => fo_B w h0 s U u1 u2 hK0) (fun U u1 u2 => (fo_B w h0 s U u1 u2 hK0).1) tw_methodLink_RX2_101_yX2_biased mbX2_biased rfl ⟨rfl, rfl⟩ ⟨Nat.le_of_ble_eq_true rfl, Nat.le_of_ble_eq_true rfl⟩ ⟨Nat.zero_le _, Nat.zero_le _⟩ hl.1 rfl (Nat.le_of_ble_eq_true rfl) dX2_cut_2 ?_
  refine lv_aload_n hx hb dX2_cut_5 rfl (lv_at hl 0 rfl) ?_
  refine vk_getf (v := .int (fo_bias w)) hx hb (fo_bias_K hK0) va_S.rf hown (hts _ tw_fieldLink_RX2_33_GlulxFloats_Form_bias_I) (fun _ h9 => h9) dX2_cut_6 ?_
  refine lv_isub hx hb dX2_cut_9 ?_
  refine lv_istore_n (lv' := [(3, .int ((fX2_biased w x1) - (fo_bias w))), (0, .ref h0), (1, .long x1)]) hx hb dX2_cut_10 rfl hl (by decide) rfl (fun ls hl => ?_)
  refine lv_iload_n hx hb dX2_cut_11 rfl (lv_at hl 0 rfl) ?_
  refine lv_if_ge (tgt := 17) hx hb dX2_cut_12 (by decide) (fun c1 => ?_) (fun c1 => ?_)
  · rw [if_pos c1] at hq
    refine lv_iload_n hx hb dX2_cut_17 rfl (lv_at hl 0 rfl) ?_
    refine lv_bipush (v := 31) hx hb dX2_cut_18 (by decide) ?_
    refine lv_icmp_lt (tgt := 41) hx hb dX2_cut_20 (by decide) (fun c2 => ?_) (fun c2 => ?_)
    · rw [if_pos c2] at hq
      refine lv_iload_n hx hb dX2_cut_41 rfl (lv_at hl 0 rfl) ?_
      refine lv_aload_n hx hb dX2_cut_42 rfl (lv_at hl 1 rfl) ?_
      refine vk_getf (v := .int (fo_fraction w)) hx hb (fo_fraction_K hK0) va_S.rf hown (hts _ tw_fieldLink_RX2_29_GlulxFloats_Form_fraction_I) (fun _ h9 => h9) dX2_cut_43 ?_
      refine lv_icmp_ge (tgt := 64) hx hb dX2_cut_46 (by decide) (fun c3 => ?_) (fun c3 => ?_)
      · rw [if_pos c3] at hq
        refine lv_aload_n hx hb dX2_cut_64 rfl (lv_at hl 1 rfl) ?_
        refine lv_lload_n hx hb dX2_cut_65 rfl (lv_at hl 2 rfl) ?_
        refine bx_vl C (kX2_plain l w h0 x1) BX2_plain (fun U u1 u2 => fo_B w h0 s U u1 u2 hK0) (fun U u1 u2 => (fo_B w h0 s U u1 u2 hK0).1) tw_methodLink_RX2_145_yX2_plain mbX2_plain rfl ⟨rfl, rfl⟩ ⟨Nat.le_of_ble_eq_true rfl, Nat.le_of_ble_eq_true rfl⟩ ⟨Nat.zero_le _, Nat.zero_le _⟩ hl.1 rfl (Nat.le_of_ble_eq_true rfl) dX2_cut_66 ?_
        refine lv_iload_n hx hb dX2_cut_69 rfl (lv_at hl 0 rfl) ?_
        refine lv_aload_n hx hb dX2_cut_70 rfl (lv_at hl 1 rfl) ?_
        refine vk_getf (v := .int (fo_fraction w)) hx hb (fo_fraction_K hK0) va_S.rf hown (hts _ tw_fieldLink_RX2_29_GlulxFloats_Form_fraction_I) (fun _ h9 => h9) dX2_cut_71 ?_
        refine lv_isub hx hb dX2_cut_74 ?_
        refine bx_lshl hx hb dX2_cut_75 ?_
        exact bX2_cut_76 w x1 (jl_shl (fX2_plain w x1) (((fX2_biased w x1) - (fo_bias w)) - (fo_fraction w))) C hK0 (lv_sub hl [1, 2] rfl) post hq
      · rw [if_neg c3] at hq
        refine lv_aload_n hx hb dX2_cut_49 rfl (lv_at hl 1 rfl) ?_
        refine lv_lload_n hx hb dX2_cut_50 rfl (lv_at hl 2 rfl) ?_
        refine bx_vl C (kX2_plain l w h0 x1) BX2_plain (fun U u1 u2 => fo_B w h0 s U u1 u2 hK0) (fun U u1 u2 => (fo_B w h0 s U u1 u2 hK0).1) tw_methodLink_RX2_145_yX2_plain mbX2_plain rfl ⟨rfl, rfl⟩ ⟨Nat.le_of_ble_eq_true rfl, Nat.le_of_ble_eq_true rfl⟩ ⟨Nat.zero_le _, Nat.zero_le _⟩ hl.1 rfl (Nat.le_of_ble_eq_true rfl) dX2_cut_51 ?_
        refine lv_aload_n hx hb dX2_cut_54 rfl (lv_at hl 1 rfl) ?_
        refine vk_getf (v := .int (fo_fraction w)) hx hb (fo_fraction_K hK0) va_S.rf hown (hts _ tw_fieldLink_RX2_29_GlulxFloats_Form_fraction_I) (fun _ h9 => h9) dX2_cut_55 ?_
        refine lv_iload_n hx hb dX2_cut_58 rfl (lv_at hl 0 rfl) ?_
        refine lv_isub hx hb dX2_cut_59 ?_
        refine bx_lushr hx hb dX2_cut_60 ?_
        refine lv_goto (tgt := 76) hx hb dX2_cut_61 (by decide) ?_
        exact bX2_cut_76 w x1 (jl_ushr (fX2_plain w x1) ((fo_fraction w) - ((fX2_biased w x1) - (fo_bias w)))) C hK0 (lv_sub hl [1, 2] rfl) post hq
    · rw [if_neg c2] at hq
      refine lv_aload_n hx hb dX2_cut_23 rfl (lv_at hl 1 rfl) ?_
      refine lv_lload_n hx hb dX2_cut_24 rfl (lv_at hl 2 rfl) ?_
      refine bx_vi C (kX2_isNegative l w h0 x1) BX2_isNegative (fun U u1 u2 => fo_B w h0 s U u1 u2 hK0) (fun U u1 u2 => (fo_B w h0 s U u1 u2 hK0).1) tw_methodLink_RX2_136_yX2_isNegative mbX2_isNegative rfl ⟨rfl, rfl⟩ ⟨Nat.le_of_ble_eq_true rfl, Nat.le_of_ble_eq_true rfl⟩ ⟨Nat.zero_le _, Nat.zero_le _⟩ hl.1 rfl (Nat.le_of_ble_eq_true rfl) dX2_cut_25 ?_
      refine lv_if_eq (tgt := 37) hx hb dX2_cut_28 (by decide) (fun c5 => ?_) (fun c5 => ?_)
      · rw [if_pos c5] at hq
        refine lv_ldc2 (v := 2147483647) hx hb hown (hts _ tw_constantLong_RX2_202_2147483647) dX2_cut_37 ?_
        exact W.lret (v := (2147483647 : Int64)) hx hb hr (fun t ht hW => ⟨_, rfl, hq, ht⟩) (fun _ h => absurd h List.not_mem_nil) dX2_cut_40
      · rw [if_neg c5] at hq
        refine lv_ldc2 (v := -2147483648) hx hb hown (hts _ tw_constantLong_RX2_200_2147483648) dX2_cut_31 ?_
        refine lv_goto (tgt := 40) hx hb dX2_cut_34 (by decide) ?_
        exact W.lret (v := (-2147483648 : Int64)) hx hb hr (fun t ht hW => ⟨_, rfl, hq, ht⟩) (fun _ h => absurd h List.not_mem_nil) dX2_cut_40
  · rw [if_neg c1] at hq
    refine lv_lconst (v := 0) hx hb dX2_cut_15 (by decide) ?_
    exact W.lret (v := (0 : Int64)) hx hb hr (fun t ht hW => ⟨_, rfl, hq, ht⟩) (fun _ h => absurd h List.not_mem_nil) dX2_cut_16
theorem kX2_cut (l : Launch) (w : Bool) (h0 : Nat) (x1 : Int64) : Met l yX2_cut (Cond.code yX2_cut cX2_cut 6 (some .long) :: bw) rmX2_cut (va_Pc [.ref h0, .long x1] (fun U => fo_K w h0 U)) (vp_Sl (fun r => r = fX2_cut w x1)) 0 0 (fun _ => False) := by
  refine bx_ent (by decide) _ _ (Nat.le_of_ble_eq_true rfl) rfl ?_
  intro p e s m below meth c ls C hl hK0
  exact bX2_cut_0 w x1 C hK0 hl _ rfl
abbrev rmX2_acted : Room := { frames := 4, cells := 0, slots := 0, locals := 137 }
theorem mbX2_acted : mb_V RX2 yX2_acted cX2_acted 8 (some .long) 4 := ⟨⟨tw_instanceMethod_yX2_acted, tw_selects_RX2_yX2_acted_yX2_acted, tw_initialized_RX2, tw_code_yX2_acted⟩, rfl, by decide +kernel, by decide +kernel, by decide +kernel⟩
theorem BX2_acted {w : Bool} {h0 : Nat} : bx_B (fun U => fo_K w h0 U) := fo_B w h0
set_option maxRecDepth 20000 in
theorem bX2_acted_0 (w : Bool) (x1 : Int32) (x2 : Int64) (x4 : Int64) (x6 : Int64) {p : Program} {l : Launch} {e : Env} {s : State} {m : MethodId} {args : Array Value} {below : List Frame} {meth : Method} {c : Code} {h0 : Nat} {ls : Array Slot} (C : bx_C p s m args meth c cX2_acted 8 (some .long) RX2) (hK0 : fo_K w h0 s) (hl : lv_has ls 8 [(0, .ref h0), (1, .int x1), (2, .long x2), (4, .long x4), (6, .long x6)]) (post : Int64 → Prop) (hq : post (fX2_acted w x1 x2 x4 x6)) : W p l e rmX2_acted s m args below meth c s.heap [] 0 0 (MQ below (vp_Sl post) args s 0 0 (fun _ => False)) (F0 m 0 ls []) := by
  obtain ⟨hx, hb, hml, hr, hlocks, hown, hts⟩ := id C
  unfold fX2_acted at hq
  refine lv_iload_n hx hb dX2_acted_0 rfl (lv_at hl 1 rfl) ?_
  by_cases c1 : x1 = 0
  · rw [if_pos c1] at hq
    refine lv_tableIn (tgt := 112) hx hb dX2_acted_1 (by rw [c1]; decide) (by rw [c1]; decide) (by rw [c1]; rfl) (by decide) ?_
    refine lv_aload_n hx hb dX2_acted_112 rfl (lv_at hl 0 rfl) ?_
    refine lv_lload_n hx hb dX2_acted_113 rfl (lv_at hl 2 rfl) ?_
    refine lv_lload hx hb dX2_acted_114 (lv_at hl 3 rfl) ?_
    refine bx_vl C (kX2_sum l w h0 x2 x4) BX2_sum (fun U u1 u2 => fo_B w h0 s U u1 u2 hK0) (fun U u1 u2 => (fo_B w h0 s U u1 u2 hK0).1) tw_methodLink_RX2_55_yX2_sum mbX2_sum rfl ⟨rfl, rfl⟩ ⟨Nat.le_of_ble_eq_true rfl, Nat.le_of_ble_eq_true rfl⟩ ⟨Nat.zero_le _, Nat.zero_le _⟩ hl.1 rfl (Nat.le_of_ble_eq_true rfl) dX2_acted_116 ?_
    exact W.lret (v := (fX2_sum w x2 x4)) hx hb hr (fun t ht hW => ⟨_, rfl, hq, ht⟩) (fun _ h => absurd h List.not_mem_nil) dX2_acted_119
  rw [if_neg c1] at hq
  by_cases c2 : x1 = 1
  · rw [if_pos c2] at hq
    refine lv_tableIn (tgt := 120) hx hb dX2_acted_1 (by rw [c2]; decide) (by rw [c2]; decide) (by rw [c2]; rfl) (by decide) ?_
    refine lv_aload_n hx hb dX2_acted_120 rfl (lv_at hl 0 rfl) ?_
    refine lv_lload_n hx hb dX2_acted_121 rfl (lv_at hl 2 rfl) ?_
    refine lv_lload hx hb dX2_acted_122 (lv_at hl 3 rfl) ?_
    refine lv_aload_n hx hb dX2_acted_124 rfl (lv_at hl 0 rfl) ?_
    refine vk_getf (v := .long (fo_sign w)) hx hb (fo_sign_K hK0) va_S.rf hown (hts _ tw_fieldLink_RX2_42_GlulxFloats_Form_sign_J) (fun _ h9 => h9) dX2_acted_125 ?_
    refine lv_lxor hx hb dX2_acted_128 ?_
    refine bx_vl C (kX2_sum l w h0 x2 (x4 ^^^ (fo_sign w))) BX2_sum (fun U u1 u2 => fo_B w h0 s U u1 u2 hK0) (fun U u1 u2 => (fo_B w h0 s U u1 u2 hK0).1) tw_methodLink_RX2_55_yX2_sum mbX2_sum rfl ⟨rfl, rfl⟩ ⟨Nat.le_of_ble_eq_true rfl, Nat.le_of_ble_eq_true rfl⟩ ⟨Nat.zero_le _, Nat.zero_le _⟩ hl.1 rfl (Nat.le_of_ble_eq_true rfl) dX2_acted_129 ?_
    exact W.lret (v := (fX2_sum w x2 (x4 ^^^ (fo_sign w)))) hx hb hr (fun t ht hW => ⟨_, rfl, hq, ht⟩) (fun _ h => absurd h List.not_mem_nil) dX2_acted_132
  rw [if_neg c2] at hq
  by_cases c3 : x1 = 2
  · rw [if_pos c3] at hq
    refine lv_tableIn (tgt := 133) hx hb dX2_acted_1 (by rw [c3]; decide) (by rw [c3]; decide) (by rw [c3]; rfl) (by decide) ?_
    refine lv_aload_n hx hb dX2_acted_133 rfl (lv_at hl 0 rfl) ?_
    refine lv_lload_n hx hb dX2_acted_134 rfl (lv_at hl 2 rfl) ?_
    refine lv_lload hx hb dX2_acted_135 (lv_at hl 3 rfl) ?_
    refine bx_vl C (kX2_product l w h0 x2 x4) BX2_product (fun U u1 u2 => fo_B w h0 s U u1 u2 hK0) (fun U u1 u2 => (fo_B w h0 s U u1 u2 hK0).1) tw_methodLink_RX2_59_yX2_product mbX2_product rfl ⟨rfl, rfl⟩ ⟨Nat.le_of_ble_eq_true rfl, Nat.le_of_ble_eq_true rfl⟩ ⟨Nat.zero_le _, Nat.zero_le _⟩ hl.1 rfl (Nat.le_of_ble_eq_true rfl) dX2_acted_137 ?_
    exact W.lret (v := (fX2_product w x2 x4)) hx hb hr (fun t ht hW => ⟨_, rfl, hq, ht⟩) (fun _ h => absurd h List.not_mem_nil) dX2_acted_140
  rw [if_neg c3] at hq
  by_cases c4 : x1 = 3
  · rw [if_pos c4] at hq
    refine lv_tableIn (tgt := 141) hx hb dX2_acted_1 (by rw [c4]; decide) (by rw [c4]; decide) (by rw [c4]; rfl) (by decide) ?_
    refine lv_aload_n hx hb dX2_acted_141 rfl (lv_at hl 0 rfl) ?_
    refine lv_lload_n hx hb dX2_acted_142 rfl (lv_at hl 2 rfl) ?_
    refine lv_lload hx hb dX2_acted_143 (lv_at hl 3 rfl) ?_
    refine bx_vl C (kX2_quotient l w h0 x2 x4) BX2_quotient (fun U u1 u2 => fo_B w h0 s U u1 u2 hK0) (fun U u1 u2 => (fo_B w h0 s U u1 u2 hK0).1) tw_methodLink_RX2_62_yX2_quotient mbX2_quotient rfl ⟨rfl, rfl⟩ ⟨Nat.le_of_ble_eq_true rfl, Nat.le_of_ble_eq_true rfl⟩ ⟨Nat.zero_le _, Nat.zero_le _⟩ hl.1 rfl (Nat.le_of_ble_eq_true rfl) dX2_acted_145 ?_
    exact W.lret (v := (fX2_quotient w x2 x4)) hx hb hr (fun t ht hW => ⟨_, rfl, hq, ht⟩) (fun _ h => absurd h List.not_mem_nil) dX2_acted_148
  rw [if_neg c4] at hq
  by_cases c5 : x1 = 4
  · rw [if_pos c5] at hq
    refine lv_tableIn (tgt := 149) hx hb dX2_acted_1 (by rw [c5]; decide) (by rw [c5]; decide) (by rw [c5]; rfl) (by decide) ?_
    refine lv_aload_n hx hb dX2_acted_149 rfl (lv_at hl 0 rfl) ?_
    refine lv_lload_n hx hb dX2_acted_150 rfl (lv_at hl 2 rfl) ?_
    refine lv_lload hx hb dX2_acted_151 (lv_at hl 3 rfl) ?_
    refine bx_vl C (kX2_rest l w h0 x2 x4) BX2_rest (fun U u1 u2 => fo_B w h0 s U u1 u2 hK0) (fun U u1 u2 => (fo_B w h0 s U u1 u2 hK0).1) tw_methodLink_RX2_65_yX2_rest mbX2_rest rfl ⟨rfl, rfl⟩ ⟨Nat.le_of_ble_eq_true rfl, Nat.le_of_ble_eq_true rfl⟩ ⟨Nat.zero_le _, Nat.zero_le _⟩ hl.1 rfl (Nat.le_of_ble_eq_true rfl) dX2_acted_153 ?_
    exact W.lret (v := (fX2_rest w x2 x4)) hx hb hr (fun t ht hW => ⟨_, rfl, hq, ht⟩) (fun _ h => absurd h List.not_mem_nil) dX2_acted_156
  rw [if_neg c5] at hq
  by_cases c6 : x1 = 5
  · rw [if_pos c6] at hq
    refine lv_tableIn (tgt := 157) hx hb dX2_acted_1 (by rw [c6]; decide) (by rw [c6]; decide) (by rw [c6]; rfl) (by decide) ?_
    refine lv_aload_n hx hb dX2_acted_157 rfl (lv_at hl 0 rfl) ?_
    refine lv_aload_n hx hb dX2_acted_158 rfl (lv_at hl 0 rfl) ?_
    refine lv_lload_n hx hb dX2_acted_159 rfl (lv_at hl 2 rfl) ?_
    refine lv_aload_n hx hb dX2_acted_160 rfl (lv_at hl 0 rfl) ?_
    refine lv_lload_n hx hb dX2_acted_161 rfl (lv_at hl 2 rfl) ?_
    refine lv_lload hx hb dX2_acted_162 (lv_at hl 3 rfl) ?_
    refine bx_vl C (kX2_rest l w h0 x2 x4) BX2_rest (fun U u1 u2 => fo_B w h0 s U u1 u2 hK0) (fun U u1 u2 => (fo_B w h0 s U u1 u2 hK0).1) tw_methodLink_RX2_65_yX2_rest mbX2_rest rfl ⟨rfl, rfl⟩ ⟨Nat.le_of_ble_eq_true rfl, Nat.le_of_ble_eq_true rfl⟩ ⟨Nat.zero_le _, Nat.zero_le _⟩ hl.1 rfl (Nat.le_of_ble_eq_true rfl) dX2_acted_164 ?_
    refine lv_aload_n hx hb dX2_acted_167 rfl (lv_at hl 0 rfl) ?_
    refine vk_getf (v := .long (fo_sign w)) hx hb (fo_sign_K hK0) va_S.rf hown (hts _ tw_fieldLink_RX2_42_GlulxFloats_Form_sign_J) (fun _ h9 => h9) dX2_acted_168 ?_
    refine lv_lxor hx hb dX2_acted_171 ?_
    refine bx_vl C (kX2_sum l w h0 x2 ((fX2_rest w x2 x4) ^^^ (fo_sign w))) BX2_sum (fun U u1 u2 => fo_B w h0 s U u1 u2 hK0) (fun U u1 u2 => (fo_B w h0 s U u1 u2 hK0).1) tw_methodLink_RX2_55_yX2_sum mbX2_sum rfl ⟨rfl, rfl⟩ ⟨Nat.le_of_ble_eq_true rfl, Nat.le_of_ble_eq_true rfl⟩ ⟨Nat.zero_le _, Nat.zero_le _⟩ hl.1 rfl (Nat.le_of_ble_eq_true rfl) dX2_acted_172 ?_
    refine lv_lload hx hb dX2_acted_175 (lv_at hl 3 rfl) ?_
    refine bx_vl C (kX2_quotient l w h0 (fX2_sum w x2 ((fX2_rest w x2 x4) ^^^ (fo_sign w))) x4) BX2_quotient (fun U u1 u2 => fo_B w h0 s U u1 u2 hK0) (fun U u1 u2 => (fo_B w h0 s U u1 u2 hK0).1) tw_methodLink_RX2_62_yX2_quotient mbX2_quotient rfl ⟨rfl, rfl⟩ ⟨Nat.le_of_ble_eq_true rfl, Nat.le_of_ble_eq_true rfl⟩ ⟨Nat.zero_le _, Nat.zero_le _⟩ hl.1 rfl (Nat.le_of_ble_eq_true rfl) dX2_acted_177 ?_
    exact W.lret (v := (fX2_quotient w (fX2_sum w x2 ((fX2_rest w x2 x4) ^^^ (fo_sign w))) x4)) hx hb hr (fun t ht hW => ⟨_, rfl, hq, ht⟩) (fun _ h => absurd h List.not_mem_nil) dX2_acted_180
  rw [if_neg c6] at hq
  by_cases c7 : x1 = 6
  · rw [if_pos c7] at hq
    refine lv_tableIn (tgt := 181) hx hb dX2_acted_1 (by rw [c7]; decide) (by rw [c7]; decide) (by rw [c7]; rfl) (by decide) ?_
    refine lv_aload_n hx hb dX2_acted_181 rfl (lv_at hl 0 rfl) ?_
    refine lv_lload_n hx hb dX2_acted_182 rfl (lv_at hl 2 rfl) ?_
    refine bx_vl C (kX2_root l w h0 x2) BX2_root (fun U u1 u2 => fo_B w h0 s U u1 u2 hK0) (fun U u1 u2 => (fo_B w h0 s U u1 u2 hK0).1) tw_methodLink_RX2_68_yX2_root mbX2_root rfl ⟨rfl, rfl⟩ ⟨Nat.le_of_ble_eq_true rfl, Nat.le_of_ble_eq_true rfl⟩ ⟨Nat.zero_le _, Nat.zero_le _⟩ hl.1 rfl (Nat.le_of_ble_eq_true rfl) dX2_acted_183 ?_
    exact W.lret (v := (fX2_root w x2)) hx hb hr (fun t ht hW => ⟨_, rfl, hq, ht⟩) (fun _ h => absurd h List.not_mem_nil) dX2_acted_186
  rw [if_neg c7] at hq
  by_cases c8 : x1 = 7
  · rw [if_pos c8] at hq
    refine lv_tableIn (tgt := 187) hx hb dX2_acted_1 (by rw [c8]; decide) (by rw [c8]; decide) (by rw [c8]; rfl) (by decide) ?_
    refine lv_aload_n hx hb dX2_acted_187 rfl (lv_at hl 0 rfl) ?_
    refine lv_lload_n hx hb dX2_acted_188 rfl (lv_at hl 2 rfl) ?_
    refine lv_iconst (v := 0) hx hb dX2_acted_189 (by decide) ?_
    refine bx_vl C (kX2_whole l w h0 x2 (0 : Int32)) BX2_whole (fun U u1 u2 => fo_B w h0 s U u1 u2 hK0) (fun U u1 u2 => (fo_B w h0 s U u1 u2 hK0).1) tw_methodLink_RX2_72_yX2_whole mbX2_whole rfl ⟨rfl, rfl⟩ ⟨Nat.le_of_ble_eq_true rfl, Nat.le_of_ble_eq_true rfl⟩ ⟨Nat.zero_le _, Nat.zero_le _⟩ hl.1 rfl (Nat.le_of_ble_eq_true rfl) dX2_acted_190 ?_
    exact W.lret (v := (fX2_whole w x2 (0 : Int32))) hx hb hr (fun t ht hW => ⟨_, rfl, hq, ht⟩) (fun _ h => absurd h List.not_mem_nil) dX2_acted_193
  rw [if_neg c8] at hq
  by_cases c9 : x1 = 8
  · rw [if_pos c9] at hq
    refine lv_tableIn (tgt := 194) hx hb dX2_acted_1 (by rw [c9]; decide) (by rw [c9]; decide) (by rw [c9]; rfl) (by decide) ?_
    refine lv_aload_n hx hb dX2_acted_194 rfl (lv_at hl 0 rfl) ?_
    refine lv_lload_n hx hb dX2_acted_195 rfl (lv_at hl 2 rfl) ?_
    refine lv_iconst (v := 1) hx hb dX2_acted_196 (by decide) ?_
    refine bx_vl C (kX2_whole l w h0 x2 (1 : Int32)) BX2_whole (fun U u1 u2 => fo_B w h0 s U u1 u2 hK0) (fun U u1 u2 => (fo_B w h0 s U u1 u2 hK0).1) tw_methodLink_RX2_72_yX2_whole mbX2_whole rfl ⟨rfl, rfl⟩ ⟨Nat.le_of_ble_eq_true rfl, Nat.le_of_ble_eq_true rfl⟩ ⟨Nat.zero_le _, Nat.zero_le _⟩ hl.1 rfl (Nat.le_of_ble_eq_true rfl) dX2_acted_197 ?_
    exact W.lret (v := (fX2_whole w x2 (1 : Int32))) hx hb hr (fun t ht hW => ⟨_, rfl, hq, ht⟩) (fun _ h => absurd h List.not_mem_nil) dX2_acted_200
  rw [if_neg c9] at hq
  by_cases c10 : x1 = 9
  · rw [if_pos c10] at hq
    refine lv_tableIn (tgt := 201) hx hb dX2_acted_1 (by rw [c10]; decide) (by rw [c10]; decide) (by rw [c10]; rfl) (by decide) ?_
    refine lv_aload_n hx hb dX2_acted_201 rfl (lv_at hl 0 rfl) ?_
    refine lv_lload_n hx hb dX2_acted_202 rfl (lv_at hl 2 rfl) ?_
    refine lv_iconst (v := 2) hx hb dX2_acted_203 (by decide) ?_
    refine bx_vl C (kX2_whole l w h0 x2 (2 : Int32)) BX2_whole (fun U u1 u2 => fo_B w h0 s U u1 u2 hK0) (fun U u1 u2 => (fo_B w h0 s U u1 u2 hK0).1) tw_methodLink_RX2_72_yX2_whole mbX2_whole rfl ⟨rfl, rfl⟩ ⟨Nat.le_of_ble_eq_true rfl, Nat.le_of_ble_eq_true rfl⟩ ⟨Nat.zero_le _, Nat.zero_le _⟩ hl.1 rfl (Nat.le_of_ble_eq_true rfl) dX2_acted_204 ?_
    exact W.lret (v := (fX2_whole w x2 (2 : Int32))) hx hb hr (fun t ht hW => ⟨_, rfl, hq, ht⟩) (fun _ h => absurd h List.not_mem_nil) dX2_acted_207
  rw [if_neg c10] at hq
  by_cases c11 : x1 = 10
  · rw [if_pos c11] at hq
    refine lv_tableIn (tgt := 208) hx hb dX2_acted_1 (by rw [c11]; decide) (by rw [c11]; decide) (by rw [c11]; rfl) (by decide) ?_
    refine lv_aload_n hx hb dX2_acted_208 rfl (lv_at hl 0 rfl) ?_
    refine lv_lload_n hx hb dX2_acted_209 rfl (lv_at hl 2 rfl) ?_
    refine lv_lload hx hb dX2_acted_210 (lv_at hl 3 rfl) ?_
    refine bx_vl C (kX2_lesser l w h0 x2 x4) BX2_lesser (fun U u1 u2 => fo_B w h0 s U u1 u2 hK0) (fun U u1 u2 => (fo_B w h0 s U u1 u2 hK0).1) tw_methodLink_RX2_76_yX2_lesser mbX2_lesser rfl ⟨rfl, rfl⟩ ⟨Nat.le_of_ble_eq_true rfl, Nat.le_of_ble_eq_true rfl⟩ ⟨Nat.zero_le _, Nat.zero_le _⟩ hl.1 rfl (Nat.le_of_ble_eq_true rfl) dX2_acted_212 ?_
    exact W.lret (v := (fX2_lesser w x2 x4)) hx hb hr (fun t ht hW => ⟨_, rfl, hq, ht⟩) (fun _ h => absurd h List.not_mem_nil) dX2_acted_215
  rw [if_neg c11] at hq
  by_cases c12 : x1 = 11
  · rw [if_pos c12] at hq
    refine lv_tableIn (tgt := 216) hx hb dX2_acted_1 (by rw [c12]; decide) (by rw [c12]; decide) (by rw [c12]; rfl) (by decide) ?_
    refine lv_aload_n hx hb dX2_acted_216 rfl (lv_at hl 0 rfl) ?_
    refine lv_lload_n hx hb dX2_acted_217 rfl (lv_at hl 2 rfl) ?_
    refine lv_lload hx hb dX2_acted_218 (lv_at hl 3 rfl) ?_
    refine bx_vl C (kX2_greater l w h0 x2 x4) BX2_greater (fun U u1 u2 => fo_B w h0 s U u1 u2 hK0) (fun U u1 u2 => (fo_B w h0 s U u1 u2 hK0).1) tw_methodLink_RX2_79_yX2_greater mbX2_greater rfl ⟨rfl, rfl⟩ ⟨Nat.le_of_ble_eq_true rfl, Nat.le_of_ble_eq_true rfl⟩ ⟨Nat.zero_le _, Nat.zero_le _⟩ hl.1 rfl (Nat.le_of_ble_eq_true rfl) dX2_acted_220 ?_
    exact W.lret (v := (fX2_greater w x2 x4)) hx hb hr (fun t ht hW => ⟨_, rfl, hq, ht⟩) (fun _ h => absurd h List.not_mem_nil) dX2_acted_223
  rw [if_neg c12] at hq
  by_cases c13 : x1 = 12
  · rw [if_pos c13] at hq
    refine lv_tableIn (tgt := 224) hx hb dX2_acted_1 (by rw [c13]; decide) (by rw [c13]; decide) (by rw [c13]; rfl) (by decide) ?_
    refine lv_aload_n hx hb dX2_acted_224 rfl (lv_at hl 0 rfl) ?_
    refine lv_lload_n hx hb dX2_acted_225 rfl (lv_at hl 2 rfl) ?_
    refine bx_vl C (kX2_size l w h0 x2) BX2_size (fun U u1 u2 => fo_B w h0 s U u1 u2 hK0) (fun U u1 u2 => (fo_B w h0 s U u1 u2 hK0).1) tw_methodLink_RX2_82_yX2_size mbX2_size rfl ⟨rfl, rfl⟩ ⟨Nat.le_of_ble_eq_true rfl, Nat.le_of_ble_eq_true rfl⟩ ⟨Nat.zero_le _, Nat.zero_le _⟩ hl.1 rfl (Nat.le_of_ble_eq_true rfl) dX2_acted_226 ?_
    exact W.lret (v := (fX2_size w x2)) hx hb hr (fun t ht hW => ⟨_, rfl, hq, ht⟩) (fun _ h => absurd h List.not_mem_nil) dX2_acted_229
  rw [if_neg c13] at hq
  by_cases c14 : x1 = 13
  · rw [if_pos c14] at hq
    refine lv_tableIn (tgt := 230) hx hb dX2_acted_1 (by rw [c14]; decide) (by rw [c14]; decide) (by rw [c14]; rfl) (by decide) ?_
    refine lv_lload_n hx hb dX2_acted_230 rfl (lv_at hl 2 rfl) ?_
    refine lv_aload_n hx hb dX2_acted_231 rfl (lv_at hl 0 rfl) ?_
    refine vk_getf (v := .long (fo_sign w)) hx hb (fo_sign_K hK0) va_S.rf hown (hts _ tw_fieldLink_RX2_42_GlulxFloats_Form_sign_J) (fun _ h9 => h9) dX2_acted_232 ?_
    refine lv_lxor hx hb dX2_acted_235 ?_
    exact W.lret (v := (x2 ^^^ (fo_sign w))) hx hb hr (fun t ht hW => ⟨_, rfl, hq, ht⟩) (fun _ h => absurd h List.not_mem_nil) dX2_acted_236
  rw [if_neg c14] at hq
  by_cases c15 : x1 = 14
  · rw [if_pos c15] at hq
    refine lv_tableIn (tgt := 237) hx hb dX2_acted_1 (by rw [c15]; decide) (by rw [c15]; decide) (by rw [c15]; rfl) (by decide) ?_
    refine lv_lload hx hb dX2_acted_237 (lv_at hl 3 rfl) ?_
    refine lv_ldc2 (v := 32) hx hb hown (hts _ tw_constantLong_RX2_85_32) dX2_acted_239 ?_
    refine lv_land hx hb dX2_acted_242 ?_
    refine lv_lconst (v := 0) hx hb dX2_acted_243 (by decide) ?_
    refine bx_lc_ne (tgt := 262) hx hb dX2_acted_244 dX2_acted_245 (by decide) (fun c16 => ?_) (fun c16 => ?_)
    · rw [if_neg c16] at hq
      refine lv_aload_n hx hb dX2_acted_262 rfl (lv_at hl 0 rfl) ?_
      refine lv_aload_n hx hb dX2_acted_263 rfl (lv_at hl 0 rfl) ?_
      refine vk_getf (v := .long (fo_one w)) hx hb (fo_one_K hK0) va_S.rf hown (hts _ tw_fieldLink_RX2_46_GlulxFloats_Form_one_J) (fun _ h9 => h9) dX2_acted_264 ?_
      refine lv_aload_n hx hb dX2_acted_267 rfl (lv_at hl 0 rfl) ?_
      refine lv_lload_n hx hb dX2_acted_268 rfl (lv_at hl 2 rfl) ?_
      refine lv_ldc2 (v := 32) hx hb hown (hts _ tw_constantLong_RX2_85_32) dX2_acted_269 ?_
      refine lv_lload hx hb dX2_acted_272 (lv_at hl 3 rfl) ?_
      refine lv_ldc2 (v := 31) hx hb hown (hts _ tw_constantLong_RX2_87_31) dX2_acted_274 ?_
      refine lv_land hx hb dX2_acted_277 ?_
      refine lv_lsub hx hb dX2_acted_278 ?_
      refine bx_vl C (kX2_power l w h0 x2 ((32 : Int64) - (x4 &&& (31 : Int64))) (by first | with_reducible exact sd_pow1 _ | with_reducible exact sd_pow2 _)) BX2_power (fun U u1 u2 => fo_B w h0 s U u1 u2 hK0) (fun U u1 u2 => (fo_B w h0 s U u1 u2 hK0).1) tw_methodLink_RX2_89_yX2_power mbX2_power rfl ⟨rfl, rfl⟩ ⟨Nat.le_of_ble_eq_true rfl, Nat.le_of_ble_eq_true rfl⟩ ⟨Nat.zero_le _, Nat.zero_le _⟩ hl.1 rfl (Nat.le_of_ble_eq_true rfl) dX2_acted_279 ?_
      refine bx_vl C (kX2_quotient l w h0 (fo_one w) (fX2_power w x2 ((32 : Int64) - (x4 &&& (31 : Int64))))) BX2_quotient (fun U u1 u2 => fo_B w h0 s U u1 u2 hK0) (fun U u1 u2 => (fo_B w h0 s U u1 u2 hK0).1) tw_methodLink_RX2_62_yX2_quotient mbX2_quotient rfl ⟨rfl, rfl⟩ ⟨Nat.le_of_ble_eq_true rfl, Nat.le_of_ble_eq_true rfl⟩ ⟨Nat.zero_le _, Nat.zero_le _⟩ hl.1 rfl (Nat.le_of_ble_eq_true rfl) dX2_acted_282 ?_
      exact W.lret (v := (fX2_quotient w (fo_one w) (fX2_power w x2 ((32 : Int64) - (x4 &&& (31 : Int64)))))) hx hb hr (fun t ht hW => ⟨_, rfl, hq, ht⟩) (fun _ h => absurd h List.not_mem_nil) dX2_acted_285
    · rw [if_pos c16] at hq
      refine lv_aload_n hx hb dX2_acted_248 rfl (lv_at hl 0 rfl) ?_
      refine lv_lload_n hx hb dX2_acted_249 rfl (lv_at hl 2 rfl) ?_
      refine lv_lload hx hb dX2_acted_250 (lv_at hl 3 rfl) ?_
      refine lv_ldc2 (v := 31) hx hb hown (hts _ tw_constantLong_RX2_87_31) dX2_acted_252 ?_
      refine lv_land hx hb dX2_acted_255 ?_
      refine bx_vl C (kX2_power l w h0 x2 (x4 &&& (31 : Int64)) (by first | with_reducible exact sd_pow1 _ | with_reducible exact sd_pow2 _)) BX2_power (fun U u1 u2 => fo_B w h0 s U u1 u2 hK0) (fun U u1 u2 => (fo_B w h0 s U u1 u2 hK0).1) tw_methodLink_RX2_89_yX2_power mbX2_power rfl ⟨rfl, rfl⟩ ⟨Nat.le_of_ble_eq_true rfl, Nat.le_of_ble_eq_true rfl⟩ ⟨Nat.zero_le _, Nat.zero_le _⟩ hl.1 rfl (Nat.le_of_ble_eq_true rfl) dX2_acted_256 ?_
      refine lv_goto (tgt := 285) hx hb dX2_acted_259 (by decide) ?_
      exact W.lret (v := (fX2_power w x2 (x4 &&& (31 : Int64)))) hx hb hr (fun t ht hW => ⟨_, rfl, hq, ht⟩) (fun _ h => absurd h List.not_mem_nil) dX2_acted_285
  rw [if_neg c15] at hq
  by_cases c17 : x1 = 15
  · rw [if_pos c17] at hq
    refine lv_tableIn (tgt := 286) hx hb dX2_acted_1 (by rw [c17]; decide) (by rw [c17]; decide) (by rw [c17]; rfl) (by decide) ?_
    refine lv_aload_n hx hb dX2_acted_286 rfl (lv_at hl 0 rfl) ?_
    refine lv_lload_n hx hb dX2_acted_287 rfl (lv_at hl 2 rfl) ?_
    refine lv_lload hx hb dX2_acted_288 (lv_at hl 3 rfl) ?_
    refine lv_aload_n hx hb dX2_acted_290 rfl (lv_at hl 0 rfl) ?_
    refine vk_getf (v := .int (fo_spare w)) hx hb (fo_spare_K hK0) va_S.rf hown (hts _ tw_fieldLink_RX2_39_GlulxFloats_Form_spare_I) (fun _ h9 => h9) dX2_acted_291 ?_
    refine bx_lshl hx hb dX2_acted_294 ?_
    refine lv_aload_n hx hb dX2_acted_295 rfl (lv_at hl 0 rfl) ?_
    refine vk_getf (v := .int (fo_spare w)) hx hb (fo_spare_K hK0) va_S.rf hown (hts _ tw_fieldLink_RX2_39_GlulxFloats_Form_spare_I) (fun _ h9 => h9) dX2_acted_296 ?_
    refine bx_lshr hx hb dX2_acted_299 ?_
    refine bx_vl C (kX2_scaled l w h0 x2 (jl_shr (jl_shl x4 (fo_spare w)) (fo_spare w))) BX2_scaled (fun U u1 u2 => fo_B w h0 s U u1 u2 hK0) (fun U u1 u2 => (fo_B w h0 s U u1 u2 hK0).1) tw_methodLink_RX2_92_yX2_scaled mbX2_scaled rfl ⟨rfl, rfl⟩ ⟨Nat.le_of_ble_eq_true rfl, Nat.le_of_ble_eq_true rfl⟩ ⟨Nat.zero_le _, Nat.zero_le _⟩ hl.1 rfl (Nat.le_of_ble_eq_true rfl) dX2_acted_300 ?_
    exact W.lret (v := (fX2_scaled w x2 (jl_shr (jl_shl x4 (fo_spare w)) (fo_spare w)))) hx hb hr (fun t ht hW => ⟨_, rfl, hq, ht⟩) (fun _ h => absurd h List.not_mem_nil) dX2_acted_303
  rw [if_neg c17] at hq
  by_cases c18 : x1 = 16
  · rw [if_pos c18] at hq
    refine lv_tableIn (tgt := 304) hx hb dX2_acted_1 (by rw [c18]; decide) (by rw [c18]; decide) (by rw [c18]; rfl) (by decide) ?_
    refine lv_aload_n hx hb dX2_acted_304 rfl (lv_at hl 0 rfl) ?_
    refine lv_lload_n hx hb dX2_acted_305 rfl (lv_at hl 2 rfl) ?_
    refine bx_vl C (kX2_above l w h0 x2) BX2_above (fun U u1 u2 => fo_B w h0 s U u1 u2 hK0) (fun U u1 u2 => (fo_B w h0 s U u1 u2 hK0).1) tw_methodLink_RX2_95_yX2_above mbX2_above rfl ⟨rfl, rfl⟩ ⟨Nat.le_of_ble_eq_true rfl, Nat.le_of_ble_eq_true rfl⟩ ⟨Nat.zero_le _, Nat.zero_le _⟩ hl.1 rfl (Nat.le_of_ble_eq_true rfl) dX2_acted_306 ?_
    exact W.lret (v := (fX2_above w x2)) hx hb hr (fun t ht hW => ⟨_, rfl, hq, ht⟩) (fun _ h => absurd h List.not_mem_nil) dX2_acted_309
  rw [if_neg c18] at hq
  by_cases c19 : x1 = 17
  · rw [if_pos c19] at hq
    refine lv_tableIn (tgt := 310) hx hb dX2_acted_1 (by rw [c19]; decide) (by rw [c19]; decide) (by rw [c19]; rfl) (by decide) ?_
    refine lv_aload_n hx hb dX2_acted_310 rfl (lv_at hl 0 rfl) ?_
    refine lv_lload_n hx hb dX2_acted_311 rfl (lv_at hl 2 rfl) ?_
    refine bx_vl C (kX2_size l w h0 x2) BX2_size (fun U u1 u2 => fo_B w h0 s U u1 u2 hK0) (fun U u1 u2 => (fo_B w h0 s U u1 u2 hK0).1) tw_methodLink_RX2_82_yX2_size mbX2_size rfl ⟨rfl, rfl⟩ ⟨Nat.le_of_ble_eq_true rfl, Nat.le_of_ble_eq_true rfl⟩ ⟨Nat.zero_le _, Nat.zero_le _⟩ hl.1 rfl (Nat.le_of_ble_eq_true rfl) dX2_acted_312 ?_
    refine lv_lload hx hb dX2_acted_315 (lv_at hl 3 rfl) ?_
    refine lv_aload_n hx hb dX2_acted_317 rfl (lv_at hl 0 rfl) ?_
    refine vk_getf (v := .long (fo_sign w)) hx hb (fo_sign_K hK0) va_S.rf hown (hts _ tw_fieldLink_RX2_42_GlulxFloats_Form_sign_J) (fun _ h9 => h9) dX2_acted_318 ?_
    refine lv_land hx hb dX2_acted_321 ?_
    refine lv_lor hx hb dX2_acted_322 ?_
    exact W.lret (v := ((fX2_size w x2) ||| (x4 &&& (fo_sign w)))) hx hb hr (fun t ht hW => ⟨_, rfl, hq, ht⟩) (fun _ h => absurd h List.not_mem_nil) dX2_acted_323
  rw [if_neg c19] at hq
  by_cases c20 : x1 = 18
  · rw [if_pos c20] at hq
    refine lv_tableIn (tgt := 324) hx hb dX2_acted_1 (by rw [c20]; decide) (by rw [c20]; decide) (by rw [c20]; rfl) (by decide) ?_
    refine lv_aload_n hx hb dX2_acted_324 rfl (lv_at hl 0 rfl) ?_
    refine lv_lload_n hx hb dX2_acted_325 rfl (lv_at hl 2 rfl) ?_
    refine bx_vl C (kX2_gap l w h0 x2) BX2_gap (fun U u1 u2 => fo_B w h0 s U u1 u2 hK0) (fun U u1 u2 => (fo_B w h0 s U u1 u2 hK0).1) tw_methodLink_RX2_98_yX2_gap mbX2_gap rfl ⟨rfl, rfl⟩ ⟨Nat.le_of_ble_eq_true rfl, Nat.le_of_ble_eq_true rfl⟩ ⟨Nat.zero_le _, Nat.zero_le _⟩ hl.1 rfl (Nat.le_of_ble_eq_true rfl) dX2_acted_326 ?_
    exact W.lret (v := (fX2_gap w x2)) hx hb hr (fun t ht hW => ⟨_, rfl, hq, ht⟩) (fun _ h => absurd h List.not_mem_nil) dX2_acted_329
  rw [if_neg c20] at hq
  by_cases c21 : x1 = 19
  · rw [if_pos c21] at hq
    refine lv_tableIn (tgt := 330) hx hb dX2_acted_1 (by rw [c21]; decide) (by rw [c21]; decide) (by rw [c21]; rfl) (by decide) ?_
    refine lv_aload_n hx hb dX2_acted_330 rfl (lv_at hl 0 rfl) ?_
    refine lv_lload_n hx hb dX2_acted_331 rfl (lv_at hl 2 rfl) ?_
    refine bx_vi C (kX2_biased l w h0 x2) BX2_biased (fun U u1 u2 => fo_B w h0 s U u1 u2 hK0) (fun U u1 u2 => (fo_B w h0 s U u1 u2 hK0).1) tw_methodLink_RX2_101_yX2_biased mbX2_biased rfl ⟨rfl, rfl⟩ ⟨Nat.le_of_ble_eq_true rfl, Nat.le_of_ble_eq_true rfl⟩ ⟨Nat.zero_le _, Nat.zero_le _⟩ hl.1 rfl (Nat.le_of_ble_eq_true rfl) dX2_acted_332 ?_
    refine lv_aload_n hx hb dX2_acted_335 rfl (lv_at hl 0 rfl) ?_
    refine vk_getf (v := .int (fo_bias w)) hx hb (fo_bias_K hK0) va_S.rf hown (hts _ tw_fieldLink_RX2_33_GlulxFloats_Form_bias_I) (fun _ h9 => h9) dX2_acted_336 ?_
    refine lv_isub hx hb dX2_acted_339 ?_
    refine bx_i2l hx hb dX2_acted_340 ?_
    exact W.lret (v := ((fX2_biased w x2) - (fo_bias w)).toInt64) hx hb hr (fun t ht hW => ⟨_, rfl, hq, ht⟩) (fun _ h => absurd h List.not_mem_nil) dX2_acted_341
  rw [if_neg c21] at hq
  by_cases c22 : x1 = 20
  · rw [if_pos c22] at hq
    refine lv_tableIn (tgt := 342) hx hb dX2_acted_1 (by rw [c22]; decide) (by rw [c22]; decide) (by rw [c22]; rfl) (by decide) ?_
    refine lv_aload_n hx hb dX2_acted_342 rfl (lv_at hl 0 rfl) ?_
    refine lv_lload_n hx hb dX2_acted_343 rfl (lv_at hl 2 rfl) ?_
    refine lv_lload hx hb dX2_acted_344 (lv_at hl 3 rfl) ?_
    refine lv_lload hx hb dX2_acted_346 (lv_at hl 4 rfl) ?_
    refine bx_vl C (kX2_fused l w h0 x2 x4 x6) BX2_fused (fun U u1 u2 => fo_B w h0 s U u1 u2 hK0) (fun U u1 u2 => (fo_B w h0 s U u1 u2 hK0).1) tw_methodLink_RX2_105_yX2_fused mbX2_fused rfl ⟨rfl, rfl⟩ ⟨Nat.le_of_ble_eq_true rfl, Nat.le_of_ble_eq_true rfl⟩ ⟨Nat.zero_le _, Nat.zero_le _⟩ hl.1 rfl (Nat.le_of_ble_eq_true rfl) dX2_acted_348 ?_
    exact W.lret (v := (fX2_fused w x2 x4 x6)) hx hb hr (fun t ht hW => ⟨_, rfl, hq, ht⟩) (fun _ h => absurd h List.not_mem_nil) dX2_acted_351
  rw [if_neg c22] at hq
  by_cases c23 : x1 = 21
  · rw [if_pos c23] at hq
    refine lv_tableIn (tgt := 352) hx hb dX2_acted_1 (by rw [c23]; decide) (by rw [c23]; decide) (by rw [c23]; rfl) (by decide) ?_
    refine lv_aload_n hx hb dX2_acted_352 rfl (lv_at hl 0 rfl) ?_
    refine lv_lload_n hx hb dX2_acted_353 rfl (lv_at hl 2 rfl) ?_
    refine bx_l2i hx hb dX2_acted_354 ?_
    refine bx_vl C (kX2_ofWhole l w h0 x2.toInt32) BX2_ofWhole (fun U u1 u2 => fo_B w h0 s U u1 u2 hK0) (fun U u1 u2 => (fo_B w h0 s U u1 u2 hK0).1) tw_methodLink_RX2_109_yX2_ofWhole mbX2_ofWhole rfl ⟨rfl, rfl⟩ ⟨Nat.le_of_ble_eq_true rfl, Nat.le_of_ble_eq_true rfl⟩ ⟨Nat.zero_le _, Nat.zero_le _⟩ hl.1 rfl (Nat.le_of_ble_eq_true rfl) dX2_acted_355 ?_
    exact W.lret (v := (fX2_ofWhole w x2.toInt32)) hx hb hr (fun t ht hW => ⟨_, rfl, hq, ht⟩) (fun _ h => absurd h List.not_mem_nil) dX2_acted_358
  rw [if_neg c23] at hq
  by_cases c24 : x1 = 22
  · rw [if_pos c24] at hq
    refine lv_tableIn (tgt := 359) hx hb dX2_acted_1 (by rw [c24]; decide) (by rw [c24]; decide) (by rw [c24]; rfl) (by decide) ?_
    refine lv_aload_n hx hb dX2_acted_359 rfl (lv_at hl 0 rfl) ?_
    refine lv_lload_n hx hb dX2_acted_360 rfl (lv_at hl 2 rfl) ?_
    refine bx_vl C (kX2_cut l w h0 x2) BX2_cut (fun U u1 u2 => fo_B w h0 s U u1 u2 hK0) (fun U u1 u2 => (fo_B w h0 s U u1 u2 hK0).1) tw_methodLink_RX2_113_yX2_cut mbX2_cut rfl ⟨rfl, rfl⟩ ⟨Nat.le_of_ble_eq_true rfl, Nat.le_of_ble_eq_true rfl⟩ ⟨Nat.zero_le _, Nat.zero_le _⟩ hl.1 rfl (Nat.le_of_ble_eq_true rfl) dX2_acted_361 ?_
    exact W.lret (v := (fX2_cut w x2)) hx hb hr (fun t ht hW => ⟨_, rfl, hq, ht⟩) (fun _ h => absurd h List.not_mem_nil) dX2_acted_364
  rw [if_neg c24] at hq
  by_cases c25 : x1 = 23
  · rw [if_pos c25] at hq
    refine lv_tableIn (tgt := 365) hx hb dX2_acted_1 (by rw [c25]; decide) (by rw [c25]; decide) (by rw [c25]; rfl) (by decide) ?_
    refine lv_aload_n hx hb dX2_acted_365 rfl (lv_at hl 0 rfl) ?_
    refine lv_lload_n hx hb dX2_acted_366 rfl (lv_at hl 2 rfl) ?_
    refine bx_vi C (kX2_isNan l w h0 x2) BX2_isNan (fun U u1 u2 => fo_B w h0 s U u1 u2 hK0) (fun U u1 u2 => (fo_B w h0 s U u1 u2 hK0).1) tw_methodLink_RX2_116_yX2_isNan mbX2_isNan rfl ⟨rfl, rfl⟩ ⟨Nat.le_of_ble_eq_true rfl, Nat.le_of_ble_eq_true rfl⟩ ⟨Nat.zero_le _, Nat.zero_le _⟩ hl.1 rfl (Nat.le_of_ble_eq_true rfl) dX2_acted_367 ?_
    refine lv_if_eq (tgt := 381) hx hb dX2_acted_370 (by decide) (fun c26 => ?_) (fun c26 => ?_)
    · rw [if_pos c26] at hq
      refine lv_aload_n hx hb dX2_acted_381 rfl (lv_at hl 0 rfl) ?_
      refine lv_aload_n hx hb dX2_acted_382 rfl (lv_at hl 0 rfl) ?_
      refine lv_lload_n hx hb dX2_acted_383 rfl (lv_at hl 2 rfl) ?_
      refine lv_iconst (v := 2) hx hb dX2_acted_384 (by decide) ?_
      refine bx_vl C (kX2_whole l w h0 x2 (2 : Int32)) BX2_whole (fun U u1 u2 => fo_B w h0 s U u1 u2 hK0) (fun U u1 u2 => (fo_B w h0 s U u1 u2 hK0).1) tw_methodLink_RX2_72_yX2_whole mbX2_whole rfl ⟨rfl, rfl⟩ ⟨Nat.le_of_ble_eq_true rfl, Nat.le_of_ble_eq_true rfl⟩ ⟨Nat.zero_le _, Nat.zero_le _⟩ hl.1 rfl (Nat.le_of_ble_eq_true rfl) dX2_acted_385 ?_
      refine bx_vl C (kX2_cut l w h0 (fX2_whole w x2 (2 : Int32))) BX2_cut (fun U u1 u2 => fo_B w h0 s U u1 u2 hK0) (fun U u1 u2 => (fo_B w h0 s U u1 u2 hK0).1) tw_methodLink_RX2_113_yX2_cut mbX2_cut rfl ⟨rfl, rfl⟩ ⟨Nat.le_of_ble_eq_true rfl, Nat.le_of_ble_eq_true rfl⟩ ⟨Nat.zero_le _, Nat.zero_le _⟩ hl.1 rfl (Nat.le_of_ble_eq_true rfl) dX2_acted_388 ?_
      exact W.lret (v := (fX2_cut w (fX2_whole w x2 (2 : Int32)))) hx hb hr (fun t ht hW => ⟨_, rfl, hq, ht⟩) (fun _ h => absurd h List.not_mem_nil) dX2_acted_391
    · rw [if_neg c26] at hq
      refine lv_aload_n hx hb dX2_acted_373 rfl (lv_at hl 0 rfl) ?_
      refine lv_lload_n hx hb dX2_acted_374 rfl (lv_at hl 2 rfl) ?_
      refine bx_vl C (kX2_cut l w h0 x2) BX2_cut (fun U u1 u2 => fo_B w h0 s U u1 u2 hK0) (fun U u1 u2 => (fo_B w h0 s U u1 u2 hK0).1) tw_methodLink_RX2_113_yX2_cut mbX2_cut rfl ⟨rfl, rfl⟩ ⟨Nat.le_of_ble_eq_true rfl, Nat.le_of_ble_eq_true rfl⟩ ⟨Nat.zero_le _, Nat.zero_le _⟩ hl.1 rfl (Nat.le_of_ble_eq_true rfl) dX2_acted_375 ?_
      refine lv_goto (tgt := 391) hx hb dX2_acted_378 (by decide) ?_
      exact W.lret (v := (fX2_cut w x2)) hx hb hr (fun t ht hW => ⟨_, rfl, hq, ht⟩) (fun _ h => absurd h List.not_mem_nil) dX2_acted_391
  rw [if_neg c25] at hq
  refine lv_tableOut (tgt := 392) hx hb dX2_acted_1 (sw_out (0) (23) (fun n h1 h2 => ?_)) (by decide) ?_
  · rcases (show n = 0 ∨ n = 1 ∨ n = 2 ∨ n = 3 ∨ n = 4 ∨ n = 5 ∨ n = 6 ∨ n = 7 ∨ n = 8 ∨ n = 9 ∨ n = 10 ∨ n = 11 ∨ n = 12 ∨ n = 13 ∨ n = 14 ∨ n = 15 ∨ n = 16 ∨ n = 17 ∨ n = 18 ∨ n = 19 ∨ n = 20 ∨ n = 21 ∨ n = 22 ∨ n = 23 by omega) with rfl | rfl | rfl | rfl | rfl | rfl | rfl | rfl | rfl | rfl | rfl | rfl | rfl | rfl | rfl | rfl | rfl | rfl | rfl | rfl | rfl | rfl | rfl | rfl
    · exact c1
    · exact c2
    · exact c3
    · exact c4
    · exact c5
    · exact c6
    · exact c7
    · exact c8
    · exact c9
    · exact c10
    · exact c11
    · exact c12
    · exact c13
    · exact c14
    · exact c15
    · exact c17
    · exact c18
    · exact c19
    · exact c20
    · exact c21
    · exact c22
    · exact c23
    · exact c24
    · exact c25
  refine lv_aload_n hx hb dX2_acted_392 rfl (lv_at hl 0 rfl) ?_
  refine vk_getf (v := .long (fo_nan w)) hx hb (fo_nan_K hK0) va_S.rf hown (hts _ tw_fieldLink_RX2_52_GlulxFloats_Form_nan_J) (fun _ h9 => h9) dX2_acted_393 ?_
  exact W.lret (v := (fo_nan w)) hx hb hr (fun t ht hW => ⟨_, rfl, hq, ht⟩) (fun _ h => absurd h List.not_mem_nil) dX2_acted_396
theorem kX2_acted (l : Launch) (w : Bool) (h0 : Nat) (x1 : Int32) (x2 : Int64) (x4 : Int64) (x6 : Int64) : Met l yX2_acted (Cond.code yX2_acted cX2_acted 8 (some .long) :: bw) rmX2_acted (va_Pc [.ref h0, .int x1, .long x2, .long x4, .long x6] (fun U => fo_K w h0 U)) (vp_Sl (fun r => r = fX2_acted w x1 x2 x4 x6)) 0 0 (fun _ => False) := by
  refine bx_ent (by decide) _ _ (Nat.le_of_ble_eq_true rfl) rfl ?_
  intro p e s m below meth c ls C hl hK0
  exact bX2_acted_0 w x1 x2 x4 x6 C hK0 hl _ rfl
abbrev rmX2_isNear : Room := { frames := 3, cells := 0, slots := 0, locals := 93 }
theorem mbX2_isNear : mb_V RX2 yX2_isNear cX2_isNear 7 (some .boolean) 3 := ⟨⟨tw_instanceMethod_yX2_isNear, tw_selects_RX2_yX2_isNear_yX2_isNear, tw_initialized_RX2, tw_code_yX2_isNear⟩, rfl, by decide +kernel, by decide +kernel, by decide +kernel⟩
theorem BX2_isNear {w : Bool} {h0 : Nat} : bx_B (fun U => fo_K w h0 U) := fo_B w h0
set_option maxRecDepth 20000 in
theorem bX2_isNear_55 (w : Bool) (x1 : Int64) (x3 : Int64) (x5 : Int64) {p : Program} {l : Launch} {e : Env} {s : State} {m : MethodId} {args : Array Value} {below : List Frame} {meth : Method} {c : Code} {h0 : Nat} {ls : Array Slot} (C : bx_C p s m args meth c cX2_isNear 7 (some .boolean) RX2) (hK0 : fo_K w h0 s) (hl : lv_has ls 7 [(0, .ref h0), (1, .long x1), (3, .long x3), (5, .long x5)]) (post : Int32 → Prop) (hq : post (fX2_isNear_55 w x1 x3 x5)) : W p l e rmX2_isNear s m args below meth c s.heap [] 0 0 (MQ below (vp_Si post) args s 0 0 (fun _ => False)) (F0 m 55 ls []) := by
  obtain ⟨hx, hb, hml, hr, hlocks, hown, hts⟩ := id C
  unfold fX2_isNear_55 at hq
  refine lv_aload_n hx hb dX2_isNear_55 rfl (lv_at hl 0 rfl) ?_
  refine lv_lload hx hb dX2_isNear_56 (lv_at hl 3 rfl) ?_
  refine bx_vi C (kX2_isInfinite l w h0 x5) BX2_isInfinite (fun U u1 u2 => fo_B w h0 s U u1 u2 hK0) (fun U u1 u2 => (fo_B w h0 s U u1 u2 hK0).1) tw_methodLink_RX2_127_yX2_isInfinite mbX2_isInfinite rfl ⟨rfl, rfl⟩ ⟨Nat.le_of_ble_eq_true rfl, Nat.le_of_ble_eq_true rfl⟩ ⟨Nat.zero_le _, Nat.zero_le _⟩ hl.1 rfl (Nat.le_of_ble_eq_true rfl) dX2_isNear_58 ?_
  refine lv_if_ne (tgt := 89) hx hb dX2_isNear_61 (by decide) (fun c5 => ?_) (fun c5 => ?_)
  · rw [if_neg c5] at hq
    refine lv_iconst (v := 1) hx hb dX2_isNear_89 (by decide) ?_
    refine lv_goto (tgt := 94) hx hb dX2_isNear_90 (by decide) ?_
    exact W.zret (v := (1 : Int32)) hx hb hr (ji_z_narrow (by repeat' (first | with_reducible exact ji_z0 | with_reducible exact ji_z1 | with_reducible refine ji_z_ite ?_ ?_ | with_reducible assumption | with_reducible exact zX2_isNan .. | with_reducible exact zX2_isInfinite ..))) (fun t ht hW => ⟨_, rfl, hq, ht⟩) (fun _ h => absurd h List.not_mem_nil) dX2_isNear_94
  · rw [if_pos c5] at hq
    refine lv_aload_n hx hb dX2_isNear_64 rfl (lv_at hl 0 rfl) ?_
    refine lv_aload_n hx hb dX2_isNear_65 rfl (lv_at hl 0 rfl) ?_
    refine lv_lload_n hx hb dX2_isNear_66 rfl (lv_at hl 1 rfl) ?_
    refine lv_lload_n hx hb dX2_isNear_67 rfl (lv_at hl 2 rfl) ?_
    refine lv_aload_n hx hb dX2_isNear_68 rfl (lv_at hl 0 rfl) ?_
    refine vk_getf (v := .long (fo_sign w)) hx hb (fo_sign_K hK0) va_S.rf hown (hts _ tw_fieldLink_RX2_42_GlulxFloats_Form_sign_J) (fun _ h9 => h9) dX2_isNear_69 ?_
    refine lv_lxor hx hb dX2_isNear_72 ?_
    refine bx_vl C (kX2_sum l w h0 x1 (x3 ^^^ (fo_sign w))) BX2_sum (fun U u1 u2 => fo_B w h0 s U u1 u2 hK0) (fun U u1 u2 => (fo_B w h0 s U u1 u2 hK0).1) tw_methodLink_RX2_55_yX2_sum mbX2_sum rfl ⟨rfl, rfl⟩ ⟨Nat.le_of_ble_eq_true rfl, Nat.le_of_ble_eq_true rfl⟩ ⟨Nat.zero_le _, Nat.zero_le _⟩ hl.1 rfl (Nat.le_of_ble_eq_true rfl) dX2_isNear_73 ?_
    refine bx_vl C (kX2_size l w h0 (fX2_sum w x1 (x3 ^^^ (fo_sign w)))) BX2_size (fun U u1 u2 => fo_B w h0 s U u1 u2 hK0) (fun U u1 u2 => (fo_B w h0 s U u1 u2 hK0).1) tw_methodLink_RX2_82_yX2_size mbX2_size rfl ⟨rfl, rfl⟩ ⟨Nat.le_of_ble_eq_true rfl, Nat.le_of_ble_eq_true rfl⟩ ⟨Nat.zero_le _, Nat.zero_le _⟩ hl.1 rfl (Nat.le_of_ble_eq_true rfl) dX2_isNear_76 ?_
    refine lv_aload_n hx hb dX2_isNear_79 rfl (lv_at hl 0 rfl) ?_
    refine lv_lload hx hb dX2_isNear_80 (lv_at hl 3 rfl) ?_
    refine bx_vl C (kX2_size l w h0 x5) BX2_size (fun U u1 u2 => fo_B w h0 s U u1 u2 hK0) (fun U u1 u2 => (fo_B w h0 s U u1 u2 hK0).1) tw_methodLink_RX2_82_yX2_size mbX2_size rfl ⟨rfl, rfl⟩ ⟨Nat.le_of_ble_eq_true rfl, Nat.le_of_ble_eq_true rfl⟩ ⟨Nat.zero_le _, Nat.zero_le _⟩ hl.1 rfl (Nat.le_of_ble_eq_true rfl) dX2_isNear_82 ?_
    refine bx_lc_gt (tgt := 93) hx hb dX2_isNear_85 dX2_isNear_86 (by decide) (fun c6 => ?_) (fun c6 => ?_)
    · rw [if_pos c6] at hq
      refine lv_iconst (v := 0) hx hb dX2_isNear_93 (by decide) ?_
      exact W.zret (v := (0 : Int32)) hx hb hr (ji_z_narrow (by repeat' (first | with_reducible exact ji_z0 | with_reducible exact ji_z1 | with_reducible refine ji_z_ite ?_ ?_ | with_reducible assumption | with_reducible exact zX2_isNan .. | with_reducible exact zX2_isInfinite ..))) (fun t ht hW => ⟨_, rfl, hq, ht⟩) (fun _ h => absurd h List.not_mem_nil) dX2_isNear_94
    · rw [if_neg c6] at hq
      refine lv_iconst (v := 1) hx hb dX2_isNear_89 (by decide) ?_
      refine lv_goto (tgt := 94) hx hb dX2_isNear_90 (by decide) ?_
      exact W.zret (v := (1 : Int32)) hx hb hr (ji_z_narrow (by repeat' (first | with_reducible exact ji_z0 | with_reducible exact ji_z1 | with_reducible refine ji_z_ite ?_ ?_ | with_reducible assumption | with_reducible exact zX2_isNan .. | with_reducible exact zX2_isInfinite ..))) (fun t ht hW => ⟨_, rfl, hq, ht⟩) (fun _ h => absurd h List.not_mem_nil) dX2_isNear_94
set_option maxRecDepth 20000 in
theorem bX2_isNear_0 (w : Bool) (x1 : Int64) (x3 : Int64) (x5 : Int64) {p : Program} {l : Launch} {e : Env} {s : State} {m : MethodId} {args : Array Value} {below : List Frame} {meth : Method} {c : Code} {h0 : Nat} {ls : Array Slot} (C : bx_C p s m args meth c cX2_isNear 7 (some .boolean) RX2) (hK0 : fo_K w h0 s) (hl : lv_has ls 7 [(0, .ref h0), (1, .long x1), (3, .long x3), (5, .long x5)]) (post : Int32 → Prop) (hq : post (fX2_isNear w x1 x3 x5)) : W p l e rmX2_isNear s m args below meth c s.heap [] 0 0 (MQ below (vp_Si post) args s 0 0 (fun _ => False)) (F0 m 0 ls []) := by
  obtain ⟨hx, hb, hml, hr, hlocks, hown, hts⟩ := id C
  unfold fX2_isNear at hq
  refine lv_aload_n hx hb dX2_isNear_0 rfl (lv_at hl 0 rfl) ?_
  refine lv_lload_n hx hb dX2_isNear_1 rfl (lv_at hl 1 rfl) ?_
  refine bx_vi C (kX2_isNan l w h0 x1) BX2_isNan (fun U u1 u2 => fo_B w h0 s U u1 u2 hK0) (fun U u1 u2 => (fo_B w h0 s U u1 u2 hK0).1) tw_methodLink_RX2_116_yX2_isNan mbX2_isNan rfl ⟨rfl, rfl⟩ ⟨Nat.le_of_ble_eq_true rfl, Nat.le_of_ble_eq_true rfl⟩ ⟨Nat.zero_le _, Nat.zero_le _⟩ hl.1 rfl (Nat.le_of_ble_eq_true rfl) dX2_isNear_2 ?_
  refine lv_if_ne (tgt := 25) hx hb dX2_isNear_5 (by decide) (fun c1 => ?_) (fun c1 => ?_)
  · rw [if_neg c1] at hq
    refine lv_iconst (v := 0) hx hb dX2_isNear_25 (by decide) ?_
    exact W.zret (v := (0 : Int32)) hx hb hr (ji_z_narrow (by repeat' (first | with_reducible exact ji_z0 | with_reducible exact ji_z1 | with_reducible refine ji_z_ite ?_ ?_ | with_reducible assumption | with_reducible exact zX2_isNan .. | with_reducible exact zX2_isInfinite ..))) (fun t ht hW => ⟨_, rfl, hq, ht⟩) (fun _ h => absurd h List.not_mem_nil) dX2_isNear_26
  · rw [if_pos c1] at hq
    refine lv_aload_n hx hb dX2_isNear_8 rfl (lv_at hl 0 rfl) ?_
    refine lv_lload_n hx hb dX2_isNear_9 rfl (lv_at hl 2 rfl) ?_
    refine bx_vi C (kX2_isNan l w h0 x3) BX2_isNan (fun U u1 u2 => fo_B w h0 s U u1 u2 hK0) (fun U u1 u2 => (fo_B w h0 s U u1 u2 hK0).1) tw_methodLink_RX2_116_yX2_isNan mbX2_isNan rfl ⟨rfl, rfl⟩ ⟨Nat.le_of_ble_eq_true rfl, Nat.le_of_ble_eq_true rfl⟩ ⟨Nat.zero_le _, Nat.zero_le _⟩ hl.1 rfl (Nat.le_of_ble_eq_true rfl) dX2_isNear_10 ?_
    refine lv_if_ne (tgt := 25) hx hb dX2_isNear_13 (by decide) (fun c2 => ?_) (fun c2 => ?_)
    · rw [if_neg c2] at hq
      refine lv_iconst (v := 0) hx hb dX2_isNear_25 (by decide) ?_
      exact W.zret (v := (0 : Int32)) hx hb hr (ji_z_narrow (by repeat' (first | with_reducible exact ji_z0 | with_reducible exact ji_z1 | with_reducible refine ji_z_ite ?_ ?_ | with_reducible assumption | with_reducible exact zX2_isNan .. | with_reducible exact zX2_isInfinite ..))) (fun t ht hW => ⟨_, rfl, hq, ht⟩) (fun _ h => absurd h List.not_mem_nil) dX2_isNear_26
    · rw [if_pos c2] at hq
      refine lv_aload_n hx hb dX2_isNear_16 rfl (lv_at hl 0 rfl) ?_
      refine lv_lload hx hb dX2_isNear_17 (lv_at hl 3 rfl) ?_
      refine bx_vi C (kX2_isNan l w h0 x5) BX2_isNan (fun U u1 u2 => fo_B w h0 s U u1 u2 hK0) (fun U u1 u2 => (fo_B w h0 s U u1 u2 hK0).1) tw_methodLink_RX2_116_yX2_isNan mbX2_isNan rfl ⟨rfl, rfl⟩ ⟨Nat.le_of_ble_eq_true rfl, Nat.le_of_ble_eq_true rfl⟩ ⟨Nat.zero_le _, Nat.zero_le _⟩ hl.1 rfl (Nat.le_of_ble_eq_true rfl) dX2_isNear_19 ?_
      refine lv_if_eq (tgt := 27) hx hb dX2_isNear_22 (by decide) (fun c3 => ?_) (fun c3 => ?_)
      · rw [if_pos c3] at hq
        refine lv_aload_n hx hb dX2_isNear_27 rfl (lv_at hl 0 rfl) ?_
        refine lv_lload_n hx hb dX2_isNear_28 rfl (lv_at hl 1 rfl) ?_
        refine bx_vi C (kX2_isInfinite l w h0 x1) BX2_isInfinite (fun U u1 u2 => fo_B w h0 s U u1 u2 hK0) (fun U u1 u2 => (fo_B w h0 s U u1 u2 hK0).1) tw_methodLink_RX2_127_yX2_isInfinite mbX2_isInfinite rfl ⟨rfl, rfl⟩ ⟨Nat.le_of_ble_eq_true rfl, Nat.le_of_ble_eq_true rfl⟩ ⟨Nat.zero_le _, Nat.zero_le _⟩ hl.1 rfl (Nat.le_of_ble_eq_true rfl) dX2_isNear_29 ?_
        refine lv_if_eq (tgt := 55) hx hb dX2_isNear_32 (by decide) (fun c4 => ?_) (fun c4 => ?_)
        · rw [if_pos c4] at hq
          exact bX2_isNear_55 w x1 x3 x5 C hK0 (lv_sub hl [0, 1, 2, 3] rfl) post hq
        · rw [if_neg c4] at hq
          refine lv_aload_n hx hb dX2_isNear_35 rfl (lv_at hl 0 rfl) ?_
          refine lv_lload_n hx hb dX2_isNear_36 rfl (lv_at hl 2 rfl) ?_
          refine bx_vi C (kX2_isInfinite l w h0 x3) BX2_isInfinite (fun U u1 u2 => fo_B w h0 s U u1 u2 hK0) (fun U u1 u2 => (fo_B w h0 s U u1 u2 hK0).1) tw_methodLink_RX2_127_yX2_isInfinite mbX2_isInfinite rfl ⟨rfl, rfl⟩ ⟨Nat.le_of_ble_eq_true rfl, Nat.le_of_ble_eq_true rfl⟩ ⟨Nat.zero_le _, Nat.zero_le _⟩ hl.1 rfl (Nat.le_of_ble_eq_true rfl) dX2_isNear_37 ?_
          refine lv_if_eq (tgt := 55) hx hb dX2_isNear_40 (by decide) (fun c7 => ?_) (fun c7 => ?_)
          · rw [if_pos c7] at hq
            exact bX2_isNear_55 w x1 x3 x5 C hK0 (lv_sub hl [0, 1, 2, 3] rfl) post hq
          · rw [if_neg c7] at hq
            refine lv_lload_n hx hb dX2_isNear_43 rfl (lv_at hl 1 rfl) ?_
            refine lv_lload_n hx hb dX2_isNear_44 rfl (lv_at hl 2 rfl) ?_
            refine bx_lc_ne (tgt := 53) hx hb dX2_isNear_45 dX2_isNear_46 (by decide) (fun c8 => ?_) (fun c8 => ?_)
            · rw [if_neg c8] at hq
              refine lv_iconst (v := 0) hx hb dX2_isNear_53 (by decide) ?_
              exact W.zret (v := (0 : Int32)) hx hb hr (ji_z_narrow (by repeat' (first | with_reducible exact ji_z0 | with_reducible exact ji_z1 | with_reducible refine ji_z_ite ?_ ?_ | with_reducible assumption | with_reducible exact zX2_isNan .. | with_reducible exact zX2_isInfinite .. | with_reducible exact zX2_isNear_55 ..))) (fun t ht hW => ⟨_, rfl, hq, ht⟩) (fun _ h => absurd h List.not_mem_nil) dX2_isNear_54
            · rw [if_pos c8] at hq
              refine lv_iconst (v := 1) hx hb dX2_isNear_49 (by decide) ?_
              refine lv_goto (tgt := 54) hx hb dX2_isNear_50 (by decide) ?_
              exact W.zret (v := (1 : Int32)) hx hb hr (ji_z_narrow (by repeat' (first | with_reducible exact ji_z0 | with_reducible exact ji_z1 | with_reducible refine ji_z_ite ?_ ?_ | with_reducible assumption | with_reducible exact zX2_isNan .. | with_reducible exact zX2_isInfinite .. | with_reducible exact zX2_isNear_55 ..))) (fun t ht hW => ⟨_, rfl, hq, ht⟩) (fun _ h => absurd h List.not_mem_nil) dX2_isNear_54
      · rw [if_neg c3] at hq
        refine lv_iconst (v := 0) hx hb dX2_isNear_25 (by decide) ?_
        exact W.zret (v := (0 : Int32)) hx hb hr (ji_z_narrow (by repeat' (first | with_reducible exact ji_z0 | with_reducible exact ji_z1 | with_reducible refine ji_z_ite ?_ ?_ | with_reducible assumption | with_reducible exact zX2_isNan .. | with_reducible exact zX2_isInfinite .. | with_reducible exact zX2_isNear_55 ..))) (fun t ht hW => ⟨_, rfl, hq, ht⟩) (fun _ h => absurd h List.not_mem_nil) dX2_isNear_26
theorem kX2_isNear (l : Launch) (w : Bool) (h0 : Nat) (x1 : Int64) (x3 : Int64) (x5 : Int64) : Met l yX2_isNear (Cond.code yX2_isNear cX2_isNear 7 (some .boolean) :: bw) rmX2_isNear (va_Pc [.ref h0, .long x1, .long x3, .long x5] (fun U => fo_K w h0 U)) (vp_Si (fun r => r = fX2_isNear w x1 x3 x5)) 0 0 (fun _ => False) := by
  refine bx_ent (by decide) _ _ (Nat.le_of_ble_eq_true rfl) rfl ?_
  intro p e s m below meth c ls C hl hK0
  exact bX2_isNear_0 w x1 x3 x5 C hK0 hl _ rfl
abbrev rmX2_holds : Room := { frames := 4, cells := 0, slots := 0, locals := 119 }
theorem mbX2_holds : mb_V RX2 yX2_holds cX2_holds 9 (some .boolean) 4 := ⟨⟨tw_instanceMethod_yX2_holds, tw_selects_RX2_yX2_holds_yX2_holds, tw_initialized_RX2, tw_code_yX2_holds⟩, rfl, by decide +kernel, by decide +kernel, by decide +kernel⟩
theorem BX2_holds {w : Bool} {h0 : Nat} : bx_B (fun U => fo_K w h0 U) := fo_B w h0
set_option maxRecDepth 20000 in
theorem bX2_holds_22 (w : Bool) (x1 : Int32) (x2 : Int64) (x4 : Int64) (x6 : Int64) (s0 : Int32) {p : Program} {l : Launch} {e : Env} {s : State} {m : MethodId} {args : Array Value} {below : List Frame} {meth : Method} {c : Code} {h0 : Nat} {ls : Array Slot} (C : bx_C p s m args meth c cX2_holds 9 (some .boolean) RX2) (hK0 : fo_K w h0 s) (hl : lv_has ls 9 [(0, .ref h0), (1, .int x1), (2, .long x2), (4, .long x4), (6, .long x6)]) (post : Int32 → Prop) (hq : post (fX2_holds_22 w x1 x2 x4 x6 s0)) : W p l e rmX2_holds s m args below meth c s.heap [] 0 0 (MQ below (vp_Si post) args s 0 0 (fun _ => False)) (F0 m 22 ls [.int s0]) := by
  obtain ⟨hx, hb, hml, hr, hlocks, hown, hts⟩ := id C
  unfold fX2_holds_22 at hq
  refine lv_istore (lv' := [(8, .int s0), (0, .ref h0), (1, .int x1), (2, .long x2), (4, .long x4), (6, .long x6)]) hx hb dX2_holds_22 hl (by decide) rfl (fun ls hl => ?_)
  refine lv_iload_n hx hb dX2_holds_24 rfl (lv_at hl 2 rfl) ?_
  by_cases c2 : x1 = 0
  · rw [if_pos c2] at hq
    refine lv_tableIn (tgt := 72) hx hb dX2_holds_25 (by rw [c2]; decide) (by rw [c2]; decide) (by rw [c2]; rfl) (by decide) ?_
    refine lv_aload_n hx hb dX2_holds_72 rfl (lv_at hl 1 rfl) ?_
    refine lv_lload_n hx hb dX2_holds_73 rfl (lv_at hl 3 rfl) ?_
    refine lv_lload hx hb dX2_holds_74 (lv_at hl 4 rfl) ?_
    refine lv_lload hx hb dX2_holds_76 (lv_at hl 5 rfl) ?_
    refine bx_vi C (kX2_isNear l w h0 x2 x4 x6) BX2_isNear (fun U u1 u2 => fo_B w h0 s U u1 u2 hK0) (fun U u1 u2 => (fo_B w h0 s U u1 u2 hK0).1) tw_methodLink_RX2_120_yX2_isNear mbX2_isNear rfl ⟨rfl, rfl⟩ ⟨Nat.le_of_ble_eq_true rfl, Nat.le_of_ble_eq_true rfl⟩ ⟨Nat.zero_le _, Nat.zero_le _⟩ hl.1 rfl (Nat.le_of_ble_eq_true rfl) dX2_holds_78 ?_
    exact W.zret (v := (fX2_isNear w x2 x4 x6)) hx hb hr (ji_z_narrow (by repeat' (first | with_reducible exact ji_z0 | with_reducible exact ji_z1 | with_reducible refine ji_z_ite ?_ ?_ | with_reducible assumption | with_reducible exact zX2_isNan .. | with_reducible exact zX2_isNear .. | with_reducible exact zX2_isInfinite ..))) (fun t ht hW => ⟨_, rfl, hq, ht⟩) (fun _ h => absurd h List.not_mem_nil) dX2_holds_81
  rw [if_neg c2] at hq
  by_cases c3 : x1 = 1
  · rw [if_pos c3] at hq
    refine lv_tableIn (tgt := 82) hx hb dX2_holds_25 (by rw [c3]; decide) (by rw [c3]; decide) (by rw [c3]; rfl) (by decide) ?_
    refine lv_aload_n hx hb dX2_holds_82 rfl (lv_at hl 1 rfl) ?_
    refine lv_lload_n hx hb dX2_holds_83 rfl (lv_at hl 3 rfl) ?_
    refine lv_lload hx hb dX2_holds_84 (lv_at hl 4 rfl) ?_
    refine lv_lload hx hb dX2_holds_86 (lv_at hl 5 rfl) ?_
    refine bx_vi C (kX2_isNear l w h0 x2 x4 x6) BX2_isNear (fun U u1 u2 => fo_B w h0 s U u1 u2 hK0) (fun U u1 u2 => (fo_B w h0 s U u1 u2 hK0).1) tw_methodLink_RX2_120_yX2_isNear mbX2_isNear rfl ⟨rfl, rfl⟩ ⟨Nat.le_of_ble_eq_true rfl, Nat.le_of_ble_eq_true rfl⟩ ⟨Nat.zero_le _, Nat.zero_le _⟩ hl.1 rfl (Nat.le_of_ble_eq_true rfl) dX2_holds_88 ?_
    refine lv_if_ne (tgt := 98) hx hb dX2_holds_91 (by decide) (fun c4 => ?_) (fun c4 => ?_)
    · rw [if_neg c4] at hq
      refine lv_iconst (v := 0) hx hb dX2_holds_98 (by decide) ?_
      exact W.zret (v := (0 : Int32)) hx hb hr (ji_z_narrow (by repeat' (first | with_reducible exact ji_z0 | with_reducible exact ji_z1 | with_reducible refine ji_z_ite ?_ ?_ | with_reducible assumption | with_reducible exact zX2_isNan .. | with_reducible exact zX2_isNear .. | with_reducible exact zX2_isInfinite ..))) (fun t ht hW => ⟨_, rfl, hq, ht⟩) (fun _ h => absurd h List.not_mem_nil) dX2_holds_99
    · rw [if_pos c4] at hq
      refine lv_iconst (v := 1) hx hb dX2_holds_94 (by decide) ?_
      refine lv_goto (tgt := 99) hx hb dX2_holds_95 (by decide) ?_
      exact W.zret (v := (1 : Int32)) hx hb hr (ji_z_narrow (by repeat' (first | with_reducible exact ji_z0 | with_reducible exact ji_z1 | with_reducible refine ji_z_ite ?_ ?_ | with_reducible assumption | with_reducible exact zX2_isNan .. | with_reducible exact zX2_isNear .. | with_reducible exact zX2_isInfinite ..))) (fun t ht hW => ⟨_, rfl, hq, ht⟩) (fun _ h => absurd h List.not_mem_nil) dX2_holds_99
  rw [if_neg c3] at hq
  by_cases c5 : x1 = 2
  · rw [if_pos c5] at hq
    refine lv_tableIn (tgt := 100) hx hb dX2_holds_25 (by rw [c5]; decide) (by rw [c5]; decide) (by rw [c5]; rfl) (by decide) ?_
    refine lv_iload hx hb dX2_holds_100 (lv_at hl 0 rfl) ?_
    refine lv_if_eq (tgt := 124) hx hb dX2_holds_102 (by decide) (fun c6 => ?_) (fun c6 => ?_)
    · rw [if_pos c6] at hq
      refine lv_iconst (v := 0) hx hb dX2_holds_124 (by decide) ?_
      exact W.zret (v := (0 : Int32)) hx hb hr (ji_z_narrow (by repeat' (first | with_reducible exact ji_z0 | with_reducible exact ji_z1 | with_reducible refine ji_z_ite ?_ ?_ | with_reducible assumption | with_reducible exact zX2_isNan .. | with_reducible exact zX2_isNear .. | with_reducible exact zX2_isInfinite ..))) (fun t ht hW => ⟨_, rfl, hq, ht⟩) (fun _ h => absurd h List.not_mem_nil) dX2_holds_125
    · rw [if_neg c6] at hq
      refine lv_aload_n hx hb dX2_holds_105 rfl (lv_at hl 1 rfl) ?_
      refine lv_lload_n hx hb dX2_holds_106 rfl (lv_at hl 3 rfl) ?_
      refine bx_vl C (kX2_rank l w h0 x2) BX2_rank (fun U u1 u2 => fo_B w h0 s U u1 u2 hK0) (fun U u1 u2 => (fo_B w h0 s U u1 u2 hK0).1) tw_methodLink_RX2_124_yX2_rank mbX2_rank rfl ⟨rfl, rfl⟩ ⟨Nat.le_of_ble_eq_true rfl, Nat.le_of_ble_eq_true rfl⟩ ⟨Nat.zero_le _, Nat.zero_le _⟩ hl.1 rfl (Nat.le_of_ble_eq_true rfl) dX2_holds_107 ?_
      refine lv_aload_n hx hb dX2_holds_110 rfl (lv_at hl 1 rfl) ?_
      refine lv_lload hx hb dX2_holds_111 (lv_at hl 4 rfl) ?_
      refine bx_vl C (kX2_rank l w h0 x4) BX2_rank (fun U u1 u2 => fo_B w h0 s U u1 u2 hK0) (fun U u1 u2 => (fo_B w h0 s U u1 u2 hK0).1) tw_methodLink_RX2_124_yX2_rank mbX2_rank rfl ⟨rfl, rfl⟩ ⟨Nat.le_of_ble_eq_true rfl, Nat.le_of_ble_eq_true rfl⟩ ⟨Nat.zero_le _, Nat.zero_le _⟩ hl.1 rfl (Nat.le_of_ble_eq_true rfl) dX2_holds_113 ?_
      refine bx_lc_ge (tgt := 124) hx hb dX2_holds_116 dX2_holds_117 (by decide) (fun c7 => ?_) (fun c7 => ?_)
      · rw [if_pos c7] at hq
        refine lv_iconst (v := 0) hx hb dX2_holds_124 (by decide) ?_
        exact W.zret (v := (0 : Int32)) hx hb hr (ji_z_narrow (by repeat' (first | with_reducible exact ji_z0 | with_reducible exact ji_z1 | with_reducible refine ji_z_ite ?_ ?_ | with_reducible assumption | with_reducible exact zX2_isNan .. | with_reducible exact zX2_isNear .. | with_reducible exact zX2_isInfinite ..))) (fun t ht hW => ⟨_, rfl, hq, ht⟩) (fun _ h => absurd h List.not_mem_nil) dX2_holds_125
      · rw [if_neg c7] at hq
        refine lv_iconst (v := 1) hx hb dX2_holds_120 (by decide) ?_
        refine lv_goto (tgt := 125) hx hb dX2_holds_121 (by decide) ?_
        exact W.zret (v := (1 : Int32)) hx hb hr (ji_z_narrow (by repeat' (first | with_reducible exact ji_z0 | with_reducible exact ji_z1 | with_reducible refine ji_z_ite ?_ ?_ | with_reducible assumption | with_reducible exact zX2_isNan .. | with_reducible exact zX2_isNear .. | with_reducible exact zX2_isInfinite ..))) (fun t ht hW => ⟨_, rfl, hq, ht⟩) (fun _ h => absurd h List.not_mem_nil) dX2_holds_125
  rw [if_neg c5] at hq
  by_cases c8 : x1 = 3
  · rw [if_pos c8] at hq
    refine lv_tableIn (tgt := 126) hx hb dX2_holds_25 (by rw [c8]; decide) (by rw [c8]; decide) (by rw [c8]; rfl) (by decide) ?_
    refine lv_iload hx hb dX2_holds_126 (lv_at hl 0 rfl) ?_
    refine lv_if_eq (tgt := 150) hx hb dX2_holds_128 (by decide) (fun c9 => ?_) (fun c9 => ?_)
    · rw [if_pos c9] at hq
      refine lv_iconst (v := 0) hx hb dX2_holds_150 (by decide) ?_
      exact W.zret (v := (0 : Int32)) hx hb hr (ji_z_narrow (by repeat' (first | with_reducible exact ji_z0 | with_reducible exact ji_z1 | with_reducible refine ji_z_ite ?_ ?_ | with_reducible assumption | with_reducible exact zX2_isNan .. | with_reducible exact zX2_isNear .. | with_reducible exact zX2_isInfinite ..))) (fun t ht hW => ⟨_, rfl, hq, ht⟩) (fun _ h => absurd h List.not_mem_nil) dX2_holds_151
    · rw [if_neg c9] at hq
      refine lv_aload_n hx hb dX2_holds_131 rfl (lv_at hl 1 rfl) ?_
      refine lv_lload_n hx hb dX2_holds_132 rfl (lv_at hl 3 rfl) ?_
      refine bx_vl C (kX2_rank l w h0 x2) BX2_rank (fun U u1 u2 => fo_B w h0 s U u1 u2 hK0) (fun U u1 u2 => (fo_B w h0 s U u1 u2 hK0).1) tw_methodLink_RX2_124_yX2_rank mbX2_rank rfl ⟨rfl, rfl⟩ ⟨Nat.le_of_ble_eq_true rfl, Nat.le_of_ble_eq_true rfl⟩ ⟨Nat.zero_le _, Nat.zero_le _⟩ hl.1 rfl (Nat.le_of_ble_eq_true rfl) dX2_holds_133 ?_
      refine lv_aload_n hx hb dX2_holds_136 rfl (lv_at hl 1 rfl) ?_
      refine lv_lload hx hb dX2_holds_137 (lv_at hl 4 rfl) ?_
      refine bx_vl C (kX2_rank l w h0 x4) BX2_rank (fun U u1 u2 => fo_B w h0 s U u1 u2 hK0) (fun U u1 u2 => (fo_B w h0 s U u1 u2 hK0).1) tw_methodLink_RX2_124_yX2_rank mbX2_rank rfl ⟨rfl, rfl⟩ ⟨Nat.le_of_ble_eq_true rfl, Nat.le_of_ble_eq_true rfl⟩ ⟨Nat.zero_le _, Nat.zero_le _⟩ hl.1 rfl (Nat.le_of_ble_eq_true rfl) dX2_holds_139 ?_
      refine bx_lc_gt (tgt := 150) hx hb dX2_holds_142 dX2_holds_143 (by decide) (fun c10 => ?_) (fun c10 => ?_)
      · rw [if_pos c10] at hq
        refine lv_iconst (v := 0) hx hb dX2_holds_150 (by decide) ?_
        exact W.zret (v := (0 : Int32)) hx hb hr (ji_z_narrow (by repeat' (first | with_reducible exact ji_z0 | with_reducible exact ji_z1 | with_reducible refine ji_z_ite ?_ ?_ | with_reducible assumption | with_reducible exact zX2_isNan .. | with_reducible exact zX2_isNear .. | with_reducible exact zX2_isInfinite ..))) (fun t ht hW => ⟨_, rfl, hq, ht⟩) (fun _ h => absurd h List.not_mem_nil) dX2_holds_151
      · rw [if_neg c10] at hq
        refine lv_iconst (v := 1) hx hb dX2_holds_146 (by decide) ?_
        refine lv_goto (tgt := 151) hx hb dX2_holds_147 (by decide) ?_
        exact W.zret (v := (1 : Int32)) hx hb hr (ji_z_narrow (by repeat' (first | with_reducible exact ji_z0 | with_reducible exact ji_z1 | with_reducible refine ji_z_ite ?_ ?_ | with_reducible assumption | with_reducible exact zX2_isNan .. | with_reducible exact zX2_isNear .. | with_reducible exact zX2_isInfinite ..))) (fun t ht hW => ⟨_, rfl, hq, ht⟩) (fun _ h => absurd h List.not_mem_nil) dX2_holds_151
  rw [if_neg c8] at hq
  by_cases c11 : x1 = 4
  · rw [if_pos c11] at hq
    refine lv_tableIn (tgt := 152) hx hb dX2_holds_25 (by rw [c11]; decide) (by rw [c11]; decide) (by rw [c11]; rfl) (by decide) ?_
    refine lv_iload hx hb dX2_holds_152 (lv_at hl 0 rfl) ?_
    refine lv_if_eq (tgt := 176) hx hb dX2_holds_154 (by decide) (fun c12 => ?_) (fun c12 => ?_)
    · rw [if_pos c12] at hq
      refine lv_iconst (v := 0) hx hb dX2_holds_176 (by decide) ?_
      exact W.zret (v := (0 : Int32)) hx hb hr (ji_z_narrow (by repeat' (first | with_reducible exact ji_z0 | with_reducible exact ji_z1 | with_reducible refine ji_z_ite ?_ ?_ | with_reducible assumption | with_reducible exact zX2_isNan .. | with_reducible exact zX2_isNear .. | with_reducible exact zX2_isInfinite ..))) (fun t ht hW => ⟨_, rfl, hq, ht⟩) (fun _ h => absurd h List.not_mem_nil) dX2_holds_177
    · rw [if_neg c12] at hq
      refine lv_aload_n hx hb dX2_holds_157 rfl (lv_at hl 1 rfl) ?_
      refine lv_lload_n hx hb dX2_holds_158 rfl (lv_at hl 3 rfl) ?_
      refine bx_vl C (kX2_rank l w h0 x2) BX2_rank (fun U u1 u2 => fo_B w h0 s U u1 u2 hK0) (fun U u1 u2 => (fo_B w h0 s U u1 u2 hK0).1) tw_methodLink_RX2_124_yX2_rank mbX2_rank rfl ⟨rfl, rfl⟩ ⟨Nat.le_of_ble_eq_true rfl, Nat.le_of_ble_eq_true rfl⟩ ⟨Nat.zero_le _, Nat.zero_le _⟩ hl.1 rfl (Nat.le_of_ble_eq_true rfl) dX2_holds_159 ?_
      refine lv_aload_n hx hb dX2_holds_162 rfl (lv_at hl 1 rfl) ?_
      refine lv_lload hx hb dX2_holds_163 (lv_at hl 4 rfl) ?_
      refine bx_vl C (kX2_rank l w h0 x4) BX2_rank (fun U u1 u2 => fo_B w h0 s U u1 u2 hK0) (fun U u1 u2 => (fo_B w h0 s U u1 u2 hK0).1) tw_methodLink_RX2_124_yX2_rank mbX2_rank rfl ⟨rfl, rfl⟩ ⟨Nat.le_of_ble_eq_true rfl, Nat.le_of_ble_eq_true rfl⟩ ⟨Nat.zero_le _, Nat.zero_le _⟩ hl.1 rfl (Nat.le_of_ble_eq_true rfl) dX2_holds_165 ?_
      refine bx_lc_le (tgt := 176) hx hb dX2_holds_168 dX2_holds_169 (by decide) (fun c13 => ?_) (fun c13 => ?_)
      · rw [if_pos c13] at hq
        refine lv_iconst (v := 0) hx hb dX2_holds_176 (by decide) ?_
        exact W.zret (v := (0 : Int32)) hx hb hr (ji_z_narrow (by repeat' (first | with_reducible exact ji_z0 | with_reducible exact ji_z1 | with_reducible refine ji_z_ite ?_ ?_ | with_reducible assumption | with_reducible exact zX2_isNan .. | with_reducible exact zX2_isNear .. | with_reducible exact zX2_isInfinite ..))) (fun t ht hW => ⟨_, rfl, hq, ht⟩) (fun _ h => absurd h List.not_mem_nil) dX2_holds_177
      · rw [if_neg c13] at hq
        refine lv_iconst (v := 1) hx hb dX2_holds_172 (by decide) ?_
        refine lv_goto (tgt := 177) hx hb dX2_holds_173 (by decide) ?_
        exact W.zret (v := (1 : Int32)) hx hb hr (ji_z_narrow (by repeat' (first | with_reducible exact ji_z0 | with_reducible exact ji_z1 | with_reducible refine ji_z_ite ?_ ?_ | with_reducible assumption | with_reducible exact zX2_isNan .. | with_reducible exact zX2_isNear .. | with_reducible exact zX2_isInfinite ..))) (fun t ht hW => ⟨_, rfl, hq, ht⟩) (fun _ h => absurd h List.not_mem_nil) dX2_holds_177
  rw [if_neg c11] at hq
  by_cases c14 : x1 = 5
  · rw [if_pos c14] at hq
    refine lv_tableIn (tgt := 178) hx hb dX2_holds_25 (by rw [c14]; decide) (by rw [c14]; decide) (by rw [c14]; rfl) (by decide) ?_
    refine lv_iload hx hb dX2_holds_178 (lv_at hl 0 rfl) ?_
    refine lv_if_eq (tgt := 202) hx hb dX2_holds_180 (by decide) (fun c15 => ?_) (fun c15 => ?_)
    · rw [if_pos c15] at hq
      refine lv_iconst (v := 0) hx hb dX2_holds_202 (by decide) ?_
      exact W.zret (v := (0 : Int32)) hx hb hr (ji_z_narrow (by repeat' (first | with_reducible exact ji_z0 | with_reducible exact ji_z1 | with_reducible refine ji_z_ite ?_ ?_ | with_reducible assumption | with_reducible exact zX2_isNan .. | with_reducible exact zX2_isNear .. | with_reducible exact zX2_isInfinite ..))) (fun t ht hW => ⟨_, rfl, hq, ht⟩) (fun _ h => absurd h List.not_mem_nil) dX2_holds_203
    · rw [if_neg c15] at hq
      refine lv_aload_n hx hb dX2_holds_183 rfl (lv_at hl 1 rfl) ?_
      refine lv_lload_n hx hb dX2_holds_184 rfl (lv_at hl 3 rfl) ?_
      refine bx_vl C (kX2_rank l w h0 x2) BX2_rank (fun U u1 u2 => fo_B w h0 s U u1 u2 hK0) (fun U u1 u2 => (fo_B w h0 s U u1 u2 hK0).1) tw_methodLink_RX2_124_yX2_rank mbX2_rank rfl ⟨rfl, rfl⟩ ⟨Nat.le_of_ble_eq_true rfl, Nat.le_of_ble_eq_true rfl⟩ ⟨Nat.zero_le _, Nat.zero_le _⟩ hl.1 rfl (Nat.le_of_ble_eq_true rfl) dX2_holds_185 ?_
      refine lv_aload_n hx hb dX2_holds_188 rfl (lv_at hl 1 rfl) ?_
      refine lv_lload hx hb dX2_holds_189 (lv_at hl 4 rfl) ?_
      refine bx_vl C (kX2_rank l w h0 x4) BX2_rank (fun U u1 u2 => fo_B w h0 s U u1 u2 hK0) (fun U u1 u2 => (fo_B w h0 s U u1 u2 hK0).1) tw_methodLink_RX2_124_yX2_rank mbX2_rank rfl ⟨rfl, rfl⟩ ⟨Nat.le_of_ble_eq_true rfl, Nat.le_of_ble_eq_true rfl⟩ ⟨Nat.zero_le _, Nat.zero_le _⟩ hl.1 rfl (Nat.le_of_ble_eq_true rfl) dX2_holds_191 ?_
      refine bx_lc_lt (tgt := 202) hx hb dX2_holds_194 dX2_holds_195 (by decide) (fun c16 => ?_) (fun c16 => ?_)
      · rw [if_pos c16] at hq
        refine lv_iconst (v := 0) hx hb dX2_holds_202 (by decide) ?_
        exact W.zret (v := (0 : Int32)) hx hb hr (ji_z_narrow (by repeat' (first | with_reducible exact ji_z0 | with_reducible exact ji_z1 | with_reducible refine ji_z_ite ?_ ?_ | with_reducible assumption | with_reducible exact zX2_isNan .. | with_reducible exact zX2_isNear .. | with_reducible exact zX2_isInfinite ..))) (fun t ht hW => ⟨_, rfl, hq, ht⟩) (fun _ h => absurd h List.not_mem_nil) dX2_holds_203
      · rw [if_neg c16] at hq
        refine lv_iconst (v := 1) hx hb dX2_holds_198 (by decide) ?_
        refine lv_goto (tgt := 203) hx hb dX2_holds_199 (by decide) ?_
        exact W.zret (v := (1 : Int32)) hx hb hr (ji_z_narrow (by repeat' (first | with_reducible exact ji_z0 | with_reducible exact ji_z1 | with_reducible refine ji_z_ite ?_ ?_ | with_reducible assumption | with_reducible exact zX2_isNan .. | with_reducible exact zX2_isNear .. | with_reducible exact zX2_isInfinite ..))) (fun t ht hW => ⟨_, rfl, hq, ht⟩) (fun _ h => absurd h List.not_mem_nil) dX2_holds_203
  rw [if_neg c14] at hq
  by_cases c17 : x1 = 6
  · rw [if_pos c17] at hq
    refine lv_tableIn (tgt := 204) hx hb dX2_holds_25 (by rw [c17]; decide) (by rw [c17]; decide) (by rw [c17]; rfl) (by decide) ?_
    refine lv_aload_n hx hb dX2_holds_204 rfl (lv_at hl 1 rfl) ?_
    refine lv_lload_n hx hb dX2_holds_205 rfl (lv_at hl 3 rfl) ?_
    refine bx_vi C (kX2_isNan l w h0 x2) BX2_isNan (fun U u1 u2 => fo_B w h0 s U u1 u2 hK0) (fun U u1 u2 => (fo_B w h0 s U u1 u2 hK0).1) tw_methodLink_RX2_116_yX2_isNan mbX2_isNan rfl ⟨rfl, rfl⟩ ⟨Nat.le_of_ble_eq_true rfl, Nat.le_of_ble_eq_true rfl⟩ ⟨Nat.zero_le _, Nat.zero_le _⟩ hl.1 rfl (Nat.le_of_ble_eq_true rfl) dX2_holds_206 ?_
    exact W.zret (v := (fX2_isNan w x2)) hx hb hr (ji_z_narrow (by repeat' (first | with_reducible exact ji_z0 | with_reducible exact ji_z1 | with_reducible refine ji_z_ite ?_ ?_ | with_reducible assumption | with_reducible exact zX2_isNan .. | with_reducible exact zX2_isNear .. | with_reducible exact zX2_isInfinite ..))) (fun t ht hW => ⟨_, rfl, hq, ht⟩) (fun _ h => absurd h List.not_mem_nil) dX2_holds_209
  rw [if_neg c17] at hq
  by_cases c18 : x1 = 7
  · rw [if_pos c18] at hq
    refine lv_tableIn (tgt := 210) hx hb dX2_holds_25 (by rw [c18]; decide) (by rw [c18]; decide) (by rw [c18]; rfl) (by decide) ?_
    refine lv_aload_n hx hb dX2_holds_210 rfl (lv_at hl 1 rfl) ?_
    refine lv_lload_n hx hb dX2_holds_211 rfl (lv_at hl 3 rfl) ?_
    refine bx_vi C (kX2_isInfinite l w h0 x2) BX2_isInfinite (fun U u1 u2 => fo_B w h0 s U u1 u2 hK0) (fun U u1 u2 => (fo_B w h0 s U u1 u2 hK0).1) tw_methodLink_RX2_127_yX2_isInfinite mbX2_isInfinite rfl ⟨rfl, rfl⟩ ⟨Nat.le_of_ble_eq_true rfl, Nat.le_of_ble_eq_true rfl⟩ ⟨Nat.zero_le _, Nat.zero_le _⟩ hl.1 rfl (Nat.le_of_ble_eq_true rfl) dX2_holds_212 ?_
    exact W.zret (v := (fX2_isInfinite w x2)) hx hb hr (ji_z_narrow (by repeat' (first | with_reducible exact ji_z0 | with_reducible exact ji_z1 | with_reducible refine ji_z_ite ?_ ?_ | with_reducible assumption | with_reducible exact zX2_isNan .. | with_reducible exact zX2_isNear .. | with_reducible exact zX2_isInfinite ..))) (fun t ht hW => ⟨_, rfl, hq, ht⟩) (fun _ h => absurd h List.not_mem_nil) dX2_holds_215
  rw [if_neg c18] at hq
  refine lv_tableOut (tgt := 216) hx hb dX2_holds_25 (sw_out (0) (7) (fun n h1 h2 => ?_)) (by decide) ?_
  · rcases (show n = 0 ∨ n = 1 ∨ n = 2 ∨ n = 3 ∨ n = 4 ∨ n = 5 ∨ n = 6 ∨ n = 7 by omega) with rfl | rfl | rfl | rfl | rfl | rfl | rfl | rfl
    · exact c2
    · exact c3
    · exact c5
    · exact c8
    · exact c11
    · exact c14
    · exact c17
    · exact c18
  refine lv_iconst (v := 0) hx hb dX2_holds_216 (by decide) ?_
  exact W.zret (v := (0 : Int32)) hx hb hr (ji_z_narrow (by repeat' (first | with_reducible exact ji_z0 | with_reducible exact ji_z1 | with_reducible refine ji_z_ite ?_ ?_ | with_reducible assumption | with_reducible exact zX2_isNan .. | with_reducible exact zX2_isNear .. | with_reducible exact zX2_isInfinite ..))) (fun t ht hW => ⟨_, rfl, hq, ht⟩) (fun _ h => absurd h List.not_mem_nil) dX2_holds_217
set_option maxRecDepth 20000 in
theorem bX2_holds_21 (w : Bool) (x1 : Int32) (x2 : Int64) (x4 : Int64) (x6 : Int64) {p : Program} {l : Launch} {e : Env} {s : State} {m : MethodId} {args : Array Value} {below : List Frame} {meth : Method} {c : Code} {h0 : Nat} {ls : Array Slot} (C : bx_C p s m args meth c cX2_holds 9 (some .boolean) RX2) (hK0 : fo_K w h0 s) (hl : lv_has ls 9 [(0, .ref h0), (1, .int x1), (2, .long x2), (4, .long x4), (6, .long x6)]) (post : Int32 → Prop) (hq : post (fX2_holds_21 w x1 x2 x4 x6)) : W p l e rmX2_holds s m args below meth c s.heap [] 0 0 (MQ below (vp_Si post) args s 0 0 (fun _ => False)) (F0 m 21 ls []) := by
  obtain ⟨hx, hb, hml, hr, hlocks, hown, hts⟩ := id C
  unfold fX2_holds_21 at hq
  refine lv_iconst (v := 0) hx hb dX2_holds_21 (by decide) ?_
  exact bX2_holds_22 w x1 x2 x4 x6 (0 : Int32) C hK0 (lv_sub hl [0, 1, 2, 3, 4] rfl) post hq
set_option maxRecDepth 20000 in
theorem bX2_holds_0 (w : Bool) (x1 : Int32) (x2 : Int64) (x4 : Int64) (x6 : Int64) {p : Program} {l : Launch} {e : Env} {s : State} {m : MethodId} {args : Array Value} {below : List Frame} {meth : Method} {c : Code} {h0 : Nat} {ls : Array Slot} (C : bx_C p s m args meth c cX2_holds 9 (some .boolean) RX2) (hK0 : fo_K w h0 s) (hl : lv_has ls 9 [(0, .ref h0), (1, .int x1), (2, .long x2), (4, .long x4), (6, .long x6)]) (post : Int32 → Prop) (hq : post (fX2_holds w x1 x2 x4 x6)) : W p l e rmX2_holds s m args below meth c s.heap [] 0 0 (MQ below (vp_Si post) args s 0 0 (fun _ => False)) (F0 m 0 ls []) := by
  obtain ⟨hx, hb, hml, hr, hlocks, hown, hts⟩ := id C
  unfold fX2_holds at hq
  refine lv_aload_n hx hb dX2_holds_0 rfl (lv_at hl 0 rfl) ?_
  refine lv_lload_n hx hb dX2_holds_1 rfl (lv_at hl 2 rfl) ?_
  refine bx_vi C (kX2_isNan l w h0 x2) BX2_isNan (fun U u1 u2 => fo_B w h0 s U u1 u2 hK0) (fun U u1 u2 => (fo_B w h0 s U u1 u2 hK0).1) tw_methodLink_RX2_116_yX2_isNan mbX2_isNan rfl ⟨rfl, rfl⟩ ⟨Nat.le_of_ble_eq_true rfl, Nat.le_of_ble_eq_true rfl⟩ ⟨Nat.zero_le _, Nat.zero_le _⟩ hl.1 rfl (Nat.le_of_ble_eq_true rfl) dX2_holds_2 ?_
  refine lv_if_ne (tgt := 21) hx hb dX2_holds_5 (by decide) (fun c1 => ?_) (fun c1 => ?_)
  · rw [if_neg c1] at hq
    exact bX2_holds_21 w x1 x2 x4 x6 C hK0 (lv_sub hl [0, 1, 2, 3, 4] rfl) post hq
  · rw [if_pos c1] at hq
    refine lv_aload_n hx hb dX2_holds_8 rfl (lv_at hl 0 rfl) ?_
    refine lv_lload hx hb dX2_holds_9 (lv_at hl 3 rfl) ?_
    refine bx_vi C (kX2_isNan l w h0 x4) BX2_isNan (fun U u1 u2 => fo_B w h0 s U u1 u2 hK0) (fun U u1 u2 => (fo_B w h0 s U u1 u2 hK0).1) tw_methodLink_RX2_116_yX2_isNan mbX2_isNan rfl ⟨rfl, rfl⟩ ⟨Nat.le_of_ble_eq_true rfl, Nat.le_of_ble_eq_true rfl⟩ ⟨Nat.zero_le _, Nat.zero_le _⟩ hl.1 rfl (Nat.le_of_ble_eq_true rfl) dX2_holds_11 ?_
    refine lv_if_ne (tgt := 21) hx hb dX2_holds_14 (by decide) (fun c19 => ?_) (fun c19 => ?_)
    · rw [if_neg c19] at hq
      exact bX2_holds_21 w x1 x2 x4 x6 C hK0 (lv_sub hl [0, 1, 2, 3, 4] rfl) post hq
    · rw [if_pos c19] at hq
      refine lv_iconst (v := 1) hx hb dX2_holds_17 (by decide) ?_
      refine lv_goto (tgt := 22) hx hb dX2_holds_18 (by decide) ?_
      exact bX2_holds_22 w x1 x2 x4 x6 (1 : Int32) C hK0 (lv_sub hl [0, 1, 2, 3, 4] rfl) post hq
theorem kX2_holds (l : Launch) (w : Bool) (h0 : Nat) (x1 : Int32) (x2 : Int64) (x4 : Int64) (x6 : Int64) : Met l yX2_holds (Cond.code yX2_holds cX2_holds 9 (some .boolean) :: bw) rmX2_holds (va_Pc [.ref h0, .int x1, .long x2, .long x4, .long x6] (fun U => fo_K w h0 U)) (vp_Si (fun r => r = fX2_holds w x1 x2 x4 x6)) 0 0 (fun _ => False) := by
  refine bx_ent (by decide) _ _ (Nat.le_of_ble_eq_true rfl) rfl ?_
  intro p e s m below meth c ls C hl hK0
  exact bX2_holds_0 w x1 x2 x4 x6 C hK0 hl _ rfl
abbrev rmX2_converted : Room := { frames := 2, cells := 0, slots := 0, locals := 61 }
theorem mbX2_converted : mb_V RX2 yX2_converted cX2_converted 6 (some .long) 2 := ⟨⟨tw_instanceMethod_yX2_converted, tw_selects_RX2_yX2_converted_yX2_converted, tw_initialized_RX2, tw_code_yX2_converted⟩, rfl, by decide +kernel, by decide +kernel, by decide +kernel⟩
theorem BX2_converted {w : Bool} {w1 : Bool} {h0 : Nat} {h1 : Nat} : bx_B (fun U => fo_K w h0 U ∧ fo_K w1 h1 U) := fun U T u1 u2 q => ⟨fo_B w h0 U T u1 u2 q.1, fo_B w1 h1 U T u1 u2 q.2⟩
set_option maxRecDepth 20000 in
theorem bX2_converted_29 (w : Bool) (w1 : Bool) (x2 : Int64) (s0 : Int64) {p : Program} {l : Launch} {e : Env} {s : State} {m : MethodId} {args : Array Value} {below : List Frame} {meth : Method} {c : Code} {h0 : Nat} {h1 : Nat} {ls : Array Slot} (C : bx_C p s m args meth c cX2_converted 6 (some .long) RX2) (hK0 : fo_K w h0 s) (hK1 : fo_K w1 h1 s) (hl : lv_has ls 6 [(0, .ref h0), (1, .ref h1), (2, .long x2)]) (post : Int64 → Prop) (hq : post (fX2_converted_29 w w1 x2 s0)) : W p l e rmX2_converted s m args below meth c s.heap [] 0 0 (MQ below (vp_Sl post) args s 0 0 (fun _ => False)) (F0 m 29 ls [.long s0]) := by
  obtain ⟨hx, hb, hml, hr, hlocks, hown, hts⟩ := id C
  unfold fX2_converted_29 at hq
  refine lv_lstore (lv' := [(4, .long s0), (0, .ref h0), (1, .ref h1), (2, .long x2)]) hx hb dX2_converted_29 hl (by decide) rfl (fun ls hl => ?_)
  refine lv_aload_n hx hb dX2_converted_31 rfl (lv_at hl 2 rfl) ?_
  refine lv_lload_n hx hb dX2_converted_32 rfl (lv_at hl 3 rfl) ?_
  refine bx_vi C (kX2_isInfinite l w1 h1 x2) BX2_isInfinite (fun U u1 u2 => fo_B w1 h1 s U u1 u2 hK1) (fun U u1 u2 => (fo_B w1 h1 s U u1 u2 hK1).1) tw_methodLink_RX2_127_yX2_isInfinite mbX2_isInfinite rfl ⟨rfl, rfl⟩ ⟨Nat.le_of_ble_eq_true rfl, Nat.le_of_ble_eq_true rfl⟩ ⟨Nat.zero_le _, Nat.zero_le _⟩ hl.1 rfl (Nat.le_of_ble_eq_true rfl) dX2_converted_33 ?_
  refine lv_if_eq (tgt := 47) hx hb dX2_converted_36 (by decide) (fun c3 => ?_) (fun c3 => ?_)
  · rw [if_pos c3] at hq
    refine lv_aload_n hx hb dX2_converted_47 rfl (lv_at hl 2 rfl) ?_
    refine lv_lload_n hx hb dX2_converted_48 rfl (lv_at hl 3 rfl) ?_
    refine bx_vi C (kX2_isZero l w1 h1 x2) BX2_isZero (fun U u1 u2 => fo_B w1 h1 s U u1 u2 hK1) (fun U u1 u2 => (fo_B w1 h1 s U u1 u2 hK1).1) tw_methodLink_RX2_139_yX2_isZero mbX2_isZero rfl ⟨rfl, rfl⟩ ⟨Nat.le_of_ble_eq_true rfl, Nat.le_of_ble_eq_true rfl⟩ ⟨Nat.zero_le _, Nat.zero_le _⟩ hl.1 rfl (Nat.le_of_ble_eq_true rfl) dX2_converted_49 ?_
    refine lv_if_eq (tgt := 58) hx hb dX2_converted_52 (by decide) (fun c4 => ?_) (fun c4 => ?_)
    · rw [if_pos c4] at hq
      refine lv_aload_n hx hb dX2_converted_58 rfl (lv_at hl 1 rfl) ?_
      refine lv_aload_n hx hb dX2_converted_59 rfl (lv_at hl 2 rfl) ?_
      refine lv_lload_n hx hb dX2_converted_60 rfl (lv_at hl 3 rfl) ?_
      refine bx_vi C (kX2_isNegative l w1 h1 x2) BX2_isNegative (fun U u1 u2 => fo_B w1 h1 s U u1 u2 hK1) (fun U u1 u2 => (fo_B w1 h1 s U u1 u2 hK1).1) tw_methodLink_RX2_136_yX2_isNegative mbX2_isNegative rfl ⟨rfl, rfl⟩ ⟨Nat.le_of_ble_eq_true rfl, Nat.le_of_ble_eq_true rfl⟩ ⟨Nat.zero_le _, Nat.zero_le _⟩ hl.1 rfl (Nat.le_of_ble_eq_true rfl) dX2_converted_61 ?_
      refine lv_aload_n hx hb dX2_converted_64 rfl (lv_at hl 2 rfl) ?_
      refine lv_lload_n hx hb dX2_converted_65 rfl (lv_at hl 3 rfl) ?_
      refine bx_vi C (kX2_scale l w1 h1 x2) BX2_scale (fun U u1 u2 => fo_B w1 h1 s U u1 u2 hK1) (fun U u1 u2 => (fo_B w1 h1 s U u1 u2 hK1).1) tw_methodLink_RX2_142_yX2_scale mbX2_scale rfl ⟨rfl, rfl⟩ ⟨Nat.le_of_ble_eq_true rfl, Nat.le_of_ble_eq_true rfl⟩ ⟨Nat.zero_le _, Nat.zero_le _⟩ hl.1 rfl (Nat.le_of_ble_eq_true rfl) dX2_converted_66 ?_
      refine lv_aload_n hx hb dX2_converted_69 rfl (lv_at hl 2 rfl) ?_
      refine lv_lload_n hx hb dX2_converted_70 rfl (lv_at hl 3 rfl) ?_
      refine bx_vl C (kX2_plain l w1 h1 x2) BX2_plain (fun U u1 u2 => fo_B w1 h1 s U u1 u2 hK1) (fun U u1 u2 => (fo_B w1 h1 s U u1 u2 hK1).1) tw_methodLink_RX2_145_yX2_plain mbX2_plain rfl ⟨rfl, rfl⟩ ⟨Nat.le_of_ble_eq_true rfl, Nat.le_of_ble_eq_true rfl⟩ ⟨Nat.zero_le _, Nat.zero_le _⟩ hl.1 rfl (Nat.le_of_ble_eq_true rfl) dX2_converted_71 ?_
      refine bx_vl C (kX2_rounded l w h0 (fX2_isNegative w1 x2) (fX2_scale w1 x2) (fX2_plain w1 x2)) BX2_rounded (fun U u1 u2 => fo_B w h0 s U u1 u2 hK0) (fun U u1 u2 => (fo_B w h0 s U u1 u2 hK0).1) tw_methodLink_RX2_148_yX2_rounded mbX2_rounded rfl ⟨rfl, rfl⟩ ⟨Nat.le_of_ble_eq_true rfl, Nat.le_of_ble_eq_true rfl⟩ ⟨Nat.zero_le _, Nat.zero_le _⟩ hl.1 rfl (Nat.le_of_ble_eq_true rfl) dX2_converted_74 ?_
      exact W.lret (v := (fX2_rounded w (fX2_isNegative w1 x2) (fX2_scale w1 x2) (fX2_plain w1 x2))) hx hb hr (fun t ht hW => ⟨_, rfl, hq, ht⟩) (fun _ h => absurd h List.not_mem_nil) dX2_converted_77
    · rw [if_neg c4] at hq
      refine lv_lload hx hb dX2_converted_55 (lv_at hl 0 rfl) ?_
      exact W.lret (v := s0) hx hb hr (fun t ht hW => ⟨_, rfl, hq, ht⟩) (fun _ h => absurd h List.not_mem_nil) dX2_converted_57
  · rw [if_neg c3] at hq
    refine lv_lload hx hb dX2_converted_39 (lv_at hl 0 rfl) ?_
    refine lv_aload_n hx hb dX2_converted_41 rfl (lv_at hl 1 rfl) ?_
    refine vk_getf (v := .long (fo_infinity w)) hx hb (fo_infinity_K hK0) va_S.rf hown (hts _ tw_fieldLink_RX2_49_GlulxFloats_Form_infinity_J) (fun _ h9 => h9) dX2_converted_42 ?_
    refine lv_lor hx hb dX2_converted_45 ?_
    exact W.lret (v := (s0 ||| (fo_infinity w))) hx hb hr (fun t ht hW => ⟨_, rfl, hq, ht⟩) (fun _ h => absurd h List.not_mem_nil) dX2_converted_46
set_option maxRecDepth 20000 in
theorem bX2_converted_0 (w : Bool) (w1 : Bool) (x2 : Int64) {p : Program} {l : Launch} {e : Env} {s : State} {m : MethodId} {args : Array Value} {below : List Frame} {meth : Method} {c : Code} {h0 : Nat} {h1 : Nat} {ls : Array Slot} (C : bx_C p s m args meth c cX2_converted 6 (some .long) RX2) (hK0 : fo_K w h0 s) (hK1 : fo_K w1 h1 s) (hl : lv_has ls 6 [(0, .ref h0), (1, .ref h1), (2, .long x2)]) (post : Int64 → Prop) (hq : post (fX2_converted w w1 x2)) : W p l e rmX2_converted s m args below meth c s.heap [] 0 0 (MQ below (vp_Sl post) args s 0 0 (fun _ => False)) (F0 m 0 ls []) := by
  obtain ⟨hx, hb, hml, hr, hlocks, hown, hts⟩ := id C
  unfold fX2_converted at hq
  refine lv_aload_n hx hb dX2_converted_0 rfl (lv_at hl 1 rfl) ?_
  refine lv_lload_n hx hb dX2_converted_1 rfl (lv_at hl 2 rfl) ?_
  refine bx_vi C (kX2_isNan l w1 h1 x2) BX2_isNan (fun U u1 u2 => fo_B w1 h1 s U u1 u2 hK1) (fun U u1 u2 => (fo_B w1 h1 s U u1 u2 hK1).1) tw_methodLink_RX2_116_yX2_isNan mbX2_isNan rfl ⟨rfl, rfl⟩ ⟨Nat.le_of_ble_eq_true rfl, Nat.le_of_ble_eq_true rfl⟩ ⟨Nat.zero_le _, Nat.zero_le _⟩ hl.1 rfl (Nat.le_of_ble_eq_true rfl) dX2_converted_2 ?_
  refine lv_if_eq (tgt := 13) hx hb dX2_converted_5 (by decide) (fun c1 => ?_) (fun c1 => ?_)
  · rw [if_pos c1] at hq
    refine lv_aload_n hx hb dX2_converted_13 rfl (lv_at hl 1 rfl) ?_
    refine lv_lload_n hx hb dX2_converted_14 rfl (lv_at hl 2 rfl) ?_
    refine bx_vi C (kX2_isNegative l w1 h1 x2) BX2_isNegative (fun U u1 u2 => fo_B w1 h1 s U u1 u2 hK1) (fun U u1 u2 => (fo_B w1 h1 s U u1 u2 hK1).1) tw_methodLink_RX2_136_yX2_isNegative mbX2_isNegative rfl ⟨rfl, rfl⟩ ⟨Nat.le_of_ble_eq_true rfl, Nat.le_of_ble_eq_true rfl⟩ ⟨Nat.zero_le _, Nat.zero_le _⟩ hl.1 rfl (Nat.le_of_ble_eq_true rfl) dX2_converted_15 ?_
    refine lv_if_eq (tgt := 28) hx hb dX2_converted_18 (by decide) (fun c2 => ?_) (fun c2 => ?_)
    · rw [if_pos c2] at hq
      refine lv_lconst (v := 0) hx hb dX2_converted_28 (by decide) ?_
      exact bX2_converted_29 w w1 x2 (0 : Int64) C hK0 hK1 (lv_sub hl [0, 1, 2] rfl) post hq
    · rw [if_neg c2] at hq
      refine lv_aload_n hx hb dX2_converted_21 rfl (lv_at hl 0 rfl) ?_
      refine vk_getf (v := .long (fo_sign w)) hx hb (fo_sign_K hK0) va_S.rf hown (hts _ tw_fieldLink_RX2_42_GlulxFloats_Form_sign_J) (fun _ h9 => h9) dX2_converted_22 ?_
      refine lv_goto (tgt := 29) hx hb dX2_converted_25 (by decide) ?_
      exact bX2_converted_29 w w1 x2 (fo_sign w) C hK0 hK1 (lv_sub hl [0, 1, 2] rfl) post hq
  · rw [if_neg c1] at hq
    refine lv_aload_n hx hb dX2_converted_8 rfl (lv_at hl 0 rfl) ?_
    refine vk_getf (v := .long (fo_nan w)) hx hb (fo_nan_K hK0) va_S.rf hown (hts _ tw_fieldLink_RX2_52_GlulxFloats_Form_nan_J) (fun _ h9 => h9) dX2_converted_9 ?_
    exact W.lret (v := (fo_nan w)) hx hb hr (fun t ht hW => ⟨_, rfl, hq, ht⟩) (fun _ h => absurd h List.not_mem_nil) dX2_converted_12
theorem kX2_converted (l : Launch) (w : Bool) (w1 : Bool) (h0 : Nat) (h1 : Nat) (x2 : Int64) : Met l yX2_converted (Cond.code yX2_converted cX2_converted 6 (some .long) :: bw) rmX2_converted (va_Pc [.ref h0, .ref h1, .long x2] (fun U => fo_K w h0 U ∧ fo_K w1 h1 U)) (vp_Sl (fun r => r = fX2_converted w w1 x2)) 0 0 (fun _ => False) := by
  refine bx_ent (by decide) _ _ (Nat.le_of_ble_eq_true rfl) rfl ?_
  intro p e s m below meth c ls C hl ⟨hK0, hK1⟩
  exact bX2_converted_0 w w1 x2 C hK0 hK1 hl _ rfl
abbrev rmX4_half : Room := { frames := 0, cells := 0, slots := 0, locals := 0 }
theorem mbX4_half : mb_V RX4 yX4_half cX4_half 4 (some .int) 2 := ⟨⟨tw_instanceMethod_yX4_half, tw_selects_RX4_yX4_half_yX4_half, tw_initialized_RX4, tw_code_yX4_half⟩, rfl, by decide +kernel, by decide +kernel, by decide +kernel⟩
theorem BX4_half {h0 : Nat} : bx_B (fun U => ob_K RX4 h0 U) := ob_B RX4 h0
set_option maxRecDepth 20000 in
theorem bX4_half_0 (x1 : Int64) (x3 : Int32) {p : Program} {l : Launch} {e : Env} {s : State} {m : MethodId} {args : Array Value} {below : List Frame} {meth : Method} {c : Code} {h0 : Nat} {ls : Array Slot} (C : bx_C p s m args meth c cX4_half 4 (some .int) RX4) (hK0 : ob_K RX4 h0 s) (hl : lv_has ls 4 [(0, .ref h0), (1, .long x1), (3, .int x3)]) (post : Int32 → Prop) (hq : post (fX4_half x1 x3)) : W p l e rmX4_half s m args below meth c s.heap [] 0 0 (MQ below (vp_Si post) args s 0 0 (fun _ => False)) (F0 m 0 ls []) := by
  obtain ⟨hx, hb, hml, hr, hlocks, hown, hts⟩ := id C
  unfold fX4_half at hq
  refine lv_iload_n hx hb dX4_half_0 rfl (lv_at hl 2 rfl) ?_
  refine lv_if_eq (tgt := 11) hx hb dX4_half_1 (by decide) (fun c1 => ?_) (fun c1 => ?_)
  · rw [if_pos c1] at hq
    refine lv_lload_n hx hb dX4_half_11 rfl (lv_at hl 1 rfl) ?_
    refine bx_l2i hx hb dX4_half_12 ?_
    exact W.iret (v := x1.toInt32) hx hb hr (fun t ht hW => ⟨_, rfl, hq, ht⟩) (fun _ h => absurd h List.not_mem_nil) dX4_half_13
  · rw [if_neg c1] at hq
    refine lv_lload_n hx hb dX4_half_4 rfl (lv_at hl 1 rfl) ?_
    refine lv_bipush (v := 32) hx hb dX4_half_5 (by decide) ?_
    refine bx_lushr hx hb dX4_half_7 ?_
    refine lv_goto (tgt := 12) hx hb dX4_half_8 (by decide) ?_
    refine bx_l2i hx hb dX4_half_12 ?_
    exact W.iret (v := (jl_ushr x1 (32 : Int32)).toInt32) hx hb hr (fun t ht hW => ⟨_, rfl, hq, ht⟩) (fun _ h => absurd h List.not_mem_nil) dX4_half_13
theorem kX4_half (l : Launch) (h0 : Nat) (x1 : Int64) (x3 : Int32) : Met l yX4_half (Cond.code yX4_half cX4_half 4 (some .int) :: bw) rmX4_half (va_Pc [.ref h0, .long x1, .int x3] (fun U => ob_K RX4 h0 U)) (vp_Si (fun r => r = fX4_half x1 x3)) 0 0 (fun _ => False) := by
  refine bx_ent (by decide) _ _ (Nat.le_of_ble_eq_true rfl) rfl ?_
  intro p e s m below meth c ls C hl hK0
  exact bX4_half_0 x1 x3 C hK0 hl _ rfl
abbrev rmX4_join : Room := { frames := 0, cells := 0, slots := 0, locals := 0 }
theorem mbX4_join : mb_V RX4 yX4_join cX4_join 3 (some .long) 2 := ⟨⟨tw_instanceMethod_yX4_join, tw_selects_RX4_yX4_join_yX4_join, tw_initialized_RX4, tw_code_yX4_join⟩, rfl, by decide +kernel, by decide +kernel, by decide +kernel⟩
theorem BX4_join {h0 : Nat} : bx_B (fun U => ob_K RX4 h0 U) := ob_B RX4 h0
set_option maxRecDepth 20000 in
theorem bX4_join_0 (x1 : Int32) (x2 : Int32) {p : Program} {l : Launch} {e : Env} {s : State} {m : MethodId} {args : Array Value} {below : List Frame} {meth : Method} {c : Code} {h0 : Nat} {ls : Array Slot} (C : bx_C p s m args meth c cX4_join 3 (some .long) RX4) (hK0 : ob_K RX4 h0 s) (hl : lv_has ls 3 [(0, .ref h0), (1, .int x1), (2, .int x2)]) (post : Int64 → Prop) (hq : post (fX4_join x1 x2)) : W p l e rmX4_join s m args below meth c s.heap [] 0 0 (MQ below (vp_Sl post) args s 0 0 (fun _ => False)) (F0 m 0 ls []) := by
  obtain ⟨hx, hb, hml, hr, hlocks, hown, hts⟩ := id C
  unfold fX4_join at hq
  refine lv_iload_n hx hb dX4_join_0 rfl (lv_at hl 1 rfl) ?_
  refine bx_i2l hx hb dX4_join_1 ?_
  refine lv_bipush (v := 32) hx hb dX4_join_2 (by decide) ?_
  refine bx_lshl hx hb dX4_join_4 ?_
  refine lv_iload_n hx hb dX4_join_5 rfl (lv_at hl 2 rfl) ?_
  refine bx_i2l hx hb dX4_join_6 ?_
  refine lv_ldc2 (v := 4294967295) hx hb hown (hts _ tw_constantLong_RX4_36_4294967295) dX4_join_7 ?_
  refine lv_land hx hb dX4_join_10 ?_
  refine lv_lor hx hb dX4_join_11 ?_
  exact W.lret (v := ((jl_shl x1.toInt64 (32 : Int32)) ||| (x2.toInt64 &&& (4294967295 : Int64)))) hx hb hr (fun t ht hW => ⟨_, rfl, hq, ht⟩) (fun _ h => absurd h List.not_mem_nil) dX4_join_12
theorem kX4_join (l : Launch) (h0 : Nat) (x1 : Int32) (x2 : Int32) : Met l yX4_join (Cond.code yX4_join cX4_join 3 (some .long) :: bw) rmX4_join (va_Pc [.ref h0, .int x1, .int x2] (fun U => ob_K RX4 h0 U)) (vp_Sl (fun r => r = fX4_join x1 x2)) 0 0 (fun _ => False) := by
  refine bx_ent (by decide) _ _ (Nat.le_of_ble_eq_true rfl) rfl ?_
  intro p e s m below meth c ls C hl hK0
  exact bX4_join_0 x1 x2 C hK0 hl _ rfl
