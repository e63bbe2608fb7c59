abbrev rmX2_rest : Room := { frames := 2, cells := 0, slots := 0, locals := 61 }
theorem mbX2_rest : mb_V RX2 yX2_rest cX2_rest 11 (some .long) 2 := ⟨⟨tw_instanceMethod_yX2_rest, tw_selects_RX2_yX2_rest_yX2_rest, tw_initialized_RX2, tw_code_yX2_rest⟩, rfl, by decide +kernel, by decide +kernel, by decide +kernel⟩
theorem BX2_rest {w : Bool} {h0 : Nat} : bx_B (fun U => fo_K w h0 U) := fo_B w h0
set_option maxRecDepth 20000 in
theorem lX2_rest_112 (w : Bool) (x5 : Int64) (x9 : Int32) (x1 : Int64) (x3 : Int64) {p : Program} {l : Launch} {e : Env} {s : State} {m : MethodId} {args : Array Value} {below : List Frame} {meth : Method} {c : Code} {h0 : Nat} {Q : State → Prop} (C : bx_C p s m args meth c cX2_rest 11 (some .long) RX2) (hK0 : fo_K w h0 s) (h5 : ¬ x5 = (0 : Int64)) (h9 : 0 < x9.toInt ∧ x9.toInt < 100) (post : Int64 × Int32 → Prop) (kx : ∀ (o7 : Int64) (o10 : Int32) (ls : Array Slot), lv_has ls 11 [(0, .ref h0), (1, .long x1), (3, .long x3), (7, .long o7), (10, .int o10)] → post (o7, o10) → W p l e rmX2_rest s m args below meth c s.heap [] 0 0 Q (F0 m 142 ls [])) :
    ∀ (n : Nat) (x7 : Int64) (x10 : Int32) (ls : Array Slot), (Int32.toInt x10).toNat < n → lv_has ls 11 [(0, .ref h0), (1, .long x1), (3, .long x3), (5, .long x5), (7, .long x7), (9, .int x9), (10, .int x10)] → post (gX2_rest_112 w x5 x9 n x7 x10) → W p l e rmX2_rest s m args below meth c s.heap [] 0 0 Q (F0 m 112 ls []) := by
  obtain ⟨hx, hb, hml, hr, hlocks, hown, hts⟩ := id C
  intro n
  induction n with
  | zero =>
    intro x7 x10 ls hm
    exact absurd hm (Nat.not_lt_zero _)
  | succ n ih =>
    intro x7 x10 ls hm hl hq
    rw [gX2_rest_112] at hq
    refine lv_iload hx hb dX2_rest_112 (lv_at hl 6 rfl) ?_
    refine lv_if_le (tgt := 142) hx hb dX2_rest_114 (by decide) (fun c8 => ?_) (fun c8 => ?_)
    · rw [if_pos c8] at hq
      exact kx x7 x10 _ (lv_sub hl [0, 1, 2, 4, 6] rfl) hq
    · rw [if_neg c8] at hq
      refine lv_lload hx hb dX2_rest_117 (lv_at hl 4 rfl) ?_
      refine lv_iload hx hb dX2_rest_119 (lv_at hl 6 rfl) ?_
      refine lv_iload hx hb dX2_rest_121 (lv_at hl 5 rfl) ?_
      refine va_mmin hx hb (by rw [hml]; exact hl.1.symm) hown (hts _ tw_methodLink_RX2_170_Mmin_name) (hts _ tw_static_Mmin_name) (hts _ tw_initialized_Math) (hts _ tw_code_Lib_Math_min_name) (Nat.le_of_ble_eq_true rfl) (Nat.le_of_ble_eq_true rfl) (Nat.zero_le _) (Nat.zero_le _) dX2_rest_123 ?_
      refine bx_as (v := .int (ji_min x10 x9)) rfl ?_
      refine bx_lshl hx hb dX2_rest_126 ?_
      refine lv_lload hx hb dX2_rest_127 (lv_at hl 3 rfl) ?_
      refine bx_lrem hx hb dX2_rest_129 (by first | assumption | decide) ?_
      refine lv_lstore (lv' := [(7, .long (jl_rem (jl_shl x7 (ji_min x10 x9)) x5)), (0, .ref h0), (1, .long x1), (3, .long x3), (5, .long x5), (9, .int x9), (10, .int x10)]) hx hb dX2_rest_130 hl (by decide) rfl (fun ls hl => ?_)
      refine lv_iload hx hb dX2_rest_132 (lv_at hl 6 rfl) ?_
      refine lv_iload hx hb dX2_rest_134 (lv_at hl 5 rfl) ?_
      refine lv_isub hx hb dX2_rest_136 ?_
      refine lv_istore (lv' := [(10, .int (x10 - x9)), (7, .long (jl_rem (jl_shl x7 (ji_min x10 x9)) x5)), (0, .ref h0), (1, .long x1), (3, .long x3), (5, .long x5), (9, .int x9)]) hx hb dX2_rest_137 hl (by decide) rfl (fun ls hl => ?_)
      refine lv_goto (tgt := 112) hx hb dX2_rest_139 (by decide) ?_
      exact ih (jl_rem (jl_shl x7 (ji_min x10 x9)) x5) (x10 - x9) _ (lp_sb (by assumption) h9 hm) (lv_sub hl [2, 3, 4, 5, 1, 6, 0] rfl) hq
set_option maxRecDepth 20000 in
theorem bX2_rest_142 (w : Bool) (x1 : Int64) (x3 : Int64) (x7 : Int64) {p : Program} {l : Launch} {e : Env} {s : State} {m : MethodId} {args : Array Value} {below : List Frame} {meth : Method} {c : Code} {h0 : Nat} {ls : Array Slot} (C : bx_C p s m args meth c cX2_rest 11 (some .long) RX2) (hK0 : fo_K w h0 s) (hl : lv_has ls 11 [(0, .ref h0), (1, .long x1), (3, .long x3), (7, .long x7)]) (post : Int64 → Prop) (hq : post (fX2_rest_142 w x1 x3 x7)) : W p l e rmX2_rest s m args below meth c s.heap [] 0 0 (MQ below (vp_Sl post) args s 0 0 (fun _ => False)) (F0 m 142 ls []) := by
  obtain ⟨hx, hb, hml, hr, hlocks, hown, hts⟩ := id C
  unfold fX2_rest_142 at hq
  refine lv_lload hx hb dX2_rest_142 (lv_at hl 3 rfl) ?_
  refine lv_lconst (v := 0) hx hb dX2_rest_144 (by decide) ?_
  refine bx_lc_ne (tgt := 158) hx hb dX2_rest_145 dX2_rest_146 (by decide) (fun c9 => ?_) (fun c9 => ?_)
  · rw [if_neg c9] at hq
    refine lv_aload_n hx hb dX2_rest_158 rfl (lv_at hl 0 rfl) ?_
    refine lv_aload_n hx hb dX2_rest_159 rfl (lv_at hl 0 rfl) ?_
    refine lv_lload_n hx hb dX2_rest_160 rfl (lv_at hl 1 rfl) ?_
    refine bx_vi C (kX2_isNegative l w h0 x1) BX2_isNegative (fun U u1 u2 => fo_B w h0 s U u1 u2 hK0) (fun U u1 u2 => (fo_B w h0 s U u1 u2 hK0).1) tw_methodLink_RX2_136_yX2_isNegative mbX2_isNegative rfl ⟨rfl, rfl⟩ ⟨Nat.le_of_ble_eq_true rfl, Nat.le_of_ble_eq_true rfl⟩ ⟨Nat.zero_le _, Nat.zero_le _⟩ hl.1 rfl (Nat.le_of_ble_eq_true rfl) dX2_rest_161 ?_
    refine lv_aload_n hx hb dX2_rest_164 rfl (lv_at hl 0 rfl) ?_
    refine lv_lload_n hx hb dX2_rest_165 rfl (lv_at hl 2 rfl) ?_
    refine bx_vi C (kX2_scale l w h0 x3) BX2_scale (fun U u1 u2 => fo_B w h0 s U u1 u2 hK0) (fun U u1 u2 => (fo_B w h0 s U u1 u2 hK0).1) tw_methodLink_RX2_142_yX2_scale mbX2_scale rfl ⟨rfl, rfl⟩ ⟨Nat.le_of_ble_eq_true rfl, Nat.le_of_ble_eq_true rfl⟩ ⟨Nat.zero_le _, Nat.zero_le _⟩ hl.1 rfl (Nat.le_of_ble_eq_true rfl) dX2_rest_166 ?_
    refine lv_lload hx hb dX2_rest_169 (lv_at hl 3 rfl) ?_
    refine bx_vl C (kX2_rounded l w h0 (fX2_isNegative w x1) (fX2_scale w x3) x7) BX2_rounded (fun U u1 u2 => fo_B w h0 s U u1 u2 hK0) (fun U u1 u2 => (fo_B w h0 s U u1 u2 hK0).1) tw_methodLink_RX2_148_yX2_rounded mbX2_rounded rfl ⟨rfl, rfl⟩ ⟨Nat.le_of_ble_eq_true rfl, Nat.le_of_ble_eq_true rfl⟩ ⟨Nat.zero_le _, Nat.zero_le _⟩ hl.1 rfl (Nat.le_of_ble_eq_true rfl) dX2_rest_171 ?_
    exact W.lret (v := (fX2_rounded w (fX2_isNegative w x1) (fX2_scale w x3) x7)) hx hb hr (fun t ht hW => ⟨_, rfl, hq, ht⟩) (fun _ h => absurd h List.not_mem_nil) dX2_rest_174
  · rw [if_pos c9] at hq
    refine lv_lload_n hx hb dX2_rest_149 rfl (lv_at hl 1 rfl) ?_
    refine lv_aload_n hx hb dX2_rest_150 rfl (lv_at hl 0 rfl) ?_
    refine vk_getf (v := .long (fo_sign w)) hx hb (fo_sign_K hK0) va_S.rf hown (hts _ tw_fieldLink_RX2_42_GlulxFloats_Form_sign_J) (fun _ h9 => h9) dX2_rest_151 ?_
    refine lv_land hx hb dX2_rest_154 ?_
    refine lv_goto (tgt := 174) hx hb dX2_rest_155 (by decide) ?_
    exact W.lret (v := (x1 &&& (fo_sign w))) hx hb hr (fun t ht hW => ⟨_, rfl, hq, ht⟩) (fun _ h => absurd h List.not_mem_nil) dX2_rest_174
set_option maxRecDepth 20000 in
theorem bX2_rest_0 (w : Bool) (x1 : Int64) (x3 : Int64) {p : Program} {l : Launch} {e : Env} {s : State} {m : MethodId} {args : Array Value} {below : List Frame} {meth : Method} {c : Code} {h0 : Nat} {ls : Array Slot} (C : bx_C p s m args meth c cX2_rest 11 (some .long) RX2) (hK0 : fo_K w h0 s) (hl : lv_has ls 11 [(0, .ref h0), (1, .long x1), (3, .long x3)]) (post : Int64 → Prop) (hq : post (fX2_rest w x1 x3)) : W p l e rmX2_rest s m args below meth c s.heap [] 0 0 (MQ below (vp_Sl post) args s 0 0 (fun _ => False)) (F0 m 0 ls []) := by
  obtain ⟨hx, hb, hml, hr, hlocks, hown, hts⟩ := id C
  unfold fX2_rest at hq
  refine lv_aload_n hx hb dX2_rest_0 rfl (lv_at hl 0 rfl) ?_
  refine lv_lload_n hx hb dX2_rest_1 rfl (lv_at hl 1 rfl) ?_
  refine bx_vi C (kX2_isNan l w h0 x1) BX2_isNan (fun U u1 u2 => fo_B w h0 s U u1 u2 hK0) (fun U u1 u2 => (fo_B w h0 s U u1 u2 hK0).1) tw_methodLink_RX2_116_yX2_isNan mbX2_isNan rfl ⟨rfl, rfl⟩ ⟨Nat.le_of_ble_eq_true rfl, Nat.le_of_ble_eq_true rfl⟩ ⟨Nat.zero_le _, Nat.zero_le _⟩ hl.1 rfl (Nat.le_of_ble_eq_true rfl) dX2_rest_2 ?_
  refine lv_if_ne (tgt := 32) hx hb dX2_rest_5 (by decide) (fun c1 => ?_) (fun c1 => ?_)
  · rw [if_neg c1] at hq
    refine lv_aload_n hx hb dX2_rest_32 rfl (lv_at hl 0 rfl) ?_
    refine vk_getf (v := .long (fo_nan w)) hx hb (fo_nan_K hK0) va_S.rf hown (hts _ tw_fieldLink_RX2_52_GlulxFloats_Form_nan_J) (fun _ h9 => h9) dX2_rest_33 ?_
    exact W.lret (v := (fo_nan w)) hx hb hr (fun t ht hW => ⟨_, rfl, hq, ht⟩) (fun _ h => absurd h List.not_mem_nil) dX2_rest_36
  · rw [if_pos c1] at hq
    refine lv_aload_n hx hb dX2_rest_8 rfl (lv_at hl 0 rfl) ?_
    refine lv_lload_n hx hb dX2_rest_9 rfl (lv_at hl 2 rfl) ?_
    refine bx_vi C (kX2_isNan l w h0 x3) BX2_isNan (fun U u1 u2 => fo_B w h0 s U u1 u2 hK0) (fun U u1 u2 => (fo_B w h0 s U u1 u2 hK0).1) tw_methodLink_RX2_116_yX2_isNan mbX2_isNan rfl ⟨rfl, rfl⟩ ⟨Nat.le_of_ble_eq_true rfl, Nat.le_of_ble_eq_true rfl⟩ ⟨Nat.zero_le _, Nat.zero_le _⟩ hl.1 rfl (Nat.le_of_ble_eq_true rfl) dX2_rest_10 ?_
    refine lv_if_ne (tgt := 32) hx hb dX2_rest_13 (by decide) (fun c2 => ?_) (fun c2 => ?_)
    · rw [if_neg c2] at hq
      refine lv_aload_n hx hb dX2_rest_32 rfl (lv_at hl 0 rfl) ?_
      refine vk_getf (v := .long (fo_nan w)) hx hb (fo_nan_K hK0) va_S.rf hown (hts _ tw_fieldLink_RX2_52_GlulxFloats_Form_nan_J) (fun _ h9 => h9) dX2_rest_33 ?_
      exact W.lret (v := (fo_nan w)) hx hb hr (fun t ht hW => ⟨_, rfl, hq, ht⟩) (fun _ h => absurd h List.not_mem_nil) dX2_rest_36
    · rw [if_pos c2] at hq
      refine lv_aload_n hx hb dX2_rest_16 rfl (lv_at hl 0 rfl) ?_
      refine lv_lload_n hx hb dX2_rest_17 rfl (lv_at hl 1 rfl) ?_
      refine bx_vi C (kX2_isInfinite l w h0 x1) BX2_isInfinite (fun U u1 u2 => fo_B w h0 s U u1 u2 hK0) (fun U u1 u2 => (fo_B w h0 s U u1 u2 hK0).1) tw_methodLink_RX2_127_yX2_isInfinite mbX2_isInfinite rfl ⟨rfl, rfl⟩ ⟨Nat.le_of_ble_eq_true rfl, Nat.le_of_ble_eq_true rfl⟩ ⟨Nat.zero_le _, Nat.zero_le _⟩ hl.1 rfl (Nat.le_of_ble_eq_true rfl) dX2_rest_18 ?_
      refine lv_if_ne (tgt := 32) hx hb dX2_rest_21 (by decide) (fun c3 => ?_) (fun c3 => ?_)
      · rw [if_neg c3] at hq
        refine lv_aload_n hx hb dX2_rest_32 rfl (lv_at hl 0 rfl) ?_
        refine vk_getf (v := .long (fo_nan w)) hx hb (fo_nan_K hK0) va_S.rf hown (hts _ tw_fieldLink_RX2_52_GlulxFloats_Form_nan_J) (fun _ h9 => h9) dX2_rest_33 ?_
        exact W.lret (v := (fo_nan w)) hx hb hr (fun t ht hW => ⟨_, rfl, hq, ht⟩) (fun _ h => absurd h List.not_mem_nil) dX2_rest_36
      · rw [if_pos c3] at hq
        refine lv_aload_n hx hb dX2_rest_24 rfl (lv_at hl 0 rfl) ?_
        refine lv_lload_n hx hb dX2_rest_25 rfl (lv_at hl 2 rfl) ?_
        refine bx_vi C (kX2_isZero l w h0 x3) BX2_isZero (fun U u1 u2 => fo_B w h0 s U u1 u2 hK0) (fun U u1 u2 => (fo_B w h0 s U u1 u2 hK0).1) tw_methodLink_RX2_139_yX2_isZero mbX2_isZero rfl ⟨rfl, rfl⟩ ⟨Nat.le_of_ble_eq_true rfl, Nat.le_of_ble_eq_true rfl⟩ ⟨Nat.zero_le _, Nat.zero_le _⟩ hl.1 rfl (Nat.le_of_ble_eq_true rfl) dX2_rest_26 ?_
        refine lv_if_eq (tgt := 37) hx hb dX2_rest_29 (by decide) (fun c4 => ?_) (fun c4 => ?_)
        · rw [if_pos c4] at hq
          refine lv_aload_n hx hb dX2_rest_37 rfl (lv_at hl 0 rfl) ?_
          refine lv_lload_n hx hb dX2_rest_38 rfl (lv_at hl 2 rfl) ?_
          refine bx_vi C (kX2_isInfinite l w h0 x3) BX2_isInfinite (fun U u1 u2 => fo_B w h0 s U u1 u2 hK0) (fun U u1 u2 => (fo_B w h0 s U u1 u2 hK0).1) tw_methodLink_RX2_127_yX2_isInfinite mbX2_isInfinite rfl ⟨rfl, rfl⟩ ⟨Nat.le_of_ble_eq_true rfl, Nat.le_of_ble_eq_true rfl⟩ ⟨Nat.zero_le _, Nat.zero_le _⟩ hl.1 rfl (Nat.le_of_ble_eq_true rfl) dX2_rest_39 ?_
          refine lv_if_ne (tgt := 59) hx hb dX2_rest_42 (by decide) (fun c5 => ?_) (fun c5 => ?_)
          · rw [if_neg c5] at hq
            refine lv_lload_n hx hb dX2_rest_59 rfl (lv_at hl 1 rfl) ?_
            exact W.lret (v := x1) hx hb hr (fun t ht hW => ⟨_, rfl, hq, ht⟩) (fun _ h => absurd h List.not_mem_nil) dX2_rest_60
          · rw [if_pos c5] at hq
            refine lv_aload_n hx hb dX2_rest_45 rfl (lv_at hl 0 rfl) ?_
            refine lv_lload_n hx hb dX2_rest_46 rfl (lv_at hl 1 rfl) ?_
            refine bx_vl C (kX2_size l w h0 x1) BX2_size (fun U u1 u2 => fo_B w h0 s U u1 u2 hK0) (fun U u1 u2 => (fo_B w h0 s U u1 u2 hK0).1) tw_methodLink_RX2_82_yX2_size mbX2_size rfl ⟨rfl, rfl⟩ ⟨Nat.le_of_ble_eq_true rfl, Nat.le_of_ble_eq_true rfl⟩ ⟨Nat.zero_le _, Nat.zero_le _⟩ hl.1 rfl (Nat.le_of_ble_eq_true rfl) dX2_rest_47 ?_
            refine lv_aload_n hx hb dX2_rest_50 rfl (lv_at hl 0 rfl) ?_
            refine lv_lload_n hx hb dX2_rest_51 rfl (lv_at hl 2 rfl) ?_
            refine bx_vl C (kX2_size l w h0 x3) BX2_size (fun U u1 u2 => fo_B w h0 s U u1 u2 hK0) (fun U u1 u2 => (fo_B w h0 s U u1 u2 hK0).1) tw_methodLink_RX2_82_yX2_size mbX2_size rfl ⟨rfl, rfl⟩ ⟨Nat.le_of_ble_eq_true rfl, Nat.le_of_ble_eq_true rfl⟩ ⟨Nat.zero_le _, Nat.zero_le _⟩ hl.1 rfl (Nat.le_of_ble_eq_true rfl) dX2_rest_52 ?_
            refine bx_lc_ge (tgt := 61) hx hb dX2_rest_55 dX2_rest_56 (by decide) (fun c6 => ?_) (fun c6 => ?_)
            · rw [if_pos c6] at hq
              refine lv_aload_n hx hb dX2_rest_61 rfl (lv_at hl 0 rfl) ?_
              refine lv_lload_n hx hb dX2_rest_62 rfl (lv_at hl 2 rfl) ?_
              refine bx_vl C (kX2_plain l w h0 x3) BX2_plain (fun U u1 u2 => fo_B w h0 s U u1 u2 hK0) (fun U u1 u2 => (fo_B w h0 s U u1 u2 hK0).1) tw_methodLink_RX2_145_yX2_plain mbX2_plain rfl ⟨rfl, rfl⟩ ⟨Nat.le_of_ble_eq_true rfl, Nat.le_of_ble_eq_true rfl⟩ ⟨Nat.zero_le _, Nat.zero_le _⟩ hl.1 rfl (Nat.le_of_ble_eq_true rfl) dX2_rest_63 ?_
              refine lv_lstore (lv' := [(5, .long (fX2_plain w x3)), (0, .ref h0), (1, .long x1), (3, .long x3)]) hx hb dX2_rest_66 hl (by decide) rfl (fun ls hl => ?_)
              refine lv_lload hx hb dX2_rest_68 (lv_at hl 0 rfl) ?_
              refine lv_lconst (v := 0) hx hb dX2_rest_70 (by decide) ?_
              refine bx_lc_ne (tgt := 80) hx hb dX2_rest_71 dX2_rest_72 (by decide) (fun c7 => ?_) (fun c7 => ?_)
              · rw [if_neg c7] at hq
                refine lv_aload_n hx hb dX2_rest_80 rfl (lv_at hl 1 rfl) ?_
                refine lv_lload_n hx hb dX2_rest_81 rfl (lv_at hl 2 rfl) ?_
                refine bx_vl C (kX2_plain l w h0 x1) BX2_plain (fun U u1 u2 => fo_B w h0 s U u1 u2 hK0) (fun U u1 u2 => (fo_B w h0 s U u1 u2 hK0).1) tw_methodLink_RX2_145_yX2_plain mbX2_plain rfl ⟨rfl, rfl⟩ ⟨Nat.le_of_ble_eq_true rfl, Nat.le_of_ble_eq_true rfl⟩ ⟨Nat.zero_le _, Nat.zero_le _⟩ hl.1 rfl (Nat.le_of_ble_eq_true rfl) dX2_rest_82 ?_
                refine lv_lload hx hb dX2_rest_85 (lv_at hl 0 rfl) ?_
                refine bx_lrem hx hb dX2_rest_87 (by first | assumption | decide) ?_
                refine lv_lstore (lv' := [(7, .long (jl_rem (fX2_plain w x1) (fX2_plain w x3))), (5, .long (fX2_plain w x3)), (0, .ref h0), (1, .long x1), (3, .long x3)]) hx hb dX2_rest_88 hl (by decide) rfl (fun ls hl => ?_)
                refine lv_bipush (v := 62) hx hb dX2_rest_90 (by decide) ?_
                refine lv_aload_n hx hb dX2_rest_92 rfl (lv_at hl 2 rfl) ?_
                refine vk_getf (v := .int (fo_fraction w)) hx hb (fo_fraction_K hK0) va_S.rf hown (hts _ tw_fieldLink_RX2_29_GlulxFloats_Form_fraction_I) (fun _ h9 => h9) dX2_rest_93 ?_
                refine lv_isub hx hb dX2_rest_96 ?_
                refine lv_istore (lv' := [(9, .int ((62 : Int32) - (fo_fraction w))), (7, .long (jl_rem (fX2_plain w x1) (fX2_plain w x3))), (5, .long (fX2_plain w x3)), (0, .ref h0), (1, .long x1), (3, .long x3)]) hx hb dX2_rest_97 hl (by decide) rfl (fun ls hl => ?_)
                refine lv_aload_n hx hb dX2_rest_99 rfl (lv_at hl 3 rfl) ?_
                refine lv_lload_n hx hb dX2_rest_100 rfl (lv_at hl 4 rfl) ?_
                refine bx_vi C (kX2_scale l w h0 x1) BX2_scale (fun U u1 u2 => fo_B w h0 s U u1 u2 hK0) (fun U u1 u2 => (fo_B w h0 s U u1 u2 hK0).1) tw_methodLink_RX2_142_yX2_scale mbX2_scale rfl ⟨rfl, rfl⟩ ⟨Nat.le_of_ble_eq_true rfl, Nat.le_of_ble_eq_true rfl⟩ ⟨Nat.zero_le _, Nat.zero_le _⟩ hl.1 rfl (Nat.le_of_ble_eq_true rfl) dX2_rest_101 ?_
                refine lv_aload_n hx hb dX2_rest_104 rfl (lv_at hl 3 rfl) ?_
                refine lv_lload_n hx hb dX2_rest_105 rfl (lv_at hl 5 rfl) ?_
                refine bx_vi C (kX2_scale l w h0 x3) BX2_scale (fun U u1 u2 => fo_B w h0 s U u1 u2 hK0) (fun U u1 u2 => (fo_B w h0 s U u1 u2 hK0).1) tw_methodLink_RX2_142_yX2_scale mbX2_scale rfl ⟨rfl, rfl⟩ ⟨Nat.le_of_ble_eq_true rfl, Nat.le_of_ble_eq_true rfl⟩ ⟨Nat.zero_le _, Nat.zero_le _⟩ hl.1 rfl (Nat.le_of_ble_eq_true rfl) dX2_rest_106 ?_
                refine lv_isub hx hb dX2_rest_109 ?_
                refine lv_istore (lv' := [(10, .int ((fX2_scale w x1) - (fX2_scale w x3))), (9, .int ((62 : Int32) - (fo_fraction w))), (7, .long (jl_rem (fX2_plain w x1) (fX2_plain w x3))), (5, .long (fX2_plain w x3)), (0, .ref h0), (1, .long x1), (3, .long x3)]) hx hb dX2_rest_110 hl (by decide) rfl (fun ls hl => ?_)
                exact lX2_rest_112 w (fX2_plain w x3) ((62 : Int32) - (fo_fraction w)) x1 x3 C hK0 (by assumption) (by cases w <;> decide) (fun t => post (fX2_rest_142 w x1 x3 t.1)) (fun o7 o10 ls hl hq => bX2_rest_142 w x1 x3 o7 C hK0 (lv_sub hl [0, 1, 2, 3] rfl) post hq) (Nat.succ ((Int32.toInt ((fX2_scale w x1) - (fX2_scale w x3))).toNat)) (jl_rem (fX2_plain w x1) (fX2_plain w x3)) ((fX2_scale w x1) - (fX2_scale w x3)) _ (Nat.lt_succ_self _) (lv_sub hl [4, 5, 6, 3, 2, 1, 0] rfl) hq
              · rw [if_pos c7] at hq
                refine lv_aload_n hx hb dX2_rest_75 rfl (lv_at hl 1 rfl) ?_
                refine vk_getf (v := .long (fo_nan w)) hx hb (fo_nan_K hK0) va_S.rf hown (hts _ tw_fieldLink_RX2_52_GlulxFloats_Form_nan_J) (fun _ h9 => h9) dX2_rest_76 ?_
                exact W.lret (v := (fo_nan w)) hx hb hr (fun t ht hW => ⟨_, rfl, hq, ht⟩) (fun _ h => absurd h List.not_mem_nil) dX2_rest_79
            · rw [if_neg c6] at hq
              refine lv_lload_n hx hb dX2_rest_59 rfl (lv_at hl 1 rfl) ?_
              exact W.lret (v := x1) hx hb hr (fun t ht hW => ⟨_, rfl, hq, ht⟩) (fun _ h => absurd h List.not_mem_nil) dX2_rest_60
        · rw [if_neg c4] at hq
          refine lv_aload_n hx hb dX2_rest_32 rfl (lv_at hl 0 rfl) ?_
          refine vk_getf (v := .long (fo_nan w)) hx hb (fo_nan_K hK0) va_S.rf hown (hts _ tw_fieldLink_RX2_52_GlulxFloats_Form_nan_J) (fun _ h9 => h9) dX2_rest_33 ?_
          exact W.lret (v := (fo_nan w)) hx hb hr (fun t ht hW => ⟨_, rfl, hq, ht⟩) (fun _ h => absurd h List.not_mem_nil) dX2_rest_36
theorem kX2_rest (l : Launch) (w : Bool) (h0 : Nat) (x1 : Int64) (x3 : Int64) : Met l yX2_rest (Cond.code yX2_rest cX2_rest 11 (some .long) :: bw) rmX2_rest (va_Pc [.ref h0, .long x1, .long x3] (fun U => fo_K w h0 U)) (vp_Sl (fun r => r = fX2_rest w x1 x3)) 0 0 (fun _ => False) := by
  refine bx_ent (by decide) _ _ (Nat.le_of_ble_eq_true rfl) rfl ?_
  intro p e s m below meth c ls C hl hK0
  exact bX2_rest_0 w x1 x3 C hK0 hl _ rfl
abbrev rmX2_root : Room := { frames := 2, cells := 0, slots := 0, locals := 61 }
theorem mbX2_root : mb_V RX2 yX2_root cX2_root 14 (some .long) 1 := ⟨⟨tw_instanceMethod_yX2_root, tw_selects_RX2_yX2_root_yX2_root, tw_initialized_RX2, tw_code_yX2_root⟩, rfl, by decide +kernel, by decide +kernel, by decide +kernel⟩
theorem BX2_root {w : Bool} {h0 : Nat} : bx_B (fun U => fo_K w h0 U) := fo_B w h0
set_option maxRecDepth 20000 in
theorem lX2_root_91 (w : Bool) (x6 : Int32) (x1 : Int64) (x3 : Int32) {p : Program} {l : Launch} {e : Env} {s : State} {m : MethodId} {args : Array Value} {below : List Frame} {meth : Method} {c : Code} {h0 : Nat} {Q : State → Prop} (C : bx_C p s m args meth c cX2_root 14 (some .long) RX2) (hK0 : fo_K w h0 s) (post : Int64 × Int64 × Int64 × Int32 → Prop) (kx : ∀ (o4 : Int64) (o7 : Int64) (o9 : Int64) (o11 : Int32) (ls : Array Slot), lv_has ls 14 [(0, .ref h0), (1, .long x1), (3, .int x3), (4, .long o4), (6, .int x6), (7, .long o7), (9, .long o9), (11, .int o11)] → post (o4, o7, o9, o11) → W p l e rmX2_root s m args below meth c s.heap [] 0 0 Q (F0 m 157 ls [])) :
    ∀ (n : Nat) (x4 : Int64) (x7 : Int64) (x9 : Int64) (x11 : Int32) (ls : Array Slot), (Int32.toInt (x6) - Int32.toInt x11).toNat < n → lv_has ls 14 [(0, .ref h0), (1, .long x1), (3, .int x3), (4, .long x4), (6, .int x6), (7, .long x7), (9, .long x9), (11, .int x11)] → post (gX2_root_91 w x6 n x4 x7 x9 x11) → W p l e rmX2_root s m args below meth c s.heap [] 0 0 Q (F0 m 91 ls []) := by
  obtain ⟨hx, hb, hml, hr, hlocks, hown, hts⟩ := id C
  intro n
  induction n with
  | zero =>
    intro x4 x7 x9 x11 ls hm
    exact absurd hm (Nat.not_lt_zero _)
  | succ n ih =>
    intro x4 x7 x9 x11 ls hm hl hq
    rw [gX2_root_91] at hq
    refine lv_iload hx hb dX2_root_91 (lv_at hl 7 rfl) ?_
    refine lv_iload hx hb dX2_root_93 (lv_at hl 4 rfl) ?_
    refine lv_icmp_ge (tgt := 157) hx hb dX2_root_95 (by decide) (fun c6 => ?_) (fun c6 => ?_)
    · rw [if_pos c6] at hq
      exact kx x4 x7 x9 x11 _ (lv_sub hl [0, 1, 2, 3, 4, 5, 6, 7] rfl) hq
    · rw [if_neg c6] at hq
      refine lv_lload hx hb dX2_root_98 (lv_at hl 6 rfl) ?_
      refine lv_iconst (v := 2) hx hb dX2_root_100 (by decide) ?_
      refine bx_lshl hx hb dX2_root_101 ?_
      refine lv_lload hx hb dX2_root_102 (lv_at hl 3 rfl) ?_
      refine lv_bipush (v := 62) hx hb dX2_root_104 (by decide) ?_
      refine bx_lushr hx hb dX2_root_106 ?_
      refine lv_lor hx hb dX2_root_107 ?_
      refine lv_lstore (lv' := [(9, .long ((jl_shl x9 (2 : Int32)) ||| (jl_ushr x4 (62 : Int32)))), (0, .ref h0), (1, .long x1), (3, .int x3), (4, .long x4), (6, .int x6), (7, .long x7), (11, .int x11)]) hx hb dX2_root_108 hl (by decide) rfl (fun ls hl => ?_)
      refine lv_lload hx hb dX2_root_110 (lv_at hl 4 rfl) ?_
      refine lv_iconst (v := 2) hx hb dX2_root_112 (by decide) ?_
      refine bx_lshl hx hb dX2_root_113 ?_
      refine lv_lstore (lv' := [(4, .long (jl_shl x4 (2 : Int32))), (9, .long ((jl_shl x9 (2 : Int32)) ||| (jl_ushr x4 (62 : Int32)))), (0, .ref h0), (1, .long x1), (3, .int x3), (6, .int x6), (7, .long x7), (11, .int x11)]) hx hb dX2_root_114 hl (by decide) rfl (fun ls hl => ?_)
      refine lv_lload hx hb dX2_root_116 (lv_at hl 6 rfl) ?_
      refine lv_iconst (v := 2) hx hb dX2_root_118 (by decide) ?_
      refine bx_lshl hx hb dX2_root_119 ?_
      refine lv_lconst (v := 1) hx hb dX2_root_120 (by decide) ?_
      refine lv_lor hx hb dX2_root_121 ?_
      refine lv_lstore (lv' := [(12, .long ((jl_shl x7 (2 : Int32)) ||| (1 : Int64))), (4, .long (jl_shl x4 (2 : Int32))), (9, .long ((jl_shl x9 (2 : Int32)) ||| (jl_ushr x4 (62 : Int32)))), (0, .ref h0), (1, .long x1), (3, .int x3), (6, .int x6), (7, .long x7), (11, .int x11)]) hx hb dX2_root_122 hl (by decide) rfl (fun ls hl => ?_)
      refine lv_lload hx hb dX2_root_124 (lv_at hl 7 rfl) ?_
      refine lv_iconst (v := 1) hx hb dX2_root_126 (by decide) ?_
      refine bx_lshl hx hb dX2_root_127 ?_
      refine lv_lstore (lv' := [(7, .long (jl_shl x7 (1 : Int32))), (12, .long ((jl_shl x7 (2 : Int32)) ||| (1 : Int64))), (4, .long (jl_shl x4 (2 : Int32))), (9, .long ((jl_shl x9 (2 : Int32)) ||| (jl_ushr x4 (62 : Int32)))), (0, .ref h0), (1, .long x1), (3, .int x3), (6, .int x6), (11, .int x11)]) hx hb dX2_root_128 hl (by decide) rfl (fun ls hl => ?_)
      refine lv_lload hx hb dX2_root_130 (lv_at hl 3 rfl) ?_
      refine lv_lload hx hb dX2_root_132 (lv_at hl 1 rfl) ?_
      refine bx_lc_lt (tgt := 151) hx hb dX2_root_134 dX2_root_135 (by decide) (fun c7 => ?_) (fun c7 => ?_)
      · rw [if_pos c7] at hq
        refine lv_iinc (v := (x11 + 1)) (lv' := [(11, .int (x11 + 1)), (7, .long (jl_shl x7 (1 : Int32))), (12, .long ((jl_shl x7 (2 : Int32)) ||| (1 : Int64))), (4, .long (jl_shl x4 (2 : Int32))), (9, .long ((jl_shl x9 (2 : Int32)) ||| (jl_ushr x4 (62 : Int32)))), (0, .ref h0), (1, .long x1), (3, .int x3), (6, .int x6)]) hx hb dX2_root_151 hl (k := 8) rfl rfl (by decide) rfl (fun ls hl => ?_)
        refine lv_goto (tgt := 91) hx hb dX2_root_154 (by decide) ?_
        exact ih (jl_shl x4 (2 : Int32)) (jl_shl x7 (1 : Int32)) ((jl_shl x9 (2 : Int32)) ||| (jl_ushr x4 (62 : Int32))) (x11 + 1) _ (lp_up (by assumption) hm) (lv_sub hl [5, 6, 7, 3, 8, 1, 4, 0] rfl) hq
      · rw [if_neg c7] at hq
        refine lv_lload hx hb dX2_root_138 (lv_at hl 3 rfl) ?_
        refine lv_lload hx hb dX2_root_140 (lv_at hl 1 rfl) ?_
        refine lv_lsub hx hb dX2_root_142 ?_
        refine lv_lstore (lv' := [(9, .long (((jl_shl x9 (2 : Int32)) ||| (jl_ushr x4 (62 : Int32))) - ((jl_shl x7 (2 : Int32)) ||| (1 : Int64)))), (7, .long (jl_shl x7 (1 : Int32))), (12, .long ((jl_shl x7 (2 : Int32)) ||| (1 : Int64))), (4, .long (jl_shl x4 (2 : Int32))), (0, .ref h0), (1, .long x1), (3, .int x3), (6, .int x6), (11, .int x11)]) hx hb dX2_root_143 hl (by decide) rfl (fun ls hl => ?_)
        refine lv_lload hx hb dX2_root_145 (lv_at hl 1 rfl) ?_
        refine lv_lconst (v := 1) hx hb dX2_root_147 (by decide) ?_
        refine lv_lor hx hb dX2_root_148 ?_
        refine lv_lstore (lv' := [(7, .long ((jl_shl x7 (1 : Int32)) ||| (1 : Int64))), (9, .long (((jl_shl x9 (2 : Int32)) ||| (jl_ushr x4 (62 : Int32))) - ((jl_shl x7 (2 : Int32)) ||| (1 : Int64)))), (12, .long ((jl_shl x7 (2 : Int32)) ||| (1 : Int64))), (4, .long (jl_shl x4 (2 : Int32))), (0, .ref h0), (1, .long x1), (3, .int x3), (6, .int x6), (11, .int x11)]) hx hb dX2_root_149 hl (by decide) rfl (fun ls hl => ?_)
        refine lv_iinc (v := (x11 + 1)) (lv' := [(11, .int (x11 + 1)), (7, .long ((jl_shl x7 (1 : Int32)) ||| (1 : Int64))), (9, .long (((jl_shl x9 (2 : Int32)) ||| (jl_ushr x4 (62 : Int32))) - ((jl_shl x7 (2 : Int32)) ||| (1 : Int64)))), (12, .long ((jl_shl x7 (2 : Int32)) ||| (1 : Int64))), (4, .long (jl_shl x4 (2 : Int32))), (0, .ref h0), (1, .long x1), (3, .int x3), (6, .int x6)]) hx hb dX2_root_151 hl (k := 8) rfl rfl (by decide) rfl (fun ls hl => ?_)
        refine lv_goto (tgt := 91) hx hb dX2_root_154 (by decide) ?_
        exact ih (jl_shl x4 (2 : Int32)) ((jl_shl x7 (1 : Int32)) ||| (1 : Int64)) (((jl_shl x9 (2 : Int32)) ||| (jl_ushr x4 (62 : Int32))) - ((jl_shl x7 (2 : Int32)) ||| (1 : Int64))) (x11 + 1) _ (lp_up (by assumption) hm) (lv_sub hl [5, 6, 7, 4, 8, 1, 2, 0] rfl) hq
set_option maxRecDepth 20000 in
theorem bX2_root_199 (w : Bool) (s1 : Int32) (s2 : Int32) (s3 : Int64) (s4 : Int32) {p : Program} {l : Launch} {e : Env} {s : State} {m : MethodId} {args : Array Value} {below : List Frame} {meth : Method} {c : Code} {h0 : Nat} {ls : Array Slot} (C : bx_C p s m args meth c cX2_root 14 (some .long) RX2) (hK0 : fo_K w h0 s) (hl : lv_has ls 14 []) (post : Int64 → Prop) (hq : post (fX2_root_199 w s1 s2 s3 s4)) : W p l e rmX2_root s m args below meth c s.heap [] 0 0 (MQ below (vp_Sl post) args s 0 0 (fun _ => False)) (F0 m 199 ls [.int s4, .long s3, .int s2, .int s1, .ref h0]) := by
  obtain ⟨hx, hb, hml, hr, hlocks, hown, hts⟩ := id C
  unfold fX2_root_199 at hq
  refine bx_i2l hx hb dX2_root_199 ?_
  refine lv_lor hx hb dX2_root_200 ?_
  refine bx_vl C (kX2_rounded l w h0 s1 s2 (s3 ||| s4.toInt64)) BX2_rounded (fun U u1 u2 => fo_B w h0 s U u1 u2 hK0) (fun U u1 u2 => (fo_B w h0 s U u1 u2 hK0).1) tw_methodLink_RX2_148_yX2_rounded mbX2_rounded rfl ⟨rfl, rfl⟩ ⟨Nat.le_of_ble_eq_true rfl, Nat.le_of_ble_eq_true rfl⟩ ⟨Nat.zero_le _, Nat.zero_le _⟩ hl.1 rfl (Nat.le_of_ble_eq_true rfl) dX2_root_201 ?_
  exact W.lret (v := (fX2_rounded w s1 s2 (s3 ||| s4.toInt64))) hx hb hr (fun t ht hW => ⟨_, rfl, hq, ht⟩) (fun _ h => absurd h List.not_mem_nil) dX2_root_204
set_option maxRecDepth 20000 in
theorem bX2_root_172 (w : Bool) (x4 : Int64) (x7 : Int64) (x9 : Int64) (s0 : Int32) {p : Program} {l : Launch} {e : Env} {s : State} {m : MethodId} {args : Array Value} {below : List Frame} {meth : Method} {c : Code} {h0 : Nat} {ls : Array Slot} (C : bx_C p s m args meth c cX2_root 14 (some .long) RX2) (hK0 : fo_K w h0 s) (hl : lv_has ls 14 [(0, .ref h0), (4, .long x4), (7, .long x7), (9, .long x9)]) (post : Int64 → Prop) (hq : post (fX2_root_172 w x4 x7 x9 s0)) : W p l e rmX2_root s m args below meth c s.heap [] 0 0 (MQ below (vp_Sl post) args s 0 0 (fun _ => False)) (F0 m 172 ls [.int s0]) := by
  obtain ⟨hx, hb, hml, hr, hlocks, hown, hts⟩ := id C
  unfold fX2_root_172 at hq
  refine lv_istore (lv' := [(11, .int s0), (0, .ref h0), (4, .long x4), (7, .long x7), (9, .long x9)]) hx hb dX2_root_172 hl (by decide) rfl (fun ls hl => ?_)
  refine lv_aload_n hx hb dX2_root_174 rfl (lv_at hl 1 rfl) ?_
  refine lv_iconst (v := 0) hx hb dX2_root_175 (by decide) ?_
  refine lv_iload hx hb dX2_root_176 (lv_at hl 0 rfl) ?_
  refine lv_iconst (v := 1) hx hb dX2_root_178 (by decide) ?_
  refine lv_isub hx hb dX2_root_179 ?_
  refine lv_lload hx hb dX2_root_180 (lv_at hl 3 rfl) ?_
  refine lv_iconst (v := 1) hx hb dX2_root_182 (by decide) ?_
  refine bx_lshl hx hb dX2_root_183 ?_
  refine lv_lload hx hb dX2_root_184 (lv_at hl 4 rfl) ?_
  refine lv_lload hx hb dX2_root_186 (lv_at hl 2 rfl) ?_
  refine lv_lor hx hb dX2_root_188 ?_
  refine lv_lconst (v := 0) hx hb dX2_root_189 (by decide) ?_
  refine bx_lc_eq (tgt := 198) hx hb dX2_root_190 dX2_root_191 (by decide) (fun c8 => ?_) (fun c8 => ?_)
  · rw [if_pos c8] at hq
    refine lv_iconst (v := 0) hx hb dX2_root_198 (by decide) ?_
    exact bX2_root_199 w (0 : Int32) (s0 - (1 : Int32)) (jl_shl x7 (1 : Int32)) (0 : Int32) C hK0 (lv_sub hl [] rfl) post hq
  · rw [if_neg c8] at hq
    refine lv_iconst (v := 1) hx hb dX2_root_194 (by decide) ?_
    refine lv_goto (tgt := 199) hx hb dX2_root_195 (by decide) ?_
    exact bX2_root_199 w (0 : Int32) (s0 - (1 : Int32)) (jl_shl x7 (1 : Int32)) (1 : Int32) C hK0 (lv_sub hl [] rfl) post hq
set_option maxRecDepth 20000 in
theorem bX2_root_157 (w : Bool) (x1 : Int64) (x3 : Int32) (x4 : Int64) (x6 : Int32) (x7 : Int64) (x9 : Int64) {p : Program} {l : Launch} {e : Env} {s : State} {m : MethodId} {args : Array Value} {below : List Frame} {meth : Method} {c : Code} {h0 : Nat} {ls : Array Slot} (C : bx_C p s m args meth c cX2_root 14 (some .long) RX2) (hK0 : fo_K w h0 s) (hl : lv_has ls 14 [(0, .ref h0), (1, .long x1), (3, .int x3), (4, .long x4), (6, .int x6), (7, .long x7), (9, .long x9)]) (post : Int64 → Prop) (hq : post (fX2_root_157 w x1 x3 x4 x6 x7 x9)) : W p l e rmX2_root s m args below meth c s.heap [] 0 0 (MQ below (vp_Sl post) args s 0 0 (fun _ => False)) (F0 m 157 ls []) := by
  obtain ⟨hx, hb, hml, hr, hlocks, hown, hts⟩ := id C
  unfold fX2_root_157 at hq
  refine lv_aload_n hx hb dX2_root_157 rfl (lv_at hl 0 rfl) ?_
  refine lv_lload_n hx hb dX2_root_158 rfl (lv_at hl 1 rfl) ?_
  refine bx_vi C (kX2_scale l w h0 x1) BX2_scale (fun U u1 u2 => fo_B w h0 s U u1 u2 hK0) (fun U u1 u2 => (fo_B w h0 s U u1 u2 hK0).1) tw_methodLink_RX2_142_yX2_scale mbX2_scale rfl ⟨rfl, rfl⟩ ⟨Nat.le_of_ble_eq_true rfl, Nat.le_of_ble_eq_true rfl⟩ ⟨Nat.zero_le _, Nat.zero_le _⟩ hl.1 rfl (Nat.le_of_ble_eq_true rfl) dX2_root_159 ?_
  refine lv_iload_n hx hb dX2_root_162 rfl (lv_at hl 2 rfl) ?_
  refine lv_isub hx hb dX2_root_163 ?_
  refine lv_iconst (v := 2) hx hb dX2_root_164 (by decide) ?_
  refine lv_idiv hx hb dX2_root_165 (by first | assumption | decide) ?_
  refine lv_bipush (v := 32) hx hb dX2_root_166 (by decide) ?_
  refine lv_iadd hx hb dX2_root_168 ?_
  refine lv_iload hx hb dX2_root_169 (lv_at hl 4 rfl) ?_
  refine lv_isub hx hb dX2_root_171 ?_
  exact bX2_root_172 w x4 x7 x9 (((((fX2_scale w x1) - x3) / (2 : Int32)) + (32 : Int32)) - x6) C hK0 (lv_sub hl [0, 3, 5, 6] rfl) post hq
set_option maxRecDepth 20000 in
theorem bX2_root_65 (w : Bool) (x1 : Int64) (x3 : Int32) {p : Program} {l : Launch} {e : Env} {s : State} {m : MethodId} {args : Array Value} {below : List Frame} {meth : Method} {c : Code} {h0 : Nat} {ls : Array Slot} (C : bx_C p s m args meth c cX2_root 14 (some .long) RX2) (hK0 : fo_K w h0 s) (hl : lv_has ls 14 [(0, .ref h0), (1, .long x1), (3, .int x3)]) (post : Int64 → Prop) (hq : post (fX2_root_65 w x1 x3)) : W p l e rmX2_root s m args below meth c s.heap [] 0 0 (MQ below (vp_Sl post) args s 0 0 (fun _ => False)) (F0 m 65 ls []) := by
  obtain ⟨hx, hb, hml, hr, hlocks, hown, hts⟩ := id C
  unfold fX2_root_65 at hq
  refine lv_aload_n hx hb dX2_root_65 rfl (lv_at hl 0 rfl) ?_
  refine lv_lload_n hx hb dX2_root_66 rfl (lv_at hl 1 rfl) ?_
  refine bx_vl C (kX2_plain l w h0 x1) BX2_plain (fun U u1 u2 => fo_B w h0 s U u1 u2 hK0) (fun U u1 u2 => (fo_B w h0 s U u1 u2 hK0).1) tw_methodLink_RX2_145_yX2_plain mbX2_plain rfl ⟨rfl, rfl⟩ ⟨Nat.le_of_ble_eq_true rfl, Nat.le_of_ble_eq_true rfl⟩ ⟨Nat.zero_le _, Nat.zero_le _⟩ hl.1 rfl (Nat.le_of_ble_eq_true rfl) dX2_root_67 ?_
  refine lv_iload_n hx hb dX2_root_70 rfl (lv_at hl 2 rfl) ?_
  refine bx_lshl hx hb dX2_root_71 ?_
  refine lv_lstore (lv' := [(4, .long (jl_shl (fX2_plain w x1) x3)), (0, .ref h0), (1, .long x1), (3, .int x3)]) hx hb dX2_root_72 hl (by decide) rfl (fun ls hl => ?_)
  refine lv_aload_n hx hb dX2_root_74 rfl (lv_at hl 1 rfl) ?_
  refine vk_getf (v := .int (fo_fraction w)) hx hb (fo_fraction_K hK0) va_S.rf hown (hts _ tw_fieldLink_RX2_29_GlulxFloats_Form_fraction_I) (fun _ h9 => h9) dX2_root_75 ?_
  refine lv_iconst (v := 3) hx hb dX2_root_78 (by decide) ?_
  refine lv_iadd hx hb dX2_root_79 ?_
  refine lv_istore (lv' := [(6, .int ((fo_fraction w) + (3 : Int32))), (4, .long (jl_shl (fX2_plain w x1) x3)), (0, .ref h0), (1, .long x1), (3, .int x3)]) hx hb dX2_root_80 hl (by decide) rfl (fun ls hl => ?_)
  refine lv_lconst (v := 0) hx hb dX2_root_82 (by decide) ?_
  refine lv_lstore (lv' := [(7, .long (0 : Int64)), (6, .int ((fo_fraction w) + (3 : Int32))), (4, .long (jl_shl (fX2_plain w x1) x3)), (0, .ref h0), (1, .long x1), (3, .int x3)]) hx hb dX2_root_83 hl (by decide) rfl (fun ls hl => ?_)
  refine lv_lconst (v := 0) hx hb dX2_root_85 (by decide) ?_
  refine lv_lstore (lv' := [(9, .long (0 : Int64)), (7, .long (0 : Int64)), (6, .int ((fo_fraction w) + (3 : Int32))), (4, .long (jl_shl (fX2_plain w x1) x3)), (0, .ref h0), (1, .long x1), (3, .int x3)]) hx hb dX2_root_86 hl (by decide) rfl (fun ls hl => ?_)
  refine lv_iconst (v := 0) hx hb dX2_root_88 (by decide) ?_
  refine lv_istore (lv' := [(11, .int (0 : Int32)), (9, .long (0 : Int64)), (7, .long (0 : Int64)), (6, .int ((fo_fraction w) + (3 : Int32))), (4, .long (jl_shl (fX2_plain w x1) x3)), (0, .ref h0), (1, .long x1), (3, .int x3)]) hx hb dX2_root_89 hl (by decide) rfl (fun ls hl => ?_)
  exact lX2_root_91 w ((fo_fraction w) + (3 : Int32)) x1 x3 C hK0 (fun t => post (fX2_root_157 w x1 x3 t.1 ((fo_fraction w) + (3 : Int32)) t.2.1 t.2.2.1)) (fun o4 o7 o9 o11 ls hl hq => bX2_root_157 w x1 x3 o4 ((fo_fraction w) + (3 : Int32)) o7 o9 C hK0 (lv_sub hl [0, 1, 2, 3, 4, 5, 6] rfl) post hq) (Nat.succ ((Int32.toInt (((fo_fraction w) + (3 : Int32))) - Int32.toInt (0 : Int32)).toNat)) (jl_shl (fX2_plain w x1) x3) (0 : Int64) (0 : Int64) (0 : Int32) _ (Nat.lt_succ_self _) (lv_sub hl [5, 6, 7, 4, 3, 2, 1, 0] rfl) hq
set_option maxRecDepth 20000 in
theorem bX2_root_0 (w : Bool) (x1 : Int64) {p : Program} {l : Launch} {e : Env} {s : State} {m : MethodId} {args : Array Value} {below : List Frame} {meth : Method} {c : Code} {h0 : Nat} {ls : Array Slot} (C : bx_C p s m args meth c cX2_root 14 (some .long) RX2) (hK0 : fo_K w h0 s) (hl : lv_has ls 14 [(0, .ref h0), (1, .long x1)]) (post : Int64 → Prop) (hq : post (fX2_root w x1)) : W p l e rmX2_root s m args below meth c s.heap [] 0 0 (MQ below (vp_Sl post) args s 0 0 (fun _ => False)) (F0 m 0 ls []) := by
  obtain ⟨hx, hb, hml, hr, hlocks, hown, hts⟩ := id C
  unfold fX2_root at hq
  refine lv_aload_n hx hb dX2_root_0 rfl (lv_at hl 0 rfl) ?_
  refine lv_lload_n hx hb dX2_root_1 rfl (lv_at hl 1 rfl) ?_
  refine bx_vi C (kX2_isZero l w h0 x1) BX2_isZero (fun U u1 u2 => fo_B w h0 s U u1 u2 hK0) (fun U u1 u2 => (fo_B w h0 s U u1 u2 hK0).1) tw_methodLink_RX2_139_yX2_isZero mbX2_isZero rfl ⟨rfl, rfl⟩ ⟨Nat.le_of_ble_eq_true rfl, Nat.le_of_ble_eq_true rfl⟩ ⟨Nat.zero_le _, Nat.zero_le _⟩ hl.1 rfl (Nat.le_of_ble_eq_true rfl) dX2_root_2 ?_
  refine lv_if_eq (tgt := 10) hx hb dX2_root_5 (by decide) (fun c1 => ?_) (fun c1 => ?_)
  · rw [if_pos c1] at hq
    refine lv_aload_n hx hb dX2_root_10 rfl (lv_at hl 0 rfl) ?_
    refine lv_lload_n hx hb dX2_root_11 rfl (lv_at hl 1 rfl) ?_
    refine bx_vi C (kX2_isNan l w h0 x1) BX2_isNan (fun U u1 u2 => fo_B w h0 s U u1 u2 hK0) (fun U u1 u2 => (fo_B w h0 s U u1 u2 hK0).1) tw_methodLink_RX2_116_yX2_isNan mbX2_isNan rfl ⟨rfl, rfl⟩ ⟨Nat.le_of_ble_eq_true rfl, Nat.le_of_ble_eq_true rfl⟩ ⟨Nat.zero_le _, Nat.zero_le _⟩ hl.1 rfl (Nat.le_of_ble_eq_true rfl) dX2_root_12 ?_
    refine lv_if_ne (tgt := 26) hx hb dX2_root_15 (by decide) (fun c2 => ?_) (fun c2 => ?_)
    · rw [if_neg c2] at hq
      refine lv_aload_n hx hb dX2_root_26 rfl (lv_at hl 0 rfl) ?_
      refine vk_getf (v := .long (fo_nan w)) hx hb (fo_nan_K hK0) va_S.rf hown (hts _ tw_fieldLink_RX2_52_GlulxFloats_Form_nan_J) (fun _ h9 => h9) dX2_root_27 ?_
      exact W.lret (v := (fo_nan w)) hx hb hr (fun t ht hW => ⟨_, rfl, hq, ht⟩) (fun _ h => absurd h List.not_mem_nil) dX2_root_30
    · rw [if_pos c2] at hq
      refine lv_aload_n hx hb dX2_root_18 rfl (lv_at hl 0 rfl) ?_
      refine lv_lload_n hx hb dX2_root_19 rfl (lv_at hl 1 rfl) ?_
      refine bx_vi C (kX2_isNegative l w h0 x1) BX2_isNegative (fun U u1 u2 => fo_B w h0 s U u1 u2 hK0) (fun U u1 u2 => (fo_B w h0 s U u1 u2 hK0).1) tw_methodLink_RX2_136_yX2_isNegative mbX2_isNegative rfl ⟨rfl, rfl⟩ ⟨Nat.le_of_ble_eq_true rfl, Nat.le_of_ble_eq_true rfl⟩ ⟨Nat.zero_le _, Nat.zero_le _⟩ hl.1 rfl (Nat.le_of_ble_eq_true rfl) dX2_root_20 ?_
      refine lv_if_eq (tgt := 31) hx hb dX2_root_23 (by decide) (fun c3 => ?_) (fun c3 => ?_)
      · rw [if_pos c3] at hq
        refine lv_aload_n hx hb dX2_root_31 rfl (lv_at hl 0 rfl) ?_
        refine lv_lload_n hx hb dX2_root_32 rfl (lv_at hl 1 rfl) ?_
        refine bx_vi C (kX2_isInfinite l w h0 x1) BX2_isInfinite (fun U u1 u2 => fo_B w h0 s U u1 u2 hK0) (fun U u1 u2 => (fo_B w h0 s U u1 u2 hK0).1) tw_methodLink_RX2_127_yX2_isInfinite mbX2_isInfinite rfl ⟨rfl, rfl⟩ ⟨Nat.le_of_ble_eq_true rfl, Nat.le_of_ble_eq_true rfl⟩ ⟨Nat.zero_le _, Nat.zero_le _⟩ hl.1 rfl (Nat.le_of_ble_eq_true rfl) dX2_root_33 ?_
        refine lv_if_eq (tgt := 41) hx hb dX2_root_36 (by decide) (fun c4 => ?_) (fun c4 => ?_)
        · rw [if_pos c4] at hq
          refine lv_aload_n hx hb dX2_root_41 rfl (lv_at hl 0 rfl) ?_
          refine lv_lload_n hx hb dX2_root_42 rfl (lv_at hl 1 rfl) ?_
          refine bx_vl C (kX2_plain l w h0 x1) BX2_plain (fun U u1 u2 => fo_B w h0 s U u1 u2 hK0) (fun U u1 u2 => (fo_B w h0 s U u1 u2 hK0).1) tw_methodLink_RX2_145_yX2_plain mbX2_plain rfl ⟨rfl, rfl⟩ ⟨Nat.le_of_ble_eq_true rfl, Nat.le_of_ble_eq_true rfl⟩ ⟨Nat.zero_le _, Nat.zero_le _⟩ hl.1 rfl (Nat.le_of_ble_eq_true rfl) dX2_root_43 ?_
          refine bx_si C (kX0_zeros l (fX2_plain w x1)) bx_B_true (fun _ _ _ => trivial) tw_methodLink_RX2_160_yX0_zeros mbX0_zeros rfl ⟨rfl, rfl⟩ ⟨Nat.le_of_ble_eq_true rfl, Nat.le_of_ble_eq_true rfl⟩ ⟨Nat.zero_le _, Nat.zero_le _⟩ hl.1 rfl (Nat.le_of_ble_eq_true rfl) dX2_root_46 ?_
          refine lv_istore_n (lv' := [(3, .int (fX0_zeros (fX2_plain w x1))), (0, .ref h0), (1, .long x1)]) hx hb dX2_root_49 rfl hl (by decide) rfl (fun ls hl => ?_)
          refine lv_aload_n hx hb dX2_root_50 rfl (lv_at hl 1 rfl) ?_
          refine lv_lload_n hx hb dX2_root_51 rfl (lv_at hl 2 rfl) ?_
          refine bx_vi C (kX2_scale l w h0 x1) BX2_scale (fun U u1 u2 => fo_B w h0 s U u1 u2 hK0) (fun U u1 u2 => (fo_B w h0 s U u1 u2 hK0).1) tw_methodLink_RX2_142_yX2_scale mbX2_scale rfl ⟨rfl, rfl⟩ ⟨Nat.le_of_ble_eq_true rfl, Nat.le_of_ble_eq_true rfl⟩ ⟨Nat.zero_le _, Nat.zero_le _⟩ hl.1 rfl (Nat.le_of_ble_eq_true rfl) dX2_root_52 ?_
          refine lv_iload_n hx hb dX2_root_55 rfl (lv_at hl 0 rfl) ?_
          refine lv_isub hx hb dX2_root_56 ?_
          refine lv_iconst (v := 1) hx hb dX2_root_57 (by decide) ?_
          refine lv_iand hx hb dX2_root_58 ?_
          refine lv_if_eq (tgt := 65) hx hb dX2_root_59 (by decide) (fun c5 => ?_) (fun c5 => ?_)
          · rw [if_pos c5] at hq
            exact bX2_root_65 w x1 (fX0_zeros (fX2_plain w x1)) C hK0 (lv_sub hl [1, 2, 0] rfl) post hq
          · rw [if_neg c5] at hq
            refine lv_iinc (v := ((fX0_zeros (fX2_plain w x1)) + (-1))) (lv' := [(3, .int ((fX0_zeros (fX2_plain w x1)) + (-1))), (0, .ref h0), (1, .long x1)]) hx hb dX2_root_62 hl (k := 0) rfl rfl (by decide) rfl (fun ls hl => ?_)
            exact bX2_root_65 w x1 ((fX0_zeros (fX2_plain w x1)) + (-1)) C hK0 (lv_sub hl [1, 2, 0] rfl) post hq
        · rw [if_neg c4] at hq
          refine lv_lload_n hx hb dX2_root_39 rfl (lv_at hl 1 rfl) ?_
          exact W.lret (v := x1) hx hb hr (fun t ht hW => ⟨_, rfl, hq, ht⟩) (fun _ h => absurd h List.not_mem_nil) dX2_root_40
      · rw [if_neg c3] at hq
        refine lv_aload_n hx hb dX2_root_26 rfl (lv_at hl 0 rfl) ?_
        refine vk_getf (v := .long (fo_nan w)) hx hb (fo_nan_K hK0) va_S.rf hown (hts _ tw_fieldLink_RX2_52_GlulxFloats_Form_nan_J) (fun _ h9 => h9) dX2_root_27 ?_
        exact W.lret (v := (fo_nan w)) hx hb hr (fun t ht hW => ⟨_, rfl, hq, ht⟩) (fun _ h => absurd h List.not_mem_nil) dX2_root_30
  · rw [if_neg c1] at hq
    refine lv_lload_n hx hb dX2_root_8 rfl (lv_at hl 1 rfl) ?_
    exact W.lret (v := x1) hx hb hr (fun t ht hW => ⟨_, rfl, hq, ht⟩) (fun _ h => absurd h List.not_mem_nil) dX2_root_9
theorem kX2_root (l : Launch) (w : Bool) (h0 : Nat) (x1 : Int64) : Met l yX2_root (Cond.code yX2_root cX2_root 14 (some .long) :: bw) rmX2_root (va_Pc [.ref h0, .long x1] (fun U => fo_K w h0 U)) (vp_Sl (fun r => r = fX2_root w x1)) 0 0 (fun _ => False) := by
  refine bx_ent (by decide) _ _ (Nat.le_of_ble_eq_true rfl) rfl ?_
  intro p e s m below meth c ls C hl hK0
  exact bX2_root_0 w x1 C hK0 hl _ rfl
abbrev rmX2_whole : Room := { frames := 2, cells := 0, slots := 0, locals := 44 }
theorem mbX2_whole : mb_V RX2 yX2_whole cX2_whole 15 (some .long) 2 := ⟨⟨tw_instanceMethod_yX2_whole, tw_selects_RX2_yX2_whole_yX2_whole, tw_initialized_RX2, tw_code_yX2_whole⟩, rfl, by decide +kernel, by decide +kernel, by decide +kernel⟩
theorem BX2_whole {w : Bool} {h0 : Nat} : bx_B (fun U => fo_K w h0 U) := fo_B w h0
set_option maxRecDepth 20000 in
theorem bX2_whole_260 (w : Bool) (x7 : Int64) (x9 : Int64) (s0 : Int32) {p : Program} {l : Launch} {e : Env} {s : State} {m : MethodId} {args : Array Value} {below : List Frame} {meth : Method} {c : Code} {h0 : Nat} {ls : Array Slot} (C : bx_C p s m args meth c cX2_whole 15 (some .long) RX2) (hK0 : fo_K w h0 s) (hl : lv_has ls 15 [(7, .long x7), (9, .long x9)]) (post : Int64 → Prop) (hq : post (fX2_whole_260 w x7 x9 s0)) : W p l e rmX2_whole s m args below meth c s.heap [] 0 0 (MQ below (vp_Sl post) args s 0 0 (fun _ => False)) (F0 m 260 ls [.int s0]) := by
  obtain ⟨hx, hb, hml, hr, hlocks, hown, hts⟩ := id C
  unfold fX2_whole_260 at hq
  refine lv_istore (lv' := [(14, .int s0), (7, .long x7), (9, .long x9)]) hx hb dX2_whole_260 hl (by decide) rfl (fun ls hl => ?_)
  refine lv_iload hx hb dX2_whole_262 (lv_at hl 0 rfl) ?_
  refine lv_if_eq (tgt := 275) hx hb dX2_whole_264 (by decide) (fun c11 => ?_) (fun c11 => ?_)
  · rw [if_pos c11] at hq
    refine lv_lload hx hb dX2_whole_275 (lv_at hl 2 rfl) ?_
    exact W.lret (v := x9) hx hb hr (fun t ht hW => ⟨_, rfl, hq, ht⟩) (fun _ h => absurd h List.not_mem_nil) dX2_whole_277
  · rw [if_neg c11] at hq
    refine lv_lload hx hb dX2_whole_267 (lv_at hl 2 rfl) ?_
    refine lv_lload hx hb dX2_whole_269 (lv_at hl 1 rfl) ?_
    refine lv_ladd hx hb dX2_whole_271 ?_
    refine lv_goto (tgt := 277) hx hb dX2_whole_272 (by decide) ?_
    exact W.lret (v := (x9 + x7)) hx hb hr (fun t ht hW => ⟨_, rfl, hq, ht⟩) (fun _ h => absurd h List.not_mem_nil) dX2_whole_277
set_option maxRecDepth 20000 in
theorem bX2_whole_252 (w : Bool) (x7 : Int64) (x9 : Int64) (s0 : Int32) (s1 : Int32) {p : Program} {l : Launch} {e : Env} {s : State} {m : MethodId} {args : Array Value} {below : List Frame} {meth : Method} {c : Code} {h0 : Nat} {ls : Array Slot} (C : bx_C p s m args meth c cX2_whole 15 (some .long) RX2) (hK0 : fo_K w h0 s) (hl : lv_has ls 15 [(7, .long x7), (9, .long x9)]) (post : Int64 → Prop) (hq : post (fX2_whole_252 w x7 x9 s0 s1)) : W p l e rmX2_whole s m args below meth c s.heap [] 0 0 (MQ below (vp_Sl post) args s 0 0 (fun _ => False)) (F0 m 252 ls [.int s1, .int s0]) := by
  obtain ⟨hx, hb, hml, hr, hlocks, hown, hts⟩ := id C
  unfold fX2_whole_252 at hq
  refine lv_icmp_ne (tgt := 259) hx hb dX2_whole_252 (by decide) (fun c10 => ?_) (fun c10 => ?_)
  · rw [if_neg c10] at hq
    refine lv_iconst (v := 0) hx hb dX2_whole_259 (by decide) ?_
    exact bX2_whole_260 w x7 x9 (0 : Int32) C hK0 (lv_sub hl [0, 1] rfl) post hq
  · rw [if_pos c10] at hq
    refine lv_iconst (v := 1) hx hb dX2_whole_255 (by decide) ?_
    refine lv_goto (tgt := 260) hx hb dX2_whole_256 (by decide) ?_
    exact bX2_whole_260 w x7 x9 (1 : Int32) C hK0 (lv_sub hl [0, 1] rfl) post hq
set_option maxRecDepth 20000 in
theorem bX2_whole_240 (w : Bool) (x5 : Int64) (x7 : Int64) (x9 : Int64) (s0 : Int32) {p : Program} {l : Launch} {e : Env} {s : State} {m : MethodId} {args : Array Value} {below : List Frame} {meth : Method} {c : Code} {h0 : Nat} {ls : Array Slot} (C : bx_C p s m args meth c cX2_whole 15 (some .long) RX2) (hK0 : fo_K w h0 s) (hl : lv_has ls 15 [(5, .long x5), (7, .long x7), (9, .long x9)]) (post : Int64 → Prop) (hq : post (fX2_whole_240 w x5 x7 x9 s0)) : W p l e rmX2_whole s m args below meth c s.heap [] 0 0 (MQ below (vp_Sl post) args s 0 0 (fun _ => False)) (F0 m 240 ls [.int s0]) := by
  obtain ⟨hx, hb, hml, hr, hlocks, hown, hts⟩ := id C
  unfold fX2_whole_240 at hq
  refine lv_lload hx hb dX2_whole_240 (lv_at hl 0 rfl) ?_
  refine lv_lconst (v := 0) hx hb dX2_whole_242 (by decide) ?_
  refine bx_lc_ne (tgt := 251) hx hb dX2_whole_243 dX2_whole_244 (by decide) (fun c9 => ?_) (fun c9 => ?_)
  · rw [if_neg c9] at hq
    refine lv_iconst (v := 0) hx hb dX2_whole_251 (by decide) ?_
    exact bX2_whole_252 w x7 x9 s0 (0 : Int32) C hK0 (lv_sub hl [1, 2] rfl) post hq
  · rw [if_pos c9] at hq
    refine lv_iconst (v := 1) hx hb dX2_whole_247 (by decide) ?_
    refine lv_goto (tgt := 252) hx hb dX2_whole_248 (by decide) ?_
    exact bX2_whole_252 w x7 x9 s0 (1 : Int32) C hK0 (lv_sub hl [1, 2] rfl) post hq
set_option maxRecDepth 20000 in
theorem bX2_whole_223 (w : Bool) (x7 : Int64) (x9 : Int64) {p : Program} {l : Launch} {e : Env} {s : State} {m : MethodId} {args : Array Value} {below : List Frame} {meth : Method} {c : Code} {h0 : Nat} {ls : Array Slot} (C : bx_C p s m args meth c cX2_whole 15 (some .long) RX2) (hK0 : fo_K w h0 s) (hl : lv_has ls 15 [(7, .long x7), (9, .long x9)]) (post : Int64 → Prop) (hq : post (fX2_whole_223 w x7 x9)) : W p l e rmX2_whole s m args below meth c s.heap [] 0 0 (MQ below (vp_Sl post) args s 0 0 (fun _ => False)) (F0 m 223 ls []) := by
  obtain ⟨hx, hb, hml, hr, hlocks, hown, hts⟩ := id C
  unfold fX2_whole_223 at hq
  refine lv_iconst (v := 1) hx hb dX2_whole_223 (by decide) ?_
  refine lv_goto (tgt := 260) hx hb dX2_whole_224 (by decide) ?_
  exact bX2_whole_260 w x7 x9 (1 : Int32) C hK0 (lv_sub hl [0, 1] rfl) post hq
set_option maxRecDepth 20000 in
theorem bX2_whole_227 (w : Bool) (x7 : Int64) (x9 : Int64) {p : Program} {l : Launch} {e : Env} {s : State} {m : MethodId} {args : Array Value} {below : List Frame} {meth : Method} {c : Code} {h0 : Nat} {ls : Array Slot} (C : bx_C p s m args meth c cX2_whole 15 (some .long) RX2) (hK0 : fo_K w h0 s) (hl : lv_has ls 15 [(7, .long x7), (9, .long x9)]) (post : Int64 → Prop) (hq : post (fX2_whole_227 w x7 x9)) : W p l e rmX2_whole s m args below meth c s.heap [] 0 0 (MQ below (vp_Sl post) args s 0 0 (fun _ => False)) (F0 m 227 ls []) := by
  obtain ⟨hx, hb, hml, hr, hlocks, hown, hts⟩ := id C
  unfold fX2_whole_227 at hq
  refine lv_iconst (v := 0) hx hb dX2_whole_227 (by decide) ?_
  refine lv_goto (tgt := 260) hx hb dX2_whole_228 (by decide) ?_
  exact bX2_whole_260 w x7 x9 (0 : Int32) C hK0 (lv_sub hl [0, 1] rfl) post hq
set_option maxRecDepth 20000 in
theorem bX2_whole_191 (w : Bool) (x3 : Int32) (x5 : Int64) (x7 : Int64) (x9 : Int64) (x11 : Int64) (s0 : Int32) {p : Program} {l : Launch} {e : Env} {s : State} {m : MethodId} {args : Array Value} {below : List Frame} {meth : Method} {c : Code} {h0 : Nat} {ls : Array Slot} (C : bx_C p s m args meth c cX2_whole 15 (some .long) RX2) (hK0 : fo_K w h0 s) (hl : lv_has ls 15 [(3, .int x3), (5, .long x5), (7, .long x7), (9, .long x9), (11, .long x11)]) (post : Int64 → Prop) (hq : post (fX2_whole_191 w x3 x5 x7 x9 x11 s0)) : W p l e rmX2_whole s m args below meth c s.heap [] 0 0 (MQ below (vp_Sl post) args s 0 0 (fun _ => False)) (F0 m 191 ls [.int s0]) := by
  obtain ⟨hx, hb, hml, hr, hlocks, hown, hts⟩ := id C
  unfold fX2_whole_191 at hq
  refine lv_istore (lv' := [(13, .int s0), (3, .int x3), (5, .long x5), (7, .long x7), (9, .long x9), (11, .long x11)]) hx hb dX2_whole_191 hl (by decide) rfl (fun ls hl => ?_)
  refine lv_iload_n hx hb dX2_whole_193 rfl (lv_at hl 1 rfl) ?_
  refine lv_iconst (v := 2) hx hb dX2_whole_194 (by decide) ?_
  refine lv_icmp_ne (tgt := 231) hx hb dX2_whole_195 (by decide) (fun c7 => ?_) (fun c7 => ?_)
  · rw [if_neg c7] at hq
    refine lv_iload_n hx hb dX2_whole_231 rfl (lv_at hl 1 rfl) ?_
    refine lv_if_ne (tgt := 239) hx hb dX2_whole_232 (by decide) (fun c8 => ?_) (fun c8 => ?_)
    · rw [if_neg c8] at hq
      refine lv_iconst (v := 0) hx hb dX2_whole_239 (by decide) ?_
      exact bX2_whole_240 w x5 x7 x9 (0 : Int32) C hK0 (lv_sub hl [2, 3, 4] rfl) post hq
    · rw [if_pos c8] at hq
      refine lv_iconst (v := 1) hx hb dX2_whole_235 (by decide) ?_
      refine lv_goto (tgt := 240) hx hb dX2_whole_236 (by decide) ?_
      exact bX2_whole_240 w x5 x7 x9 (1 : Int32) C hK0 (lv_sub hl [2, 3, 4] rfl) post hq
  · rw [if_pos c7] at hq
    refine lv_lload hx hb dX2_whole_198 (lv_at hl 5 rfl) ?_
    refine lv_lload hx hb dX2_whole_200 (lv_at hl 3 rfl) ?_
    refine lv_iconst (v := 1) hx hb dX2_whole_202 (by decide) ?_
    refine bx_lshr hx hb dX2_whole_203 ?_
    refine bx_lc_gt (tgt := 223) hx hb dX2_whole_204 dX2_whole_205 (by decide) (fun c12 => ?_) (fun c12 => ?_)
    · rw [if_pos c12] at hq
      exact bX2_whole_223 w x7 x9 C hK0 (lv_sub hl [3, 4] rfl) post hq
    · rw [if_neg c12] at hq
      refine lv_lload hx hb dX2_whole_208 (lv_at hl 5 rfl) ?_
      refine lv_lload hx hb dX2_whole_210 (lv_at hl 3 rfl) ?_
      refine lv_iconst (v := 1) hx hb dX2_whole_212 (by decide) ?_
      refine bx_lshr hx hb dX2_whole_213 ?_
      refine bx_lc_ne (tgt := 227) hx hb dX2_whole_214 dX2_whole_215 (by decide) (fun c13 => ?_) (fun c13 => ?_)
      · rw [if_neg c13] at hq
        exact bX2_whole_227 w x7 x9 C hK0 (lv_sub hl [3, 4] rfl) post hq
      · rw [if_pos c13] at hq
        refine lv_iload hx hb dX2_whole_218 (lv_at hl 0 rfl) ?_
        refine lv_if_eq (tgt := 227) hx hb dX2_whole_220 (by decide) (fun c14 => ?_) (fun c14 => ?_)
        · rw [if_pos c14] at hq
          exact bX2_whole_227 w x7 x9 C hK0 (lv_sub hl [3, 4] rfl) post hq
        · rw [if_neg c14] at hq
          exact bX2_whole_223 w x7 x9 C hK0 (lv_sub hl [3, 4] rfl) post hq
set_option maxRecDepth 20000 in
theorem bX2_whole_159 (w : Bool) (x1 : Int64) (x3 : Int32) (x5 : Int64) (x7 : Int64) (s0 : Int64) {p : Program} {l : Launch} {e : Env} {s : State} {m : MethodId} {args : Array Value} {below : List Frame} {meth : Method} {c : Code} {h0 : Nat} {ls : Array Slot} (C : bx_C p s m args meth c cX2_whole 15 (some .long) RX2) (hK0 : fo_K w h0 s) (hl : lv_has ls 15 [(1, .long x1), (3, .int x3), (5, .long x5), (7, .long x7)]) (post : Int64 → Prop) (hq : post (fX2_whole_159 w x1 x3 x5 x7 s0)) : W p l e rmX2_whole s m args below meth c s.heap [] 0 0 (MQ below (vp_Sl post) args s 0 0 (fun _ => False)) (F0 m 159 ls [.long s0]) := by
  obtain ⟨hx, hb, hml, hr, hlocks, hown, hts⟩ := id C
  unfold fX2_whole_159 at hq
  refine lv_lstore (lv' := [(9, .long s0), (1, .long x1), (3, .int x3), (5, .long x5), (7, .long x7)]) hx hb dX2_whole_159 hl (by decide) rfl (fun ls hl => ?_)
  refine lv_lload_n hx hb dX2_whole_161 rfl (lv_at hl 1 rfl) ?_
  refine lv_lload hx hb dX2_whole_162 (lv_at hl 0 rfl) ?_
  refine lv_lsub hx hb dX2_whole_164 ?_
  refine lv_lstore (lv' := [(11, .long (x1 - s0)), (9, .long s0), (1, .long x1), (3, .int x3), (5, .long x5), (7, .long x7)]) hx hb dX2_whole_165 hl (by decide) rfl (fun ls hl => ?_)
  refine lv_lload hx hb dX2_whole_167 (lv_at hl 0 rfl) ?_
  refine lv_lconst (v := 0) hx hb dX2_whole_169 (by decide) ?_
  refine bx_lc_ne (tgt := 176) hx hb dX2_whole_170 dX2_whole_171 (by decide) (fun c5 => ?_) (fun c5 => ?_)
  · rw [if_neg c5] at hq
    refine lv_lload hx hb dX2_whole_176 (lv_at hl 1 rfl) ?_
    refine lv_lload hx hb dX2_whole_178 (lv_at hl 5 rfl) ?_
    refine lv_land hx hb dX2_whole_180 ?_
    refine lv_lconst (v := 0) hx hb dX2_whole_181 (by decide) ?_
    refine bx_lc_eq (tgt := 190) hx hb dX2_whole_182 dX2_whole_183 (by decide) (fun c6 => ?_) (fun c6 => ?_)
    · rw [if_pos c6] at hq
      refine lv_iconst (v := 0) hx hb dX2_whole_190 (by decide) ?_
      exact bX2_whole_191 w x3 x5 x7 s0 (x1 - s0) (0 : Int32) C hK0 (lv_sub hl [3, 4, 5, 1, 0] rfl) post hq
    · rw [if_neg c6] at hq
      refine lv_iconst (v := 1) hx hb dX2_whole_186 (by decide) ?_
      refine lv_goto (tgt := 191) hx hb dX2_whole_187 (by decide) ?_
      exact bX2_whole_191 w x3 x5 x7 s0 (x1 - s0) (1 : Int32) C hK0 (lv_sub hl [3, 4, 5, 1, 0] rfl) post hq
  · rw [if_pos c5] at hq
    refine lv_lload_n hx hb dX2_whole_174 rfl (lv_at hl 2 rfl) ?_
    exact W.lret (v := x1) hx hb hr (fun t ht hW => ⟨_, rfl, hq, ht⟩) (fun _ h => absurd h List.not_mem_nil) dX2_whole_175
set_option maxRecDepth 20000 in
theorem bX2_whole_123 (w : Bool) (x5 : Int64) (s0 : Int32) {p : Program} {l : Launch} {e : Env} {s : State} {m : MethodId} {args : Array Value} {below : List Frame} {meth : Method} {c : Code} {h0 : Nat} {ls : Array Slot} (C : bx_C p s m args meth c cX2_whole 15 (some .long) RX2) (hK0 : fo_K w h0 s) (hl : lv_has ls 15 [(0, .ref h0), (5, .long x5)]) (post : Int64 → Prop) (hq : post (fX2_whole_123 w x5 s0)) : W p l e rmX2_whole s m args below meth c s.heap [] 0 0 (MQ below (vp_Sl post) args s 0 0 (fun _ => False)) (F0 m 123 ls [.int s0]) := by
  obtain ⟨hx, hb, hml, hr, hlocks, hown, hts⟩ := id C
  unfold fX2_whole_123 at hq
  refine lv_istore (lv' := [(9, .int s0), (0, .ref h0), (5, .long x5)]) hx hb dX2_whole_123 hl (by decide) rfl (fun ls hl => ?_)
  refine lv_iload hx hb dX2_whole_125 (lv_at hl 0 rfl) ?_
  refine lv_if_eq (tgt := 140) hx hb dX2_whole_127 (by decide) (fun c19 => ?_) (fun c19 => ?_)
  · rw [if_pos c19] at hq
    refine lv_lload hx hb dX2_whole_140 (lv_at hl 2 rfl) ?_
    exact W.lret (v := x5) hx hb hr (fun t ht hW => ⟨_, rfl, hq, ht⟩) (fun _ h => absurd h List.not_mem_nil) dX2_whole_142
  · rw [if_neg c19] at hq
    refine lv_lload hx hb dX2_whole_130 (lv_at hl 2 rfl) ?_
    refine lv_aload_n hx hb dX2_whole_132 rfl (lv_at hl 1 rfl) ?_
    refine vk_getf (v := .long (fo_one w)) hx hb (fo_one_K hK0) va_S.rf hown (hts _ tw_fieldLink_RX2_46_GlulxFloats_Form_one_J) (fun _ h9 => h9) dX2_whole_133 ?_
    refine lv_lor hx hb dX2_whole_136 ?_
    refine lv_goto (tgt := 142) hx hb dX2_whole_137 (by decide) ?_
    exact W.lret (v := (x5 ||| (fo_one w))) hx hb hr (fun t ht hW => ⟨_, rfl, hq, ht⟩) (fun _ h => absurd h List.not_mem_nil) dX2_whole_142
set_option maxRecDepth 20000 in
theorem bX2_whole_115 (w : Bool) (x5 : Int64) (s0 : Int32) (s1 : Int32) {p : Program} {l : Launch} {e : Env} {s : State} {m : MethodId} {args : Array Value} {below : List Frame} {meth : Method} {c : Code} {h0 : Nat} {ls : Array Slot} (C : bx_C p s m args meth c cX2_whole 15 (some .long) RX2) (hK0 : fo_K w h0 s) (hl : lv_has ls 15 [(0, .ref h0), (5, .long x5)]) (post : Int64 → Prop) (hq : post (fX2_whole_115 w x5 s0 s1)) : W p l e rmX2_whole s m args below meth c s.heap [] 0 0 (MQ below (vp_Sl post) args s 0 0 (fun _ => False)) (F0 m 115 ls [.int s1, .int s0]) := by
  obtain ⟨hx, hb, hml, hr, hlocks, hown, hts⟩ := id C
  unfold fX2_whole_115 at hq
  refine lv_icmp_ne (tgt := 122) hx hb dX2_whole_115 (by decide) (fun c18 => ?_) (fun c18 => ?_)
  · rw [if_neg c18] at hq
    refine lv_iconst (v := 0) hx hb dX2_whole_122 (by decide) ?_
    exact bX2_whole_123 w x5 (0 : Int32) C hK0 (lv_sub hl [0, 1] rfl) post hq
  · rw [if_pos c18] at hq
    refine lv_iconst (v := 1) hx hb dX2_whole_118 (by decide) ?_
    refine lv_goto (tgt := 123) hx hb dX2_whole_119 (by decide) ?_
    exact bX2_whole_123 w x5 (1 : Int32) C hK0 (lv_sub hl [0, 1] rfl) post hq
set_option maxRecDepth 20000 in
theorem bX2_whole_103 (w : Bool) (x5 : Int64) (s0 : Int32) {p : Program} {l : Launch} {e : Env} {s : State} {m : MethodId} {args : Array Value} {below : List Frame} {meth : Method} {c : Code} {h0 : Nat} {ls : Array Slot} (C : bx_C p s m args meth c cX2_whole 15 (some .long) RX2) (hK0 : fo_K w h0 s) (hl : lv_has ls 15 [(0, .ref h0), (5, .long x5)]) (post : Int64 → Prop) (hq : post (fX2_whole_103 w x5 s0)) : W p l e rmX2_whole s m args below meth c s.heap [] 0 0 (MQ below (vp_Sl post) args s 0 0 (fun _ => False)) (F0 m 103 ls [.int s0]) := by
  obtain ⟨hx, hb, hml, hr, hlocks, hown, hts⟩ := id C
  unfold fX2_whole_103 at hq
  refine lv_lload hx hb dX2_whole_103 (lv_at hl 1 rfl) ?_
  refine lv_lconst (v := 0) hx hb dX2_whole_105 (by decide) ?_
  refine bx_lc_ne (tgt := 114) hx hb dX2_whole_106 dX2_whole_107 (by decide) (fun c17 => ?_) (fun c17 => ?_)
  · rw [if_neg c17] at hq
    refine lv_iconst (v := 0) hx hb dX2_whole_114 (by decide) ?_
    exact bX2_whole_115 w x5 s0 (0 : Int32) C hK0 (lv_sub hl [0, 1] rfl) post hq
  · rw [if_pos c17] at hq
    refine lv_iconst (v := 1) hx hb dX2_whole_110 (by decide) ?_
    refine lv_goto (tgt := 115) hx hb dX2_whole_111 (by decide) ?_
    exact bX2_whole_115 w x5 s0 (1 : Int32) C hK0 (lv_sub hl [0, 1] rfl) post hq
set_option maxRecDepth 20000 in
theorem bX2_whole_0 (w : Bool) (x1 : Int64) (x3 : Int32) {p : Program} {l : Launch} {e : Env} {s : State} {m : MethodId} {args : Array Value} {below : List Frame} {meth : Method} {c : Code} {h0 : Nat} {ls : Array Slot} (C : bx_C p s m args meth c cX2_whole 15 (some .long) RX2) (hK0 : fo_K w h0 s) (hl : lv_has ls 15 [(0, .ref h0), (1, .long x1), (3, .int x3)]) (post : Int64 → Prop) (hq : post (fX2_whole w x1 x3)) : W p l e rmX2_whole s m args below meth c s.heap [] 0 0 (MQ below (vp_Sl post) args s 0 0 (fun _ => False)) (F0 m 0 ls []) := by
  obtain ⟨hx, hb, hml, hr, hlocks, hown, hts⟩ := id C
  unfold fX2_whole at hq
  refine lv_aload_n hx hb dX2_whole_0 rfl (lv_at hl 0 rfl) ?_
  refine lv_lload_n hx hb dX2_whole_1 rfl (lv_at hl 1 rfl) ?_
  refine bx_vi C (kX2_isNan l w h0 x1) BX2_isNan (fun U u1 u2 => fo_B w h0 s U u1 u2 hK0) (fun U u1 u2 => (fo_B w h0 s U u1 u2 hK0).1) tw_methodLink_RX2_116_yX2_isNan mbX2_isNan rfl ⟨rfl, rfl⟩ ⟨Nat.le_of_ble_eq_true rfl, Nat.le_of_ble_eq_true rfl⟩ ⟨Nat.zero_le _, Nat.zero_le _⟩ hl.1 rfl (Nat.le_of_ble_eq_true rfl) dX2_whole_2 ?_
  refine lv_if_eq (tgt := 13) hx hb dX2_whole_5 (by decide) (fun c1 => ?_) (fun c1 => ?_)
  · rw [if_pos c1] at hq
    refine lv_aload_n hx hb dX2_whole_13 rfl (lv_at hl 0 rfl) ?_
    refine lv_lload_n hx hb dX2_whole_14 rfl (lv_at hl 1 rfl) ?_
    refine bx_vi C (kX2_biased l w h0 x1) BX2_biased (fun U u1 u2 => fo_B w h0 s U u1 u2 hK0) (fun U u1 u2 => (fo_B w h0 s U u1 u2 hK0).1) tw_methodLink_RX2_101_yX2_biased mbX2_biased rfl ⟨rfl, rfl⟩ ⟨Nat.le_of_ble_eq_true rfl, Nat.le_of_ble_eq_true rfl⟩ ⟨Nat.zero_le _, Nat.zero_le _⟩ hl.1 rfl (Nat.le_of_ble_eq_true rfl) dX2_whole_15 ?_
    refine lv_aload_n hx hb dX2_whole_18 rfl (lv_at hl 0 rfl) ?_
    refine vk_getf (v := .int (fo_bias w)) hx hb (fo_bias_K hK0) va_S.rf hown (hts _ tw_fieldLink_RX2_33_GlulxFloats_Form_bias_I) (fun _ h9 => h9) dX2_whole_19 ?_
    refine lv_isub hx hb dX2_whole_22 ?_
    refine lv_istore (lv' := [(4, .int ((fX2_biased w x1) - (fo_bias w))), (0, .ref h0), (1, .long x1), (3, .int x3)]) hx hb dX2_whole_23 hl (by decide) rfl (fun ls hl => ?_)
    refine lv_iload hx hb dX2_whole_25 (lv_at hl 0 rfl) ?_
    refine lv_aload_n hx hb dX2_whole_27 rfl (lv_at hl 1 rfl) ?_
    refine vk_getf (v := .int (fo_fraction w)) hx hb (fo_fraction_K hK0) va_S.rf hown (hts _ tw_fieldLink_RX2_29_GlulxFloats_Form_fraction_I) (fun _ h9 => h9) dX2_whole_28 ?_
    refine lv_icmp_ge (tgt := 42) hx hb dX2_whole_31 (by decide) (fun c2 => ?_) (fun c2 => ?_)
    · rw [if_pos c2] at hq
      refine lv_lload_n hx hb dX2_whole_42 rfl (lv_at hl 2 rfl) ?_
      exact W.lret (v := x1) hx hb hr (fun t ht hW => ⟨_, rfl, hq, ht⟩) (fun _ h => absurd h List.not_mem_nil) dX2_whole_43
    · rw [if_neg c2] at hq
      refine lv_aload_n hx hb dX2_whole_34 rfl (lv_at hl 1 rfl) ?_
      refine lv_lload_n hx hb dX2_whole_35 rfl (lv_at hl 2 rfl) ?_
      refine bx_vi C (kX2_isZero l w h0 x1) BX2_isZero (fun U u1 u2 => fo_B w h0 s U u1 u2 hK0) (fun U u1 u2 => (fo_B w h0 s U u1 u2 hK0).1) tw_methodLink_RX2_139_yX2_isZero mbX2_isZero rfl ⟨rfl, rfl⟩ ⟨Nat.le_of_ble_eq_true rfl, Nat.le_of_ble_eq_true rfl⟩ ⟨Nat.zero_le _, Nat.zero_le _⟩ hl.1 rfl (Nat.le_of_ble_eq_true rfl) dX2_whole_36 ?_
      refine lv_if_eq (tgt := 44) hx hb dX2_whole_39 (by decide) (fun c3 => ?_) (fun c3 => ?_)
      · rw [if_pos c3] at hq
        refine lv_lload_n hx hb dX2_whole_44 rfl (lv_at hl 2 rfl) ?_
        refine lv_aload_n hx hb dX2_whole_45 rfl (lv_at hl 1 rfl) ?_
        refine vk_getf (v := .long (fo_sign w)) hx hb (fo_sign_K hK0) va_S.rf hown (hts _ tw_fieldLink_RX2_42_GlulxFloats_Form_sign_J) (fun _ h9 => h9) dX2_whole_46 ?_
        refine lv_land hx hb dX2_whole_49 ?_
        refine lv_lstore (lv' := [(5, .long (x1 &&& (fo_sign w))), (4, .int ((fX2_biased w x1) - (fo_bias w))), (0, .ref h0), (1, .long x1), (3, .int x3)]) hx hb dX2_whole_50 hl (by decide) rfl (fun ls hl => ?_)
        refine lv_iload hx hb dX2_whole_52 (lv_at hl 1 rfl) ?_
        refine lv_if_ge (tgt := 143) hx hb dX2_whole_54 (by decide) (fun c4 => ?_) (fun c4 => ?_)
        · rw [if_pos c4] at hq
          refine lv_lconst (v := 1) hx hb dX2_whole_143 (by decide) ?_
          refine lv_aload_n hx hb dX2_whole_144 rfl (lv_at hl 2 rfl) ?_
          refine vk_getf (v := .int (fo_fraction w)) hx hb (fo_fraction_K hK0) va_S.rf hown (hts _ tw_fieldLink_RX2_29_GlulxFloats_Form_fraction_I) (fun _ h9 => h9) dX2_whole_145 ?_
          refine lv_iload hx hb dX2_whole_148 (lv_at hl 1 rfl) ?_
          refine lv_isub hx hb dX2_whole_150 ?_
          refine bx_lshl hx hb dX2_whole_151 ?_
          refine lv_lstore (lv' := [(7, .long (jl_shl (1 : Int64) ((fo_fraction w) - ((fX2_biased w x1) - (fo_bias w))))), (5, .long (x1 &&& (fo_sign w))), (4, .int ((fX2_biased w x1) - (fo_bias w))), (0, .ref h0), (1, .long x1), (3, .int x3)]) hx hb dX2_whole_152 hl (by decide) rfl (fun ls hl => ?_)
          refine lv_lload_n hx hb dX2_whole_154 rfl (lv_at hl 4 rfl) ?_
          refine lv_lload hx hb dX2_whole_155 (lv_at hl 0 rfl) ?_
          refine lv_lneg hx hb dX2_whole_157 ?_
          refine lv_land hx hb dX2_whole_158 ?_
          exact bX2_whole_159 w x1 x3 (x1 &&& (fo_sign w)) (jl_shl (1 : Int64) ((fo_fraction w) - ((fX2_biased w x1) - (fo_bias w)))) (x1 &&& (-(jl_shl (1 : Int64) ((fo_fraction w) - ((fX2_biased w x1) - (fo_bias w)))))) C hK0 (lv_sub hl [4, 5, 1, 0] rfl) post hq
        · rw [if_neg c4] at hq
          refine lv_aload_n hx hb dX2_whole_57 rfl (lv_at hl 2 rfl) ?_
          refine vk_getf (v := .long (fo_one w)) hx hb (fo_one_K hK0) va_S.rf hown (hts _ tw_fieldLink_RX2_46_GlulxFloats_Form_one_J) (fun _ h9 => h9) dX2_whole_58 ?_
          refine lv_lconst (v := 1) hx hb dX2_whole_61 (by decide) ?_
          refine lv_aload_n hx hb dX2_whole_62 rfl (lv_at hl 2 rfl) ?_
          refine vk_getf (v := .int (fo_fraction w)) hx hb (fo_fraction_K hK0) va_S.rf hown (hts _ tw_fieldLink_RX2_29_GlulxFloats_Form_fraction_I) (fun _ h9 => h9) dX2_whole_63 ?_
          refine bx_lshl hx hb dX2_whole_66 ?_
          refine lv_lsub hx hb dX2_whole_67 ?_
          refine lv_lstore (lv' := [(7, .long ((fo_one w) - (jl_shl (1 : Int64) (fo_fraction w)))), (5, .long (x1 &&& (fo_sign w))), (4, .int ((fX2_biased w x1) - (fo_bias w))), (0, .ref h0), (1, .long x1), (3, .int x3)]) hx hb dX2_whole_68 hl (by decide) rfl (fun ls hl => ?_)
          refine lv_iload_n hx hb dX2_whole_70 rfl (lv_at hl 5 rfl) ?_
          refine lv_iconst (v := 2) hx hb dX2_whole_71 (by decide) ?_
          refine lv_icmp_ne (tgt := 94) hx hb dX2_whole_72 (by decide) (fun c15 => ?_) (fun c15 => ?_)
          · rw [if_neg c15] at hq
            refine lv_iload_n hx hb dX2_whole_94 rfl (lv_at hl 5 rfl) ?_
            refine lv_if_ne (tgt := 102) hx hb dX2_whole_95 (by decide) (fun c16 => ?_) (fun c16 => ?_)
            · rw [if_neg c16] at hq
              refine lv_iconst (v := 0) hx hb dX2_whole_102 (by decide) ?_
              exact bX2_whole_103 w (x1 &&& (fo_sign w)) (0 : Int32) C hK0 (lv_sub hl [3, 1] rfl) post hq
            · rw [if_pos c16] at hq
              refine lv_iconst (v := 1) hx hb dX2_whole_98 (by decide) ?_
              refine lv_goto (tgt := 103) hx hb dX2_whole_99 (by decide) ?_
              exact bX2_whole_103 w (x1 &&& (fo_sign w)) (1 : Int32) C hK0 (lv_sub hl [3, 1] rfl) post hq
          · rw [if_pos c15] at hq
            refine lv_aload_n hx hb dX2_whole_75 rfl (lv_at hl 3 rfl) ?_
            refine lv_lload_n hx hb dX2_whole_76 rfl (lv_at hl 4 rfl) ?_
            refine bx_vl C (kX2_size l w h0 x1) BX2_size (fun U u1 u2 => fo_B w h0 s U u1 u2 hK0) (fun U u1 u2 => (fo_B w h0 s U u1 u2 hK0).1) tw_methodLink_RX2_82_yX2_size mbX2_size rfl ⟨rfl, rfl⟩ ⟨Nat.le_of_ble_eq_true rfl, Nat.le_of_ble_eq_true rfl⟩ ⟨Nat.zero_le _, Nat.zero_le _⟩ hl.1 rfl (Nat.le_of_ble_eq_true rfl) dX2_whole_77 ?_
            refine lv_lload hx hb dX2_whole_80 (lv_at hl 0 rfl) ?_
            refine bx_lc_le (tgt := 90) hx hb dX2_whole_82 dX2_whole_83 (by decide) (fun c20 => ?_) (fun c20 => ?_)
            · rw [if_pos c20] at hq
              refine lv_iconst (v := 0) hx hb dX2_whole_90 (by decide) ?_
              refine lv_goto (tgt := 123) hx hb dX2_whole_91 (by decide) ?_
              exact bX2_whole_123 w (x1 &&& (fo_sign w)) (0 : Int32) C hK0 (lv_sub hl [3, 1] rfl) post hq
            · rw [if_neg c20] at hq
              refine lv_iconst (v := 1) hx hb dX2_whole_86 (by decide) ?_
              refine lv_goto (tgt := 123) hx hb dX2_whole_87 (by decide) ?_
              exact bX2_whole_123 w (x1 &&& (fo_sign w)) (1 : Int32) C hK0 (lv_sub hl [3, 1] rfl) post hq
      · rw [if_neg c3] at hq
        refine lv_lload_n hx hb dX2_whole_42 rfl (lv_at hl 2 rfl) ?_
        exact W.lret (v := x1) hx hb hr (fun t ht hW => ⟨_, rfl, hq, ht⟩) (fun _ h => absurd h List.not_mem_nil) dX2_whole_43
  · rw [if_neg c1] at hq
    refine lv_aload_n hx hb dX2_whole_8 rfl (lv_at hl 0 rfl) ?_
    refine vk_getf (v := .long (fo_nan w)) hx hb (fo_nan_K hK0) va_S.rf hown (hts _ tw_fieldLink_RX2_52_GlulxFloats_Form_nan_J) (fun _ h9 => h9) dX2_whole_9 ?_
    exact W.lret (v := (fo_nan w)) hx hb hr (fun t ht hW => ⟨_, rfl, hq, ht⟩) (fun _ h => absurd h List.not_mem_nil) dX2_whole_12
theorem kX2_whole (l : Launch) (w : Bool) (h0 : Nat) (x1 : Int64) (x3 : Int32) : Met l yX2_whole (Cond.code yX2_whole cX2_whole 15 (some .long) :: bw) rmX2_whole (va_Pc [.ref h0, .long x1, .int x3] (fun U => fo_K w h0 U)) (vp_Sl (fun r => r = fX2_whole w x1 x3)) 0 0 (fun _ => False) := by
  refine bx_ent (by decide) _ _ (Nat.le_of_ble_eq_true rfl) rfl ?_
  intro p e s m below meth c ls C hl hK0
  exact bX2_whole_0 w x1 x3 C hK0 hl _ rfl
abbrev rmX2_rank : Room := { frames := 1, cells := 0, slots := 0, locals := 22 }
theorem mbX2_rank : mb_V RX2 yX2_rank cX2_rank 3 (some .long) 1 := ⟨⟨tw_instanceMethod_yX2_rank, tw_selects_RX2_yX2_rank_yX2_rank, tw_initialized_RX2, tw_code_yX2_rank⟩, rfl, by decide +kernel, by decide +kernel, by decide +kernel⟩
theorem BX2_rank {w : Bool} {h0 : Nat} : bx_B (fun U => fo_K w h0 U) := fo_B w h0
set_option maxRecDepth 20000 in
theorem bX2_rank_0 (w : Bool) (x1 : Int64) {p : Program} {l : Launch} {e : Env} {s : State} {m : MethodId} {args : Array Value} {below : List Frame} {meth : Method} {c : Code} {h0 : Nat} {ls : Array Slot} (C : bx_C p s m args meth c cX2_rank 3 (some .long) RX2) (hK0 : fo_K w h0 s) (hl : lv_has ls 3 [(0, .ref h0), (1, .long x1)]) (post : Int64 → Prop) (hq : post (fX2_rank w x1)) : W p l e rmX2_rank s m args below meth c s.heap [] 0 0 (MQ below (vp_Sl post) args s 0 0 (fun _ => False)) (F0 m 0 ls []) := by
  obtain ⟨hx, hb, hml, hr, hlocks, hown, hts⟩ := id C
  unfold fX2_rank at hq
  refine lv_aload_n hx hb dX2_rank_0 rfl (lv_at hl 0 rfl) ?_
  refine lv_lload_n hx hb dX2_rank_1 rfl (lv_at hl 1 rfl) ?_
  refine bx_vi C (kX2_isNegative l w h0 x1) BX2_isNegative (fun U u1 u2 => fo_B w h0 s U u1 u2 hK0) (fun U u1 u2 => (fo_B w h0 s U u1 u2 hK0).1) tw_methodLink_RX2_136_yX2_isNegative mbX2_isNegative rfl ⟨rfl, rfl⟩ ⟨Nat.le_of_ble_eq_true rfl, Nat.le_of_ble_eq_true rfl⟩ ⟨Nat.zero_le _, Nat.zero_le _⟩ hl.1 rfl (Nat.le_of_ble_eq_true rfl) dX2_rank_2 ?_
  refine lv_if_eq (tgt := 17) hx hb dX2_rank_5 (by decide) (fun c1 => ?_) (fun c1 => ?_)
  · rw [if_pos c1] at hq
    refine lv_aload_n hx hb dX2_rank_17 rfl (lv_at hl 0 rfl) ?_
    refine lv_lload_n hx hb dX2_rank_18 rfl (lv_at hl 1 rfl) ?_
    refine bx_vl C (kX2_size l w h0 x1) BX2_size (fun U u1 u2 => fo_B w h0 s U u1 u2 hK0) (fun U u1 u2 => (fo_B w h0 s U u1 u2 hK0).1) tw_methodLink_RX2_82_yX2_size mbX2_size rfl ⟨rfl, rfl⟩ ⟨Nat.le_of_ble_eq_true rfl, Nat.le_of_ble_eq_true rfl⟩ ⟨Nat.zero_le _, Nat.zero_le _⟩ hl.1 rfl (Nat.le_of_ble_eq_true rfl) dX2_rank_19 ?_
    exact W.lret (v := (fX2_size w x1)) hx hb hr (fun t ht hW => ⟨_, rfl, hq, ht⟩) (fun _ h => absurd h List.not_mem_nil) dX2_rank_22
  · rw [if_neg c1] at hq
    refine lv_aload_n hx hb dX2_rank_8 rfl (lv_at hl 0 rfl) ?_
    refine lv_lload_n hx hb dX2_rank_9 rfl (lv_at hl 1 rfl) ?_
    refine bx_vl C (kX2_size l w h0 x1) BX2_size (fun U u1 u2 => fo_B w h0 s U u1 u2 hK0) (fun U u1 u2 => (fo_B w h0 s U u1 u2 hK0).1) tw_methodLink_RX2_82_yX2_size mbX2_size rfl ⟨rfl, rfl⟩ ⟨Nat.le_of_ble_eq_true rfl, Nat.le_of_ble_eq_true rfl⟩ ⟨Nat.zero_le _, Nat.zero_le _⟩ hl.1 rfl (Nat.le_of_ble_eq_true rfl) dX2_rank_10 ?_
    refine lv_lneg hx hb dX2_rank_13 ?_
    refine lv_goto (tgt := 22) hx hb dX2_rank_14 (by decide) ?_
    exact W.lret (v := (-(fX2_size w x1))) hx hb hr (fun t ht hW => ⟨_, rfl, hq, ht⟩) (fun _ h => absurd h List.not_mem_nil) dX2_rank_22
theorem kX2_rank (l : Launch) (w : Bool) (h0 : Nat) (x1 : Int64) : Met l yX2_rank (Cond.code yX2_rank cX2_rank 3 (some .long) :: bw) rmX2_rank (va_Pc [.ref h0, .long x1] (fun U => fo_K w h0 U)) (vp_Sl (fun r => r = fX2_rank w x1)) 0 0 (fun _ => False) := by
  refine bx_ent (by decide) _ _ (Nat.le_of_ble_eq_true rfl) rfl ?_
  intro p e s m below meth c ls C hl hK0
  exact bX2_rank_0 w x1 C hK0 hl _ rfl
abbrev rmX2_lesser : Room := { frames := 2, cells := 0, slots := 0, locals := 44 }
theorem mbX2_lesser : mb_V RX2 yX2_lesser cX2_lesser 5 (some .long) 2 := ⟨⟨tw_instanceMethod_yX2_lesser, tw_selects_RX2_yX2_lesser_yX2_lesser, tw_initialized_RX2, tw_code_yX2_lesser⟩, rfl, by decide +kernel, by decide +kernel, by decide +kernel⟩
theorem BX2_lesser {w : Bool} {h0 : Nat} : bx_B (fun U => fo_K w h0 U) := fo_B w h0
set_option maxRecDepth 20000 in
theorem bX2_lesser_0 (w : Bool) (x1 : Int64) (x3 : Int64) {p : Program} {l : Launch} {e : Env} {s : State} {m : MethodId} {args : Array Value} {below : List Frame} {meth : Method} {c : Code} {h0 : Nat} {ls : Array Slot} (C : bx_C p s m args meth c cX2_lesser 5 (some .long) RX2) (hK0 : fo_K w h0 s) (hl : lv_has ls 5 [(0, .ref h0), (1, .long x1), (3, .long x3)]) (post : Int64 → Prop) (hq : post (fX2_lesser w x1 x3)) : W p l e rmX2_lesser s m args below meth c s.heap [] 0 0 (MQ below (vp_Sl post) args s 0 0 (fun _ => False)) (F0 m 0 ls []) := by
  obtain ⟨hx, hb, hml, hr, hlocks, hown, hts⟩ := id C
  unfold fX2_lesser at hq
  refine lv_aload_n hx hb dX2_lesser_0 rfl (lv_at hl 0 rfl) ?_
  refine lv_lload_n hx hb dX2_lesser_1 rfl (lv_at hl 1 rfl) ?_
  refine bx_vi C (kX2_isNan l w h0 x1) BX2_isNan (fun U u1 u2 => fo_B w h0 s U u1 u2 hK0) (fun U u1 u2 => (fo_B w h0 s U u1 u2 hK0).1) tw_methodLink_RX2_116_yX2_isNan mbX2_isNan rfl ⟨rfl, rfl⟩ ⟨Nat.le_of_ble_eq_true rfl, Nat.le_of_ble_eq_true rfl⟩ ⟨Nat.zero_le _, Nat.zero_le _⟩ hl.1 rfl (Nat.le_of_ble_eq_true rfl) dX2_lesser_2 ?_
  refine lv_if_ne (tgt := 16) hx hb dX2_lesser_5 (by decide) (fun c1 => ?_) (fun c1 => ?_)
  · rw [if_neg c1] at hq
    refine lv_aload_n hx hb dX2_lesser_16 rfl (lv_at hl 0 rfl) ?_
    refine vk_getf (v := .long (fo_nan w)) hx hb (fo_nan_K hK0) va_S.rf hown (hts _ tw_fieldLink_RX2_52_GlulxFloats_Form_nan_J) (fun _ h9 => h9) dX2_lesser_17 ?_
    exact W.lret (v := (fo_nan w)) hx hb hr (fun t ht hW => ⟨_, rfl, hq, ht⟩) (fun _ h => absurd h List.not_mem_nil) dX2_lesser_20
  · rw [if_pos c1] at hq
    refine lv_aload_n hx hb dX2_lesser_8 rfl (lv_at hl 0 rfl) ?_
    refine lv_lload_n hx hb dX2_lesser_9 rfl (lv_at hl 2 rfl) ?_
    refine bx_vi C (kX2_isNan l w h0 x3) BX2_isNan (fun U u1 u2 => fo_B w h0 s U u1 u2 hK0) (fun U u1 u2 => (fo_B w h0 s U u1 u2 hK0).1) tw_methodLink_RX2_116_yX2_isNan mbX2_isNan rfl ⟨rfl, rfl⟩ ⟨Nat.le_of_ble_eq_true rfl, Nat.le_of_ble_eq_true rfl⟩ ⟨Nat.zero_le _, Nat.zero_le _⟩ hl.1 rfl (Nat.le_of_ble_eq_true rfl) dX2_lesser_10 ?_
    refine lv_if_eq (tgt := 21) hx hb dX2_lesser_13 (by decide) (fun c2 => ?_) (fun c2 => ?_)
    · rw [if_pos c2] at hq
      refine lv_aload_n hx hb dX2_lesser_21 rfl (lv_at hl 0 rfl) ?_
      refine lv_lload_n hx hb dX2_lesser_22 rfl (lv_at hl 1 rfl) ?_
      refine bx_vl C (kX2_rank l w h0 x1) BX2_rank (fun U u1 u2 => fo_B w h0 s U u1 u2 hK0) (fun U u1 u2 => (fo_B w h0 s U u1 u2 hK0).1) tw_methodLink_RX2_124_yX2_rank mbX2_rank rfl ⟨rfl, rfl⟩ ⟨Nat.le_of_ble_eq_true rfl, Nat.le_of_ble_eq_true rfl⟩ ⟨Nat.zero_le _, Nat.zero_le _⟩ hl.1 rfl (Nat.le_of_ble_eq_true rfl) dX2_lesser_23 ?_
      refine lv_aload_n hx hb dX2_lesser_26 rfl (lv_at hl 0 rfl) ?_
      refine lv_lload_n hx hb dX2_lesser_27 rfl (lv_at hl 2 rfl) ?_
      refine bx_vl C (kX2_rank l w h0 x3) BX2_rank (fun U u1 u2 => fo_B w h0 s U u1 u2 hK0) (fun U u1 u2 => (fo_B w h0 s U u1 u2 hK0).1) tw_methodLink_RX2_124_yX2_rank mbX2_rank rfl ⟨rfl, rfl⟩ ⟨Nat.le_of_ble_eq_true rfl, Nat.le_of_ble_eq_true rfl⟩ ⟨Nat.zero_le _, Nat.zero_le _⟩ hl.1 rfl (Nat.le_of_ble_eq_true rfl) dX2_lesser_28 ?_
      refine bx_lc_lt (tgt := 57) hx hb dX2_lesser_31 dX2_lesser_32 (by decide) (fun c3 => ?_) (fun c3 => ?_)
      · rw [if_pos c3] at hq
        refine lv_lload_n hx hb dX2_lesser_57 rfl (lv_at hl 1 rfl) ?_
        refine lv_goto (tgt := 62) hx hb dX2_lesser_58 (by decide) ?_
        exact W.lret (v := x1) hx hb hr (fun t ht hW => ⟨_, rfl, hq, ht⟩) (fun _ h => absurd h List.not_mem_nil) dX2_lesser_62
      · rw [if_neg c3] at hq
        refine lv_aload_n hx hb dX2_lesser_35 rfl (lv_at hl 0 rfl) ?_
        refine lv_lload_n hx hb dX2_lesser_36 rfl (lv_at hl 1 rfl) ?_
        refine bx_vl C (kX2_rank l w h0 x1) BX2_rank (fun U u1 u2 => fo_B w h0 s U u1 u2 hK0) (fun U u1 u2 => (fo_B w h0 s U u1 u2 hK0).1) tw_methodLink_RX2_124_yX2_rank mbX2_rank rfl ⟨rfl, rfl⟩ ⟨Nat.le_of_ble_eq_true rfl, Nat.le_of_ble_eq_true rfl⟩ ⟨Nat.zero_le _, Nat.zero_le _⟩ hl.1 rfl (Nat.le_of_ble_eq_true rfl) dX2_lesser_37 ?_
        refine lv_aload_n hx hb dX2_lesser_40 rfl (lv_at hl 0 rfl) ?_
        refine lv_lload_n hx hb dX2_lesser_41 rfl (lv_at hl 2 rfl) ?_
        refine bx_vl C (kX2_rank l w h0 x3) BX2_rank (fun U u1 u2 => fo_B w h0 s U u1 u2 hK0) (fun U u1 u2 => (fo_B w h0 s U u1 u2 hK0).1) tw_methodLink_RX2_124_yX2_rank mbX2_rank rfl ⟨rfl, rfl⟩ ⟨Nat.le_of_ble_eq_true rfl, Nat.le_of_ble_eq_true rfl⟩ ⟨Nat.zero_le _, Nat.zero_le _⟩ hl.1 rfl (Nat.le_of_ble_eq_true rfl) dX2_lesser_42 ?_
        refine bx_lc_ne (tgt := 61) hx hb dX2_lesser_45 dX2_lesser_46 (by decide) (fun c4 => ?_) (fun c4 => ?_)
        · rw [if_neg c4] at hq
          refine lv_lload_n hx hb dX2_lesser_61 rfl (lv_at hl 2 rfl) ?_
          exact W.lret (v := x3) hx hb hr (fun t ht hW => ⟨_, rfl, hq, ht⟩) (fun _ h => absurd h List.not_mem_nil) dX2_lesser_62
        · rw [if_pos c4] at hq
          refine lv_aload_n hx hb dX2_lesser_49 rfl (lv_at hl 0 rfl) ?_
          refine lv_lload_n hx hb dX2_lesser_50 rfl (lv_at hl 1 rfl) ?_
          refine bx_vi C (kX2_isNegative l w h0 x1) BX2_isNegative (fun U u1 u2 => fo_B w h0 s U u1 u2 hK0) (fun U u1 u2 => (fo_B w h0 s U u1 u2 hK0).1) tw_methodLink_RX2_136_yX2_isNegative mbX2_isNegative rfl ⟨rfl, rfl⟩ ⟨Nat.le_of_ble_eq_true rfl, Nat.le_of_ble_eq_true rfl⟩ ⟨Nat.zero_le _, Nat.zero_le _⟩ hl.1 rfl (Nat.le_of_ble_eq_true rfl) dX2_lesser_51 ?_
          refine lv_if_eq (tgt := 61) hx hb dX2_lesser_54 (by decide) (fun c5 => ?_) (fun c5 => ?_)
          · rw [if_pos c5] at hq
            refine lv_lload_n hx hb dX2_lesser_61 rfl (lv_at hl 2 rfl) ?_
            exact W.lret (v := x3) hx hb hr (fun t ht hW => ⟨_, rfl, hq, ht⟩) (fun _ h => absurd h List.not_mem_nil) dX2_lesser_62
          · rw [if_neg c5] at hq
            refine lv_lload_n hx hb dX2_lesser_57 rfl (lv_at hl 1 rfl) ?_
            refine lv_goto (tgt := 62) hx hb dX2_lesser_58 (by decide) ?_
            exact W.lret (v := x1) hx hb hr (fun t ht hW => ⟨_, rfl, hq, ht⟩) (fun _ h => absurd h List.not_mem_nil) dX2_lesser_62
    · rw [if_neg c2] at hq
      refine lv_aload_n hx hb dX2_lesser_16 rfl (lv_at hl 0 rfl) ?_
      refine vk_getf (v := .long (fo_nan w)) hx hb (fo_nan_K hK0) va_S.rf hown (hts _ tw_fieldLink_RX2_52_GlulxFloats_Form_nan_J) (fun _ h9 => h9) dX2_lesser_17 ?_
      exact W.lret (v := (fo_nan w)) hx hb hr (fun t ht hW => ⟨_, rfl, hq, ht⟩) (fun _ h => absurd h List.not_mem_nil) dX2_lesser_20
theorem kX2_lesser (l : Launch) (w : Bool) (h0 : Nat) (x1 : Int64) (x3 : Int64) : Met l yX2_lesser (Cond.code yX2_lesser cX2_lesser 5 (some .long) :: bw) rmX2_lesser (va_Pc [.ref h0, .long x1, .long x3] (fun U => fo_K w h0 U)) (vp_Sl (fun r => r = fX2_lesser w x1 x3)) 0 0 (fun _ => False) := by
  refine bx_ent (by decide) _ _ (Nat.le_of_ble_eq_true rfl) rfl ?_
  intro p e s m below meth c ls C hl hK0
  exact bX2_lesser_0 w x1 x3 C hK0 hl _ rfl
abbrev rmX2_greater : Room := { frames := 2, cells := 0, slots := 0, locals := 44 }
theorem mbX2_greater : mb_V RX2 yX2_greater cX2_greater 5 (some .long) 2 := ⟨⟨tw_instanceMethod_yX2_greater, tw_selects_RX2_yX2_greater_yX2_greater, tw_initialized_RX2, tw_code_yX2_greater⟩, rfl, by decide +kernel, by decide +kernel, by decide +kernel⟩
theorem BX2_greater {w : Bool} {h0 : Nat} : bx_B (fun U => fo_K w h0 U) := fo_B w h0
set_option maxRecDepth 20000 in
theorem bX2_greater_0 (w : Bool) (x1 : Int64) (x3 : Int64) {p : Program} {l : Launch} {e : Env} {s : State} {m : MethodId} {args : Array Value} {below : List Frame} {meth : Method} {c : Code} {h0 : Nat} {ls : Array Slot} (C : bx_C p s m args meth c cX2_greater 5 (some .long) RX2) (hK0 : fo_K w h0 s) (hl : lv_has ls 5 [(0, .ref h0), (1, .long x1), (3, .long x3)]) (post : Int64 → Prop) (hq : post (fX2_greater w x1 x3)) : W p l e rmX2_greater s m args below meth c s.heap [] 0 0 (MQ below (vp_Sl post) args s 0 0 (fun _ => False)) (F0 m 0 ls []) := by
  obtain ⟨hx, hb, hml, hr, hlocks, hown, hts⟩ := id C
  unfold fX2_greater at hq
  refine lv_aload_n hx hb dX2_greater_0 rfl (lv_at hl 0 rfl) ?_
  refine lv_lload_n hx hb dX2_greater_1 rfl (lv_at hl 1 rfl) ?_
  refine bx_vi C (kX2_isNan l w h0 x1) BX2_isNan (fun U u1 u2 => fo_B w h0 s U u1 u2 hK0) (fun U u1 u2 => (fo_B w h0 s U u1 u2 hK0).1) tw_methodLink_RX2_116_yX2_isNan mbX2_isNan rfl ⟨rfl, rfl⟩ ⟨Nat.le_of_ble_eq_true rfl, Nat.le_of_ble_eq_true rfl⟩ ⟨Nat.zero_le _, Nat.zero_le _⟩ hl.1 rfl (Nat.le_of_ble_eq_true rfl) dX2_greater_2 ?_
  refine lv_if_ne (tgt := 16) hx hb dX2_greater_5 (by decide) (fun c1 => ?_) (fun c1 => ?_)
  · rw [if_neg c1] at hq
    refine lv_aload_n hx hb dX2_greater_16 rfl (lv_at hl 0 rfl) ?_
    refine vk_getf (v := .long (fo_nan w)) hx hb (fo_nan_K hK0) va_S.rf hown (hts _ tw_fieldLink_RX2_52_GlulxFloats_Form_nan_J) (fun _ h9 => h9) dX2_greater_17 ?_
    exact W.lret (v := (fo_nan w)) hx hb hr (fun t ht hW => ⟨_, rfl, hq, ht⟩) (fun _ h => absurd h List.not_mem_nil) dX2_greater_20
  · rw [if_pos c1] at hq
    refine lv_aload_n hx hb dX2_greater_8 rfl (lv_at hl 0 rfl) ?_
    refine lv_lload_n hx hb dX2_greater_9 rfl (lv_at hl 2 rfl) ?_
    refine bx_vi C (kX2_isNan l w h0 x3) BX2_isNan (fun U u1 u2 => fo_B w h0 s U u1 u2 hK0) (fun U u1 u2 => (fo_B w h0 s U u1 u2 hK0).1) tw_methodLink_RX2_116_yX2_isNan mbX2_isNan rfl ⟨rfl, rfl⟩ ⟨Nat.le_of_ble_eq_true rfl, Nat.le_of_ble_eq_true rfl⟩ ⟨Nat.zero_le _, Nat.zero_le _⟩ hl.1 rfl (Nat.le_of_ble_eq_true rfl) dX2_greater_10 ?_
    refine lv_if_eq (tgt := 21) hx hb dX2_greater_13 (by decide) (fun c2 => ?_) (fun c2 => ?_)
    · rw [if_pos c2] at hq
      refine lv_aload_n hx hb dX2_greater_21 rfl (lv_at hl 0 rfl) ?_
      refine lv_lload_n hx hb dX2_greater_22 rfl (lv_at hl 1 rfl) ?_
      refine bx_vl C (kX2_rank l w h0 x1) BX2_rank (fun U u1 u2 => fo_B w h0 s U u1 u2 hK0) (fun U u1 u2 => (fo_B w h0 s U u1 u2 hK0).1) tw_methodLink_RX2_124_yX2_rank mbX2_rank rfl ⟨rfl, rfl⟩ ⟨Nat.le_of_ble_eq_true rfl, Nat.le_of_ble_eq_true rfl⟩ ⟨Nat.zero_le _, Nat.zero_le _⟩ hl.1 rfl (Nat.le_of_ble_eq_true rfl) dX2_greater_23 ?_
      refine lv_aload_n hx hb dX2_greater_26 rfl (lv_at hl 0 rfl) ?_
      refine lv_lload_n hx hb dX2_greater_27 rfl (lv_at hl 2 rfl) ?_
      refine bx_vl C (kX2_rank l w h0 x3) BX2_rank (fun U u1 u2 => fo_B w h0 s U u1 u2 hK0) (fun U u1 u2 => (fo_B w h0 s U u1 u2 hK0).1) tw_methodLink_RX2_124_yX2_rank mbX2_rank rfl ⟨rfl, rfl⟩ ⟨Nat.le_of_ble_eq_true rfl, Nat.le_of_ble_eq_true rfl⟩ ⟨Nat.zero_le _, Nat.zero_le _⟩ hl.1 rfl (Nat.le_of_ble_eq_true rfl) dX2_greater_28 ?_
      refine bx_lc_gt (tgt := 57) hx hb dX2_greater_31 dX2_greater_32 (by decide) (fun c3 => ?_) (fun c3 => ?_)
      · rw [if_pos c3] at hq
        refine lv_lload_n hx hb dX2_greater_57 rfl (lv_at hl 1 rfl) ?_
        refine lv_goto (tgt := 62) hx hb dX2_greater_58 (by decide) ?_
        exact W.lret (v := x1) hx hb hr (fun t ht hW => ⟨_, rfl, hq, ht⟩) (fun _ h => absurd h List.not_mem_nil) dX2_greater_62
      · rw [if_neg c3] at hq
        refine lv_aload_n hx hb dX2_greater_35 rfl (lv_at hl 0 rfl) ?_
        refine lv_lload_n hx hb dX2_greater_36 rfl (lv_at hl 1 rfl) ?_
        refine bx_vl C (kX2_rank l w h0 x1) BX2_rank (fun U u1 u2 => fo_B w h0 s U u1 u2 hK0) (fun U u1 u2 => (fo_B w h0 s U u1 u2 hK0).1) tw_methodLink_RX2_124_yX2_rank mbX2_rank rfl ⟨rfl, rfl⟩ ⟨Nat.le_of_ble_eq_true rfl, Nat.le_of_ble_eq_true rfl⟩ ⟨Nat.zero_le _, Nat.zero_le _⟩ hl.1 rfl (Nat.le_of_ble_eq_true rfl) dX2_greater_37 ?_
        refine lv_aload_n hx hb dX2_greater_40 rfl (lv_at hl 0 rfl) ?_
        refine lv_lload_n hx hb dX2_greater_41 rfl (lv_at hl 2 rfl) ?_
        refine bx_vl C (kX2_rank l w h0 x3) BX2_rank (fun U u1 u2 => fo_B w h0 s U u1 u2 hK0) (fun U u1 u2 => (fo_B w h0 s U u1 u2 hK0).1) tw_methodLink_RX2_124_yX2_rank mbX2_rank rfl ⟨rfl, rfl⟩ ⟨Nat.le_of_ble_eq_true rfl, Nat.le_of_ble_eq_true rfl⟩ ⟨Nat.zero_le _, Nat.zero_le _⟩ hl.1 rfl (Nat.le_of_ble_eq_true rfl) dX2_greater_42 ?_
        refine bx_lc_ne (tgt := 61) hx hb dX2_greater_45 dX2_greater_46 (by decide) (fun c4 => ?_) (fun c4 => ?_)
        · rw [if_neg c4] at hq
          refine lv_lload_n hx hb dX2_greater_61 rfl (lv_at hl 2 rfl) ?_
          exact W.lret (v := x3) hx hb hr (fun t ht hW => ⟨_, rfl, hq, ht⟩) (fun _ h => absurd h List.not_mem_nil) dX2_greater_62
        · rw [if_pos c4] at hq
          refine lv_aload_n hx hb dX2_greater_49 rfl (lv_at hl 0 rfl) ?_
          refine lv_lload_n hx hb dX2_greater_50 rfl (lv_at hl 1 rfl) ?_
          refine bx_vi C (kX2_isNegative l w h0 x1) BX2_isNegative (fun U u1 u2 => fo_B w h0 s U u1 u2 hK0) (fun U u1 u2 => (fo_B w h0 s U u1 u2 hK0).1) tw_methodLink_RX2_136_yX2_isNegative mbX2_isNegative rfl ⟨rfl, rfl⟩ ⟨Nat.le_of_ble_eq_true rfl, Nat.le_of_ble_eq_true rfl⟩ ⟨Nat.zero_le _, Nat.zero_le _⟩ hl.1 rfl (Nat.le_of_ble_eq_true rfl) dX2_greater_51 ?_
          refine lv_if_ne (tgt := 61) hx hb dX2_greater_54 (by decide) (fun c5 => ?_) (fun c5 => ?_)
          · rw [if_neg c5] at hq
            refine lv_lload_n hx hb dX2_greater_61 rfl (lv_at hl 2 rfl) ?_
            exact W.lret (v := x3) hx hb hr (fun t ht hW => ⟨_, rfl, hq, ht⟩) (fun _ h => absurd h List.not_mem_nil) dX2_greater_62
          · rw [if_pos c5] at hq
            refine lv_lload_n hx hb dX2_greater_57 rfl (lv_at hl 1 rfl) ?_
            refine lv_goto (tgt := 62) hx hb dX2_greater_58 (by decide) ?_
            exact W.lret (v := x1) hx hb hr (fun t ht hW => ⟨_, rfl, hq, ht⟩) (fun _ h => absurd h List.not_mem_nil) dX2_greater_62
    · rw [if_neg c2] at hq
      refine lv_aload_n hx hb dX2_greater_16 rfl (lv_at hl 0 rfl) ?_
      refine vk_getf (v := .long (fo_nan w)) hx hb (fo_nan_K hK0) va_S.rf hown (hts _ tw_fieldLink_RX2_52_GlulxFloats_Form_nan_J) (fun _ h9 => h9) dX2_greater_17 ?_
      exact W.lret (v := (fo_nan w)) hx hb hr (fun t ht hW => ⟨_, rfl, hq, ht⟩) (fun _ h => absurd h List.not_mem_nil) dX2_greater_20
theorem kX2_greater (l : Launch) (w : Bool) (h0 : Nat) (x1 : Int64) (x3 : Int64) : Met l yX2_greater (Cond.code yX2_greater cX2_greater 5 (some .long) :: bw) rmX2_greater (va_Pc [.ref h0, .long x1, .long x3] (fun U => fo_K w h0 U)) (vp_Sl (fun r => r = fX2_greater w x1 x3)) 0 0 (fun _ => False) := by
  refine bx_ent (by decide) _ _ (Nat.le_of_ble_eq_true rfl) rfl ?_
  intro p e s m below meth c ls C hl hK0
  exact bX2_greater_0 w x1 x3 C hK0 hl _ rfl
abbrev rmX2_power : Room := { frames := 3, cells := 0, slots := 0, locals := 95 }
theorem mbX2_power : mb_V RX2 yX2_power cX2_power 8 (some .long) 2 := ⟨⟨tw_instanceMethod_yX2_power, tw_selects_RX2_yX2_power_yX2_power, tw_initialized_RX2, tw_code_yX2_power⟩, rfl, by decide +kernel, by decide +kernel, by decide +kernel⟩
theorem BX2_power {w : Bool} {h0 : Nat} : bx_B (fun U => fo_K w h0 U) := fo_B w h0
set_option maxRecDepth 20000 in
theorem lX2_power_9 (w : Bool) (x1 : Int64) (x3 : Int64) {p : Program} {l : Launch} {e : Env} {s : State} {m : MethodId} {args : Array Value} {below : List Frame} {meth : Method} {c : Code} {h0 : Nat} {Q : State → Prop} (C : bx_C p s m args meth c cX2_power 8 (some .long) RX2) (hK0 : fo_K w h0 s) (hp : x3.toInt ≤ 1000) (post : Int64 × Int32 → Prop) (kx : ∀ (o5 : Int64) (o7 : Int32) (ls : Array Slot), lv_has ls 8 [(5, .long o5), (7, .int o7)] → post (o5, o7) → W p l e rmX2_power s m args below meth c s.heap [] 0 0 Q (F0 m 32 ls [])) :
    ∀ (n : Nat) (x5 : Int64) (x7 : Int32) (ls : Array Slot), (x3.toInt - Int32.toInt x7).toNat < n → lv_has ls 8 [(0, .ref h0), (1, .long x1), (3, .long x3), (5, .long x5), (7, .int x7)] → post (gX2_power_9 w x1 x3 n x5 x7) → W p l e rmX2_power s m args below meth c s.heap [] 0 0 Q (F0 m 9 ls []) := by
  obtain ⟨hx, hb, hml, hr, hlocks, hown, hts⟩ := id C
  intro n
  induction n with
  | zero =>
    intro x5 x7 ls hm
    exact absurd hm (Nat.not_lt_zero _)
  | succ n ih =>
    intro x5 x7 ls hm hl hq
    rw [gX2_power_9] at hq
    refine lv_iload hx hb dX2_power_9 (lv_at hl 4 rfl) ?_
    refine bx_i2l hx hb dX2_power_11 ?_
    refine lv_lload_n hx hb dX2_power_12 rfl (lv_at hl 2 rfl) ?_
    refine bx_lc_ge (tgt := 32) hx hb dX2_power_13 dX2_power_14 (by decide) (fun c1 => ?_) (fun c1 => ?_)
    · rw [if_pos c1] at hq
      exact kx x5 x7 _ (lv_sub hl [3, 4] rfl) hq
    · rw [if_neg c1] at hq
      refine lv_aload_n hx hb dX2_power_17 rfl (lv_at hl 0 rfl) ?_
      refine lv_lload hx hb dX2_power_18 (lv_at hl 3 rfl) ?_
      refine lv_lload_n hx hb dX2_power_20 rfl (lv_at hl 1 rfl) ?_
      refine bx_vl C (kX2_product l w h0 x5 x1) BX2_product (fun U u1 u2 => fo_B w h0 s U u1 u2 hK0) (fun U u1 u2 => (fo_B w h0 s U u1 u2 hK0).1) tw_methodLink_RX2_59_yX2_product mbX2_product rfl ⟨rfl, rfl⟩ ⟨Nat.le_of_ble_eq_true rfl, Nat.le_of_ble_eq_true rfl⟩ ⟨Nat.zero_le _, Nat.zero_le _⟩ hl.1 rfl (Nat.le_of_ble_eq_true rfl) dX2_power_21 ?_
      refine lv_lstore (lv' := [(5, .long (fX2_product w x5 x1)), (0, .ref h0), (1, .long x1), (3, .long x3), (7, .int x7)]) hx hb dX2_power_24 hl (by decide) rfl (fun ls hl => ?_)
      refine lv_iinc (v := (x7 + 1)) (lv' := [(7, .int (x7 + 1)), (5, .long (fX2_product w x5 x1)), (0, .ref h0), (1, .long x1), (3, .long x3)]) hx hb dX2_power_26 hl (k := 4) rfl rfl (by decide) rfl (fun ls hl => ?_)
      refine lv_goto (tgt := 9) hx hb dX2_power_29 (by decide) ?_
      exact ih (fX2_product w x5 x1) (x7 + 1) _ (lp_pw (by assumption) hp hm) (lv_sub hl [2, 3, 4, 1, 0] rfl) hq
set_option maxRecDepth 20000 in
theorem bX2_power_32 (w : Bool) (x5 : Int64) {p : Program} {l : Launch} {e : Env} {s : State} {m : MethodId} {args : Array Value} {below : List Frame} {meth : Method} {c : Code} {h0 : Nat} {ls : Array Slot} (C : bx_C p s m args meth c cX2_power 8 (some .long) RX2) (hK0 : fo_K w h0 s) (hl : lv_has ls 8 [(5, .long x5)]) (post : Int64 → Prop) (hq : post (fX2_power_32 w x5)) : W p l e rmX2_power s m args below meth c s.heap [] 0 0 (MQ below (vp_Sl post) args s 0 0 (fun _ => False)) (F0 m 32 ls []) := by
  obtain ⟨hx, hb, hml, hr, hlocks, hown, hts⟩ := id C
  unfold fX2_power_32 at hq
  refine lv_lload hx hb dX2_power_32 (lv_at hl 0 rfl) ?_
  exact W.lret (v := x5) hx hb hr (fun t ht hW => ⟨_, rfl, hq, ht⟩) (fun _ h => absurd h List.not_mem_nil) dX2_power_34
set_option maxRecDepth 20000 in
theorem bX2_power_0 (w : Bool) (x1 : Int64) (x3 : Int64) {p : Program} {l : Launch} {e : Env} {s : State} {m : MethodId} {args : Array Value} {below : List Frame} {meth : Method} {c : Code} {h0 : Nat} {ls : Array Slot} (C : bx_C p s m args meth c cX2_power 8 (some .long) RX2) (hK0 : fo_K w h0 s) (hl : lv_has ls 8 [(0, .ref h0), (1, .long x1), (3, .long x3)]) (hp : x3.toInt ≤ 1000) (post : Int64 → Prop) (hq : post (fX2_power w x1 x3)) : W p l e rmX2_power s m args below meth c s.heap [] 0 0 (MQ below (vp_Sl post) args s 0 0 (fun _ => False)) (F0 m 0 ls []) := by
  obtain ⟨hx, hb, hml, hr, hlocks, hown, hts⟩ := id C
  unfold fX2_power at hq
  refine lv_aload_n hx hb dX2_power_0 rfl (lv_at hl 0 rfl) ?_
  refine vk_getf (v := .long (fo_one w)) hx hb (fo_one_K hK0) va_S.rf hown (hts _ tw_fieldLink_RX2_46_GlulxFloats_Form_one_J) (fun _ h9 => h9) dX2_power_1 ?_
  refine lv_lstore (lv' := [(5, .long (fo_one w)), (0, .ref h0), (1, .long x1), (3, .long x3)]) hx hb dX2_power_4 hl (by decide) rfl (fun ls hl => ?_)
  refine lv_iconst (v := 0) hx hb dX2_power_6 (by decide) ?_
  refine lv_istore (lv' := [(7, .int (0 : Int32)), (5, .long (fo_one w)), (0, .ref h0), (1, .long x1), (3, .long x3)]) hx hb dX2_power_7 hl (by decide) rfl (fun ls hl => ?_)
  exact lX2_power_9 w x1 x3 C hK0 hp (fun t => post (fX2_power_32 w t.1)) (fun o5 o7 ls hl hq => bX2_power_32 w o5 C hK0 (lv_sub hl [0] rfl) post hq) (Nat.succ ((x3.toInt - Int32.toInt (0 : Int32)).toNat)) (fo_one w) (0 : Int32) _ (Nat.lt_succ_self _) (lv_sub hl [2, 3, 4, 1, 0] rfl) hq
theorem kX2_power (l : Launch) (w : Bool) (h0 : Nat) (x1 : Int64) (x3 : Int64) (hp : x3.toInt ≤ 1000) : Met l yX2_power (Cond.code yX2_power cX2_power 8 (some .long) :: bw) rmX2_power (va_Pc [.ref h0, .long x1, .long x3] (fun U => fo_K w h0 U)) (vp_Sl (fun r => r = fX2_power w x1 x3)) 0 0 (fun _ => False) := by
  refine bx_ent (by decide) _ _ (Nat.le_of_ble_eq_true rfl) rfl ?_
  intro p e s m below meth c ls C hl hK0
  exact bX2_power_0 w x1 x3 C hK0 hl hp _ rfl
abbrev rmX2_scaled : Room := { frames := 2, cells := 0, slots := 0, locals := 61 }
theorem mbX2_scaled : mb_V RX2 yX2_scaled cX2_scaled 6 (some .long) 2 := ⟨⟨tw_instanceMethod_yX2_scaled, tw_selects_RX2_yX2_scaled_yX2_scaled, tw_initialized_RX2, tw_code_yX2_scaled⟩, rfl, by decide +kernel, by decide +kernel, by decide +kernel⟩
theorem BX2_scaled {w : Bool} {h0 : Nat} : bx_B (fun U => fo_K w h0 U) := fo_B w h0
set_option maxRecDepth 20000 in
theorem bX2_scaled_0 (w : Bool) (x1 : Int64) (x3 : Int64) {p : Program} {l : Launch} {e : Env} {s : State} {m : MethodId} {args : Array Value} {below : List Frame} {meth : Method} {c : Code} {h0 : Nat} {ls : Array Slot} (C : bx_C p s m args meth c cX2_scaled 6 (some .long) RX2) (hK0 : fo_K w h0 s) (hl : lv_has ls 6 [(0, .ref h0), (1, .long x1), (3, .long x3)]) (post : Int64 → Prop) (hq : post (fX2_scaled w x1 x3)) : W p l e rmX2_scaled s m args below meth c s.heap [] 0 0 (MQ below (vp_Sl post) args s 0 0 (fun _ => False)) (F0 m 0 ls []) := by
  obtain ⟨hx, hb, hml, hr, hlocks, hown, hts⟩ := id C
  unfold fX2_scaled at hq
  refine lv_aload_n hx hb dX2_scaled_0 rfl (lv_at hl 0 rfl) ?_
  refine lv_lload_n hx hb dX2_scaled_1 rfl (lv_at hl 1 rfl) ?_
  refine bx_vi C (kX2_isNan l w h0 x1) BX2_isNan (fun U u1 u2 => fo_B w h0 s U u1 u2 hK0) (fun U u1 u2 => (fo_B w h0 s U u1 u2 hK0).1) tw_methodLink_RX2_116_yX2_isNan mbX2_isNan rfl ⟨rfl, rfl⟩ ⟨Nat.le_of_ble_eq_true rfl, Nat.le_of_ble_eq_true rfl⟩ ⟨Nat.zero_le _, Nat.zero_le _⟩ hl.1 rfl (Nat.le_of_ble_eq_true rfl) dX2_scaled_2 ?_
  refine lv_if_eq (tgt := 13) hx hb dX2_scaled_5 (by decide) (fun c1 => ?_) (fun c1 => ?_)
  · rw [if_pos c1] at hq
    refine lv_aload_n hx hb dX2_scaled_13 rfl (lv_at hl 0 rfl) ?_
    refine lv_lload_n hx hb dX2_scaled_14 rfl (lv_at hl 1 rfl) ?_
    refine bx_vi C (kX2_isInfinite l w h0 x1) BX2_isInfinite (fun U u1 u2 => fo_B w h0 s U u1 u2 hK0) (fun U u1 u2 => (fo_B w h0 s U u1 u2 hK0).1) tw_methodLink_RX2_127_yX2_isInfinite mbX2_isInfinite rfl ⟨rfl, rfl⟩ ⟨Nat.le_of_ble_eq_true rfl, Nat.le_of_ble_eq_true rfl⟩ ⟨Nat.zero_le _, Nat.zero_le _⟩ hl.1 rfl (Nat.le_of_ble_eq_true rfl) dX2_scaled_15 ?_
    refine lv_if_ne (tgt := 29) hx hb dX2_scaled_18 (by decide) (fun c2 => ?_) (fun c2 => ?_)
    · rw [if_neg c2] at hq
      refine lv_lload_n hx hb dX2_scaled_29 rfl (lv_at hl 1 rfl) ?_
      exact W.lret (v := x1) hx hb hr (fun t ht hW => ⟨_, rfl, hq, ht⟩) (fun _ h => absurd h List.not_mem_nil) dX2_scaled_30
    · rw [if_pos c2] at hq
      refine lv_aload_n hx hb dX2_scaled_21 rfl (lv_at hl 0 rfl) ?_
      refine lv_lload_n hx hb dX2_scaled_22 rfl (lv_at hl 1 rfl) ?_
      refine bx_vi C (kX2_isZero l w h0 x1) BX2_isZero (fun U u1 u2 => fo_B w h0 s U u1 u2 hK0) (fun U u1 u2 => (fo_B w h0 s U u1 u2 hK0).1) tw_methodLink_RX2_139_yX2_isZero mbX2_isZero rfl ⟨rfl, rfl⟩ ⟨Nat.le_of_ble_eq_true rfl, Nat.le_of_ble_eq_true rfl⟩ ⟨Nat.zero_le _, Nat.zero_le _⟩ hl.1 rfl (Nat.le_of_ble_eq_true rfl) dX2_scaled_23 ?_
      refine lv_if_eq (tgt := 31) hx hb dX2_scaled_26 (by decide) (fun c3 => ?_) (fun c3 => ?_)
      · rw [if_pos c3] at hq
        refine lv_ldc2 (v := -5000) hx hb hown (hts _ tw_constantLong_RX2_173_5000) dX2_scaled_31 ?_
        refine lv_ldc2 (v := 5000) hx hb hown (hts _ tw_constantLong_RX2_175_5000) dX2_scaled_34 ?_
        refine lv_lload_n hx hb dX2_scaled_37 rfl (lv_at hl 2 rfl) ?_
        refine va_mmin_long hx hb (by rw [hml]; exact hl.1.symm) hown (hts _ tw_methodLink_RX2_177_MLmin_long_x) (hts _ tw_static_MLmin_long_x) (hts _ tw_initialized_Math) (hts _ tw_code_Lib_MathLoose_min_long_x) (Nat.le_of_ble_eq_true rfl) (Nat.le_of_ble_eq_true rfl) (Nat.zero_le _) (Nat.zero_le _) dX2_scaled_38 ?_
        refine bx_as (v := .long (jl_min (5000 : Int64) x3)) rfl ?_
        refine va_mmax_long hx hb (by rw [hml]; exact hl.1.symm) hown (hts _ tw_methodLink_RX2_179_MLmax_long_x) (hts _ tw_static_MLmax_long_x) (hts _ tw_initialized_Math) (hts _ tw_code_Lib_MathLoose_max_long_x) (Nat.le_of_ble_eq_true rfl) (Nat.le_of_ble_eq_true rfl) (Nat.zero_le _) (Nat.zero_le _) dX2_scaled_41 ?_
        refine bx_as (v := .long (jl_max (-5000 : Int64) (jl_min (5000 : Int64) x3))) rfl ?_
        refine bx_l2i hx hb dX2_scaled_44 ?_
        refine lv_istore (lv' := [(5, .int ((jl_max (-5000 : Int64) (jl_min (5000 : Int64) x3)).toInt32)), (0, .ref h0), (1, .long x1), (3, .long x3)]) hx hb dX2_scaled_45 hl (by decide) rfl (fun ls hl => ?_)
        refine lv_aload_n hx hb dX2_scaled_47 rfl (lv_at hl 1 rfl) ?_
        refine lv_aload_n hx hb dX2_scaled_48 rfl (lv_at hl 1 rfl) ?_
        refine lv_lload_n hx hb dX2_scaled_49 rfl (lv_at hl 2 rfl) ?_
        refine bx_vi C (kX2_isNegative l w h0 x1) BX2_isNegative (fun U u1 u2 => fo_B w h0 s U u1 u2 hK0) (fun U u1 u2 => (fo_B w h0 s U u1 u2 hK0).1) tw_methodLink_RX2_136_yX2_isNegative mbX2_isNegative rfl ⟨rfl, rfl⟩ ⟨Nat.le_of_ble_eq_true rfl, Nat.le_of_ble_eq_true rfl⟩ ⟨Nat.zero_le _, Nat.zero_le _⟩ hl.1 rfl (Nat.le_of_ble_eq_true rfl) dX2_scaled_50 ?_
        refine lv_aload_n hx hb dX2_scaled_53 rfl (lv_at hl 1 rfl) ?_
        refine lv_lload_n hx hb dX2_scaled_54 rfl (lv_at hl 2 rfl) ?_
        refine bx_vi C (kX2_scale l w h0 x1) BX2_scale (fun U u1 u2 => fo_B w h0 s U u1 u2 hK0) (fun U u1 u2 => (fo_B w h0 s U u1 u2 hK0).1) tw_methodLink_RX2_142_yX2_scale mbX2_scale rfl ⟨rfl, rfl⟩ ⟨Nat.le_of_ble_eq_true rfl, Nat.le_of_ble_eq_true rfl⟩ ⟨Nat.zero_le _, Nat.zero_le _⟩ hl.1 rfl (Nat.le_of_ble_eq_true rfl) dX2_scaled_55 ?_
        refine lv_iload hx hb dX2_scaled_58 (lv_at hl 0 rfl) ?_
        refine lv_iadd hx hb dX2_scaled_60 ?_
        refine lv_aload_n hx hb dX2_scaled_61 rfl (lv_at hl 1 rfl) ?_
        refine lv_lload_n hx hb dX2_scaled_62 rfl (lv_at hl 2 rfl) ?_
        refine bx_vl C (kX2_plain l w h0 x1) BX2_plain (fun U u1 u2 => fo_B w h0 s U u1 u2 hK0) (fun U u1 u2 => (fo_B w h0 s U u1 u2 hK0).1) tw_methodLink_RX2_145_yX2_plain mbX2_plain rfl ⟨rfl, rfl⟩ ⟨Nat.le_of_ble_eq_true rfl, Nat.le_of_ble_eq_true rfl⟩ ⟨Nat.zero_le _, Nat.zero_le _⟩ hl.1 rfl (Nat.le_of_ble_eq_true rfl) dX2_scaled_63 ?_
        refine bx_vl C (kX2_rounded l w h0 (fX2_isNegative w x1) ((fX2_scale w x1) + (jl_max (-5000 : Int64) (jl_min (5000 : Int64) x3)).toInt32) (fX2_plain w x1)) BX2_rounded (fun U u1 u2 => fo_B w h0 s U u1 u2 hK0) (fun U u1 u2 => (fo_B w h0 s U u1 u2 hK0).1) tw_methodLink_RX2_148_yX2_rounded mbX2_rounded rfl ⟨rfl, rfl⟩ ⟨Nat.le_of_ble_eq_true rfl, Nat.le_of_ble_eq_true rfl⟩ ⟨Nat.zero_le _, Nat.zero_le _⟩ hl.1 rfl (Nat.le_of_ble_eq_true rfl) dX2_scaled_66 ?_
        exact W.lret (v := (fX2_rounded w (fX2_isNegative w x1) ((fX2_scale w x1) + (jl_max (-5000 : Int64) (jl_min (5000 : Int64) x3)).toInt32) (fX2_plain w x1))) hx hb hr (fun t ht hW => ⟨_, rfl, hq, ht⟩) (fun _ h => absurd h List.not_mem_nil) dX2_scaled_69
      · rw [if_neg c3] at hq
        refine lv_lload_n hx hb dX2_scaled_29 rfl (lv_at hl 1 rfl) ?_
        exact W.lret (v := x1) hx hb hr (fun t ht hW => ⟨_, rfl, hq, ht⟩) (fun _ h => absurd h List.not_mem_nil) dX2_scaled_30
  · rw [if_neg c1] at hq
    refine lv_aload_n hx hb dX2_scaled_8 rfl (lv_at hl 0 rfl) ?_
    refine vk_getf (v := .long (fo_nan w)) hx hb (fo_nan_K hK0) va_S.rf hown (hts _ tw_fieldLink_RX2_52_GlulxFloats_Form_nan_J) (fun _ h9 => h9) dX2_scaled_9 ?_
    exact W.lret (v := (fo_nan w)) hx hb hr (fun t ht hW => ⟨_, rfl, hq, ht⟩) (fun _ h => absurd h List.not_mem_nil) dX2_scaled_12
theorem kX2_scaled (l : Launch) (w : Bool) (h0 : Nat) (x1 : Int64) (x3 : Int64) : Met l yX2_scaled (Cond.code yX2_scaled cX2_scaled 6 (some .long) :: bw) rmX2_scaled (va_Pc [.ref h0, .long x1, .long x3] (fun U => fo_K w h0 U)) (vp_Sl (fun r => r = fX2_scaled w x1 x3)) 0 0 (fun _ => False) := by
  refine bx_ent (by decide) _ _ (Nat.le_of_ble_eq_true rfl) rfl ?_
  intro p e s m below meth c ls C hl hK0
  exact bX2_scaled_0 w x1 x3 C hK0 hl _ rfl
abbrev rmX2_above : Room := { frames := 2, cells := 0, slots := 0, locals := 44 }
theorem mbX2_above : mb_V RX2 yX2_above cX2_above 3 (some .long) 1 := ⟨⟨tw_instanceMethod_yX2_above, tw_selects_RX2_yX2_above_yX2_above, tw_initialized_RX2, tw_code_yX2_above⟩, rfl, by decide +kernel, by decide +kernel, by decide +kernel⟩
theorem BX2_above {w : Bool} {h0 : Nat} : bx_B (fun U => fo_K w h0 U) := fo_B w h0
set_option maxRecDepth 20000 in
theorem bX2_above_0 (w : Bool) (x1 : Int64) {p : Program} {l : Launch} {e : Env} {s : State} {m : MethodId} {args : Array Value} {below : List Frame} {meth : Method} {c : Code} {h0 : Nat} {ls : Array Slot} (C : bx_C p s m args meth c cX2_above 3 (some .long) RX2) (hK0 : fo_K w h0 s) (hl : lv_has ls 3 [(0, .ref h0), (1, .long x1)]) (post : Int64 → Prop) (hq : post (fX2_above w x1)) : W p l e rmX2_above s m args below meth c s.heap [] 0 0 (MQ below (vp_Sl post) args s 0 0 (fun _ => False)) (F0 m 0 ls []) := by
  obtain ⟨hx, hb, hml, hr, hlocks, hown, hts⟩ := id C
  unfold fX2_above at hq
  refine lv_aload_n hx hb dX2_above_0 rfl (lv_at hl 0 rfl) ?_
  refine lv_lload_n hx hb dX2_above_1 rfl (lv_at hl 1 rfl) ?_
  refine bx_vi C (kX2_isNan l w h0 x1) BX2_isNan (fun U u1 u2 => fo_B w h0 s U u1 u2 hK0) (fun U u1 u2 => (fo_B w h0 s U u1 u2 hK0).1) tw_methodLink_RX2_116_yX2_isNan mbX2_isNan rfl ⟨rfl, rfl⟩ ⟨Nat.le_of_ble_eq_true rfl, Nat.le_of_ble_eq_true rfl⟩ ⟨Nat.zero_le _, Nat.zero_le _⟩ hl.1 rfl (Nat.le_of_ble_eq_true rfl) dX2_above_2 ?_
  refine lv_if_eq (tgt := 13) hx hb dX2_above_5 (by decide) (fun c1 => ?_) (fun c1 => ?_)
  · rw [if_pos c1] at hq
    refine lv_aload_n hx hb dX2_above_13 rfl (lv_at hl 0 rfl) ?_
    refine lv_lload_n hx hb dX2_above_14 rfl (lv_at hl 1 rfl) ?_
    refine bx_vi C (kX2_isZero l w h0 x1) BX2_isZero (fun U u1 u2 => fo_B w h0 s U u1 u2 hK0) (fun U u1 u2 => (fo_B w h0 s U u1 u2 hK0).1) tw_methodLink_RX2_139_yX2_isZero mbX2_isZero rfl ⟨rfl, rfl⟩ ⟨Nat.le_of_ble_eq_true rfl, Nat.le_of_ble_eq_true rfl⟩ ⟨Nat.zero_le _, Nat.zero_le _⟩ hl.1 rfl (Nat.le_of_ble_eq_true rfl) dX2_above_15 ?_
    refine lv_if_eq (tgt := 23) hx hb dX2_above_18 (by decide) (fun c2 => ?_) (fun c2 => ?_)
    · rw [if_pos c2] at hq
      refine lv_lload_n hx hb dX2_above_23 rfl (lv_at hl 1 rfl) ?_
      refine lv_aload_n hx hb dX2_above_24 rfl (lv_at hl 0 rfl) ?_
      refine vk_getf (v := .long (fo_infinity w)) hx hb (fo_infinity_K hK0) va_S.rf hown (hts _ tw_fieldLink_RX2_49_GlulxFloats_Form_infinity_J) (fun _ h9 => h9) dX2_above_25 ?_
      refine bx_lc_ne (tgt := 34) hx hb dX2_above_28 dX2_above_29 (by decide) (fun c3 => ?_) (fun c3 => ?_)
      · rw [if_neg c3] at hq
        refine lv_aload_n hx hb dX2_above_34 rfl (lv_at hl 0 rfl) ?_
        refine lv_lload_n hx hb dX2_above_35 rfl (lv_at hl 1 rfl) ?_
        refine bx_vi C (kX2_isNegative l w h0 x1) BX2_isNegative (fun U u1 u2 => fo_B w h0 s U u1 u2 hK0) (fun U u1 u2 => (fo_B w h0 s U u1 u2 hK0).1) tw_methodLink_RX2_136_yX2_isNegative mbX2_isNegative rfl ⟨rfl, rfl⟩ ⟨Nat.le_of_ble_eq_true rfl, Nat.le_of_ble_eq_true rfl⟩ ⟨Nat.zero_le _, Nat.zero_le _⟩ hl.1 rfl (Nat.le_of_ble_eq_true rfl) dX2_above_36 ?_
        refine lv_if_eq (tgt := 48) hx hb dX2_above_39 (by decide) (fun c4 => ?_) (fun c4 => ?_)
        · rw [if_pos c4] at hq
          refine lv_lload_n hx hb dX2_above_48 rfl (lv_at hl 1 rfl) ?_
          refine lv_lconst (v := 1) hx hb dX2_above_49 (by decide) ?_
          refine lv_ladd hx hb dX2_above_50 ?_
          exact W.lret (v := (x1 + (1 : Int64))) hx hb hr (fun t ht hW => ⟨_, rfl, hq, ht⟩) (fun _ h => absurd h List.not_mem_nil) dX2_above_51
        · rw [if_neg c4] at hq
          refine lv_lload_n hx hb dX2_above_42 rfl (lv_at hl 1 rfl) ?_
          refine lv_lconst (v := 1) hx hb dX2_above_43 (by decide) ?_
          refine lv_lsub hx hb dX2_above_44 ?_
          refine lv_goto (tgt := 51) hx hb dX2_above_45 (by decide) ?_
          exact W.lret (v := (x1 - (1 : Int64))) hx hb hr (fun t ht hW => ⟨_, rfl, hq, ht⟩) (fun _ h => absurd h List.not_mem_nil) dX2_above_51
      · rw [if_pos c3] at hq
        refine lv_lload_n hx hb dX2_above_32 rfl (lv_at hl 1 rfl) ?_
        exact W.lret (v := x1) hx hb hr (fun t ht hW => ⟨_, rfl, hq, ht⟩) (fun _ h => absurd h List.not_mem_nil) dX2_above_33
    · rw [if_neg c2] at hq
      refine lv_lconst (v := 1) hx hb dX2_above_21 (by decide) ?_
      exact W.lret (v := (1 : Int64)) hx hb hr (fun t ht hW => ⟨_, rfl, hq, ht⟩) (fun _ h => absurd h List.not_mem_nil) dX2_above_22
  · rw [if_neg c1] at hq
    refine lv_aload_n hx hb dX2_above_8 rfl (lv_at hl 0 rfl) ?_
    refine vk_getf (v := .long (fo_nan w)) hx hb (fo_nan_K hK0) va_S.rf hown (hts _ tw_fieldLink_RX2_52_GlulxFloats_Form_nan_J) (fun _ h9 => h9) dX2_above_9 ?_
    exact W.lret (v := (fo_nan w)) hx hb hr (fun t ht hW => ⟨_, rfl, hq, ht⟩) (fun _ h => absurd h List.not_mem_nil) dX2_above_12
theorem kX2_above (l : Launch) (w : Bool) (h0 : Nat) (x1 : Int64) : Met l yX2_above (Cond.code yX2_above cX2_above 3 (some .long) :: bw) rmX2_above (va_Pc [.ref h0, .long x1] (fun U => fo_K w h0 U)) (vp_Sl (fun r => r = fX2_above w x1)) 0 0 (fun _ => False) := by
  refine bx_ent (by decide) _ _ (Nat.le_of_ble_eq_true rfl) rfl ?_
  intro p e s m below meth c ls C hl hK0
  exact bX2_above_0 w x1 C hK0 hl _ rfl
abbrev rmX2_gap : Room := { frames := 2, cells := 0, slots := 0, locals := 61 }
theorem mbX2_gap : mb_V RX2 yX2_gap cX2_gap 3 (some .long) 1 := ⟨⟨tw_instanceMethod_yX2_gap, tw_selects_RX2_yX2_gap_yX2_gap, tw_initialized_RX2, tw_code_yX2_gap⟩, rfl, by decide +kernel, by decide +kernel, by decide +kernel⟩
theorem BX2_gap {w : Bool} {h0 : Nat} : bx_B (fun U => fo_K w h0 U) := fo_B w h0
set_option maxRecDepth 20000 in
theorem bX2_gap_0 (w : Bool) (x1 : Int64) {p : Program} {l : Launch} {e : Env} {s : State} {m : MethodId} {args : Array Value} {below : List Frame} {meth : Method} {c : Code} {h0 : Nat} {ls : Array Slot} (C : bx_C p s m args meth c cX2_gap 3 (some .long) RX2) (hK0 : fo_K w h0 s) (hl : lv_has ls 3 [(0, .ref h0), (1, .long x1)]) (post : Int64 → Prop) (hq : post (fX2_gap w x1)) : W p l e rmX2_gap s m args below meth c s.heap [] 0 0 (MQ below (vp_Sl post) args s 0 0 (fun _ => False)) (F0 m 0 ls []) := by
  obtain ⟨hx, hb, hml, hr, hlocks, hown, hts⟩ := id C
  unfold fX2_gap at hq
  refine lv_aload_n hx hb dX2_gap_0 rfl (lv_at hl 0 rfl) ?_
  refine lv_lload_n hx hb dX2_gap_1 rfl (lv_at hl 1 rfl) ?_
  refine bx_vi C (kX2_isNan l w h0 x1) BX2_isNan (fun U u1 u2 => fo_B w h0 s U u1 u2 hK0) (fun U u1 u2 => (fo_B w h0 s U u1 u2 hK0).1) tw_methodLink_RX2_116_yX2_isNan mbX2_isNan rfl ⟨rfl, rfl⟩ ⟨Nat.le_of_ble_eq_true rfl, Nat.le_of_ble_eq_true rfl⟩ ⟨Nat.zero_le _, Nat.zero_le _⟩ hl.1 rfl (Nat.le_of_ble_eq_true rfl) dX2_gap_2 ?_
  refine lv_if_eq (tgt := 13) hx hb dX2_gap_5 (by decide) (fun c1 => ?_) (fun c1 => ?_)
  · rw [if_pos c1] at hq
    refine lv_aload_n hx hb dX2_gap_13 rfl (lv_at hl 0 rfl) ?_
    refine lv_lload_n hx hb dX2_gap_14 rfl (lv_at hl 1 rfl) ?_
    refine bx_vi C (kX2_isInfinite l w h0 x1) BX2_isInfinite (fun U u1 u2 => fo_B w h0 s U u1 u2 hK0) (fun U u1 u2 => (fo_B w h0 s U u1 u2 hK0).1) tw_methodLink_RX2_127_yX2_isInfinite mbX2_isInfinite rfl ⟨rfl, rfl⟩ ⟨Nat.le_of_ble_eq_true rfl, Nat.le_of_ble_eq_true rfl⟩ ⟨Nat.zero_le _, Nat.zero_le _⟩ hl.1 rfl (Nat.le_of_ble_eq_true rfl) dX2_gap_15 ?_
    refine lv_if_eq (tgt := 28) hx hb dX2_gap_18 (by decide) (fun c2 => ?_) (fun c2 => ?_)
    · rw [if_pos c2] at hq
      refine lv_aload_n hx hb dX2_gap_28 rfl (lv_at hl 0 rfl) ?_
      refine lv_iconst (v := 0) hx hb dX2_gap_29 (by decide) ?_
      refine lv_aload_n hx hb dX2_gap_30 rfl (lv_at hl 0 rfl) ?_
      refine lv_lload_n hx hb dX2_gap_31 rfl (lv_at hl 1 rfl) ?_
      refine bx_vi C (kX2_scale l w h0 x1) BX2_scale (fun U u1 u2 => fo_B w h0 s U u1 u2 hK0) (fun U u1 u2 => (fo_B w h0 s U u1 u2 hK0).1) tw_methodLink_RX2_142_yX2_scale mbX2_scale rfl ⟨rfl, rfl⟩ ⟨Nat.le_of_ble_eq_true rfl, Nat.le_of_ble_eq_true rfl⟩ ⟨Nat.zero_le _, Nat.zero_le _⟩ hl.1 rfl (Nat.le_of_ble_eq_true rfl) dX2_gap_32 ?_
      refine lv_lconst (v := 1) hx hb dX2_gap_35 (by decide) ?_
      refine bx_vl C (kX2_rounded l w h0 (0 : Int32) (fX2_scale w x1) (1 : Int64)) BX2_rounded (fun U u1 u2 => fo_B w h0 s U u1 u2 hK0) (fun U u1 u2 => (fo_B w h0 s U u1 u2 hK0).1) tw_methodLink_RX2_148_yX2_rounded mbX2_rounded rfl ⟨rfl, rfl⟩ ⟨Nat.le_of_ble_eq_true rfl, Nat.le_of_ble_eq_true rfl⟩ ⟨Nat.zero_le _, Nat.zero_le _⟩ hl.1 rfl (Nat.le_of_ble_eq_true rfl) dX2_gap_36 ?_
      exact W.lret (v := (fX2_rounded w (0 : Int32) (fX2_scale w x1) (1 : Int64))) hx hb hr (fun t ht hW => ⟨_, rfl, hq, ht⟩) (fun _ h => absurd h List.not_mem_nil) dX2_gap_39
    · rw [if_neg c2] at hq
      refine lv_aload_n hx hb dX2_gap_21 rfl (lv_at hl 0 rfl) ?_
      refine vk_getf (v := .long (fo_infinity w)) hx hb (fo_infinity_K hK0) va_S.rf hown (hts _ tw_fieldLink_RX2_49_GlulxFloats_Form_infinity_J) (fun _ h9 => h9) dX2_gap_22 ?_
      refine lv_goto (tgt := 39) hx hb dX2_gap_25 (by decide) ?_
      exact W.lret (v := (fo_infinity w)) hx hb hr (fun t ht hW => ⟨_, rfl, hq, ht⟩) (fun _ h => absurd h List.not_mem_nil) dX2_gap_39
  · rw [if_neg c1] at hq
    refine lv_aload_n hx hb dX2_gap_8 rfl (lv_at hl 0 rfl) ?_
    refine vk_getf (v := .long (fo_nan w)) hx hb (fo_nan_K hK0) va_S.rf hown (hts _ tw_fieldLink_RX2_52_GlulxFloats_Form_nan_J) (fun _ h9 => h9) dX2_gap_9 ?_
    exact W.lret (v := (fo_nan w)) hx hb hr (fun t ht hW => ⟨_, rfl, hq, ht⟩) (fun _ h => absurd h List.not_mem_nil) dX2_gap_12
theorem kX2_gap (l : Launch) (w : Bool) (h0 : Nat) (x1 : Int64) : Met l yX2_gap (Cond.code yX2_gap cX2_gap 3 (some .long) :: bw) rmX2_gap (va_Pc [.ref h0, .long x1] (fun U => fo_K w h0 U)) (vp_Sl (fun r => r = fX2_gap w x1)) 0 0 (fun _ => False) := by
  refine bx_ent (by decide) _ _ (Nat.le_of_ble_eq_true rfl) rfl ?_
  intro p e s m below meth c ls C hl hK0
  exact bX2_gap_0 w x1 C hK0 hl _ rfl
abbrev rmX2_fusedFinite : Room := { frames := 2, cells := 0, slots := 0, locals := 61 }
theorem mbX2_fusedFinite : mb_V RX2 yX2_fusedFinite cX2_fusedFinite 31 (some .long) 3 := ⟨⟨tw_instanceMethod_yX2_fusedFinite, tw_selects_RX2_yX2_fusedFinite_yX2_fusedFinite, tw_initialized_RX2, tw_code_yX2_fusedFinite⟩, rfl, by decide +kernel, by decide +kernel, by decide +kernel⟩
theorem BX2_fusedFinite {w : Bool} {h0 : Nat} : bx_B (fun U => fo_K w h0 U) := fo_B w h0
set_option maxRecDepth 20000 in
theorem bX2_fusedFinite_331 (w : Bool) (x22 : Int32) (x25 : Int32) (x26 : Int64) (x28 : Int64) (s0 : Int32) {p : Program} {l : Launch} {e : Env} {s : State} {m : MethodId} {args : Array Value} {below : List Frame} {meth : Method} {c : Code} {h0 : Nat} {ls : Array Slot} (C : bx_C p s m args meth c cX2_fusedFinite 31 (some .long) RX2) (hK0 : fo_K w h0 s) (hl : lv_has ls 31 [(0, .ref h0), (22, .int x22), (25, .int x25), (26, .long x26), (28, .long x28)]) (post : Int64 → Prop) (hq : post (fX2_fusedFinite_331 w x22 x25 x26 x28 s0)) : W p l e rmX2_fusedFinite s m args below meth c s.heap [] 0 0 (MQ below (vp_Sl post) args s 0 0 (fun _ => False)) (F0 m 331 ls [.int s0]) := by
  obtain ⟨hx, hb, hml, hr, hlocks, hown, hts⟩ := id C
  unfold fX2_fusedFinite_331 at hq
  refine lv_istore (lv' := [(30, .int s0), (0, .ref h0), (22, .int x22), (25, .int x25), (26, .long x26), (28, .long x28)]) hx hb dX2_fusedFinite_331 hl (by decide) rfl (fun ls hl => ?_)
  refine lv_aload_n hx hb dX2_fusedFinite_333 rfl (lv_at hl 1 rfl) ?_
  refine lv_iload hx hb dX2_fusedFinite_334 (lv_at hl 3 rfl) ?_
  refine lv_iload hx hb dX2_fusedFinite_336 (lv_at hl 2 rfl) ?_
  refine lv_iload hx hb dX2_fusedFinite_338 (lv_at hl 0 rfl) ?_
  refine lv_iadd hx hb dX2_fusedFinite_340 ?_
  refine lv_lload hx hb dX2_fusedFinite_341 (lv_at hl 5 rfl) ?_
  refine lv_lload hx hb dX2_fusedFinite_343 (lv_at hl 4 rfl) ?_
  refine lv_iload hx hb dX2_fusedFinite_345 (lv_at hl 0 rfl) ?_
  refine bx_sl C (kX0_loweredLow l x28 x26 s0) bx_B_true (fun _ _ _ => trivial) tw_methodLink_RX2_184_yX0_loweredLow mbX0_loweredLow rfl ⟨rfl, rfl⟩ ⟨Nat.le_of_ble_eq_true rfl, Nat.le_of_ble_eq_true rfl⟩ ⟨Nat.zero_le _, Nat.zero_le _⟩ hl.1 rfl (Nat.le_of_ble_eq_true rfl) dX2_fusedFinite_347 ?_
  refine bx_vl C (kX2_rounded l w h0 x25 (x22 + s0) (fX0_loweredLow x28 x26 s0)) BX2_rounded (fun U u1 u2 => fo_B w h0 s U u1 u2 hK0) (fun U u1 u2 => (fo_B w h0 s U u1 u2 hK0).1) tw_methodLink_RX2_148_yX2_rounded mbX2_rounded rfl ⟨rfl, rfl⟩ ⟨Nat.le_of_ble_eq_true rfl, Nat.le_of_ble_eq_true rfl⟩ ⟨Nat.zero_le _, Nat.zero_le _⟩ hl.1 rfl (Nat.le_of_ble_eq_true rfl) dX2_fusedFinite_350 ?_
  exact W.lret (v := (fX2_rounded w x25 (x22 + s0) (fX0_loweredLow x28 x26 s0))) hx hb hr (fun t ht hW => ⟨_, rfl, hq, ht⟩) (fun _ h => absurd h List.not_mem_nil) dX2_fusedFinite_353
set_option maxRecDepth 20000 in
theorem bX2_fusedFinite_300 (w : Bool) (x22 : Int32) (x25 : Int32) (x26 : Int64) (x28 : Int64) {p : Program} {l : Launch} {e : Env} {s : State} {m : MethodId} {args : Array Value} {below : List Frame} {meth : Method} {c : Code} {h0 : Nat} {ls : Array Slot} (C : bx_C p s m args meth c cX2_fusedFinite 31 (some .long) RX2) (hK0 : fo_K w h0 s) (hl : lv_has ls 31 [(0, .ref h0), (22, .int x22), (25, .int x25), (26, .long x26), (28, .long x28)]) (post : Int64 → Prop) (hq : post (fX2_fusedFinite_300 w x22 x25 x26 x28)) : W p l e rmX2_fusedFinite s m args below meth c s.heap [] 0 0 (MQ below (vp_Sl post) args s 0 0 (fun _ => False)) (F0 m 300 ls []) := by
  obtain ⟨hx, hb, hml, hr, hlocks, hown, hts⟩ := id C
  unfold fX2_fusedFinite_300 at hq
  refine lv_lload hx hb dX2_fusedFinite_300 (lv_at hl 4 rfl) ?_
  refine lv_lload hx hb dX2_fusedFinite_302 (lv_at hl 3 rfl) ?_
  refine lv_lor hx hb dX2_fusedFinite_304 ?_
  refine lv_lconst (v := 0) hx hb dX2_fusedFinite_305 (by decide) ?_
  refine bx_lc_ne (tgt := 312) hx hb dX2_fusedFinite_306 dX2_fusedFinite_307 (by decide) (fun c5 => ?_) (fun c5 => ?_)
  · rw [if_neg c5] at hq
    refine lv_lload hx hb dX2_fusedFinite_312 (lv_at hl 4 rfl) ?_
    refine lv_lconst (v := 0) hx hb dX2_fusedFinite_314 (by decide) ?_
    refine bx_lc_ne (tgt := 323) hx hb dX2_fusedFinite_315 dX2_fusedFinite_316 (by decide) (fun c6 => ?_) (fun c6 => ?_)
    · rw [if_neg c6] at hq
      refine lv_bipush (v := 64) hx hb dX2_fusedFinite_323 (by decide) ?_
      refine lv_lload hx hb dX2_fusedFinite_325 (lv_at hl 4 rfl) ?_
      refine bx_si C (kX0_zeros l x28) bx_B_true (fun _ _ _ => trivial) tw_methodLink_RX2_160_yX0_zeros mbX0_zeros rfl ⟨rfl, rfl⟩ ⟨Nat.le_of_ble_eq_true rfl, Nat.le_of_ble_eq_true rfl⟩ ⟨Nat.zero_le _, Nat.zero_le _⟩ hl.1 rfl (Nat.le_of_ble_eq_true rfl) dX2_fusedFinite_327 ?_
      refine lv_isub hx hb dX2_fusedFinite_330 ?_
      exact bX2_fusedFinite_331 w x22 x25 x26 x28 ((64 : Int32) - (fX0_zeros x28)) C hK0 (lv_sub hl [0, 1, 2, 3, 4] rfl) post hq
    · rw [if_pos c6] at hq
      refine lv_iconst (v := 0) hx hb dX2_fusedFinite_319 (by decide) ?_
      refine lv_goto (tgt := 331) hx hb dX2_fusedFinite_320 (by decide) ?_
      exact bX2_fusedFinite_331 w x22 x25 x26 x28 (0 : Int32) C hK0 (lv_sub hl [0, 1, 2, 3, 4] rfl) post hq
  · rw [if_pos c5] at hq
    refine lv_lconst (v := 0) hx hb dX2_fusedFinite_310 (by decide) ?_
    exact W.lret (v := (0 : Int64)) hx hb hr (fun t ht hW => ⟨_, rfl, hq, ht⟩) (fun _ h => absurd h List.not_mem_nil) dX2_fusedFinite_311
set_option maxRecDepth 20000 in
theorem bX2_fusedFinite_284 (w : Bool) (x22 : Int32) (x26 : Int64) (x28 : Int64) (s0 : Int32) {p : Program} {l : Launch} {e : Env} {s : State} {m : MethodId} {args : Array Value} {below : List Frame} {meth : Method} {c : Code} {h0 : Nat} {ls : Array Slot} (C : bx_C p s m args meth c cX2_fusedFinite 31 (some .long) RX2) (hK0 : fo_K w h0 s) (hl : lv_has ls 31 [(0, .ref h0), (22, .int x22), (26, .long x26), (28, .long x28)]) (post : Int64 → Prop) (hq : post (fX2_fusedFinite_284 w x22 x26 x28 s0)) : W p l e rmX2_fusedFinite s m args below meth c s.heap [] 0 0 (MQ below (vp_Sl post) args s 0 0 (fun _ => False)) (F0 m 284 ls [.int s0]) := by
  obtain ⟨hx, hb, hml, hr, hlocks, hown, hts⟩ := id C
  unfold fX2_fusedFinite_284 at hq
  refine lv_istore (lv' := [(25, .int s0), (0, .ref h0), (22, .int x22), (26, .long x26), (28, .long x28)]) hx hb dX2_fusedFinite_284 hl (by decide) rfl (fun ls hl => ?_)
  refine lv_lload hx hb dX2_fusedFinite_286 (lv_at hl 4 rfl) ?_
  refine lv_lload hx hb dX2_fusedFinite_288 (lv_at hl 3 rfl) ?_
  refine bx_sl C (kX0_negatedHigh l x28 x26) bx_B_true (fun _ _ _ => trivial) tw_methodLink_RX2_191_yX0_negatedHigh mbX0_negatedHigh rfl ⟨rfl, rfl⟩ ⟨Nat.le_of_ble_eq_true rfl, Nat.le_of_ble_eq_true rfl⟩ ⟨Nat.zero_le _, Nat.zero_le _⟩ hl.1 rfl (Nat.le_of_ble_eq_true rfl) dX2_fusedFinite_290 ?_
  refine lv_lstore (lv' := [(28, .long (fX0_negatedHigh x28 x26)), (25, .int s0), (0, .ref h0), (22, .int x22), (26, .long x26)]) hx hb dX2_fusedFinite_293 hl (by decide) rfl (fun ls hl => ?_)
  refine lv_lload hx hb dX2_fusedFinite_295 (lv_at hl 4 rfl) ?_
  refine lv_lneg hx hb dX2_fusedFinite_297 ?_
  refine lv_lstore (lv' := [(26, .long (-x26)), (28, .long (fX0_negatedHigh x28 x26)), (25, .int s0), (0, .ref h0), (22, .int x22)]) hx hb dX2_fusedFinite_298 hl (by decide) rfl (fun ls hl => ?_)
  exact bX2_fusedFinite_300 w x22 s0 (-x26) (fX0_negatedHigh x28 x26) C hK0 (lv_sub hl [3, 4, 2, 0, 1] rfl) post hq
set_option maxRecDepth 20000 in
theorem bX2_fusedFinite_263 (w : Bool) (x22 : Int32) (x25 : Int32) (x26 : Int64) (s0 : Int64) (s1 : Int32) {p : Program} {l : Launch} {e : Env} {s : State} {m : MethodId} {args : Array Value} {below : List Frame} {meth : Method} {c : Code} {h0 : Nat} {ls : Array Slot} (C : bx_C p s m args meth c cX2_fusedFinite 31 (some .long) RX2) (hK0 : fo_K w h0 s) (hl : lv_has ls 31 [(0, .ref h0), (22, .int x22), (25, .int x25), (26, .long x26)]) (post : Int64 → Prop) (hq : post (fX2_fusedFinite_263 w x22 x25 x26 s0 s1)) : W p l e rmX2_fusedFinite s m args below meth c s.heap [] 0 0 (MQ below (vp_Sl post) args s 0 0 (fun _ => False)) (F0 m 263 ls [.int s1, .long s0]) := by
  obtain ⟨hx, hb, hml, hr, hlocks, hown, hts⟩ := id C
  unfold fX2_fusedFinite_263 at hq
  refine bx_i2l hx hb dX2_fusedFinite_263 ?_
  refine lv_ladd hx hb dX2_fusedFinite_264 ?_
  refine lv_lstore (lv' := [(28, .long (s0 + s1.toInt64)), (0, .ref h0), (22, .int x22), (25, .int x25), (26, .long x26)]) hx hb dX2_fusedFinite_265 hl (by decide) rfl (fun ls hl => ?_)
  refine lv_lload hx hb dX2_fusedFinite_267 (lv_at hl 0 rfl) ?_
  refine lv_lconst (v := 0) hx hb dX2_fusedFinite_269 (by decide) ?_
  refine bx_lc_ge (tgt := 300) hx hb dX2_fusedFinite_270 dX2_fusedFinite_271 (by decide) (fun c4 => ?_) (fun c4 => ?_)
  · rw [if_pos c4] at hq
    exact bX2_fusedFinite_300 w x22 x25 x26 (s0 + s1.toInt64) C hK0 (lv_sub hl [1, 2, 3, 4, 0] rfl) post hq
  · rw [if_neg c4] at hq
    refine lv_iload hx hb dX2_fusedFinite_274 (lv_at hl 3 rfl) ?_
    refine lv_if_ne (tgt := 283) hx hb dX2_fusedFinite_276 (by decide) (fun c7 => ?_) (fun c7 => ?_)
    · rw [if_neg c7] at hq
      refine lv_iconst (v := 0) hx hb dX2_fusedFinite_283 (by decide) ?_
      exact bX2_fusedFinite_284 w x22 x26 (s0 + s1.toInt64) (0 : Int32) C hK0 (lv_sub hl [1, 2, 4, 0] rfl) post hq
    · rw [if_pos c7] at hq
      refine lv_iconst (v := 1) hx hb dX2_fusedFinite_279 (by decide) ?_
      refine lv_goto (tgt := 284) hx hb dX2_fusedFinite_280 (by decide) ?_
      exact bX2_fusedFinite_284 w x22 x26 (s0 + s1.toInt64) (1 : Int32) C hK0 (lv_sub hl [1, 2, 4, 0] rfl) post hq
set_option maxRecDepth 20000 in
theorem bX2_fusedFinite_236 (w : Bool) (x14 : Int64) (x16 : Int64) (x19 : Int64) (x22 : Int32) (x23 : Int64) (x25 : Int32) {p : Program} {l : Launch} {e : Env} {s : State} {m : MethodId} {args : Array Value} {below : List Frame} {meth : Method} {c : Code} {h0 : Nat} {ls : Array Slot} (C : bx_C p s m args meth c cX2_fusedFinite 31 (some .long) RX2) (hK0 : fo_K w h0 s) (hl : lv_has ls 31 [(0, .ref h0), (14, .long x14), (16, .long x16), (19, .long x19), (22, .int x22), (23, .long x23), (25, .int x25)]) (post : Int64 → Prop) (hq : post (fX2_fusedFinite_236 w x14 x16 x19 x22 x23 x25)) : W p l e rmX2_fusedFinite s m args below meth c s.heap [] 0 0 (MQ below (vp_Sl post) args s 0 0 (fun _ => False)) (F0 m 236 ls []) := by
  obtain ⟨hx, hb, hml, hr, hlocks, hown, hts⟩ := id C
  unfold fX2_fusedFinite_236 at hq
  refine lv_lload hx hb dX2_fusedFinite_236 (lv_at hl 2 rfl) ?_
  refine lv_lload hx hb dX2_fusedFinite_238 (lv_at hl 5 rfl) ?_
  refine lv_ladd hx hb dX2_fusedFinite_240 ?_
  refine lv_lstore (lv' := [(26, .long (x16 + x23)), (0, .ref h0), (14, .long x14), (16, .long x16), (19, .long x19), (22, .int x22), (23, .long x23), (25, .int x25)]) hx hb dX2_fusedFinite_241 hl (by decide) rfl (fun ls hl => ?_)
  refine lv_lload hx hb dX2_fusedFinite_243 (lv_at hl 2 rfl) ?_
  refine lv_lload hx hb dX2_fusedFinite_245 (lv_at hl 4 rfl) ?_
  refine lv_ladd hx hb dX2_fusedFinite_247 ?_
  refine lv_lload hx hb dX2_fusedFinite_248 (lv_at hl 0 rfl) ?_
  refine lv_lload hx hb dX2_fusedFinite_250 (lv_at hl 3 rfl) ?_
  refine bx_si C (kX0_isBelow l (x16 + x23) x16) bx_B_true (fun _ _ _ => trivial) tw_methodLink_RX2_194_yX0_isBelow mbX0_isBelow rfl ⟨rfl, rfl⟩ ⟨Nat.le_of_ble_eq_true rfl, Nat.le_of_ble_eq_true rfl⟩ ⟨Nat.zero_le _, Nat.zero_le _⟩ hl.1 rfl (Nat.le_of_ble_eq_true rfl) dX2_fusedFinite_252 ?_
  refine lv_if_eq (tgt := 262) hx hb dX2_fusedFinite_255 (by decide) (fun c3 => ?_) (fun c3 => ?_)
  · rw [if_pos c3] at hq
    refine lv_iconst (v := 0) hx hb dX2_fusedFinite_262 (by decide) ?_
    exact bX2_fusedFinite_263 w x22 x25 (x16 + x23) (x14 + x19) (0 : Int32) C hK0 (lv_sub hl [1, 5, 7, 0] rfl) post hq
  · rw [if_neg c3] at hq
    refine lv_iconst (v := 1) hx hb dX2_fusedFinite_258 (by decide) ?_
    refine lv_goto (tgt := 263) hx hb dX2_fusedFinite_259 (by decide) ?_
    exact bX2_fusedFinite_263 w x22 x25 (x16 + x23) (x14 + x19) (1 : Int32) C hK0 (lv_sub hl [1, 5, 7, 0] rfl) post hq
set_option maxRecDepth 20000 in
theorem bX2_fusedFinite_209 (w : Bool) (x5 : Int64) (x14 : Int64) (x16 : Int64) (x19 : Int64) (x22 : Int32) (x23 : Int64) (s0 : Int32) {p : Program} {l : Launch} {e : Env} {s : State} {m : MethodId} {args : Array Value} {below : List Frame} {meth : Method} {c : Code} {h0 : Nat} {ls : Array Slot} (C : bx_C p s m args meth c cX2_fusedFinite 31 (some .long) RX2) (hK0 : fo_K w h0 s) (hl : lv_has ls 31 [(0, .ref h0), (5, .long x5), (14, .long x14), (16, .long x16), (19, .long x19), (22, .int x22), (23, .long x23)]) (post : Int64 → Prop) (hq : post (fX2_fusedFinite_209 w x5 x14 x16 x19 x22 x23 s0)) : W p l e rmX2_fusedFinite s m args below meth c s.heap [] 0 0 (MQ below (vp_Sl post) args s 0 0 (fun _ => False)) (F0 m 209 ls [.int s0]) := by
  obtain ⟨hx, hb, hml, hr, hlocks, hown, hts⟩ := id C
  unfold fX2_fusedFinite_209 at hq
  refine lv_istore (lv' := [(25, .int s0), (0, .ref h0), (5, .long x5), (14, .long x14), (16, .long x16), (19, .long x19), (22, .int x22), (23, .long x23)]) hx hb dX2_fusedFinite_209 hl (by decide) rfl (fun ls hl => ?_)
  refine lv_aload_n hx hb dX2_fusedFinite_211 rfl (lv_at hl 1 rfl) ?_
  refine lv_lload hx hb dX2_fusedFinite_212 (lv_at hl 2 rfl) ?_
  refine bx_vi C (kX2_isNegative l w h0 x5) BX2_isNegative (fun U u1 u2 => fo_B w h0 s U u1 u2 hK0) (fun U u1 u2 => (fo_B w h0 s U u1 u2 hK0).1) tw_methodLink_RX2_136_yX2_isNegative mbX2_isNegative rfl ⟨rfl, rfl⟩ ⟨Nat.le_of_ble_eq_true rfl, Nat.le_of_ble_eq_true rfl⟩ ⟨Nat.zero_le _, Nat.zero_le _⟩ hl.1 rfl (Nat.le_of_ble_eq_true rfl) dX2_fusedFinite_214 ?_
  refine lv_iload hx hb dX2_fusedFinite_217 (lv_at hl 0 rfl) ?_
  refine lv_icmp_eq (tgt := 236) hx hb dX2_fusedFinite_219 (by decide) (fun c2 => ?_) (fun c2 => ?_)
  · rw [if_pos c2] at hq
    exact bX2_fusedFinite_236 w x14 x16 x19 x22 x23 s0 C hK0 (lv_sub hl [1, 3, 4, 5, 6, 7, 0] rfl) post hq
  · rw [if_neg c2] at hq
    refine lv_lload hx hb dX2_fusedFinite_222 (lv_at hl 5 rfl) ?_
    refine lv_lload hx hb dX2_fusedFinite_224 (lv_at hl 7 rfl) ?_
    refine bx_sl C (kX0_negatedHigh l x19 x23) bx_B_true (fun _ _ _ => trivial) tw_methodLink_RX2_191_yX0_negatedHigh mbX0_negatedHigh rfl ⟨rfl, rfl⟩ ⟨Nat.le_of_ble_eq_true rfl, Nat.le_of_ble_eq_true rfl⟩ ⟨Nat.zero_le _, Nat.zero_le _⟩ hl.1 rfl (Nat.le_of_ble_eq_true rfl) dX2_fusedFinite_226 ?_
    refine lv_lstore (lv' := [(19, .long (fX0_negatedHigh x19 x23)), (25, .int s0), (0, .ref h0), (5, .long x5), (14, .long x14), (16, .long x16), (22, .int x22), (23, .long x23)]) hx hb dX2_fusedFinite_229 hl (by decide) rfl (fun ls hl => ?_)
    refine lv_lload hx hb dX2_fusedFinite_231 (lv_at hl 7 rfl) ?_
    refine lv_lneg hx hb dX2_fusedFinite_233 ?_
    refine lv_lstore (lv' := [(23, .long (-x23)), (19, .long (fX0_negatedHigh x19 x23)), (25, .int s0), (0, .ref h0), (5, .long x5), (14, .long x14), (16, .long x16), (22, .int x22)]) hx hb dX2_fusedFinite_234 hl (by decide) rfl (fun ls hl => ?_)
    exact bX2_fusedFinite_236 w x14 x16 (fX0_negatedHigh x19 x23) x22 (-x23) s0 C hK0 (lv_sub hl [3, 5, 6, 1, 7, 0, 2] rfl) post hq
set_option maxRecDepth 20000 in
theorem bX2_fusedFinite_138 (w : Bool) (x1 : Int64) (x3 : Int64) (x5 : Int64) (x14 : Int64) (x16 : Int64) (x18 : Int32) (x19 : Int64) (x21 : Int32) (s0 : Int32) {p : Program} {l : Launch} {e : Env} {s : State} {m : MethodId} {args : Array Value} {below : List Frame} {meth : Method} {c : Code} {h0 : Nat} {ls : Array Slot} (C : bx_C p s m args meth c cX2_fusedFinite 31 (some .long) RX2) (hK0 : fo_K w h0 s) (hl : lv_has ls 31 [(0, .ref h0), (1, .long x1), (3, .long x3), (5, .long x5), (14, .long x14), (16, .long x16), (18, .int x18), (19, .long x19), (21, .int x21)]) (post : Int64 → Prop) (hq : post (fX2_fusedFinite_138 w x1 x3 x5 x14 x16 x18 x19 x21 s0)) : W p l e rmX2_fusedFinite s m args below meth c s.heap [] 0 0 (MQ below (vp_Sl post) args s 0 0 (fun _ => False)) (F0 m 138 ls [.int s0]) := by
  obtain ⟨hx, hb, hml, hr, hlocks, hown, hts⟩ := id C
  unfold fX2_fusedFinite_138 at hq
  refine lv_istore (lv' := [(22, .int s0), (0, .ref h0), (1, .long x1), (3, .long x3), (5, .long x5), (14, .long x14), (16, .long x16), (18, .int x18), (19, .long x19), (21, .int x21)]) hx hb dX2_fusedFinite_138 hl (by decide) rfl (fun ls hl => ?_)
  refine lv_lload hx hb dX2_fusedFinite_140 (lv_at hl 5 rfl) ?_
  refine lv_lload hx hb dX2_fusedFinite_142 (lv_at hl 6 rfl) ?_
  refine lv_iload hx hb dX2_fusedFinite_144 (lv_at hl 0 rfl) ?_
  refine lv_iload hx hb dX2_fusedFinite_146 (lv_at hl 7 rfl) ?_
  refine lv_isub hx hb dX2_fusedFinite_148 ?_
  refine bx_sl C (kX0_loweredLow l x14 x16 (s0 - x18)) bx_B_true (fun _ _ _ => trivial) tw_methodLink_RX2_184_yX0_loweredLow mbX0_loweredLow rfl ⟨rfl, rfl⟩ ⟨Nat.le_of_ble_eq_true rfl, Nat.le_of_ble_eq_true rfl⟩ ⟨Nat.zero_le _, Nat.zero_le _⟩ hl.1 rfl (Nat.le_of_ble_eq_true rfl) dX2_fusedFinite_149 ?_
  refine lv_lstore (lv' := [(16, .long (fX0_loweredLow x14 x16 (s0 - x18))), (22, .int s0), (0, .ref h0), (1, .long x1), (3, .long x3), (5, .long x5), (14, .long x14), (18, .int x18), (19, .long x19), (21, .int x21)]) hx hb dX2_fusedFinite_152 hl (by decide) rfl (fun ls hl => ?_)
  refine lv_lload hx hb dX2_fusedFinite_154 (lv_at hl 6 rfl) ?_
  refine lv_iload hx hb dX2_fusedFinite_156 (lv_at hl 1 rfl) ?_
  refine lv_iload hx hb dX2_fusedFinite_158 (lv_at hl 7 rfl) ?_
  refine lv_isub hx hb dX2_fusedFinite_160 ?_
  refine bx_sl C (kX0_loweredHigh l x14 (s0 - x18)) bx_B_true (fun _ _ _ => trivial) tw_methodLink_RX2_188_yX0_loweredHigh mbX0_loweredHigh rfl ⟨rfl, rfl⟩ ⟨Nat.le_of_ble_eq_true rfl, Nat.le_of_ble_eq_true rfl⟩ ⟨Nat.zero_le _, Nat.zero_le _⟩ hl.1 rfl (Nat.le_of_ble_eq_true rfl) dX2_fusedFinite_161 ?_
  refine lv_lstore (lv' := [(14, .long (fX0_loweredHigh x14 (s0 - x18))), (16, .long (fX0_loweredLow x14 x16 (s0 - x18))), (22, .int s0), (0, .ref h0), (1, .long x1), (3, .long x3), (5, .long x5), (18, .int x18), (19, .long x19), (21, .int x21)]) hx hb dX2_fusedFinite_164 hl (by decide) rfl (fun ls hl => ?_)
  refine lv_lload hx hb dX2_fusedFinite_166 (lv_at hl 8 rfl) ?_
  refine lv_lconst (v := 0) hx hb dX2_fusedFinite_168 (by decide) ?_
  refine lv_iload hx hb dX2_fusedFinite_169 (lv_at hl 2 rfl) ?_
  refine lv_iload hx hb dX2_fusedFinite_171 (lv_at hl 9 rfl) ?_
  refine lv_isub hx hb dX2_fusedFinite_173 ?_
  refine bx_sl C (kX0_loweredLow l x19 (0 : Int64) (s0 - x21)) bx_B_true (fun _ _ _ => trivial) tw_methodLink_RX2_184_yX0_loweredLow mbX0_loweredLow rfl ⟨rfl, rfl⟩ ⟨Nat.le_of_ble_eq_true rfl, Nat.le_of_ble_eq_true rfl⟩ ⟨Nat.zero_le _, Nat.zero_le _⟩ hl.1 rfl (Nat.le_of_ble_eq_true rfl) dX2_fusedFinite_174 ?_
  refine lv_lstore (lv' := [(23, .long (fX0_loweredLow x19 (0 : Int64) (s0 - x21))), (14, .long (fX0_loweredHigh x14 (s0 - x18))), (16, .long (fX0_loweredLow x14 x16 (s0 - x18))), (22, .int s0), (0, .ref h0), (1, .long x1), (3, .long x3), (5, .long x5), (18, .int x18), (19, .long x19), (21, .int x21)]) hx hb dX2_fusedFinite_177 hl (by decide) rfl (fun ls hl => ?_)
  refine lv_lload hx hb dX2_fusedFinite_179 (lv_at hl 9 rfl) ?_
  refine lv_iload hx hb dX2_fusedFinite_181 (lv_at hl 3 rfl) ?_
  refine lv_iload hx hb dX2_fusedFinite_183 (lv_at hl 10 rfl) ?_
  refine lv_isub hx hb dX2_fusedFinite_185 ?_
  refine bx_sl C (kX0_loweredHigh l x19 (s0 - x21)) bx_B_true (fun _ _ _ => trivial) tw_methodLink_RX2_188_yX0_loweredHigh mbX0_loweredHigh rfl ⟨rfl, rfl⟩ ⟨Nat.le_of_ble_eq_true rfl, Nat.le_of_ble_eq_true rfl⟩ ⟨Nat.zero_le _, Nat.zero_le _⟩ hl.1 rfl (Nat.le_of_ble_eq_true rfl) dX2_fusedFinite_186 ?_
  refine lv_lstore (lv' := [(19, .long (fX0_loweredHigh x19 (s0 - x21))), (23, .long (fX0_loweredLow x19 (0 : Int64) (s0 - x21))), (14, .long (fX0_loweredHigh x14 (s0 - x18))), (16, .long (fX0_loweredLow x14 x16 (s0 - x18))), (22, .int s0), (0, .ref h0), (1, .long x1), (3, .long x3), (5, .long x5), (18, .int x18), (21, .int x21)]) hx hb dX2_fusedFinite_189 hl (by decide) rfl (fun ls hl => ?_)
  refine lv_aload_n hx hb dX2_fusedFinite_191 rfl (lv_at hl 5 rfl) ?_
  refine lv_lload_n hx hb dX2_fusedFinite_192 rfl (lv_at hl 6 rfl) ?_
  refine bx_vi C (kX2_isNegative l w h0 x1) BX2_isNegative (fun U u1 u2 => fo_B w h0 s U u1 u2 hK0) (fun U u1 u2 => (fo_B w h0 s U u1 u2 hK0).1) tw_methodLink_RX2_136_yX2_isNegative mbX2_isNegative rfl ⟨rfl, rfl⟩ ⟨Nat.le_of_ble_eq_true rfl, Nat.le_of_ble_eq_true rfl⟩ ⟨Nat.zero_le _, Nat.zero_le _⟩ hl.1 rfl (Nat.le_of_ble_eq_true rfl) dX2_fusedFinite_193 ?_
  refine lv_aload_n hx hb dX2_fusedFinite_196 rfl (lv_at hl 5 rfl) ?_
  refine lv_lload_n hx hb dX2_fusedFinite_197 rfl (lv_at hl 7 rfl) ?_
  refine bx_vi C (kX2_isNegative l w h0 x3) BX2_isNegative (fun U u1 u2 => fo_B w h0 s U u1 u2 hK0) (fun U u1 u2 => (fo_B w h0 s U u1 u2 hK0).1) tw_methodLink_RX2_136_yX2_isNegative mbX2_isNegative rfl ⟨rfl, rfl⟩ ⟨Nat.le_of_ble_eq_true rfl, Nat.le_of_ble_eq_true rfl⟩ ⟨Nat.zero_le _, Nat.zero_le _⟩ hl.1 rfl (Nat.le_of_ble_eq_true rfl) dX2_fusedFinite_198 ?_
  refine lv_icmp_eq (tgt := 208) hx hb dX2_fusedFinite_201 (by decide) (fun c1 => ?_) (fun c1 => ?_)
  · rw [if_pos c1] at hq
    refine lv_iconst (v := 0) hx hb dX2_fusedFinite_208 (by decide) ?_
    exact bX2_fusedFinite_209 w x5 (fX0_loweredHigh x14 (s0 - x18)) (fX0_loweredLow x14 x16 (s0 - x18)) (fX0_loweredHigh x19 (s0 - x21)) s0 (fX0_loweredLow x19 (0 : Int64) (s0 - x21)) (0 : Int32) C hK0 (lv_sub hl [5, 8, 2, 3, 0, 4, 1] rfl) post hq
  · rw [if_neg c1] at hq
    refine lv_iconst (v := 1) hx hb dX2_fusedFinite_204 (by decide) ?_
    refine lv_goto (tgt := 209) hx hb dX2_fusedFinite_205 (by decide) ?_
    exact bX2_fusedFinite_209 w x5 (fX0_loweredHigh x14 (s0 - x18)) (fX0_loweredLow x14 x16 (s0 - x18)) (fX0_loweredHigh x19 (s0 - x21)) s0 (fX0_loweredLow x19 (0 : Int64) (s0 - x21)) (1 : Int32) C hK0 (lv_sub hl [5, 8, 2, 3, 0, 4, 1] rfl) post hq
set_option maxRecDepth 20000 in
theorem bX2_fusedFinite_100 (w : Bool) (x1 : Int64) (x3 : Int64) (x5 : Int64) (x13 : Int32) (x14 : Int64) (x16 : Int64) (s0 : Int32) {p : Program} {l : Launch} {e : Env} {s : State} {m : MethodId} {args : Array Value} {below : List Frame} {meth : Method} {c : Code} {h0 : Nat} {ls : Array Slot} (C : bx_C p s m args meth c cX2_fusedFinite 31 (some .long) RX2) (hK0 : fo_K w h0 s) (hl : lv_has ls 31 [(0, .ref h0), (1, .long x1), (3, .long x3), (5, .long x5), (13, .int x13), (14, .long x14), (16, .long x16)]) (post : Int64 → Prop) (hq : post (fX2_fusedFinite_100 w x1 x3 x5 x13 x14 x16 s0)) : W p l e rmX2_fusedFinite s m args below meth c s.heap [] 0 0 (MQ below (vp_Sl post) args s 0 0 (fun _ => False)) (F0 m 100 ls [.int s0]) := by
  obtain ⟨hx, hb, hml, hr, hlocks, hown, hts⟩ := id C
  unfold fX2_fusedFinite_100 at hq
  refine lv_istore (lv' := [(18, .int s0), (0, .ref h0), (1, .long x1), (3, .long x3), (5, .long x5), (13, .int x13), (14, .long x14), (16, .long x16)]) hx hb dX2_fusedFinite_100 hl (by decide) rfl (fun ls hl => ?_)
  refine lv_aload_n hx hb dX2_fusedFinite_102 rfl (lv_at hl 1 rfl) ?_
  refine lv_lload hx hb dX2_fusedFinite_103 (lv_at hl 4 rfl) ?_
  refine bx_vl C (kX2_plain l w h0 x5) BX2_plain (fun U u1 u2 => fo_B w h0 s U u1 u2 hK0) (fun U u1 u2 => (fo_B w h0 s U u1 u2 hK0).1) tw_methodLink_RX2_145_yX2_plain mbX2_plain rfl ⟨rfl, rfl⟩ ⟨Nat.le_of_ble_eq_true rfl, Nat.le_of_ble_eq_true rfl⟩ ⟨Nat.zero_le _, Nat.zero_le _⟩ hl.1 rfl (Nat.le_of_ble_eq_true rfl) dX2_fusedFinite_105 ?_
  refine lv_iload hx hb dX2_fusedFinite_108 (lv_at hl 5 rfl) ?_
  refine bx_lshl hx hb dX2_fusedFinite_110 ?_
  refine lv_iconst (v := 2) hx hb dX2_fusedFinite_111 (by decide) ?_
  refine bx_lushr hx hb dX2_fusedFinite_112 ?_
  refine lv_lstore (lv' := [(19, .long (jl_ushr (jl_shl (fX2_plain w x5) x13) (2 : Int32))), (18, .int s0), (0, .ref h0), (1, .long x1), (3, .long x3), (5, .long x5), (13, .int x13), (14, .long x14), (16, .long x16)]) hx hb dX2_fusedFinite_113 hl (by decide) rfl (fun ls hl => ?_)
  refine lv_aload_n hx hb dX2_fusedFinite_115 rfl (lv_at hl 2 rfl) ?_
  refine lv_lload hx hb dX2_fusedFinite_116 (lv_at hl 5 rfl) ?_
  refine bx_vi C (kX2_scale l w h0 x5) BX2_scale (fun U u1 u2 => fo_B w h0 s U u1 u2 hK0) (fun U u1 u2 => (fo_B w h0 s U u1 u2 hK0).1) tw_methodLink_RX2_142_yX2_scale mbX2_scale rfl ⟨rfl, rfl⟩ ⟨Nat.le_of_ble_eq_true rfl, Nat.le_of_ble_eq_true rfl⟩ ⟨Nat.zero_le _, Nat.zero_le _⟩ hl.1 rfl (Nat.le_of_ble_eq_true rfl) dX2_fusedFinite_118 ?_
  refine lv_iload hx hb dX2_fusedFinite_121 (lv_at hl 6 rfl) ?_
  refine lv_isub hx hb dX2_fusedFinite_123 ?_
  refine lv_bipush (v := 64) hx hb dX2_fusedFinite_124 (by decide) ?_
  refine lv_isub hx hb dX2_fusedFinite_126 ?_
  refine lv_iconst (v := 2) hx hb dX2_fusedFinite_127 (by decide) ?_
  refine lv_iadd hx hb dX2_fusedFinite_128 ?_
  refine lv_istore (lv' := [(21, .int ((((fX2_scale w x5) - x13) - (64 : Int32)) + (2 : Int32))), (19, .long (jl_ushr (jl_shl (fX2_plain w x5) x13) (2 : Int32))), (18, .int s0), (0, .ref h0), (1, .long x1), (3, .long x3), (5, .long x5), (13, .int x13), (14, .long x14), (16, .long x16)]) hx hb dX2_fusedFinite_129 hl (by decide) rfl (fun ls hl => ?_)
  refine lv_iload hx hb dX2_fusedFinite_131 (lv_at hl 2 rfl) ?_
  refine lv_iload hx hb dX2_fusedFinite_133 (lv_at hl 0 rfl) ?_
  refine va_mmax hx hb (by rw [hml]; exact hl.1.symm) hown (hts _ tw_methodLink_RX2_130_Mmax_name) (hts _ tw_static_Mmax_name) (hts _ tw_initialized_Math) (hts _ tw_code_Lib_Math_max_name) (Nat.le_of_ble_eq_true rfl) (Nat.le_of_ble_eq_true rfl) (Nat.zero_le _) (Nat.zero_le _) dX2_fusedFinite_135 ?_
  refine bx_as (v := .int (ji_max s0 ((((fX2_scale w x5) - x13) - (64 : Int32)) + (2 : Int32)))) rfl ?_
  exact bX2_fusedFinite_138 w x1 x3 x5 x14 x16 s0 (jl_ushr (jl_shl (fX2_plain w x5) x13) (2 : Int32)) ((((fX2_scale w x5) - x13) - (64 : Int32)) + (2 : Int32)) (ji_max s0 ((((fX2_scale w x5) - x13) - (64 : Int32)) + (2 : Int32))) C hK0 (lv_sub hl [3, 4, 5, 6, 8, 9, 2, 1, 0] rfl) post hq
set_option maxRecDepth 20000 in
theorem bX2_fusedFinite_60 (w : Bool) (x1 : Int64) (x3 : Int64) (x5 : Int64) (x7 : Int64) (x9 : Int64) (x11 : Int32) (x12 : Int32) (x13 : Int32) (s0 : Int64) {p : Program} {l : Launch} {e : Env} {s : State} {m : MethodId} {args : Array Value} {below : List Frame} {meth : Method} {c : Code} {h0 : Nat} {ls : Array Slot} (C : bx_C p s m args meth c cX2_fusedFinite 31 (some .long) RX2) (hK0 : fo_K w h0 s) (hl : lv_has ls 31 [(0, .ref h0), (1, .long x1), (3, .long x3), (5, .long x5), (7, .long x7), (9, .long x9), (11, .int x11), (12, .int x12), (13, .int x13)]) (post : Int64 → Prop) (hq : post (fX2_fusedFinite_60 w x1 x3 x5 x7 x9 x11 x12 x13 s0)) : W p l e rmX2_fusedFinite s m args below meth c s.heap [] 0 0 (MQ below (vp_Sl post) args s 0 0 (fun _ => False)) (F0 m 60 ls [.long s0]) := by
  obtain ⟨hx, hb, hml, hr, hlocks, hown, hts⟩ := id C
  unfold fX2_fusedFinite_60 at hq
  refine lv_lstore (lv' := [(14, .long s0), (0, .ref h0), (1, .long x1), (3, .long x3), (5, .long x5), (7, .long x7), (9, .long x9), (11, .int x11), (12, .int x12), (13, .int x13)]) hx hb dX2_fusedFinite_60 hl (by decide) rfl (fun ls hl => ?_)
  refine lv_lload hx hb dX2_fusedFinite_62 (lv_at hl 0 rfl) ?_
  refine lv_lload hx hb dX2_fusedFinite_64 (lv_at hl 5 rfl) ?_
  refine lv_lload hx hb dX2_fusedFinite_66 (lv_at hl 6 rfl) ?_
  refine lv_lmul hx hb dX2_fusedFinite_68 ?_
  refine lv_iconst (v := 2) hx hb dX2_fusedFinite_69 (by decide) ?_
  refine bx_sl C (kX0_loweredLow l s0 (x7 * x9) (2 : Int32)) bx_B_true (fun _ _ _ => trivial) tw_methodLink_RX2_184_yX0_loweredLow mbX0_loweredLow rfl ⟨rfl, rfl⟩ ⟨Nat.le_of_ble_eq_true rfl, Nat.le_of_ble_eq_true rfl⟩ ⟨Nat.zero_le _, Nat.zero_le _⟩ hl.1 rfl (Nat.le_of_ble_eq_true rfl) dX2_fusedFinite_70 ?_
  refine lv_lstore (lv' := [(16, .long (fX0_loweredLow s0 (x7 * x9) (2 : Int32))), (14, .long s0), (0, .ref h0), (1, .long x1), (3, .long x3), (5, .long x5), (7, .long x7), (9, .long x9), (11, .int x11), (12, .int x12), (13, .int x13)]) hx hb dX2_fusedFinite_73 hl (by decide) rfl (fun ls hl => ?_)
  refine lv_lload hx hb dX2_fusedFinite_75 (lv_at hl 1 rfl) ?_
  refine lv_iconst (v := 2) hx hb dX2_fusedFinite_77 (by decide) ?_
  refine bx_lushr hx hb dX2_fusedFinite_78 ?_
  refine lv_lstore (lv' := [(14, .long (jl_ushr s0 (2 : Int32))), (16, .long (fX0_loweredLow s0 (x7 * x9) (2 : Int32))), (0, .ref h0), (1, .long x1), (3, .long x3), (5, .long x5), (7, .long x7), (9, .long x9), (11, .int x11), (12, .int x12), (13, .int x13)]) hx hb dX2_fusedFinite_79 hl (by decide) rfl (fun ls hl => ?_)
  refine lv_aload_n hx hb dX2_fusedFinite_81 rfl (lv_at hl 2 rfl) ?_
  refine lv_lload_n hx hb dX2_fusedFinite_82 rfl (lv_at hl 3 rfl) ?_
  refine bx_vi C (kX2_scale l w h0 x1) BX2_scale (fun U u1 u2 => fo_B w h0 s U u1 u2 hK0) (fun U u1 u2 => (fo_B w h0 s U u1 u2 hK0).1) tw_methodLink_RX2_142_yX2_scale mbX2_scale rfl ⟨rfl, rfl⟩ ⟨Nat.le_of_ble_eq_true rfl, Nat.le_of_ble_eq_true rfl⟩ ⟨Nat.zero_le _, Nat.zero_le _⟩ hl.1 rfl (Nat.le_of_ble_eq_true rfl) dX2_fusedFinite_83 ?_
  refine lv_iload hx hb dX2_fusedFinite_86 (lv_at hl 8 rfl) ?_
  refine lv_isub hx hb dX2_fusedFinite_88 ?_
  refine lv_aload_n hx hb dX2_fusedFinite_89 rfl (lv_at hl 2 rfl) ?_
  refine lv_lload_n hx hb dX2_fusedFinite_90 rfl (lv_at hl 4 rfl) ?_
  refine bx_vi C (kX2_scale l w h0 x3) BX2_scale (fun U u1 u2 => fo_B w h0 s U u1 u2 hK0) (fun U u1 u2 => (fo_B w h0 s U u1 u2 hK0).1) tw_methodLink_RX2_142_yX2_scale mbX2_scale rfl ⟨rfl, rfl⟩ ⟨Nat.le_of_ble_eq_true rfl, Nat.le_of_ble_eq_true rfl⟩ ⟨Nat.zero_le _, Nat.zero_le _⟩ hl.1 rfl (Nat.le_of_ble_eq_true rfl) dX2_fusedFinite_91 ?_
  refine lv_iadd hx hb dX2_fusedFinite_94 ?_
  refine lv_iload hx hb dX2_fusedFinite_95 (lv_at hl 9 rfl) ?_
  refine lv_isub hx hb dX2_fusedFinite_97 ?_
  refine lv_iconst (v := 2) hx hb dX2_fusedFinite_98 (by decide) ?_
  refine lv_iadd hx hb dX2_fusedFinite_99 ?_
  exact bX2_fusedFinite_100 w x1 x3 x5 x13 (jl_ushr s0 (2 : Int32)) (fX0_loweredLow s0 (x7 * x9) (2 : Int32)) (((((fX2_scale w x1) - x11) + (fX2_scale w x3)) - x12) + (2 : Int32)) C hK0 (lv_sub hl [2, 3, 4, 5, 10, 0, 1] rfl) post hq
set_option maxRecDepth 20000 in
theorem bX2_fusedFinite_0 (w : Bool) (x1 : Int64) (x3 : Int64) (x5 : Int64) {p : Program} {l : Launch} {e : Env} {s : State} {m : MethodId} {args : Array Value} {below : List Frame} {meth : Method} {c : Code} {h0 : Nat} {ls : Array Slot} (C : bx_C p s m args meth c cX2_fusedFinite 31 (some .long) RX2) (hK0 : fo_K w h0 s) (hl : lv_has ls 31 [(0, .ref h0), (1, .long x1), (3, .long x3), (5, .long x5)]) (post : Int64 → Prop) (hq : post (fX2_fusedFinite w x1 x3 x5)) : W p l e rmX2_fusedFinite s m args below meth c s.heap [] 0 0 (MQ below (vp_Sl post) args s 0 0 (fun _ => False)) (F0 m 0 ls []) := by
  obtain ⟨hx, hb, hml, hr, hlocks, hown, hts⟩ := id C
  unfold fX2_fusedFinite at hq
  refine lv_aload_n hx hb dX2_fusedFinite_0 rfl (lv_at hl 0 rfl) ?_
  refine lv_lload_n hx hb dX2_fusedFinite_1 rfl (lv_at hl 1 rfl) ?_
  refine bx_vl C (kX2_plain l w h0 x1) BX2_plain (fun U u1 u2 => fo_B w h0 s U u1 u2 hK0) (fun U u1 u2 => (fo_B w h0 s U u1 u2 hK0).1) tw_methodLink_RX2_145_yX2_plain mbX2_plain rfl ⟨rfl, rfl⟩ ⟨Nat.le_of_ble_eq_true rfl, Nat.le_of_ble_eq_true rfl⟩ ⟨Nat.zero_le _, Nat.zero_le _⟩ hl.1 rfl (Nat.le_of_ble_eq_true rfl) dX2_fusedFinite_2 ?_
  refine lv_lstore (lv' := [(7, .long (fX2_plain w x1)), (0, .ref h0), (1, .long x1), (3, .long x3), (5, .long x5)]) hx hb dX2_fusedFinite_5 hl (by decide) rfl (fun ls hl => ?_)
  refine lv_aload_n hx hb dX2_fusedFinite_7 rfl (lv_at hl 1 rfl) ?_
  refine lv_lload_n hx hb dX2_fusedFinite_8 rfl (lv_at hl 3 rfl) ?_
  refine bx_vl C (kX2_plain l w h0 x3) BX2_plain (fun U u1 u2 => fo_B w h0 s U u1 u2 hK0) (fun U u1 u2 => (fo_B w h0 s U u1 u2 hK0).1) tw_methodLink_RX2_145_yX2_plain mbX2_plain rfl ⟨rfl, rfl⟩ ⟨Nat.le_of_ble_eq_true rfl, Nat.le_of_ble_eq_true rfl⟩ ⟨Nat.zero_le _, Nat.zero_le _⟩ hl.1 rfl (Nat.le_of_ble_eq_true rfl) dX2_fusedFinite_9 ?_
  refine lv_lstore (lv' := [(9, .long (fX2_plain w x3)), (7, .long (fX2_plain w x1)), (0, .ref h0), (1, .long x1), (3, .long x3), (5, .long x5)]) hx hb dX2_fusedFinite_12 hl (by decide) rfl (fun ls hl => ?_)
  refine lv_lload hx hb dX2_fusedFinite_14 (lv_at hl 1 rfl) ?_
  refine bx_si C (kX0_zeros l (fX2_plain w x1)) bx_B_true (fun _ _ _ => trivial) tw_methodLink_RX2_160_yX0_zeros mbX0_zeros rfl ⟨rfl, rfl⟩ ⟨Nat.le_of_ble_eq_true rfl, Nat.le_of_ble_eq_true rfl⟩ ⟨Nat.zero_le _, Nat.zero_le _⟩ hl.1 rfl (Nat.le_of_ble_eq_true rfl) dX2_fusedFinite_16 ?_
  refine lv_istore (lv' := [(11, .int (fX0_zeros (fX2_plain w x1))), (9, .long (fX2_plain w x3)), (7, .long (fX2_plain w x1)), (0, .ref h0), (1, .long x1), (3, .long x3), (5, .long x5)]) hx hb dX2_fusedFinite_19 hl (by decide) rfl (fun ls hl => ?_)
  refine lv_lload hx hb dX2_fusedFinite_21 (lv_at hl 1 rfl) ?_
  refine bx_si C (kX0_zeros l (fX2_plain w x3)) bx_B_true (fun _ _ _ => trivial) tw_methodLink_RX2_160_yX0_zeros mbX0_zeros rfl ⟨rfl, rfl⟩ ⟨Nat.le_of_ble_eq_true rfl, Nat.le_of_ble_eq_true rfl⟩ ⟨Nat.zero_le _, Nat.zero_le _⟩ hl.1 rfl (Nat.le_of_ble_eq_true rfl) dX2_fusedFinite_23 ?_
  refine lv_istore (lv' := [(12, .int (fX0_zeros (fX2_plain w x3))), (11, .int (fX0_zeros (fX2_plain w x1))), (9, .long (fX2_plain w x3)), (7, .long (fX2_plain w x1)), (0, .ref h0), (1, .long x1), (3, .long x3), (5, .long x5)]) hx hb dX2_fusedFinite_26 hl (by decide) rfl (fun ls hl => ?_)
  refine lv_aload_n hx hb dX2_fusedFinite_28 rfl (lv_at hl 4 rfl) ?_
  refine lv_lload hx hb dX2_fusedFinite_29 (lv_at hl 7 rfl) ?_
  refine bx_vl C (kX2_plain l w h0 x5) BX2_plain (fun U u1 u2 => fo_B w h0 s U u1 u2 hK0) (fun U u1 u2 => (fo_B w h0 s U u1 u2 hK0).1) tw_methodLink_RX2_145_yX2_plain mbX2_plain rfl ⟨rfl, rfl⟩ ⟨Nat.le_of_ble_eq_true rfl, Nat.le_of_ble_eq_true rfl⟩ ⟨Nat.zero_le _, Nat.zero_le _⟩ hl.1 rfl (Nat.le_of_ble_eq_true rfl) dX2_fusedFinite_31 ?_
  refine bx_si C (kX0_zeros l (fX2_plain w x5)) bx_B_true (fun _ _ _ => trivial) tw_methodLink_RX2_160_yX0_zeros mbX0_zeros rfl ⟨rfl, rfl⟩ ⟨Nat.le_of_ble_eq_true rfl, Nat.le_of_ble_eq_true rfl⟩ ⟨Nat.zero_le _, Nat.zero_le _⟩ hl.1 rfl (Nat.le_of_ble_eq_true rfl) dX2_fusedFinite_34 ?_
  refine lv_istore (lv' := [(13, .int (fX0_zeros (fX2_plain w x5))), (12, .int (fX0_zeros (fX2_plain w x3))), (11, .int (fX0_zeros (fX2_plain w x1))), (9, .long (fX2_plain w x3)), (7, .long (fX2_plain w x1)), (0, .ref h0), (1, .long x1), (3, .long x3), (5, .long x5)]) hx hb dX2_fusedFinite_37 hl (by decide) rfl (fun ls hl => ?_)
  refine lv_lload hx hb dX2_fusedFinite_39 (lv_at hl 4 rfl) ?_
  refine lv_iload hx hb dX2_fusedFinite_41 (lv_at hl 2 rfl) ?_
  refine bx_lshl hx hb dX2_fusedFinite_43 ?_
  refine lv_lstore (lv' := [(7, .long (jl_shl (fX2_plain w x1) (fX0_zeros (fX2_plain w x1)))), (13, .int (fX0_zeros (fX2_plain w x5))), (12, .int (fX0_zeros (fX2_plain w x3))), (11, .int (fX0_zeros (fX2_plain w x1))), (9, .long (fX2_plain w x3)), (0, .ref h0), (1, .long x1), (3, .long x3), (5, .long x5)]) hx hb dX2_fusedFinite_44 hl (by decide) rfl (fun ls hl => ?_)
  refine lv_lload hx hb dX2_fusedFinite_46 (lv_at hl 4 rfl) ?_
  refine lv_iload hx hb dX2_fusedFinite_48 (lv_at hl 2 rfl) ?_
  refine bx_lshl hx hb dX2_fusedFinite_50 ?_
  refine lv_lstore (lv' := [(9, .long (jl_shl (fX2_plain w x3) (fX0_zeros (fX2_plain w x3)))), (7, .long (jl_shl (fX2_plain w x1) (fX0_zeros (fX2_plain w x1)))), (13, .int (fX0_zeros (fX2_plain w x5))), (12, .int (fX0_zeros (fX2_plain w x3))), (11, .int (fX0_zeros (fX2_plain w x1))), (0, .ref h0), (1, .long x1), (3, .long x3), (5, .long x5)]) hx hb dX2_fusedFinite_51 hl (by decide) rfl (fun ls hl => ?_)
  refine lv_lload hx hb dX2_fusedFinite_53 (lv_at hl 1 rfl) ?_
  refine lv_lload hx hb dX2_fusedFinite_55 (lv_at hl 0 rfl) ?_
  refine bx_sl C (kX0_upperProduct l (jl_shl (fX2_plain w x1) (fX0_zeros (fX2_plain w x1))) (jl_shl (fX2_plain w x3) (fX0_zeros (fX2_plain w x3)))) bx_B_true (fun _ _ _ => trivial) tw_methodLink_RX2_163_yX0_upperProduct mbX0_upperProduct rfl ⟨rfl, rfl⟩ ⟨Nat.le_of_ble_eq_true rfl, Nat.le_of_ble_eq_true rfl⟩ ⟨Nat.zero_le _, Nat.zero_le _⟩ hl.1 rfl (Nat.le_of_ble_eq_true rfl) dX2_fusedFinite_57 ?_
  exact bX2_fusedFinite_60 w x1 x3 x5 (jl_shl (fX2_plain w x1) (fX0_zeros (fX2_plain w x1))) (jl_shl (fX2_plain w x3) (fX0_zeros (fX2_plain w x3))) (fX0_zeros (fX2_plain w x1)) (fX0_zeros (fX2_plain w x3)) (fX0_zeros (fX2_plain w x5)) (fX0_upperProduct (jl_shl (fX2_plain w x1) (fX0_zeros (fX2_plain w x1))) (jl_shl (fX2_plain w x3) (fX0_zeros (fX2_plain w x3)))) C hK0 (lv_sub hl [5, 6, 7, 8, 1, 0, 4, 3, 2] rfl) post hq
theorem kX2_fusedFinite (l : Launch) (w : Bool) (h0 : Nat) (x1 : Int64) (x3 : Int64) (x5 : Int64) : Met l yX2_fusedFinite (Cond.code yX2_fusedFinite cX2_fusedFinite 31 (some .long) :: bw) rmX2_fusedFinite (va_Pc [.ref h0, .long x1, .long x3, .long x5] (fun U => fo_K w h0 U)) (vp_Sl (fun r => r = fX2_fusedFinite w x1 x3 x5)) 0 0 (fun _ => False) := by
  refine bx_ent (by decide) _ _ (Nat.le_of_ble_eq_true rfl) rfl ?_
  intro p e s m below meth c ls C hl hK0
  exact bX2_fusedFinite_0 w x1 x3 x5 C hK0 hl _ rfl
