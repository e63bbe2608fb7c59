def fX3_follow (uf : Nat → Int32) (ua : Nat → Nat → Int32) (x1 : Int32) : Int32 × (Nat → Nat → Int32) :=
  if (fX3_isThere uf x1) = 0 then ((-1 : Int32), ua)
  else if (fX3_isAct ((ua 1) x1.toNatClampNeg)) = 0 then if (fX3_isJump ((ua 1) x1.toNatClampNeg)) = 0 then if ((ua 1) x1.toNatClampNeg) = 41 then ((x1 + (1 : Int32)), (fX3_replaced ua ((ua 2) x1.toNatClampNeg) ((ua 3) x1.toNatClampNeg)).2)
        else if ((ua 1) x1.toNatClampNeg) = 42 then ((x1 + (1 : Int32)), (fX3_replaced ua ((ua 2) x1.toNatClampNeg) ((fX3_wordAt ua ((ua 3) x1.toNatClampNeg)) + (fX3_wordAt ua ((ua 4) x1.toNatClampNeg)))).2)
        else if ((ua 1) x1.toNatClampNeg) = 43 then (((ua 2) x1.toNatClampNeg), ua)
        else ((-1 : Int32), ua)
      else if (fX2_holds false (((ua 1) x1.toNatClampNeg) - (30 : Int32)) (fX3_read ua ((ua 3) x1.toNatClampNeg)) (fX3_read ua ((ua 4) x1.toNatClampNeg)) (fX3_read ua ((ua 5) x1.toNatClampNeg))) = 0 then ((x1 + (1 : Int32)), ua)
        else (((ua 2) x1.toNatClampNeg), ua)
    else ((x1 + (1 : Int32)), (fX3_replaced ua ((ua 2) x1.toNatClampNeg) ((fX2_acted false ((ua 1) x1.toNatClampNeg) (fX3_read ua ((ua 3) x1.toNatClampNeg)) (fX3_read ua ((ua 4) x1.toNatClampNeg)) (fX3_read ua ((ua 5) x1.toNatClampNeg))).toInt32)).2)
abbrev rmX3_follow : Room := { frames := 5, cells := 0, slots := 0, locals := 164 }
theorem mbX3_follow : mb_V RX3 yX3_follow cX3_follow 5 (some .int) 1 := ⟨⟨tw_instanceMethod_yX3_follow, tw_selects_RX3_yX3_follow_yX3_follow, tw_initialized_RX3, tw_code_yX3_follow⟩, rfl, by decide +kernel, by decide +kernel, by decide +kernel⟩
set_option maxRecDepth 20000 in
theorem bX3_follow_0 (uf : Nat → Int32) (ua : Nat → Nat → Int32) (x1 : Int32) {p : Program} {l : Launch} {e : Env} {s : State} {m : MethodId} {args : Array Value} {below : List Frame} {meth : Method} {c : Code} {dC : Nat → ClassId} {dI : Nat → Nat → Nat} {r : Nat → Nat} {cA : Nat → ClassId} {Rg : Nat → Prop} {H : Heap} {locs : List Loc} {af : Nat} {h0 : Nat} {ls : Array Slot} (C : bx_C p s m args meth c cX3_follow 5 (some .int) RX3) (hF : fo_S af Rg s) (hl : lv_has ls 5 [(0, .ref h0), (1, .int x1)]) (hw : hW (dC, dI) (pg_T cA) Rg s H locs (pg_W h0 r cA uf ua)) (post : (Int32 × (Nat → Nat → Int32)) → Prop) (hq : post (fX3_follow uf ua x1)) : W p l e rmX3_follow s m args below meth c H locs 0 0 (MQ below (va_Qi (fun r u => post (r, u)) (hBk (dC, dI) (pg_T cA) Rg (fun u => pg_W h0 r cA uf u)) Rg) args s 0 0 Rg) (F0 m 0 ls []) := by
  obtain ⟨hx, hb, hml, hr, hlocks, hown, hts⟩ := id C
  unfold fX3_follow at hq
  refine lv_aload_n hx hb dX3_follow_0 rfl (lv_at hl 0 rfl) ?_
  refine lv_iload_n hx hb dX3_follow_1 rfl (lv_at hl 1 rfl) ?_
  refine bx_vi C (kX3_isThere l dC dI h0 r cA uf ua x1) (rd_B _ _ _) (fun U u1 u2 => rd_of hw u1 u2) (fun U u1 u2 => hw_ob hw rfl rfl U u1 u2) tw_methodLink_RX3_58_yX3_isThere mbX3_isThere rfl ⟨rfl, rfl⟩ ⟨Nat.le_of_ble_eq_true rfl, Nat.le_of_ble_eq_true rfl⟩ ⟨Nat.zero_le _, Nat.zero_le _⟩ hl.1 rfl (Nat.le_of_ble_eq_true rfl) dX3_follow_2 ?_
  refine lv_if_ne (tgt := 10) hx hb dX3_follow_5 (by decide) (fun c1 => ?_) (fun c1 => ?_)
  · rw [if_neg c1] at hq
    refine lv_aload_n hx hb dX3_follow_10 rfl (lv_at hl 0 rfl) ?_
    refine hx_get (v := .ref (r 1)) hx hb hts inX3 hown hw.1 hw.2.2.2.1 0 rfl rfl 1 (by decide) tw_fieldLink_RX3_15_GlulxFloats_Program_codes_I rfl rfl dX3_follow_11 ?_
    refine lv_iload_n hx hb dX3_follow_14 rfl (lv_at hl 1 rfl) ?_
    refine hx_iald hx hb hw.1 hw.2.2.2.1 2 1 rfl rfl (sd_there (by assumption)) dX3_follow_15 ?_
    refine lv_istore_n (lv' := [(2, .int ((ua 1) x1.toNatClampNeg)), (0, .ref h0), (1, .int x1)]) hx hb dX3_follow_16 rfl hl (by decide) rfl (fun ls hl => ?_)
    refine lv_iload_n hx hb dX3_follow_17 rfl (lv_at hl 0 rfl) ?_
    refine bx_si C (kX3_isAct l ((ua 1) x1.toNatClampNeg)) bx_B_true (fun _ _ _ => trivial) tw_methodLink_RX3_34_yX3_isAct mbX3_isAct rfl ⟨rfl, rfl⟩ ⟨Nat.le_of_ble_eq_true rfl, Nat.le_of_ble_eq_true rfl⟩ ⟨Nat.zero_le _, Nat.zero_le _⟩ hl.1 rfl (Nat.le_of_ble_eq_true rfl) dX3_follow_18 ?_
    refine lv_if_eq (tgt := 79) hx hb dX3_follow_21 (by decide) (fun c2 => ?_) (fun c2 => ?_)
    · rw [if_pos c2] at hq
      refine lv_iload_n hx hb dX3_follow_79 rfl (lv_at hl 0 rfl) ?_
      refine bx_si C (kX3_isJump l ((ua 1) x1.toNatClampNeg)) bx_B_true (fun _ _ _ => trivial) tw_methodLink_RX3_38_yX3_isJump mbX3_isJump rfl ⟨rfl, rfl⟩ ⟨Nat.le_of_ble_eq_true rfl, Nat.le_of_ble_eq_true rfl⟩ ⟨Nat.zero_le _, Nat.zero_le _⟩ hl.1 rfl (Nat.le_of_ble_eq_true rfl) dX3_follow_80 ?_
      refine lv_if_eq (tgt := 144) hx hb dX3_follow_83 (by decide) (fun c3 => ?_) (fun c3 => ?_)
      · rw [if_pos c3] at hq
        refine lv_iload_n hx hb dX3_follow_144 rfl (lv_at hl 0 rfl) ?_
        by_cases c4 : ((ua 1) x1.toNatClampNeg) = 41
        · rw [if_pos c4] at hq
          refine lv_tableIn (tgt := 172) hx hb dX3_follow_145 (by rw [c4]; decide) (by rw [c4]; decide) (by rw [c4]; rfl) (by decide) ?_
          refine lv_aload_n hx hb dX3_follow_172 rfl (lv_at hl 1 rfl) ?_
          refine lv_aload_n hx hb dX3_follow_173 rfl (lv_at hl 1 rfl) ?_
          refine hx_get (v := .ref (r 2)) hx hb hts inX3 hown hw.1 hw.2.2.2.1 0 rfl rfl 2 (by decide) tw_fieldLink_RX3_18_GlulxFloats_Program_ts_I rfl rfl dX3_follow_174 ?_
          refine lv_iload_n hx hb dX3_follow_177 rfl (lv_at hl 2 rfl) ?_
          refine hx_iald hx hb hw.1 hw.2.2.2.1 3 2 rfl rfl (sd_there (by assumption)) dX3_follow_178 ?_
          refine lv_aload_n hx hb dX3_follow_179 rfl (lv_at hl 1 rfl) ?_
          refine hx_get (v := .ref (r 3)) hx hb hts inX3 hown hw.1 hw.2.2.2.1 0 rfl rfl 3 (by decide) tw_fieldLink_RX3_21_GlulxFloats_Program_xs_I rfl rfl dX3_follow_180 ?_
          refine lv_iload_n hx hb dX3_follow_183 rfl (lv_at hl 2 rfl) ?_
          refine hx_iald hx hb hw.1 hw.2.2.2.1 4 3 rfl rfl (sd_there (by assumption)) dX3_follow_184 ?_
          refine hx_ci (Wf := (fun u => pg_W h0 r cA uf u)) (u0 := ua) (F := (fX3_replaced ua ((ua 2) x1.toNatClampNeg) ((ua 3) x1.toNatClampNeg))) C (fun sz => kX3_replaced l dC dI h0 r cA sz uf ua ((ua 2) x1.toNatClampNeg) ((ua 3) x1.toNatClampNeg)) (fun _ => bx_B_true) (fun _ _ _ => trivial) hw rfl rfl tw_methodLink_RX3_75_yX3_replaced mbX3_replaced rfl ⟨rfl, rfl⟩ ⟨Nat.le_of_ble_eq_true rfl, Nat.le_of_ble_eq_true rfl⟩ ⟨Nat.zero_le _, Nat.zero_le _⟩ hl.1 rfl (Nat.le_of_ble_eq_true rfl) dX3_follow_185 (fun H locs hw => ?_)
          have hw : hW (dC, dI) (pg_T cA) Rg s H locs (pg_W h0 r cA uf ((fX3_replaced ua ((ua 2) x1.toNatClampNeg) ((ua 3) x1.toNatClampNeg)).2)) := hw
          refine lv_pop hx hb dX3_follow_188 rfl ?_
          refine lv_iload_n hx hb dX3_follow_189 rfl (lv_at hl 2 rfl) ?_
          refine lv_iconst (v := 1) hx hb dX3_follow_190 (by decide) ?_
          refine lv_iadd hx hb dX3_follow_191 ?_
          exact hx_iret (Wf := (fun u => pg_W h0 r cA uf u)) (post := post) (v := (x1 + (1 : Int32))) (u := (fX3_replaced ua ((ua 2) x1.toNatClampNeg) ((ua 3) x1.toNatClampNeg)).2) hx hb hr hlocks hw hq dX3_follow_192
        rw [if_neg c4] at hq
        by_cases c5 : ((ua 1) x1.toNatClampNeg) = 42
        · rw [if_pos c5] at hq
          refine lv_tableIn (tgt := 193) hx hb dX3_follow_145 (by rw [c5]; decide) (by rw [c5]; decide) (by rw [c5]; rfl) (by decide) ?_
          refine lv_aload_n hx hb dX3_follow_193 rfl (lv_at hl 1 rfl) ?_
          refine lv_aload_n hx hb dX3_follow_194 rfl (lv_at hl 1 rfl) ?_
          refine hx_get (v := .ref (r 2)) hx hb hts inX3 hown hw.1 hw.2.2.2.1 0 rfl rfl 2 (by decide) tw_fieldLink_RX3_18_GlulxFloats_Program_ts_I rfl rfl dX3_follow_195 ?_
          refine lv_iload_n hx hb dX3_follow_198 rfl (lv_at hl 2 rfl) ?_
          refine hx_iald hx hb hw.1 hw.2.2.2.1 3 2 rfl rfl (sd_there (by assumption)) dX3_follow_199 ?_
          refine lv_aload_n hx hb dX3_follow_200 rfl (lv_at hl 1 rfl) ?_
          refine lv_aload_n hx hb dX3_follow_201 rfl (lv_at hl 1 rfl) ?_
          refine hx_get (v := .ref (r 3)) hx hb hts inX3 hown hw.1 hw.2.2.2.1 0 rfl rfl 3 (by decide) tw_fieldLink_RX3_21_GlulxFloats_Program_xs_I rfl rfl dX3_follow_202 ?_
          refine lv_iload_n hx hb dX3_follow_205 rfl (lv_at hl 2 rfl) ?_
          refine hx_iald hx hb hw.1 hw.2.2.2.1 4 3 rfl rfl (sd_there (by assumption)) dX3_follow_206 ?_
          refine bx_vi C (kX3_wordAt l dC dI h0 r cA uf ua ((ua 3) x1.toNatClampNeg)) (rd_B _ _ _) (fun U u1 u2 => rd_of hw u1 u2) (fun U u1 u2 => hw_ob hw rfl rfl U u1 u2) tw_methodLink_RX3_47_yX3_wordAt mbX3_wordAt rfl ⟨rfl, rfl⟩ ⟨Nat.le_of_ble_eq_true rfl, Nat.le_of_ble_eq_true rfl⟩ ⟨Nat.zero_le _, Nat.zero_le _⟩ hl.1 rfl (Nat.le_of_ble_eq_true rfl) dX3_follow_207 ?_
          refine lv_aload_n hx hb dX3_follow_210 rfl (lv_at hl 1 rfl) ?_
          refine lv_aload_n hx hb dX3_follow_211 rfl (lv_at hl 1 rfl) ?_
          refine hx_get (v := .ref (r 4)) hx hb hts inX3 hown hw.1 hw.2.2.2.1 0 rfl rfl 4 (by decide) tw_fieldLink_RX3_24_GlulxFloats_Program_ys_I rfl rfl dX3_follow_212 ?_
          refine lv_iload_n hx hb dX3_follow_215 rfl (lv_at hl 2 rfl) ?_
          refine hx_iald hx hb hw.1 hw.2.2.2.1 5 4 rfl rfl (sd_there (by assumption)) dX3_follow_216 ?_
          refine bx_vi C (kX3_wordAt l dC dI h0 r cA uf ua ((ua 4) x1.toNatClampNeg)) (rd_B _ _ _) (fun U u1 u2 => rd_of hw u1 u2) (fun U u1 u2 => hw_ob hw rfl rfl U u1 u2) tw_methodLink_RX3_47_yX3_wordAt mbX3_wordAt rfl ⟨rfl, rfl⟩ ⟨Nat.le_of_ble_eq_true rfl, Nat.le_of_ble_eq_true rfl⟩ ⟨Nat.zero_le _, Nat.zero_le _⟩ hl.1 rfl (Nat.le_of_ble_eq_true rfl) dX3_follow_217 ?_
          refine lv_iadd hx hb dX3_follow_220 ?_
          refine hx_ci (Wf := (fun u => pg_W h0 r cA uf u)) (u0 := ua) (F := (fX3_replaced ua ((ua 2) x1.toNatClampNeg) ((fX3_wordAt ua ((ua 3) x1.toNatClampNeg)) + (fX3_wordAt ua ((ua 4) x1.toNatClampNeg))))) C (fun sz => kX3_replaced l dC dI h0 r cA sz uf ua ((ua 2) x1.toNatClampNeg) ((fX3_wordAt ua ((ua 3) x1.toNatClampNeg)) + (fX3_wordAt ua ((ua 4) x1.toNatClampNeg)))) (fun _ => bx_B_true) (fun _ _ _ => trivial) hw rfl rfl tw_methodLink_RX3_75_yX3_replaced mbX3_replaced rfl ⟨rfl, rfl⟩ ⟨Nat.le_of_ble_eq_true rfl, Nat.le_of_ble_eq_true rfl⟩ ⟨Nat.zero_le _, Nat.zero_le _⟩ hl.1 rfl (Nat.le_of_ble_eq_true rfl) dX3_follow_221 (fun H locs hw => ?_)
          have hw : hW (dC, dI) (pg_T cA) Rg s H locs (pg_W h0 r cA uf ((fX3_replaced ua ((ua 2) x1.toNatClampNeg) ((fX3_wordAt ua ((ua 3) x1.toNatClampNeg)) + (fX3_wordAt ua ((ua 4) x1.toNatClampNeg)))).2)) := hw
          refine lv_pop hx hb dX3_follow_224 rfl ?_
          refine lv_iload_n hx hb dX3_follow_225 rfl (lv_at hl 2 rfl) ?_
          refine lv_iconst (v := 1) hx hb dX3_follow_226 (by decide) ?_
          refine lv_iadd hx hb dX3_follow_227 ?_
          exact hx_iret (Wf := (fun u => pg_W h0 r cA uf u)) (post := post) (v := (x1 + (1 : Int32))) (u := (fX3_replaced ua ((ua 2) x1.toNatClampNeg) ((fX3_wordAt ua ((ua 3) x1.toNatClampNeg)) + (fX3_wordAt ua ((ua 4) x1.toNatClampNeg)))).2) hx hb hr hlocks hw hq dX3_follow_228
        rw [if_neg c5] at hq
        by_cases c6 : ((ua 1) x1.toNatClampNeg) = 43
        · rw [if_pos c6] at hq
          refine lv_tableIn (tgt := 229) hx hb dX3_follow_145 (by rw [c6]; decide) (by rw [c6]; decide) (by rw [c6]; rfl) (by decide) ?_
          refine lv_aload_n hx hb dX3_follow_229 rfl (lv_at hl 1 rfl) ?_
          refine hx_get (v := .ref (r 2)) hx hb hts inX3 hown hw.1 hw.2.2.2.1 0 rfl rfl 2 (by decide) tw_fieldLink_RX3_18_GlulxFloats_Program_ts_I rfl rfl dX3_follow_230 ?_
          refine lv_iload_n hx hb dX3_follow_233 rfl (lv_at hl 2 rfl) ?_
          refine hx_iald hx hb hw.1 hw.2.2.2.1 3 2 rfl rfl (sd_there (by assumption)) dX3_follow_234 ?_
          exact hx_iret (Wf := (fun u => pg_W h0 r cA uf u)) (post := post) (v := ((ua 2) x1.toNatClampNeg)) (u := ua) hx hb hr hlocks hw hq dX3_follow_235
        rw [if_neg c6] at hq
        refine lv_tableOut (tgt := 236) hx hb dX3_follow_145 (sw_out (41) (43) (fun n h1 h2 => ?_)) (by decide) ?_
        · rcases (show n = 41 ∨ n = 42 ∨ n = 43 by omega) with rfl | rfl | rfl
          · exact c4
          · exact c5
          · exact c6
        refine lv_iconst (v := -1) hx hb dX3_follow_236 (by decide) ?_
        exact hx_iret (Wf := (fun u => pg_W h0 r cA uf u)) (post := post) (v := (-1 : Int32)) (u := ua) hx hb hr hlocks hw hq dX3_follow_237
      · rw [if_neg c3] at hq
        refine va_gets (v := .ref af) hx hb hF.1 hw.2.2.1 hown (hts _ tw_fieldLink_RX3_61_GlulxFloats_Form_FLOAT_LGlulxFloats_Form) (fun _ h9 => h9) dX3_follow_86 ?_
        refine lv_iload_n hx hb dX3_follow_89 rfl (lv_at hl 0 rfl) ?_
        refine lv_bipush (v := 30) hx hb dX3_follow_90 (by decide) ?_
        refine lv_isub hx hb dX3_follow_92 ?_
        refine lv_aload_n hx hb dX3_follow_93 rfl (lv_at hl 1 rfl) ?_
        refine lv_aload_n hx hb dX3_follow_94 rfl (lv_at hl 1 rfl) ?_
        refine hx_get (v := .ref (r 3)) hx hb hts inX3 hown hw.1 hw.2.2.2.1 0 rfl rfl 3 (by decide) tw_fieldLink_RX3_21_GlulxFloats_Program_xs_I rfl rfl dX3_follow_95 ?_
        refine lv_iload_n hx hb dX3_follow_98 rfl (lv_at hl 2 rfl) ?_
        refine hx_iald hx hb hw.1 hw.2.2.2.1 4 3 rfl rfl (sd_there (by assumption)) dX3_follow_99 ?_
        refine bx_vl C (kX3_read l dC dI h0 r cA uf ua ((ua 3) x1.toNatClampNeg)) (rd_B _ _ _) (fun U u1 u2 => rd_of hw u1 u2) (fun U u1 u2 => hw_ob hw rfl rfl U u1 u2) tw_methodLink_RX3_67_yX3_read mbX3_read rfl ⟨rfl, rfl⟩ ⟨Nat.le_of_ble_eq_true rfl, Nat.le_of_ble_eq_true rfl⟩ ⟨Nat.zero_le _, Nat.zero_le _⟩ hl.1 rfl (Nat.le_of_ble_eq_true rfl) dX3_follow_100 ?_
        refine lv_aload_n hx hb dX3_follow_103 rfl (lv_at hl 1 rfl) ?_
        refine lv_aload_n hx hb dX3_follow_104 rfl (lv_at hl 1 rfl) ?_
        refine hx_get (v := .ref (r 4)) hx hb hts inX3 hown hw.1 hw.2.2.2.1 0 rfl rfl 4 (by decide) tw_fieldLink_RX3_24_GlulxFloats_Program_ys_I rfl rfl dX3_follow_105 ?_
        refine lv_iload_n hx hb dX3_follow_108 rfl (lv_at hl 2 rfl) ?_
        refine hx_iald hx hb hw.1 hw.2.2.2.1 5 4 rfl rfl (sd_there (by assumption)) dX3_follow_109 ?_
        refine bx_vl C (kX3_read l dC dI h0 r cA uf ua ((ua 4) x1.toNatClampNeg)) (rd_B _ _ _) (fun U u1 u2 => rd_of hw u1 u2) (fun U u1 u2 => hw_ob hw rfl rfl U u1 u2) tw_methodLink_RX3_67_yX3_read mbX3_read rfl ⟨rfl, rfl⟩ ⟨Nat.le_of_ble_eq_true rfl, Nat.le_of_ble_eq_true rfl⟩ ⟨Nat.zero_le _, Nat.zero_le _⟩ hl.1 rfl (Nat.le_of_ble_eq_true rfl) dX3_follow_110 ?_
        refine lv_aload_n hx hb dX3_follow_113 rfl (lv_at hl 1 rfl) ?_
        refine lv_aload_n hx hb dX3_follow_114 rfl (lv_at hl 1 rfl) ?_
        refine hx_get (v := .ref (r 5)) hx hb hts inX3 hown hw.1 hw.2.2.2.1 0 rfl rfl 5 (by decide) tw_fieldLink_RX3_27_GlulxFloats_Program_zs_I rfl rfl dX3_follow_115 ?_
        refine lv_iload_n hx hb dX3_follow_118 rfl (lv_at hl 2 rfl) ?_
        refine hx_iald hx hb hw.1 hw.2.2.2.1 6 5 rfl rfl (sd_there (by assumption)) dX3_follow_119 ?_
        refine bx_vl C (kX3_read l dC dI h0 r cA uf ua ((ua 5) x1.toNatClampNeg)) (rd_B _ _ _) (fun U u1 u2 => rd_of hw u1 u2) (fun U u1 u2 => hw_ob hw rfl rfl U u1 u2) tw_methodLink_RX3_67_yX3_read mbX3_read rfl ⟨rfl, rfl⟩ ⟨Nat.le_of_ble_eq_true rfl, Nat.le_of_ble_eq_true rfl⟩ ⟨Nat.zero_le _, Nat.zero_le _⟩ hl.1 rfl (Nat.le_of_ble_eq_true rfl) dX3_follow_120 ?_
        refine bx_vi C (kX2_holds l false af (((ua 1) x1.toNatClampNeg) - (30 : Int32)) (fX3_read ua ((ua 3) x1.toNatClampNeg)) (fX3_read ua ((ua 4) x1.toNatClampNeg)) (fX3_read ua ((ua 5) x1.toNatClampNeg))) BX2_holds (fun U u1 u2 => fo_at hF.2 hw.2.2.1 u1 u2) (fun U u1 u2 => (fo_at hF.2 hw.2.2.1 u1 u2).1) tw_methodLink_RX3_79_yX2_holds mbX2_holds rfl ⟨rfl, rfl⟩ ⟨Nat.le_of_ble_eq_true rfl, Nat.le_of_ble_eq_true rfl⟩ ⟨Nat.zero_le _, Nat.zero_le _⟩ hl.1 rfl (Nat.le_of_ble_eq_true rfl) dX3_follow_123 ?_
        refine lv_istore_n (lv' := [(3, .int (fX2_holds false (((ua 1) x1.toNatClampNeg) - (30 : Int32)) (fX3_read ua ((ua 3) x1.toNatClampNeg)) (fX3_read ua ((ua 4) x1.toNatClampNeg)) (fX3_read ua ((ua 5) x1.toNatClampNeg)))), (2, .int ((ua 1) x1.toNatClampNeg)), (0, .ref h0), (1, .int x1)]) hx hb dX3_follow_126 rfl hl (by decide) rfl (fun ls hl => ?_)
        refine lv_iload_n hx hb dX3_follow_127 rfl (lv_at hl 0 rfl) ?_
        refine lv_if_eq (tgt := 140) hx hb dX3_follow_128 (by decide) (fun c7 => ?_) (fun c7 => ?_)
        · rw [if_pos c7] at hq
          refine lv_iload_n hx hb dX3_follow_140 rfl (lv_at hl 3 rfl) ?_
          refine lv_iconst (v := 1) hx hb dX3_follow_141 (by decide) ?_
          refine lv_iadd hx hb dX3_follow_142 ?_
          exact hx_iret (Wf := (fun u => pg_W h0 r cA uf u)) (post := post) (v := (x1 + (1 : Int32))) (u := ua) hx hb hr hlocks hw hq dX3_follow_143
        · rw [if_neg c7] at hq
          refine lv_aload_n hx hb dX3_follow_131 rfl (lv_at hl 2 rfl) ?_
          refine hx_get (v := .ref (r 2)) hx hb hts inX3 hown hw.1 hw.2.2.2.1 0 rfl rfl 2 (by decide) tw_fieldLink_RX3_18_GlulxFloats_Program_ts_I rfl rfl dX3_follow_132 ?_
          refine lv_iload_n hx hb dX3_follow_135 rfl (lv_at hl 3 rfl) ?_
          refine hx_iald hx hb hw.1 hw.2.2.2.1 3 2 rfl rfl (sd_there (by assumption)) dX3_follow_136 ?_
          refine lv_goto (tgt := 143) hx hb dX3_follow_137 (by decide) ?_
          exact hx_iret (Wf := (fun u => pg_W h0 r cA uf u)) (post := post) (v := ((ua 2) x1.toNatClampNeg)) (u := ua) hx hb hr hlocks hw hq dX3_follow_143
    · rw [if_neg c2] at hq
      refine va_gets (v := .ref af) hx hb hF.1 hw.2.2.1 hown (hts _ tw_fieldLink_RX3_61_GlulxFloats_Form_FLOAT_LGlulxFloats_Form) (fun _ h9 => h9) dX3_follow_24 ?_
      refine lv_iload_n hx hb dX3_follow_27 rfl (lv_at hl 0 rfl) ?_
      refine lv_aload_n hx hb dX3_follow_28 rfl (lv_at hl 1 rfl) ?_
      refine lv_aload_n hx hb dX3_follow_29 rfl (lv_at hl 1 rfl) ?_
      refine hx_get (v := .ref (r 3)) hx hb hts inX3 hown hw.1 hw.2.2.2.1 0 rfl rfl 3 (by decide) tw_fieldLink_RX3_21_GlulxFloats_Program_xs_I rfl rfl dX3_follow_30 ?_
      refine lv_iload_n hx hb dX3_follow_33 rfl (lv_at hl 2 rfl) ?_
      refine hx_iald hx hb hw.1 hw.2.2.2.1 4 3 rfl rfl (sd_there (by assumption)) dX3_follow_34 ?_
      refine bx_vl C (kX3_read l dC dI h0 r cA uf ua ((ua 3) x1.toNatClampNeg)) (rd_B _ _ _) (fun U u1 u2 => rd_of hw u1 u2) (fun U u1 u2 => hw_ob hw rfl rfl U u1 u2) tw_methodLink_RX3_67_yX3_read mbX3_read rfl ⟨rfl, rfl⟩ ⟨Nat.le_of_ble_eq_true rfl, Nat.le_of_ble_eq_true rfl⟩ ⟨Nat.zero_le _, Nat.zero_le _⟩ hl.1 rfl (Nat.le_of_ble_eq_true rfl) dX3_follow_35 ?_
      refine lv_aload_n hx hb dX3_follow_38 rfl (lv_at hl 1 rfl) ?_
      refine lv_aload_n hx hb dX3_follow_39 rfl (lv_at hl 1 rfl) ?_
      refine hx_get (v := .ref (r 4)) hx hb hts inX3 hown hw.1 hw.2.2.2.1 0 rfl rfl 4 (by decide) tw_fieldLink_RX3_24_GlulxFloats_Program_ys_I rfl rfl dX3_follow_40 ?_
      refine lv_iload_n hx hb dX3_follow_43 rfl (lv_at hl 2 rfl) ?_
      refine hx_iald hx hb hw.1 hw.2.2.2.1 5 4 rfl rfl (sd_there (by assumption)) dX3_follow_44 ?_
      refine bx_vl C (kX3_read l dC dI h0 r cA uf ua ((ua 4) x1.toNatClampNeg)) (rd_B _ _ _) (fun U u1 u2 => rd_of hw u1 u2) (fun U u1 u2 => hw_ob hw rfl rfl U u1 u2) tw_methodLink_RX3_67_yX3_read mbX3_read rfl ⟨rfl, rfl⟩ ⟨Nat.le_of_ble_eq_true rfl, Nat.le_of_ble_eq_true rfl⟩ ⟨Nat.zero_le _, Nat.zero_le _⟩ hl.1 rfl (Nat.le_of_ble_eq_true rfl) dX3_follow_45 ?_
      refine lv_aload_n hx hb dX3_follow_48 rfl (lv_at hl 1 rfl) ?_
      refine lv_aload_n hx hb dX3_follow_49 rfl (lv_at hl 1 rfl) ?_
      refine hx_get (v := .ref (r 5)) hx hb hts inX3 hown hw.1 hw.2.2.2.1 0 rfl rfl 5 (by decide) tw_fieldLink_RX3_27_GlulxFloats_Program_zs_I rfl rfl dX3_follow_50 ?_
      refine lv_iload_n hx hb dX3_follow_53 rfl (lv_at hl 2 rfl) ?_
      refine hx_iald hx hb hw.1 hw.2.2.2.1 6 5 rfl rfl (sd_there (by assumption)) dX3_follow_54 ?_
      refine bx_vl C (kX3_read l dC dI h0 r cA uf ua ((ua 5) x1.toNatClampNeg)) (rd_B _ _ _) (fun U u1 u2 => rd_of hw u1 u2) (fun U u1 u2 => hw_ob hw rfl rfl U u1 u2) tw_methodLink_RX3_67_yX3_read mbX3_read rfl ⟨rfl, rfl⟩ ⟨Nat.le_of_ble_eq_true rfl, Nat.le_of_ble_eq_true rfl⟩ ⟨Nat.zero_le _, Nat.zero_le _⟩ hl.1 rfl (Nat.le_of_ble_eq_true rfl) dX3_follow_55 ?_
      refine bx_vl C (kX2_acted l false af ((ua 1) x1.toNatClampNeg) (fX3_read ua ((ua 3) x1.toNatClampNeg)) (fX3_read ua ((ua 4) x1.toNatClampNeg)) (fX3_read ua ((ua 5) x1.toNatClampNeg))) BX2_acted (fun U u1 u2 => fo_at hF.2 hw.2.2.1 u1 u2) (fun U u1 u2 => (fo_at hF.2 hw.2.2.1 u1 u2).1) tw_methodLink_RX3_71_yX2_acted mbX2_acted rfl ⟨rfl, rfl⟩ ⟨Nat.le_of_ble_eq_true rfl, Nat.le_of_ble_eq_true rfl⟩ ⟨Nat.zero_le _, Nat.zero_le _⟩ hl.1 rfl (Nat.le_of_ble_eq_true rfl) dX3_follow_58 ?_
      refine lv_lstore_n (lv' := [(3, .long (fX2_acted false ((ua 1) x1.toNatClampNeg) (fX3_read ua ((ua 3) x1.toNatClampNeg)) (fX3_read ua ((ua 4) x1.toNatClampNeg)) (fX3_read ua ((ua 5) x1.toNatClampNeg)))), (2, .int ((ua 1) x1.toNatClampNeg)), (0, .ref h0), (1, .int x1)]) hx hb dX3_follow_61 rfl hl (by decide) rfl (fun ls hl => ?_)
      refine lv_aload_n hx hb dX3_follow_62 rfl (lv_at hl 2 rfl) ?_
      refine lv_aload_n hx hb dX3_follow_63 rfl (lv_at hl 2 rfl) ?_
      refine hx_get (v := .ref (r 2)) hx hb hts inX3 hown hw.1 hw.2.2.2.1 0 rfl rfl 2 (by decide) tw_fieldLink_RX3_18_GlulxFloats_Program_ts_I rfl rfl dX3_follow_64 ?_
      refine lv_iload_n hx hb dX3_follow_67 rfl (lv_at hl 3 rfl) ?_
      refine hx_iald hx hb hw.1 hw.2.2.2.1 3 2 rfl rfl (sd_there (by assumption)) dX3_follow_68 ?_
      refine lv_lload_n hx hb dX3_follow_69 rfl (lv_at hl 0 rfl) ?_
      refine bx_l2i hx hb dX3_follow_70 ?_
      refine hx_ci (Wf := (fun u => pg_W h0 r cA uf u)) (u0 := ua) (F := (fX3_replaced ua ((ua 2) x1.toNatClampNeg) ((fX2_acted false ((ua 1) x1.toNatClampNeg) (fX3_read ua ((ua 3) x1.toNatClampNeg)) (fX3_read ua ((ua 4) x1.toNatClampNeg)) (fX3_read ua ((ua 5) x1.toNatClampNeg))).toInt32))) C (fun sz => kX3_replaced l dC dI h0 r cA sz uf ua ((ua 2) x1.toNatClampNeg) ((fX2_acted false ((ua 1) x1.toNatClampNeg) (fX3_read ua ((ua 3) x1.toNatClampNeg)) (fX3_read ua ((ua 4) x1.toNatClampNeg)) (fX3_read ua ((ua 5) x1.toNatClampNeg))).toInt32)) (fun _ => bx_B_true) (fun _ _ _ => trivial) hw rfl rfl tw_methodLink_RX3_75_yX3_replaced mbX3_replaced rfl ⟨rfl, rfl⟩ ⟨Nat.le_of_ble_eq_true rfl, Nat.le_of_ble_eq_true rfl⟩ ⟨Nat.zero_le _, Nat.zero_le _⟩ hl.1 rfl (Nat.le_of_ble_eq_true rfl) dX3_follow_71 (fun H locs hw => ?_)
      have hw : hW (dC, dI) (pg_T cA) Rg s H locs (pg_W h0 r cA uf ((fX3_replaced ua ((ua 2) x1.toNatClampNeg) ((fX2_acted false ((ua 1) x1.toNatClampNeg) (fX3_read ua ((ua 3) x1.toNatClampNeg)) (fX3_read ua ((ua 4) x1.toNatClampNeg)) (fX3_read ua ((ua 5) x1.toNatClampNeg))).toInt32)).2)) := hw
      refine lv_pop hx hb dX3_follow_74 rfl ?_
      refine lv_iload_n hx hb dX3_follow_75 rfl (lv_at hl 3 rfl) ?_
      refine lv_iconst (v := 1) hx hb dX3_follow_76 (by decide) ?_
      refine lv_iadd hx hb dX3_follow_77 ?_
      exact hx_iret (Wf := (fun u => pg_W h0 r cA uf u)) (post := post) (v := (x1 + (1 : Int32))) (u := (fX3_replaced ua ((ua 2) x1.toNatClampNeg) ((fX2_acted false ((ua 1) x1.toNatClampNeg) (fX3_read ua ((ua 3) x1.toNatClampNeg)) (fX3_read ua ((ua 4) x1.toNatClampNeg)) (fX3_read ua ((ua 5) x1.toNatClampNeg))).toInt32)).2) hx hb hr hlocks hw hq dX3_follow_78
  · rw [if_pos c1] at hq
    refine lv_iconst (v := -1) hx hb dX3_follow_8 (by decide) ?_
    exact hx_iret (Wf := (fun u => pg_W h0 r cA uf u)) (post := post) (v := (-1 : Int32)) (u := ua) hx hb hr hlocks hw hq dX3_follow_9
theorem kX3_follow (l : Launch) (dC : Nat → ClassId) (dI : Nat → Nat → Nat) (af : Nat) (h0 : Nat) (r : Nat → Nat) (cA : Nat → ClassId) (sz : Nat) (uf : Nat → Int32) (ua : Nat → Nat → Int32) (x1 : Int32) : Met l yX3_follow (Cond.code yX3_follow cX3_follow 5 (some .int) :: bw) rmX3_follow (hPc [.ref h0, .int x1] (dC, dI) (pg_T cA) (pg_W h0 r cA uf ua) sz (fun U => fo_S af (va_A (pg_W h0 r cA uf ua) sz) U)) (va_Qi (fun r u => (r, u) = fX3_follow uf ua x1) (hBk (dC, dI) (pg_T cA) (va_A (pg_W h0 r cA uf ua) sz) (fun u => pg_W h0 r cA uf u)) (va_A (pg_W h0 r cA uf ua) sz)) 0 0 (va_A (pg_W h0 r cA uf ua) sz) := by
  refine hx_ent (by decide) _ _ (Nat.le_of_ble_eq_true rfl) rfl ?_
  intro p e s m below meth c ls C hl hw hsz hF
  exact bX3_follow_0 uf ua x1 C hF hl hw (fun q => q = fX3_follow uf ua x1) rfl
