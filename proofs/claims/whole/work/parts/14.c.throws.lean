theorem vx_entH {l : Launch} {y : MethodName} {rm : Room} {K : State → Prop} {Qc : Array Value → State → Outcome → State → Prop} {XC : String → State → State → Prop} {cc : ByteArray} {maxL mc ms : Nat} {ret : Option FieldType} {D : va_G} {tys : List (ClassId × FieldType)} {ws : va_W} {sz : Nat} (hy : plainName y.cls = true) (As : List Value) (lv : List (Nat × Value)) (hlen : (lg_sl As).length ≤ maxL) (hlv : lv_args 0 As = lv)
    (body : ∀ (p : Program) (e : Env) (s : State) (m : MethodId) (below : List Frame) (meth : Method) (c : Code) (ls : Array Slot), bx_C p s m As.toArray meth c cc maxL ret y.cls → (∀ x ∈ c.exceptionTable.toList, False) → lv_has ls maxL lv → hW D tys (va_A ws sz) s s.heap [] ws → s.heap.size = sz → K s → W p l e rm s m As.toArray below meth c s.heap [] 0 0 (vx_MQ below Qc XC As.toArray s mc ms (va_A ws sz)) (F0 m 0 ls [])) :
    vx_Met l y (Cond.code y cc maxL ret :: bw) rm (hPc As D tys ws sz K) Qc XC mc ms (va_A ws sz) := by
  refine vx_ofW (cc := cc) (maxL := maxL) (ret := ret) hy rfl ?_
  intro p e s m args below meth c s₁ B hml htab hv
  obtain ⟨rfl, ⟨hsz, hP, hKc, hD⟩, hK⟩ := hv
  have hl := lv_entry As (n := maxL) hlen
  rw [lg_entry_eq]
  generalize (lg_sl As ++ List.replicate (maxL - (lg_sl As).length) Slot.unset).toArray = ls at hl ⊢
  rw [hlv] at hl
  have hts := atoms_spec (ws := Cond.code y cc maxL ret :: bw) B.pre
  exact body p e s m below meth c ls ⟨B.exec, B.bytes, hml, B.returns, B.notSynchronized, findClass_of_methodNamed B.named, fun w hw => hts w (List.mem_cons_of_mem _ hw)⟩ htab hl ⟨hP, hD.self, va_S.rf, hKc, fun q h => Or.inr (by rw [← hsz]; exact h)⟩ hsz hK
abbrev rmX4_set : Room := { frames := 9, cells := 1, slots := 6, locals := 300 }
abbrev rmX4_word : Room := { frames := 9, cells := 1, slots := 6, locals := 300 }
theorem mbX4_set : mb_V RX4 yX4_set cX4_set 3 (some .int) 2 := ⟨⟨tw_instanceMethod_yX4_set, tw_selects_RX4_yX4_set_yX4_set, tw_initialized_RX4, tw_code_yX4_set⟩, rfl, by decide +kernel, by decide +kernel, by decide +kernel⟩
theorem mbX4_word : mb_V RX4 yX4_word cX4_word 2 (some .int) 1 := ⟨⟨tw_instanceMethod_yX4_word, tw_selects_RX4_yX4_word_yX4_word, tw_initialized_RX4, tw_code_yX4_word⟩, rfl, by decide +kernel, by decide +kernel, by decide +kernel⟩
set_option maxRecDepth 20000 in
theorem kX4_set (l : Launch) (hl0 : l.stackTraces = false) (dC : Nat → ClassId) (dI : Nat → Nat → Nat) (h0 g1 g2 : Nat) (rp rd : Nat → Nat) (cp cd : Nat → ClassId) (sz : Nat) (pf : Nat → Int32) (pa : Nat → Nat → Int32) (df : Nat → Int32) (da : Nat → Nat → Int32) (ds : Nat → Int64) (x1 x2 : Int32) : vx_Met l yX4_set (Cond.code yX4_set cX4_set 3 (some .int) :: bw) rmX4_set (hPc [.ref h0, .int x1, .int x2] (dC, dI) (gl_T cp cd) (gl_W h0 g1 g2 rp rd cp cd pf pa df da ds) sz (fun U => ex_K (va_A (gl_W h0 g1 g2 rp rd cp cd pf pa df da ds) sz) U)) (va_Qi (fun r u => (¬ fX3_isWord x1 = 0) ∧ (r, u) = fX3_replaced pa x1 x2) (hBk (dC, dI) (gl_T cp cd) (va_A (gl_W h0 g1 g2 rp rd cp cd pf pa df da ds) sz) (fun u => gl_W h0 g1 g2 rp rd cp cd pf u df da ds)) (va_A (gl_W h0 g1 g2 rp rd cp cd pf pa df da ds) sz)) (vx_X (fun _ : Unit => fX3_isWord x1 = 0) (fun F _ _ => F = "java/lang/ArrayIndexOutOfBoundsException") (fun _ => False)) 1 6 (va_A (gl_W h0 g1 g2 rp rd cp cd pf pa df da ds) sz) := by
  refine vx_entH (by decide) _ _ (Nat.le_of_ble_eq_true rfl) rfl ?_
  intro p e s m below meth c ls C htab hl hw hsz hE
  obtain ⟨hx, hb, hml, hr, hlocks, hown, hts⟩ := id C
  refine lv_iload_n hx hb dX4_set_0 rfl (lv_at hl 1 rfl) ?_
  refine bx_si C (kX3_isWord l x1) bx_B_true (fun _ _ _ => trivial) tw_methodLink_RX4_63_yX3_isWord mbX3_isWord rfl ⟨rfl, rfl⟩ ⟨Nat.le_of_ble_eq_true rfl, Nat.le_of_ble_eq_true rfl⟩ ⟨Nat.zero_le _, Nat.zero_le _⟩ hl.1 rfl (Nat.le_of_ble_eq_true rfl) dX4_set_1 ?_
  refine lv_if_ne (tgt := 17) hx hb dX4_set_4 (by decide) (fun c1 => ?_) (fun c1 => ?_)
  · refine vx_ret ?_
    refine W.widen (k := 1) (n := 6) (Nat.zero_le _) (Nat.zero_le _) ?_
    refine lv_aload_n hx hb dX4_set_17 rfl (lv_at hl 0 rfl) ?_
    refine hx_get (v := .ref g1) hx hb hts inX4 hown hw.1 hw.2.2.2.1 0 rfl rfl 0 (by decide) tw_fieldLink_RX4_10_GlulxFloats_program_LGlulxFloats_Program rfl rfl dX4_set_18 ?_
    refine lv_iload_n hx hb dX4_set_21 rfl (lv_at hl 1 rfl) ?_
    refine lv_iload_n hx hb dX4_set_22 rfl (lv_at hl 2 rfl) ?_
    refine hx_xi (Wf := (fun u => pg_W g1 rp cp pf u)) (u0 := pa) (F := fX3_replaced pa x1 x2) (tys' := pg_T cp) (wr := ((h0, .inr (5, [.ref g1, .ref g2])) :: dg_W g2 rd cd df da ds)) (ws1 := gl_W h0 g1 g2 rp rd cp cd pf (fX3_replaced pa x1 x2).2 df da ds) [1, 2, 3, 4, 5, 6, 7] [0, 8, 9, 10] [0, 4, 5, 6, 7, 8, 9, 10, 1, 2, 3] [0, 1, 2, 3, 4, 5] C (fun sz => kX3_replaced l dC dI g1 rp cp sz pf pa x1 x2) (fun _ => bx_B_true) (fun _ _ _ => trivial) hw rfl rfl rfl rfl rfl (by decide) rfl rfl rfl rfl rfl rfl tw_methodLink_RX4_72_yX3_replaced mbX3_replaced rfl ⟨rfl, rfl⟩ ⟨Nat.le_of_ble_eq_true rfl, Nat.le_of_ble_eq_true rfl⟩ ⟨Nat.le_of_ble_eq_true rfl, Nat.le_of_ble_eq_true rfl⟩ hl.1 rfl (Nat.le_of_ble_eq_true rfl) dX4_set_23 (fun H locs hw => ?_)
    exact W.iret (v := (fX3_replaced pa x1 x2).1) hx hb hr (fun t ht hWt => ⟨⟨_, (fX3_replaced pa x1 x2).2, rfl, ⟨c1, rfl⟩, by rw [ht]; exact hw.1, va_K.moved hWt.alike hw.2.2.2.1, hw.2.1⟩, hw.2.2.1.F ht⟩) hw.2.2.1.2.2 dX4_set_26 hlocks
  · obtain ⟨xh, xU, xN, -, -, ⟨a6, x6s⟩⟩ := hE
    exact vx_throwS (names := ["java/lang/IndexOutOfBoundsException", "java/lang/RuntimeException", "java/lang/Exception"]) hx hb hl0 hown (by decide) (by decide) (hts _ tw_classLink_RX4_67_RJx00060) (hts _ tw_initialized_RJx00060) x6s (fun w hw => ex_wd (List.mem_append_right _ hw) (State.WarmedH.refl s) (xh w (List.mem_append_right _ hw))) xA_ot xU xN va_S.rf (by rw [hml]; exact hl.1) dX4_set_7 dX4_set_10 dX4_set_11 dX4_set_13 dX4_set_16 (fun x hx9 => (htab x hx9).elim) (Nat.le_of_ble_eq_true rfl) (Nat.le_of_ble_eq_true rfl) (Nat.le_of_ble_eq_true rfl) (Nat.le_of_ble_eq_true rfl) hlocks (fun t _ h2 h3 => ⟨(), c1, rfl, ⟨h2, fun q hq _ => h3 q hq⟩⟩) (fun _ h => absurd h List.not_mem_nil) (Nat.le_refl _) (Nat.le_refl _)
set_option maxRecDepth 20000 in
theorem kX4_word (l : Launch) (hl0 : l.stackTraces = false) (dC : Nat → ClassId) (dI : Nat → Nat → Nat) (h0 g1 g2 : Nat) (rp rd : Nat → Nat) (cp cd : Nat → ClassId) (pf : Nat → Int32) (pa : Nat → Nat → Int32) (df : Nat → Int32) (da : Nat → Nat → Int32) (ds : Nat → Int64) (x1 : Int32) : vx_Met l yX4_word (Cond.code yX4_word cX4_word 2 (some .int) :: bw) rmX4_word (va_Pc [.ref h0, .int x1] (fun U => rd_K (dC, dI) (gl_T cp cd) (gl_W h0 g1 g2 rp rd cp cd pf pa df da ds) U ∧ ex_K (fun _ => False) U)) (Qn (fX3_wordAt pa x1) (¬ fX3_isWord x1 = 0)) (Xn "java/lang/ArrayIndexOutOfBoundsException" (¬ fX3_isWord x1 = 0)) 1 6 (fun _ => False) := by
  refine vx_ent (by decide) _ _ (Nat.le_of_ble_eq_true rfl) rfl ?_
  intro p e s m below meth c ls C htab hl hK
  obtain ⟨hK0, hE⟩ := hK
  obtain ⟨hx, hb, hml, hr, hlocks, hown, hts⟩ := id C
  refine lv_iload_n hx hb dX4_word_0 rfl (lv_at hl 1 rfl) ?_
  refine bx_si C (kX3_isWord l x1) bx_B_true (fun _ _ _ => trivial) tw_methodLink_RX4_63_yX3_isWord mbX3_isWord rfl ⟨rfl, rfl⟩ ⟨Nat.le_of_ble_eq_true rfl, Nat.le_of_ble_eq_true rfl⟩ ⟨Nat.zero_le _, Nat.zero_le _⟩ hl.1 rfl (Nat.le_of_ble_eq_true rfl) dX4_word_1 ?_
  refine lv_if_ne (tgt := 17) hx hb dX4_word_4 (by decide) (fun c1 => ?_) (fun c1 => ?_)
  · refine vx_ret ?_
    refine W.widen (k := 1) (n := 6) (Nat.zero_le _) (Nat.zero_le _) ?_
    refine lv_aload_n hx hb dX4_word_17 rfl (lv_at hl 0 rfl) ?_
    refine hx_get (v := .ref g1) hx hb hts inX4 hown hK0.1 hK0.2 0 rfl rfl 0 (by decide) tw_fieldLink_RX4_10_GlulxFloats_program_LGlulxFloats_Program rfl rfl dX4_word_18 ?_
    refine lv_iload_n hx hb dX4_word_21 rfl (lv_at hl 1 rfl) ?_
    refine bx_vi C (kX3_wordAt l dC dI g1 rp cp pf pa x1) (rd_B _ _ _) (fun U u1 u2 => (rd_rd hK0 u1 u2 [1, 2, 3, 4, 5, 6, 7] [0, 1, 2, 3, 4, 5] rfl rfl)) (fun U u1 u2 => rd_ob (tys := pg_T cp) (ws := pg_W g1 rp cp pf pa) (rd_rd hK0 u1 u2 [1, 2, 3, 4, 5, 6, 7] [0, 1, 2, 3, 4, 5] rfl rfl) rfl rfl) tw_methodLink_RX4_76_yX3_wordAt mbX3_wordAt rfl ⟨rfl, rfl⟩ ⟨Nat.le_of_ble_eq_true rfl, Nat.le_of_ble_eq_true rfl⟩ ⟨Nat.le_of_ble_eq_true rfl, Nat.le_of_ble_eq_true rfl⟩ hl.1 rfl (Nat.le_of_ble_eq_true rfl) dX4_word_22 ?_
    exact W.iret (v := (fX3_wordAt pa x1)) hx hb hr (fun t ht hW => ⟨⟨_, (), rfl, ⟨c1, rfl⟩, trivial⟩, va_S.rf.F ht⟩) (fun _ h => absurd h List.not_mem_nil) dX4_word_25 hlocks
  · obtain ⟨xh, xU, xN, -, -, ⟨a6, x6s⟩⟩ := hE
    exact vx_throwS (names := ["java/lang/IndexOutOfBoundsException", "java/lang/RuntimeException", "java/lang/Exception"]) hx hb hl0 hown (by decide) (by decide) (hts _ tw_classLink_RX4_67_RJx00060) (hts _ tw_initialized_RJx00060) x6s (fun w hw => ex_wd (List.mem_append_right _ hw) (State.WarmedH.refl s) (xh w (List.mem_append_right _ hw))) xA_ot xU xN va_S.rf (by rw [hml]; exact hl.1) dX4_word_7 dX4_word_10 dX4_word_11 dX4_word_13 dX4_word_16 (fun x hx9 => (htab x hx9).elim) (Nat.le_of_ble_eq_true rfl) (Nat.le_of_ble_eq_true rfl) (Nat.le_of_ble_eq_true rfl) (Nat.le_of_ble_eq_true rfl) hlocks (fun t _ h2 h3 => ⟨(), fun q => q c1, rfl, ⟨h2, fun q hq _ => h3 q hq⟩⟩) (fun _ h => absurd h List.not_mem_nil) (Nat.le_refl _) (Nat.le_refl _)
/-- widen, narrow, next -/
def fX4_widen (x1 : Int32) : Int64 := fX2_converted true false (x1.toInt64 &&& (4294967295 : Int64))
def fX4_narrow (x1 : Int64) : Int32 := (fX2_converted false true x1).toInt32
abbrev rmX4_widen : Room := { frames := 8, cells := 0, slots := 0, locals := 300 }
abbrev rmX4_narrow : Room := { frames := 8, cells := 0, slots := 0, locals := 300 }
theorem mbX4_widen : mb_V RX4 yX4_widen cX4_widen 2 (some .long) 1 := ⟨⟨tw_instanceMethod_yX4_widen, tw_selects_RX4_yX4_widen_yX4_widen, tw_initialized_RX4, tw_code_yX4_widen⟩, rfl, by decide +kernel, by decide +kernel, by decide +kernel⟩
theorem mbX4_narrow : mb_V RX4 yX4_narrow cX4_narrow 3 (some .int) 1 := ⟨⟨tw_instanceMethod_yX4_narrow, tw_selects_RX4_yX4_narrow_yX4_narrow, tw_initialized_RX4, tw_code_yX4_narrow⟩, rfl, by decide +kernel, by decide +kernel, by decide +kernel⟩
set_option maxRecDepth 20000 in
theorem kX4_widen (l : Launch) (af ad h0 : Nat) (x1 : Int32) : Met l yX4_widen (Cond.code yX4_widen cX4_widen 2 (some .long) :: bw) rmX4_widen (va_Pc [.ref h0, .int x1] (fo_S2 af ad (fun _ => False))) (vp_Sl (fun r => r = fX4_widen x1)) 0 0 (fun _ => False) := by
  refine bx_ent (by decide) _ _ (Nat.le_of_ble_eq_true rfl) rfl ?_
  intro p e s m below meth c ls C hl hF
  obtain ⟨hx, hb, hml, hr, hlocks, hown, hts⟩ := id C
  refine va_gets (v := .ref ad) hx hb hF.2.1 va_S.rf hown (hts _ tw_fieldLink_RX4_42_GlulxFloats_Form_DOUBLE_LGlulxFloats_Form) (fun _ h9 => h9) dX4_widen_0 ?_
  refine va_gets (v := .ref af) hx hb hF.1.1 va_S.rf hown (hts _ tw_fieldLink_RX4_30_GlulxFloats_Form_FLOAT_LGlulxFloats_Form) (fun _ h9 => h9) dX4_widen_3 ?_
  refine lv_iload_n hx hb dX4_widen_6 rfl (lv_at hl 1 rfl) ?_
  refine bx_i2l hx hb dX4_widen_7 ?_
  refine lv_ldc2 (v := 4294967295) hx hb hown (hts _ tw_constantLong_RX4_36_4294967295) dX4_widen_8 ?_
  refine lv_land hx hb dX4_widen_11 ?_
  refine bx_vl C (kX2_converted l true false ad af (x1.toInt64 &&& (4294967295 : Int64))) BX2_converted (fun U u1 u2 => ⟨fo_at hF.2.2 va_S.rf u1 u2, fo_at hF.1.2 va_S.rf u1 u2⟩) (fun U u1 u2 => (fo_at hF.2.2 va_S.rf u1 u2).1) tw_methodLink_RX4_51_yX2_converted mbX2_converted rfl ⟨rfl, rfl⟩ ⟨Nat.le_of_ble_eq_true rfl, Nat.le_of_ble_eq_true rfl⟩ ⟨Nat.zero_le _, Nat.zero_le _⟩ hl.1 rfl (Nat.le_of_ble_eq_true rfl) dX4_widen_12 ?_
  exact W.lret (v := fX4_widen x1) hx hb hr (fun t ht hW => ⟨_, rfl, rfl, ht⟩) (fun _ h => absurd h List.not_mem_nil) dX4_widen_15 hlocks
set_option maxRecDepth 20000 in
theorem kX4_narrow (l : Launch) (af ad h0 : Nat) (x1 : Int64) : Met l yX4_narrow (Cond.code yX4_narrow cX4_narrow 3 (some .int) :: bw) rmX4_narrow (va_Pc [.ref h0, .long x1] (fo_S2 af ad (fun _ => False))) (vp_Si (fun r => r = fX4_narrow x1)) 0 0 (fun _ => False) := by
  refine bx_ent (by decide) _ _ (Nat.le_of_ble_eq_true rfl) rfl ?_
  intro p e s m below meth c ls C hl hF
  obtain ⟨hx, hb, hml, hr, hlocks, hown, hts⟩ := id C
  refine va_gets (v := .ref af) hx hb hF.1.1 va_S.rf hown (hts _ tw_fieldLink_RX4_30_GlulxFloats_Form_FLOAT_LGlulxFloats_Form) (fun _ h9 => h9) dX4_narrow_0 ?_
  refine va_gets (v := .ref ad) hx hb hF.2.1 va_S.rf hown (hts _ tw_fieldLink_RX4_42_GlulxFloats_Form_DOUBLE_LGlulxFloats_Form) (fun _ h9 => h9) dX4_narrow_3 ?_
  refine lv_lload_n hx hb dX4_narrow_6 rfl (lv_at hl 1 rfl) ?_
  refine bx_vl C (kX2_converted l false true af ad x1) BX2_converted (fun U u1 u2 => ⟨fo_at hF.1.2 va_S.rf u1 u2, fo_at hF.2.2 va_S.rf u1 u2⟩) (fun U u1 u2 => (fo_at hF.1.2 va_S.rf u1 u2).1) tw_methodLink_RX4_51_yX2_converted mbX2_converted rfl ⟨rfl, rfl⟩ ⟨Nat.le_of_ble_eq_true rfl, Nat.le_of_ble_eq_true rfl⟩ ⟨Nat.zero_le _, Nat.zero_le _⟩ hl.1 rfl (Nat.le_of_ble_eq_true rfl) dX4_narrow_7 ?_
  refine bx_l2i hx hb dX4_narrow_10 ?_
  exact W.iret (v := fX4_narrow x1) hx hb hr (fun t ht hW => ⟨_, rfl, rfl, ht⟩) (fun _ h => absurd h List.not_mem_nil) dX4_narrow_11 hlocks
abbrev wN : Cond := Cond.fieldLinkNest RX4 104 "GlulxFloats$Program" "goesOnAt" "I" "GlulxFloats"
abbrev rmX4_next : Room := { frames := 0, cells := 0, slots := 0, locals := 0 }
theorem mbX4_next : mb_V RX4 yX4_next cX4_next 1 (some .int) 0 := ⟨⟨tw_instanceMethod_yX4_next, tw_selects_RX4_yX4_next_yX4_next, tw_initialized_RX4, tw_code_yX4_next⟩, rfl, by decide +kernel, by decide +kernel, by decide +kernel⟩
set_option maxRecDepth 20000 in
theorem kX4_next (l : Launch) (dC : Nat → ClassId) (dI : Nat → Nat → Nat) (h0 g1 g2 : Nat) (rp rd : Nat → Nat) (cp cd : Nat → ClassId) (pf : Nat → Int32) (pa : Nat → Nat → Int32) (df : Nat → Int32) (da : Nat → Nat → Int32) (ds : Nat → Int64) : Met l yX4_next (Cond.code yX4_next cX4_next 1 (some .int) :: bw) rmX4_next (va_Pc [.ref h0] (fun U => rd_K (dC, dI) (gl_T cp cd) (gl_W h0 g1 g2 rp rd cp cd pf pa df da ds) U ∧ va_Nw wN U)) (vp_Si (fun r => r = pf 7)) 0 0 (fun _ => False) := by
  refine bx_ent (by decide) _ _ (Nat.le_of_ble_eq_true rfl) rfl ?_
  intro p e s m below meth c ls C hl hK
  obtain ⟨hK0, hN⟩ := hK
  obtain ⟨hx, hb, hml, hr, hlocks, hown, hts⟩ := id C
  refine lv_aload_n hx hb dX4_next_0 rfl (lv_at hl 0 rfl) ?_
  refine hx_get (v := .ref g1) hx hb hts inX4 hown hK0.1 hK0.2 0 rfl rfl 0 (by decide) tw_fieldLink_RX4_10_GlulxFloats_program_LGlulxFloats_Program rfl rfl dX4_next_1 ?_
  refine va_getN (ci := 4) (v := .int (pf 7)) (C := RX3) (T := TX3) (N := 8) (host := "GlulxFloats") (ref := "GlulxFloats$Program") hx hb hts inX3 hown hK0.2 hK0.1 1 rfl rfl 7 (by decide) (va_Nw.use rfl hN) (fun _ h9 => h9) rfl dX4_next_4 ?_
  exact W.iret (v := pf 7) hx hb hr (fun t ht hW => ⟨_, rfl, rfl, ht⟩) (fun _ h => absurd h List.not_mem_nil) dX4_next_7 hlocks
