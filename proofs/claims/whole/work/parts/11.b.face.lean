def fX4_print (df : Nat → Int32) (da : Nat → Nat → Int32) (ds : Nat → Int64) (x1 : Int32) (x2 : Int32) : Int32 × ((Nat → Int32) × (Nat → Nat → Int32) × (Nat → Int64)) :=
  if x2 < 0 then ((-102 : Int32), (df, da, ds))
  else if x2 ≤ (40 : Int32) then ((fX1_write df da ds (x1.toInt64 &&& (4294967295 : Int64)) x2).1, ((fX1_write df da ds (x1.toInt64 &&& (4294967295 : Int64)) x2).2.1, (fX1_write df da ds (x1.toInt64 &&& (4294967295 : Int64)) x2).2.2.1, (fX1_write df da ds (x1.toInt64 &&& (4294967295 : Int64)) x2).2.2.2))
    else ((-102 : Int32), (df, da, ds))
abbrev rmX4_print : Room := { frames := 3, cells := 0, slots := 0, locals := 71 }
theorem mbX4_print : mb_V RX4 yX4_print cX4_print 3 (some .int) 2 := ⟨⟨tw_instanceMethod_yX4_print, tw_selects_RX4_yX4_print_yX4_print, tw_initialized_RX4, tw_code_yX4_print⟩, rfl, by decide +kernel, by decide +kernel, by decide +kernel⟩
set_option maxRecDepth 20000 in
theorem bX4_print_0 (df : Nat → Int32) (da : Nat → Nat → Int32) (ds : Nat → Int64) (x1 : Int32) (x2 : Int32) {p : Program} {l : Launch} {e : Env} {s : State} {m : MethodId} {args : Array Value} {below : List Frame} {meth : Method} {c : Code} {dC : Nat → ClassId} {dI : Nat → Nat → Nat} {g1 g2 : Nat} {rp rd : Nat → Nat} {cp cd : Nat → ClassId} {Rg : Nat → Prop} {H : Heap} {locs : List Loc} {af : Nat} {pf : Nat → Int32} {pa : Nat → Nat → Int32} {h0 : Nat} {ls : Array Slot} (C : bx_C p s m args meth c cX4_print 3 (some .int) RX4) (hF : fo_S af Rg s) (hl : lv_has ls 3 [(0, .ref h0), (1, .int x1), (2, .int x2)]) (hw : hW (dC, dI) (gl_T cp cd) Rg s H locs (gl_W h0 g1 g2 rp rd cp cd pf pa df da ds)) (post : (Int32 × ((Nat → Int32) × (Nat → Nat → Int32) × (Nat → Int64))) → Prop) (hq : post (fX4_print df da ds x1 x2)) : W p l e rmX4_print s m args below meth c H locs 0 0 (MQ below (va_Qi (fun r u => post (r, u)) (hBk (dC, dI) (gl_T cp cd) Rg (fun u => gl_W h0 g1 g2 rp rd cp cd pf pa u.1 u.2.1 u.2.2)) Rg) args s 0 0 Rg) (F0 m 0 ls []) := by
  obtain ⟨hx, hb, hml, hr, hlocks, hown, hts⟩ := id C
  unfold fX4_print at hq
  refine lv_iload_n hx hb dX4_print_0 rfl (lv_at hl 2 rfl) ?_
  refine lv_if_lt (tgt := 10) hx hb dX4_print_1 (by decide) (fun c1 => ?_) (fun c1 => ?_)
  · rw [if_pos c1] at hq
    refine lv_bipush (v := -102) hx hb dX4_print_10 (by decide) ?_
    exact hx_iret (Wf := (fun u => gl_W h0 g1 g2 rp rd cp cd pf pa u.1 u.2.1 u.2.2)) (post := post) (v := (-102 : Int32)) (u := (df, da, ds)) hx hb hr hlocks hw hq dX4_print_12
  · rw [if_neg c1] at hq
    refine lv_iload_n hx hb dX4_print_4 rfl (lv_at hl 2 rfl) ?_
    refine lv_bipush (v := 40) hx hb dX4_print_5 (by decide) ?_
    refine lv_icmp_le (tgt := 13) hx hb dX4_print_7 (by decide) (fun c2 => ?_) (fun c2 => ?_)
    · rw [if_pos c2] at hq
      refine lv_aload_n hx hb dX4_print_13 rfl (lv_at hl 0 rfl) ?_
      refine hx_get (v := .ref g2) hx hb hts inX4 hown hw.1 hw.2.2.2.1 0 rfl rfl 1 (by decide) tw_fieldLink_RX4_19_GlulxFloats_digits_LGlulxFloats_Digits rfl rfl dX4_print_14 ?_
      refine lv_iload_n hx hb dX4_print_17 rfl (lv_at hl 1 rfl) ?_
      refine bx_i2l hx hb dX4_print_18 ?_
      refine lv_ldc2 (v := 4294967295) hx hb hown (hts _ tw_constantLong_RX4_36_4294967295) dX4_print_19 ?_
      refine lv_land hx hb dX4_print_22 ?_
      refine lv_iload_n hx hb dX4_print_23 rfl (lv_at hl 2 rfl) ?_
      refine hx_xi (Wf := (fun u => dg_W g2 rd cd u.1 u.2.1 u.2.2)) (u0 := (df, da, ds)) (F := (fX1_write df da ds (x1.toInt64 &&& (4294967295 : Int64)) x2)) (tys' := dg_T cd) (wr := ((h0, .inr (5, [.ref g1, .ref g2])) :: pg_W g1 rp cp pf pa)) (ws1 := (gl_W h0 g1 g2 rp rd cp cd pf pa ((fX1_write df da ds (x1.toInt64 &&& (4294967295 : Int64)) x2).2.1) ((fX1_write df da ds (x1.toInt64 &&& (4294967295 : Int64)) x2).2.2.1) ((fX1_write df da ds (x1.toInt64 &&& (4294967295 : Int64)) x2).2.2.2))) [8, 9, 10] [0, 1, 2, 3, 4, 5, 6, 7] [0, 1, 2, 3, 4, 5, 6, 7, 8, 9, 10] [6, 7] C (fun sz => kX1_write l dC dI af g2 rd cd sz df da ds (x1.toInt64 &&& (4294967295 : Int64)) x2) (fun sz => fo_S_B _ _) (fun U u1 u2 => fo_S_sub hF hw [8, 9, 10] rfl u1 u2) hw rfl rfl rfl rfl rfl (by decide) rfl rfl rfl rfl rfl rfl tw_methodLink_RX4_55_yX1_write mbX1_write rfl ⟨rfl, rfl⟩ ⟨Nat.le_of_ble_eq_true rfl, Nat.le_of_ble_eq_true rfl⟩ ⟨Nat.zero_le _, Nat.zero_le _⟩ hl.1 rfl (Nat.le_of_ble_eq_true rfl) dX4_print_24 (fun H locs hw => ?_)
      exact hx_iret (Wf := (fun u => gl_W h0 g1 g2 rp rd cp cd pf pa u.1 u.2.1 u.2.2)) (post := post) (v := (fX1_write df da ds (x1.toInt64 &&& (4294967295 : Int64)) x2).1) (u := ((fX1_write df da ds (x1.toInt64 &&& (4294967295 : Int64)) x2).2.1, (fX1_write df da ds (x1.toInt64 &&& (4294967295 : Int64)) x2).2.2.1, (fX1_write df da ds (x1.toInt64 &&& (4294967295 : Int64)) x2).2.2.2)) hx hb hr hlocks hw hq dX4_print_27
    · rw [if_neg c2] at hq
      refine lv_bipush (v := -102) hx hb dX4_print_10 (by decide) ?_
      exact hx_iret (Wf := (fun u => gl_W h0 g1 g2 rp rd cp cd pf pa u.1 u.2.1 u.2.2)) (post := post) (v := (-102 : Int32)) (u := (df, da, ds)) hx hb hr hlocks hw hq dX4_print_12
theorem kX4_print (l : Launch) (dC : Nat → ClassId) (dI : Nat → Nat → Nat) (af : Nat) (h0 g1 g2 : Nat) (rp rd : Nat → Nat) (cp cd : Nat → ClassId) (sz : Nat) (pf : Nat → Int32) (pa : Nat → Nat → Int32) (df : Nat → Int32) (da : Nat → Nat → Int32) (ds : Nat → Int64) (x1 : Int32) (x2 : Int32) : Met l yX4_print (Cond.code yX4_print cX4_print 3 (some .int) :: bw) rmX4_print (hPc [.ref h0, .int x1, .int x2] (dC, dI) (gl_T cp cd) (gl_W h0 g1 g2 rp rd cp cd pf pa df da ds) sz (fun U => fo_S af (va_A (gl_W h0 g1 g2 rp rd cp cd pf pa df da ds) sz) U)) (va_Qi (fun r u => (r, u) = fX4_print df da ds x1 x2) (hBk (dC, dI) (gl_T cp cd) (va_A (gl_W h0 g1 g2 rp rd cp cd pf pa df da ds) sz) (fun u => gl_W h0 g1 g2 rp rd cp cd pf pa u.1 u.2.1 u.2.2)) (va_A (gl_W h0 g1 g2 rp rd cp cd pf pa df da ds) sz)) 0 0 (va_A (gl_W h0 g1 g2 rp rd cp cd pf pa df da ds) sz) := by
  refine hx_ent (by decide) _ _ (Nat.le_of_ble_eq_true rfl) rfl ?_
  intro p e s m below meth c ls C hl hw hsz hF
  exact bX4_print_0 df da ds x1 x2 C hF hl hw (fun q => q = fX4_print df da ds x1 x2) rfl
def fX4_at (df : Nat → Int32) (da : Nat → Nat → Int32) (x1 : Int32) : Int32 :=
  (fX1_byteAt df da x1)
abbrev rmX4_at : Room := { frames := 1, cells := 0, slots := 0, locals := 21 }
theorem mbX4_at : mb_V RX4 yX4_at cX4_at 2 (some .int) 1 := ⟨⟨tw_instanceMethod_yX4_at, tw_selects_RX4_yX4_at_yX4_at, tw_initialized_RX4, tw_code_yX4_at⟩, rfl, by decide +kernel, by decide +kernel, by decide +kernel⟩
set_option maxRecDepth 20000 in
theorem bX4_at_0 (df : Nat → Int32) (da : Nat → Nat → Int32) (x1 : Int32) {p : Program} {l : Launch} {e : Env} {s : State} {m : MethodId} {args : Array Value} {below : List Frame} {meth : Method} {c : Code} {dC : Nat → ClassId} {dI : Nat → Nat → Nat} {g1 g2 : Nat} {rp rd : Nat → Nat} {cp cd : Nat → ClassId} {pf : Nat → Int32} {pa : Nat → Nat → Int32} {ds : Nat → Int64} {h0 : Nat} {ls : Array Slot} (C : bx_C p s m args meth c cX4_at 2 (some .int) RX4) (hK0 : rd_K (dC, dI) (gl_T cp cd) (gl_W h0 g1 g2 rp rd cp cd pf pa df da ds) s) (hl : lv_has ls 2 [(0, .ref h0), (1, .int x1)]) (post : (Int32) → Prop) (hq : post (fX4_at df da x1)) : W p l e rmX4_at s m args below meth c s.heap [] 0 0 (MQ below (vp_Si post) args s 0 0 (fun _ => False)) (F0 m 0 ls []) := by
  obtain ⟨hx, hb, hml, hr, hlocks, hown, hts⟩ := id C
  unfold fX4_at at hq
  refine lv_aload_n hx hb dX4_at_0 rfl (lv_at hl 0 rfl) ?_
  refine hx_get (v := .ref g2) hx hb hts inX4 hown hK0.1 hK0.2 0 rfl rfl 1 (by decide) tw_fieldLink_RX4_19_GlulxFloats_digits_LGlulxFloats_Digits rfl rfl dX4_at_1 ?_
  refine lv_iload_n hx hb dX4_at_4 rfl (lv_at hl 1 rfl) ?_
  refine bx_vi C (kX1_byteAt l dC dI g2 rd cd df da ds x1) (rd_B _ _ _) (fun U u1 u2 => (rd_rd hK0 u1 u2 [8, 9, 10] [6, 7] rfl rfl)) (fun U u1 u2 => rd_ob (tys := dg_T cd) (ws := dg_W g2 rd cd df da ds) (rd_rd hK0 u1 u2 [8, 9, 10] [6, 7] rfl rfl) rfl rfl) tw_methodLink_RX4_59_yX1_byteAt mbX1_byteAt rfl ⟨rfl, rfl⟩ ⟨Nat.le_of_ble_eq_true rfl, Nat.le_of_ble_eq_true rfl⟩ ⟨Nat.zero_le _, Nat.zero_le _⟩ hl.1 rfl (Nat.le_of_ble_eq_true rfl) dX4_at_5 ?_
  exact W.iret (v := (fX1_byteAt df da x1)) hx hb hr (fun t ht hW => ⟨_, rfl, hq, ht⟩) (fun _ h => absurd h List.not_mem_nil) dX4_at_8
theorem kX4_at (l : Launch) (dC : Nat → ClassId) (dI : Nat → Nat → Nat) (h0 g1 g2 : Nat) (rp rd : Nat → Nat) (cp cd : Nat → ClassId) (pf : Nat → Int32) (pa : Nat → Nat → Int32) (df : Nat → Int32) (da : Nat → Nat → Int32) (ds : Nat → Int64) (x1 : Int32) : Met l yX4_at (Cond.code yX4_at cX4_at 2 (some .int) :: bw) rmX4_at (va_Pc [.ref h0, .int x1] (rd_K (dC, dI) (gl_T cp cd) (gl_W h0 g1 g2 rp rd cp cd pf pa df da ds))) (vp_Si (fun r => r = fX4_at df da x1)) 0 0 (fun _ => False) := by
  refine bx_ent (by decide) _ _ (Nat.le_of_ble_eq_true rfl) rfl ?_
  intro p e s m below meth c ls C hl hK0
  exact bX4_at_0 df da x1 C hK0 hl _ rfl
def fX4_step (pf : Nat → Int32) (pa : Nat → Nat → Int32) (x1 : Int32) (x2 : Int32) (x3 : Int32) (x4 : Int32) (x5 : Int32) : Int32 × ((Nat → Int32) × (Nat → Nat → Int32)) :=
  if (fX3_fits x1 x2 x3 x4 x5) = 0 then ((-102 : Int32), (pf, pa))
  else ((fX3_add pf pa x1 x2 x3 x4 x5).1, ((fX3_add pf pa x1 x2 x3 x4 x5).2.1, (fX3_add pf pa x1 x2 x3 x4 x5).2.2))
abbrev rmX4_step : Room := { frames := 2, cells := 0, slots := 0, locals := 45 }
theorem mbX4_step : mb_V RX4 yX4_step cX4_step 6 (some .int) 5 := ⟨⟨tw_instanceMethod_yX4_step, tw_selects_RX4_yX4_step_yX4_step, tw_initialized_RX4, tw_code_yX4_step⟩, rfl, by decide +kernel, by decide +kernel, by decide +kernel⟩
set_option maxRecDepth 20000 in
theorem bX4_step_0 (pf : Nat → Int32) (pa : Nat → Nat → Int32) (x1 : Int32) (x2 : Int32) (x3 : Int32) (x4 : Int32) (x5 : Int32) {p : Program} {l : Launch} {e : Env} {s : State} {m : MethodId} {args : Array Value} {below : List Frame} {meth : Method} {c : Code} {dC : Nat → ClassId} {dI : Nat → Nat → Nat} {g1 g2 : Nat} {rp rd : Nat → Nat} {cp cd : Nat → ClassId} {Rg : Nat → Prop} {H : Heap} {locs : List Loc} {df : Nat → Int32} {da : Nat → Nat → Int32} {ds : Nat → Int64} {h0 : Nat} {ls : Array Slot} (C : bx_C p s m args meth c cX4_step 6 (some .int) RX4) (hl : lv_has ls 6 [(0, .ref h0), (1, .int x1), (2, .int x2), (3, .int x3), (4, .int x4), (5, .int x5)]) (hw : hW (dC, dI) (gl_T cp cd) Rg s H locs (gl_W h0 g1 g2 rp rd cp cd pf pa df da ds)) (post : (Int32 × ((Nat → Int32) × (Nat → Nat → Int32))) → Prop) (hq : post (fX4_step pf pa x1 x2 x3 x4 x5)) : W p l e rmX4_step s m args below meth c H locs 0 0 (MQ below (va_Qi (fun r u => post (r, u)) (hBk (dC, dI) (gl_T cp cd) Rg (fun u => gl_W h0 g1 g2 rp rd cp cd u.1 u.2 df da ds)) Rg) args s 0 0 Rg) (F0 m 0 ls []) := by
  obtain ⟨hx, hb, hml, hr, hlocks, hown, hts⟩ := id C
  unfold fX4_step at hq
  refine lv_iload_n hx hb dX4_step_0 rfl (lv_at hl 1 rfl) ?_
  refine lv_iload_n hx hb dX4_step_1 rfl (lv_at hl 2 rfl) ?_
  refine lv_iload_n hx hb dX4_step_2 rfl (lv_at hl 3 rfl) ?_
  refine lv_iload hx hb dX4_step_3 (lv_at hl 4 rfl) ?_
  refine lv_iload hx hb dX4_step_5 (lv_at hl 5 rfl) ?_
  refine bx_si C (kX3_fits l x1 x2 x3 x4 x5) bx_B_true (fun _ _ _ => trivial) tw_methodLink_RX4_79_yX3_fits mbX3_fits rfl ⟨rfl, rfl⟩ ⟨Nat.le_of_ble_eq_true rfl, Nat.le_of_ble_eq_true rfl⟩ ⟨Nat.zero_le _, Nat.zero_le _⟩ hl.1 rfl (Nat.le_of_ble_eq_true rfl) dX4_step_7 ?_
  refine lv_if_ne (tgt := 16) hx hb dX4_step_10 (by decide) (fun c1 => ?_) (fun c1 => ?_)
  · rw [if_neg c1] at hq
    refine lv_aload_n hx hb dX4_step_16 rfl (lv_at hl 0 rfl) ?_
    refine hx_get (v := .ref g1) hx hb hts inX4 hown hw.1 hw.2.2.2.1 0 rfl rfl 0 (by decide) tw_fieldLink_RX4_10_GlulxFloats_program_LGlulxFloats_Program rfl rfl dX4_step_17 ?_
    refine lv_iload_n hx hb dX4_step_20 rfl (lv_at hl 1 rfl) ?_
    refine lv_iload_n hx hb dX4_step_21 rfl (lv_at hl 2 rfl) ?_
    refine lv_iload_n hx hb dX4_step_22 rfl (lv_at hl 3 rfl) ?_
    refine lv_iload hx hb dX4_step_23 (lv_at hl 4 rfl) ?_
    refine lv_iload hx hb dX4_step_25 (lv_at hl 5 rfl) ?_
    refine hx_xi (Wf := (fun u => pg_W g1 rp cp u.1 u.2)) (u0 := (pf, pa)) (F := (fX3_add pf pa x1 x2 x3 x4 x5)) (tys' := pg_T cp) (wr := ((h0, .inr (5, [.ref g1, .ref g2])) :: dg_W g2 rd cd df da ds)) (ws1 := (gl_W h0 g1 g2 rp rd cp cd ((fX3_add pf pa x1 x2 x3 x4 x5).2.1) ((fX3_add pf pa x1 x2 x3 x4 x5).2.2) df da ds)) [1, 2, 3, 4, 5, 6, 7] [0, 8, 9, 10] [0, 4, 5, 6, 7, 8, 9, 10, 1, 2, 3] [0, 1, 2, 3, 4, 5] C (fun sz => kX3_add l dC dI g1 rp cp sz pf pa x1 x2 x3 x4 x5) (fun _ => bx_B_true) (fun _ _ _ => trivial) hw rfl rfl rfl rfl rfl (by decide) rfl rfl rfl rfl rfl rfl tw_methodLink_RX4_83_yX3_add mbX3_add rfl ⟨rfl, rfl⟩ ⟨Nat.le_of_ble_eq_true rfl, Nat.le_of_ble_eq_true rfl⟩ ⟨Nat.zero_le _, Nat.zero_le _⟩ hl.1 rfl (Nat.le_of_ble_eq_true rfl) dX4_step_27 (fun H locs hw => ?_)
    exact hx_iret (Wf := (fun u => gl_W h0 g1 g2 rp rd cp cd u.1 u.2 df da ds)) (post := post) (v := (fX3_add pf pa x1 x2 x3 x4 x5).1) (u := ((fX3_add pf pa x1 x2 x3 x4 x5).2.1, (fX3_add pf pa x1 x2 x3 x4 x5).2.2)) hx hb hr hlocks hw hq dX4_step_30
  · rw [if_pos c1] at hq
    refine lv_bipush (v := -102) hx hb dX4_step_13 (by decide) ?_
    exact hx_iret (Wf := (fun u => gl_W h0 g1 g2 rp rd cp cd u.1 u.2 df da ds)) (post := post) (v := (-102 : Int32)) (u := (pf, pa)) hx hb hr hlocks hw hq dX4_step_15
theorem kX4_step (l : Launch) (dC : Nat → ClassId) (dI : Nat → Nat → Nat) (h0 g1 g2 : Nat) (rp rd : Nat → Nat) (cp cd : Nat → ClassId) (sz : Nat) (pf : Nat → Int32) (pa : Nat → Nat → Int32) (df : Nat → Int32) (da : Nat → Nat → Int32) (ds : Nat → Int64) (x1 : Int32) (x2 : Int32) (x3 : Int32) (x4 : Int32) (x5 : Int32) : Met l yX4_step (Cond.code yX4_step cX4_step 6 (some .int) :: bw) rmX4_step (hPc [.ref h0, .int x1, .int x2, .int x3, .int x4, .int x5] (dC, dI) (gl_T cp cd) (gl_W h0 g1 g2 rp rd cp cd pf pa df da ds) sz (fun _ => True)) (va_Qi (fun r u => (r, u) = fX4_step pf pa x1 x2 x3 x4 x5) (hBk (dC, dI) (gl_T cp cd) (va_A (gl_W h0 g1 g2 rp rd cp cd pf pa df da ds) sz) (fun u => gl_W h0 g1 g2 rp rd cp cd u.1 u.2 df da ds)) (va_A (gl_W h0 g1 g2 rp rd cp cd pf pa df da ds) sz)) 0 0 (va_A (gl_W h0 g1 g2 rp rd cp cd pf pa df da ds) sz) := by
  refine hx_ent (by decide) _ _ (Nat.le_of_ble_eq_true rfl) rfl ?_
  intro p e s m below meth c ls C hl hw hsz _
  exact bX4_step_0 pf pa x1 x2 x3 x4 x5 C hl hw (fun q => q = fX4_step pf pa x1 x2 x3 x4 x5) rfl
def fX4_drop (pf : Nat → Int32) : Int32 × (Nat → Int32) :=
  ((fX3_forgetSteps pf).1, (fX3_forgetSteps pf).2)
abbrev rmX4_drop : Room := { frames := 1, cells := 0, slots := 0, locals := 21 }
theorem mbX4_drop : mb_V RX4 yX4_drop cX4_drop 1 (some .int) 0 := ⟨⟨tw_instanceMethod_yX4_drop, tw_selects_RX4_yX4_drop_yX4_drop, tw_initialized_RX4, tw_code_yX4_drop⟩, rfl, by decide +kernel, by decide +kernel, by decide +kernel⟩
set_option maxRecDepth 20000 in
theorem bX4_drop_0 (pf : Nat → Int32) {p : Program} {l : Launch} {e : Env} {s : State} {m : MethodId} {args : Array Value} {below : List Frame} {meth : Method} {c : Code} {dC : Nat → ClassId} {dI : Nat → Nat → Nat} {g1 g2 : Nat} {rp rd : Nat → Nat} {cp cd : Nat → ClassId} {Rg : Nat → Prop} {H : Heap} {locs : List Loc} {pa : Nat → Nat → Int32} {df : Nat → Int32} {da : Nat → Nat → Int32} {ds : Nat → Int64} {h0 : Nat} {ls : Array Slot} (C : bx_C p s m args meth c cX4_drop 1 (some .int) RX4) (hl : lv_has ls 1 [(0, .ref h0)]) (hw : hW (dC, dI) (gl_T cp cd) Rg s H locs (gl_W h0 g1 g2 rp rd cp cd pf pa df da ds)) (post : (Int32 × (Nat → Int32)) → Prop) (hq : post (fX4_drop pf)) : W p l e rmX4_drop s m args below meth c H locs 0 0 (MQ below (va_Qi (fun r u => post (r, u)) (hBk (dC, dI) (gl_T cp cd) Rg (fun u => gl_W h0 g1 g2 rp rd cp cd u pa df da ds)) Rg) args s 0 0 Rg) (F0 m 0 ls []) := by
  obtain ⟨hx, hb, hml, hr, hlocks, hown, hts⟩ := id C
  unfold fX4_drop at hq
  refine lv_aload_n hx hb dX4_drop_0 rfl (lv_at hl 0 rfl) ?_
  refine hx_get (v := .ref g1) hx hb hts inX4 hown hw.1 hw.2.2.2.1 0 rfl rfl 0 (by decide) tw_fieldLink_RX4_10_GlulxFloats_program_LGlulxFloats_Program rfl rfl dX4_drop_1 ?_
  refine hx_xi (Wf := (fun u => pg_W g1 rp cp u pa)) (u0 := pf) (F := (fX3_forgetSteps pf)) (tys' := pg_T cp) (wr := ((h0, .inr (5, [.ref g1, .ref g2])) :: dg_W g2 rd cd df da ds)) (ws1 := (gl_W h0 g1 g2 rp rd cp cd ((fX3_forgetSteps pf).2) pa df da ds)) [1, 2, 3, 4, 5, 6, 7] [0, 8, 9, 10] [0, 4, 5, 6, 7, 8, 9, 10, 1, 2, 3] [0, 1, 2, 3, 4, 5] C (fun sz => kX3_forgetSteps l dC dI g1 rp cp sz pf pa) (fun _ => bx_B_true) (fun _ _ _ => trivial) hw rfl rfl rfl rfl rfl (by decide) rfl rfl rfl rfl rfl rfl tw_methodLink_RX4_87_yX3_forgetSteps mbX3_forgetSteps rfl ⟨rfl, rfl⟩ ⟨Nat.le_of_ble_eq_true rfl, Nat.le_of_ble_eq_true rfl⟩ ⟨Nat.zero_le _, Nat.zero_le _⟩ hl.1 rfl (Nat.le_of_ble_eq_true rfl) dX4_drop_4 (fun H locs hw => ?_)
  exact hx_iret (Wf := (fun u => gl_W h0 g1 g2 rp rd cp cd u pa df da ds)) (post := post) (v := (fX3_forgetSteps pf).1) (u := (fX3_forgetSteps pf).2) hx hb hr hlocks hw hq dX4_drop_7
theorem kX4_drop (l : Launch) (dC : Nat → ClassId) (dI : Nat → Nat → Nat) (h0 g1 g2 : Nat) (rp rd : Nat → Nat) (cp cd : Nat → ClassId) (sz : Nat) (pf : Nat → Int32) (pa : Nat → Nat → Int32) (df : Nat → Int32) (da : Nat → Nat → Int32) (ds : Nat → Int64) : Met l yX4_drop (Cond.code yX4_drop cX4_drop 1 (some .int) :: bw) rmX4_drop (hPc [.ref h0] (dC, dI) (gl_T cp cd) (gl_W h0 g1 g2 rp rd cp cd pf pa df da ds) sz (fun _ => True)) (va_Qi (fun r u => (r, u) = fX4_drop pf) (hBk (dC, dI) (gl_T cp cd) (va_A (gl_W h0 g1 g2 rp rd cp cd pf pa df da ds) sz) (fun u => gl_W h0 g1 g2 rp rd cp cd u pa df da ds)) (va_A (gl_W h0 g1 g2 rp rd cp cd pf pa df da ds) sz)) 0 0 (va_A (gl_W h0 g1 g2 rp rd cp cd pf pa df da ds) sz) := by
  refine hx_ent (by decide) _ _ (Nat.le_of_ble_eq_true rfl) rfl ?_
  intro p e s m below meth c ls C hl hw hsz _
  exact bX4_drop_0 pf C hl hw (fun q => q = fX4_drop pf) rfl
def gX4_run_27 (pf : Nat → Int32) (x2 : Int32) : Nat → (Nat → Nat → Int32) → Int32 → Int32 → (Nat → Nat → Int32) × Int32 × Int32
  | 0, pa, x3, x4 => (pa, x3, x4)
  | n + 1, pa, x3, x4 =>
  if x2 ≤ x4 then (pa, x3, x4)
  else if (fX3_isThere pf x3) = 0 then (pa, x3, x4)
    else gX4_run_27 pf x2 n ((fX3_follow pf pa x3).2) ((fX3_follow pf pa x3).1) (x4 + 1)
def fX4_run_59 (pf : Nat → Int32) (pa : Nat → Nat → Int32) (x3 : Int32) (x4 : Int32) : Int32 × ((Nat → Int32) × (Nat → Nat → Int32)) :=
  (x4, ((fX3_restAt pf x3), pa))
def fX4_run (pf : Nat → Int32) (pa : Nat → Nat → Int32) (x1 : Int32) (x2 : Int32) : Int32 × ((Nat → Int32) × (Nat → Nat → Int32)) :=
  if (fX3_isStep x1) = 0 then ((-102 : Int32), (pf, pa))
  else if x2 < (1 : Int32) then ((-102 : Int32), (pf, pa))
    else if x2 ≤ (2000 : Int32) then fX4_run_59 pf ((gX4_run_27 pf x2 (Nat.succ ((Int32.toInt (x2) - Int32.toInt (0 : Int32)).toNat)) pa x1 (0 : Int32)).1) ((gX4_run_27 pf x2 (Nat.succ ((Int32.toInt (x2) - Int32.toInt (0 : Int32)).toNat)) pa x1 (0 : Int32)).2.1) ((gX4_run_27 pf x2 (Nat.succ ((Int32.toInt (x2) - Int32.toInt (0 : Int32)).toNat)) pa x1 (0 : Int32)).2.2)
      else ((-102 : Int32), (pf, pa))
abbrev rmX4_run : Room := { frames := 6, cells := 0, slots := 0, locals := 188 }
theorem mbX4_run : mb_V RX4 yX4_run cX4_run 5 (some .int) 2 := ⟨⟨tw_instanceMethod_yX4_run, tw_selects_RX4_yX4_run_yX4_run, tw_initialized_RX4, tw_code_yX4_run⟩, rfl, by decide +kernel, by decide +kernel, by decide +kernel⟩
set_option maxRecDepth 20000 in
theorem lX4_run_27 (pf : Nat → Int32) (x2 : Int32) {p : Program} {l : Launch} {e : Env} {s : State} {m : MethodId} {args : Array Value} {below : List Frame} {meth : Method} {c : Code} {dC : Nat → ClassId} {dI : Nat → Nat → Nat} {g1 g2 : Nat} {rp rd : Nat → Nat} {cp cd : Nat → ClassId} {Rg : Nat → Prop} {af : Nat} {df : Nat → Int32} {da : Nat → Nat → Int32} {ds : Nat → Int64} {h0 : Nat} {Q : State → Prop} (C : bx_C p s m args meth c cX4_run 5 (some .int) RX4) (hF : fo_S af Rg s) (post : ((Nat → Nat → Int32) × Int32 × Int32) → Prop) (kx : ∀ (opa : Nat → Nat → Int32) (o3 : Int32) (o4 : Int32) (ls : Array Slot) (H : Heap) (locs : List Loc), lv_has ls 5 [(0, .ref h0), (3, .int o3), (4, .int o4)] → hW (dC, dI) (gl_T cp cd) Rg s H locs (gl_W h0 g1 g2 rp rd cp cd pf opa df da ds) → post (opa, o3, o4) → W p l e rmX4_run s m args below meth c H locs 0 0 Q (F0 m 59 ls [])) :
    ∀ (n : Nat) (pa : Nat → Nat → Int32) (x3 : Int32) (x4 : Int32) (ls : Array Slot) (H : Heap) (locs : List Loc), (Int32.toInt (x2) - Int32.toInt x4).toNat < n → lv_has ls 5 [(0, .ref h0), (2, .int x2), (3, .int x3), (4, .int x4)] → hW (dC, dI) (gl_T cp cd) Rg s H locs (gl_W h0 g1 g2 rp rd cp cd pf pa df da ds) → post (gX4_run_27 pf x2 n pa x3 x4) → W p l e rmX4_run s m args below meth c H locs 0 0 Q (F0 m 27 ls []) := by
  obtain ⟨hx, hb, hml, hr, hlocks, hown, hts⟩ := id C
  intro n
  induction n with
  | zero =>
    intro pa x3 x4 ls H locs hm
    exact absurd hm (Nat.not_lt_zero _)
  | succ n ih =>
    intro pa x3 x4 ls H locs hm hl hw hq
    rw [gX4_run_27] at hq
    refine lv_iload hx hb dX4_run_27 (lv_at hl 3 rfl) ?_
    refine lv_iload_n hx hb dX4_run_29 rfl (lv_at hl 1 rfl) ?_
    refine lv_icmp_ge (tgt := 59) hx hb dX4_run_30 (by decide) (fun c4 => ?_) (fun c4 => ?_)
    · rw [if_pos c4] at hq
      exact kx pa x3 x4 _ _ _ (lv_sub hl [0, 2, 3] rfl) hw hq
    · rw [if_neg c4] at hq
      refine lv_aload_n hx hb dX4_run_33 rfl (lv_at hl 0 rfl) ?_
      refine hx_get (v := .ref g1) hx hb hts inX4 hown hw.1 hw.2.2.2.1 0 rfl rfl 0 (by decide) tw_fieldLink_RX4_10_GlulxFloats_program_LGlulxFloats_Program rfl rfl dX4_run_34 ?_
      refine lv_iload_n hx hb dX4_run_37 rfl (lv_at hl 2 rfl) ?_
      refine bx_vi C (kX3_isThere l dC dI g1 rp cp pf pa x3) (rd_B _ _ _) (fun U u1 u2 => (hw_rd hw u1 u2 [1, 2, 3, 4, 5, 6, 7] [0, 1, 2, 3, 4, 5] rfl rfl)) (fun U u1 u2 => rd_ob (tys := pg_T cp) (ws := pg_W g1 rp cp pf pa) (hw_rd hw u1 u2 [1, 2, 3, 4, 5, 6, 7] [0, 1, 2, 3, 4, 5] rfl rfl) rfl rfl) tw_methodLink_RX4_94_yX3_isThere mbX3_isThere rfl ⟨rfl, rfl⟩ ⟨Nat.le_of_ble_eq_true rfl, Nat.le_of_ble_eq_true rfl⟩ ⟨Nat.zero_le _, Nat.zero_le _⟩ hl.1 rfl (Nat.le_of_ble_eq_true rfl) dX4_run_38 ?_
      refine lv_if_eq (tgt := 59) hx hb dX4_run_41 (by decide) (fun c5 => ?_) (fun c5 => ?_)
      · rw [if_pos c5] at hq
        exact kx pa x3 x4 _ _ _ (lv_sub hl [0, 2, 3] rfl) hw hq
      · rw [if_neg c5] at hq
        refine lv_aload_n hx hb dX4_run_44 rfl (lv_at hl 0 rfl) ?_
        refine hx_get (v := .ref g1) hx hb hts inX4 hown hw.1 hw.2.2.2.1 0 rfl rfl 0 (by decide) tw_fieldLink_RX4_10_GlulxFloats_program_LGlulxFloats_Program rfl rfl dX4_run_45 ?_
        refine lv_iload_n hx hb dX4_run_48 rfl (lv_at hl 2 rfl) ?_
        refine hx_xi (Wf := (fun u => pg_W g1 rp cp pf u)) (u0 := pa) (F := (fX3_follow pf pa x3)) (tys' := pg_T cp) (wr := ((h0, .inr (5, [.ref g1, .ref g2])) :: dg_W g2 rd cd df da ds)) (ws1 := (gl_W h0 g1 g2 rp rd cp cd pf ((fX3_follow pf pa x3).2) df da ds)) [1, 2, 3, 4, 5, 6, 7] [0, 8, 9, 10] [0, 4, 5, 6, 7, 8, 9, 10, 1, 2, 3] [0, 1, 2, 3, 4, 5] C (fun sz => kX3_follow l dC dI af g1 rp cp sz pf pa x3) (fun sz => fo_S_B _ _) (fun U u1 u2 => fo_S_sub hF hw [1, 2, 3, 4, 5, 6, 7] rfl u1 u2) hw rfl rfl rfl rfl rfl (by decide) rfl rfl rfl rfl rfl rfl tw_methodLink_RX4_97_yX3_follow mbX3_follow rfl ⟨rfl, rfl⟩ ⟨Nat.le_of_ble_eq_true rfl, Nat.le_of_ble_eq_true rfl⟩ ⟨Nat.zero_le _, Nat.zero_le _⟩ hl.1 rfl (Nat.le_of_ble_eq_true rfl) dX4_run_49 (fun H locs hw => ?_)
        refine lv_istore_n (lv' := [(3, .int ((fX3_follow pf pa x3).1)), (0, .ref h0), (2, .int x2), (4, .int x4)]) hx hb dX4_run_52 rfl hl (by decide) rfl (fun ls hl => ?_)
        refine lv_iinc (v := (x4 + 1)) (lv' := [(4, .int (x4 + 1)), (3, .int ((fX3_follow pf pa x3).1)), (0, .ref h0), (2, .int x2)]) hx hb dX4_run_53 hl (k := 3) rfl rfl (by decide) rfl (fun ls hl => ?_)
        refine lv_goto (tgt := 27) hx hb dX4_run_56 (by decide) ?_
        exact ih ((fX3_follow pf pa x3).2) ((fX3_follow pf pa x3).1) (x4 + 1) _ _ _ (lp_up (by assumption) hm) (lv_sub hl [2, 3, 1, 0] rfl) hw hq
set_option maxRecDepth 20000 in
theorem bX4_run_59 (pf : Nat → Int32) (pa : Nat → Nat → Int32) (x3 : Int32) (x4 : Int32) {p : Program} {l : Launch} {e : Env} {s : State} {m : MethodId} {args : Array Value} {below : List Frame} {meth : Method} {c : Code} {dC : Nat → ClassId} {dI : Nat → Nat → Nat} {g1 g2 : Nat} {rp rd : Nat → Nat} {cp cd : Nat → ClassId} {Rg : Nat → Prop} {H : Heap} {locs : List Loc} {af : Nat} {df : Nat → Int32} {da : Nat → Nat → Int32} {ds : Nat → Int64} {h0 : Nat} {ls : Array Slot} (C : bx_C p s m args meth c cX4_run 5 (some .int) RX4) (hF : fo_S af Rg s) (hl : lv_has ls 5 [(0, .ref h0), (3, .int x3), (4, .int x4)]) (hw : hW (dC, dI) (gl_T cp cd) Rg s H locs (gl_W h0 g1 g2 rp rd cp cd pf pa df da ds)) (post : (Int32 × ((Nat → Int32) × (Nat → Nat → Int32))) → Prop) (hq : post (fX4_run_59 pf pa x3 x4)) : W p l e rmX4_run s m args below meth c H locs 0 0 (MQ below (va_Qi (fun r u => post (r, u)) (hBk (dC, dI) (gl_T cp cd) Rg (fun u => gl_W h0 g1 g2 rp rd cp cd u.1 u.2 df da ds)) Rg) args s 0 0 Rg) (F0 m 59 ls []) := by
  obtain ⟨hx, hb, hml, hr, hlocks, hown, hts⟩ := id C
  unfold fX4_run_59 at hq
  refine lv_aload_n hx hb dX4_run_59 rfl (lv_at hl 0 rfl) ?_
  refine hx_get (v := .ref g1) hx hb hts inX4 hown hw.1 hw.2.2.2.1 0 rfl rfl 0 (by decide) tw_fieldLink_RX4_10_GlulxFloats_program_LGlulxFloats_Program rfl rfl dX4_run_60 ?_
  refine lv_iload_n hx hb dX4_run_63 rfl (lv_at hl 1 rfl) ?_
  refine hx_xv (Wf := (fun u => pg_W g1 rp cp u pa)) (u0 := pf) (F := (fX3_restAt pf x3)) (tys' := pg_T cp) (wr := ((h0, .inr (5, [.ref g1, .ref g2])) :: dg_W g2 rd cd df da ds)) (ws1 := (gl_W h0 g1 g2 rp rd cp cd (fX3_restAt pf x3) pa df da ds)) [1, 2, 3, 4, 5, 6, 7] [0, 8, 9, 10] [0, 4, 5, 6, 7, 8, 9, 10, 1, 2, 3] [0, 1, 2, 3, 4, 5] C (fun sz => kX3_restAt l dC dI g1 rp cp sz pf pa x3) (fun _ => bx_B_true) (fun _ _ _ => trivial) hw rfl rfl rfl rfl rfl (by decide) rfl rfl rfl rfl rfl rfl tw_methodLink_RX4_100_yX3_restAt mbX3_restAt rfl ⟨rfl, rfl⟩ ⟨Nat.le_of_ble_eq_true rfl, Nat.le_of_ble_eq_true rfl⟩ ⟨Nat.zero_le _, Nat.zero_le _⟩ hl.1 rfl (Nat.le_of_ble_eq_true rfl) dX4_run_64 (fun H locs hw => ?_)
  refine lv_iload hx hb dX4_run_67 (lv_at hl 2 rfl) ?_
  exact hx_iret (Wf := (fun u => gl_W h0 g1 g2 rp rd cp cd u.1 u.2 df da ds)) (post := post) (v := x4) (u := ((fX3_restAt pf x3), pa)) hx hb hr hlocks hw hq dX4_run_69
set_option maxRecDepth 20000 in
theorem bX4_run_0 (pf : Nat → Int32) (pa : Nat → Nat → Int32) (x1 : Int32) (x2 : Int32) {p : Program} {l : Launch} {e : Env} {s : State} {m : MethodId} {args : Array Value} {below : List Frame} {meth : Method} {c : Code} {dC : Nat → ClassId} {dI : Nat → Nat → Nat} {g1 g2 : Nat} {rp rd : Nat → Nat} {cp cd : Nat → ClassId} {Rg : Nat → Prop} {H : Heap} {locs : List Loc} {af : Nat} {df : Nat → Int32} {da : Nat → Nat → Int32} {ds : Nat → Int64} {h0 : Nat} {ls : Array Slot} (C : bx_C p s m args meth c cX4_run 5 (some .int) RX4) (hF : fo_S af Rg s) (hl : lv_has ls 5 [(0, .ref h0), (1, .int x1), (2, .int x2)]) (hw : hW (dC, dI) (gl_T cp cd) Rg s H locs (gl_W h0 g1 g2 rp rd cp cd pf pa df da ds)) (post : (Int32 × ((Nat → Int32) × (Nat → Nat → Int32))) → Prop) (hq : post (fX4_run pf pa x1 x2)) : W p l e rmX4_run s m args below meth c H locs 0 0 (MQ below (va_Qi (fun r u => post (r, u)) (hBk (dC, dI) (gl_T cp cd) Rg (fun u => gl_W h0 g1 g2 rp rd cp cd u.1 u.2 df da ds)) Rg) args s 0 0 Rg) (F0 m 0 ls []) := by
  obtain ⟨hx, hb, hml, hr, hlocks, hown, hts⟩ := id C
  unfold fX4_run at hq
  refine lv_iload_n hx hb dX4_run_0 rfl (lv_at hl 1 rfl) ?_
  refine bx_si C (kX3_isStep l x1) bx_B_true (fun _ _ _ => trivial) tw_methodLink_RX4_91_yX3_isStep mbX3_isStep rfl ⟨rfl, rfl⟩ ⟨Nat.le_of_ble_eq_true rfl, Nat.le_of_ble_eq_true rfl⟩ ⟨Nat.zero_le _, Nat.zero_le _⟩ hl.1 rfl (Nat.le_of_ble_eq_true rfl) dX4_run_1 ?_
  refine lv_if_eq (tgt := 19) hx hb dX4_run_4 (by decide) (fun c1 => ?_) (fun c1 => ?_)
  · rw [if_pos c1] at hq
    refine lv_bipush (v := -102) hx hb dX4_run_19 (by decide) ?_
    exact hx_iret (Wf := (fun u => gl_W h0 g1 g2 rp rd cp cd u.1 u.2 df da ds)) (post := post) (v := (-102 : Int32)) (u := (pf, pa)) hx hb hr hlocks hw hq dX4_run_21
  · rw [if_neg c1] at hq
    refine lv_iload_n hx hb dX4_run_7 rfl (lv_at hl 2 rfl) ?_
    refine lv_iconst (v := 1) hx hb dX4_run_8 (by decide) ?_
    refine lv_icmp_lt (tgt := 19) hx hb dX4_run_9 (by decide) (fun c2 => ?_) (fun c2 => ?_)
    · rw [if_pos c2] at hq
      refine lv_bipush (v := -102) hx hb dX4_run_19 (by decide) ?_
      exact hx_iret (Wf := (fun u => gl_W h0 g1 g2 rp rd cp cd u.1 u.2 df da ds)) (post := post) (v := (-102 : Int32)) (u := (pf, pa)) hx hb hr hlocks hw hq dX4_run_21
    · rw [if_neg c2] at hq
      refine lv_iload_n hx hb dX4_run_12 rfl (lv_at hl 2 rfl) ?_
      refine lv_sipush (v := 2000) hx hb dX4_run_13 (by decide) ?_
      refine lv_icmp_le (tgt := 22) hx hb dX4_run_16 (by decide) (fun c3 => ?_) (fun c3 => ?_)
      · rw [if_pos c3] at hq
        refine lv_iload_n hx hb dX4_run_22 rfl (lv_at hl 1 rfl) ?_
        refine lv_istore_n (lv' := [(3, .int x1), (0, .ref h0), (1, .int x1), (2, .int x2)]) hx hb dX4_run_23 rfl hl (by decide) rfl (fun ls hl => ?_)
        refine lv_iconst (v := 0) hx hb dX4_run_24 (by decide) ?_
        refine lv_istore (lv' := [(4, .int (0 : Int32)), (3, .int x1), (0, .ref h0), (1, .int x1), (2, .int x2)]) hx hb dX4_run_25 hl (by decide) rfl (fun ls hl => ?_)
        exact lX4_run_27 pf x2 C hF (fun t => post (fX4_run_59 pf t.1 t.2.1 t.2.2)) (fun opa o3 o4 ls H locs hl hw hq => bX4_run_59 pf opa o3 o4 C hF (lv_sub hl [0, 1, 2] rfl) hw post hq) (Nat.succ ((Int32.toInt (x2) - Int32.toInt (0 : Int32)).toNat)) pa x1 (0 : Int32) _ _ _ (Nat.lt_succ_self _) (lv_sub hl [2, 4, 1, 0] rfl) hw hq
      · rw [if_neg c3] at hq
        refine lv_bipush (v := -102) hx hb dX4_run_19 (by decide) ?_
        exact hx_iret (Wf := (fun u => gl_W h0 g1 g2 rp rd cp cd u.1 u.2 df da ds)) (post := post) (v := (-102 : Int32)) (u := (pf, pa)) hx hb hr hlocks hw hq dX4_run_21
theorem kX4_run (l : Launch) (dC : Nat → ClassId) (dI : Nat → Nat → Nat) (af : Nat) (h0 g1 g2 : Nat) (rp rd : Nat → Nat) (cp cd : Nat → ClassId) (sz : Nat) (pf : Nat → Int32) (pa : Nat → Nat → Int32) (df : Nat → Int32) (da : Nat → Nat → Int32) (ds : Nat → Int64) (x1 : Int32) (x2 : Int32) : Met l yX4_run (Cond.code yX4_run cX4_run 5 (some .int) :: bw) rmX4_run (hPc [.ref h0, .int x1, .int x2] (dC, dI) (gl_T cp cd) (gl_W h0 g1 g2 rp rd cp cd pf pa df da ds) sz (fun U => fo_S af (va_A (gl_W h0 g1 g2 rp rd cp cd pf pa df da ds) sz) U)) (va_Qi (fun r u => (r, u) = fX4_run pf pa x1 x2) (hBk (dC, dI) (gl_T cp cd) (va_A (gl_W h0 g1 g2 rp rd cp cd pf pa df da ds) sz) (fun u => gl_W h0 g1 g2 rp rd cp cd u.1 u.2 df da ds)) (va_A (gl_W h0 g1 g2 rp rd cp cd pf pa df da ds) sz)) 0 0 (va_A (gl_W h0 g1 g2 rp rd cp cd pf pa df da ds) sz) := by
  refine hx_ent (by decide) _ _ (Nat.le_of_ble_eq_true rfl) rfl ?_
  intro p e s m below meth c ls C hl hw hsz hF
  exact bX4_run_0 pf pa x1 x2 C hF hl hw (fun q => q = fX4_run pf pa x1 x2) rfl
def fX4_clear (pf : Nat → Int32) (pa : Nat → Nat → Int32) (df : Nat → Int32) : Int32 × ((Nat → Int32) × (Nat → Nat → Int32) × (Nat → Int32)) :=
  ((fX3_forgetAll pf pa).1, ((fX3_forgetAll pf pa).2.1, (fX3_forgetAll pf pa).2.2, (fX1_forget df)))
abbrev rmX4_clear : Room := { frames := 2, cells := 0, slots := 0, locals := 42 }
theorem mbX4_clear : mb_V RX4 yX4_clear cX4_clear 1 (some .int) 0 := ⟨⟨tw_instanceMethod_yX4_clear, tw_selects_RX4_yX4_clear_yX4_clear, tw_initialized_RX4, tw_code_yX4_clear⟩, rfl, by decide +kernel, by decide +kernel, by decide +kernel⟩
set_option maxRecDepth 20000 in
theorem bX4_clear_0 (pf : Nat → Int32) (pa : Nat → Nat → Int32) (df : Nat → Int32) {p : Program} {l : Launch} {e : Env} {s : State} {m : MethodId} {args : Array Value} {below : List Frame} {meth : Method} {c : Code} {dC : Nat → ClassId} {dI : Nat → Nat → Nat} {g1 g2 : Nat} {rp rd : Nat → Nat} {cp cd : Nat → ClassId} {Rg : Nat → Prop} {H : Heap} {locs : List Loc} {da : Nat → Nat → Int32} {ds : Nat → Int64} {h0 : Nat} {ls : Array Slot} (C : bx_C p s m args meth c cX4_clear 1 (some .int) RX4) (hl : lv_has ls 1 [(0, .ref h0)]) (hw : hW (dC, dI) (gl_T cp cd) Rg s H locs (gl_W h0 g1 g2 rp rd cp cd pf pa df da ds)) (post : (Int32 × ((Nat → Int32) × (Nat → Nat → Int32) × (Nat → Int32))) → Prop) (hq : post (fX4_clear pf pa df)) : W p l e rmX4_clear s m args below meth c H locs 0 0 (MQ below (va_Qi (fun r u => post (r, u)) (hBk (dC, dI) (gl_T cp cd) Rg (fun u => gl_W h0 g1 g2 rp rd cp cd u.1 u.2.1 u.2.2 da ds)) Rg) args s 0 0 Rg) (F0 m 0 ls []) := by
  obtain ⟨hx, hb, hml, hr, hlocks, hown, hts⟩ := id C
  unfold fX4_clear at hq
  refine lv_aload_n hx hb dX4_clear_0 rfl (lv_at hl 0 rfl) ?_
  refine hx_get (v := .ref g2) hx hb hts inX4 hown hw.1 hw.2.2.2.1 0 rfl rfl 1 (by decide) tw_fieldLink_RX4_19_GlulxFloats_digits_LGlulxFloats_Digits rfl rfl dX4_clear_1 ?_
  refine hx_xv (Wf := (fun u => dg_W g2 rd cd u da ds)) (u0 := df) (F := (fX1_forget df)) (tys' := dg_T cd) (wr := ((h0, .inr (5, [.ref g1, .ref g2])) :: pg_W g1 rp cp pf pa)) (ws1 := (gl_W h0 g1 g2 rp rd cp cd pf pa (fX1_forget df) da ds)) [8, 9, 10] [0, 1, 2, 3, 4, 5, 6, 7] [0, 1, 2, 3, 4, 5, 6, 7, 8, 9, 10] [6, 7] C (fun sz => kX1_forget l dC dI g2 rd cd sz df da ds) (fun _ => bx_B_true) (fun _ _ _ => trivial) hw rfl rfl rfl rfl rfl (by decide) rfl rfl rfl rfl rfl rfl tw_methodLink_RX4_108_yX1_forget mbX1_forget rfl ⟨rfl, rfl⟩ ⟨Nat.le_of_ble_eq_true rfl, Nat.le_of_ble_eq_true rfl⟩ ⟨Nat.zero_le _, Nat.zero_le _⟩ hl.1 rfl (Nat.le_of_ble_eq_true rfl) dX4_clear_4 (fun H locs hw => ?_)
  refine lv_aload_n hx hb dX4_clear_7 rfl (lv_at hl 0 rfl) ?_
  refine hx_get (v := .ref g1) hx hb hts inX4 hown hw.1 hw.2.2.2.1 0 rfl rfl 0 (by decide) tw_fieldLink_RX4_10_GlulxFloats_program_LGlulxFloats_Program rfl rfl dX4_clear_8 ?_
  refine hx_xi (Wf := (fun u => pg_W g1 rp cp u.1 u.2)) (u0 := (pf, pa)) (F := (fX3_forgetAll pf pa)) (tys' := pg_T cp) (wr := ((h0, .inr (5, [.ref g1, .ref g2])) :: dg_W g2 rd cd (fX1_forget df) da ds)) (ws1 := (gl_W h0 g1 g2 rp rd cp cd ((fX3_forgetAll pf pa).2.1) ((fX3_forgetAll pf pa).2.2) (fX1_forget df) da ds)) [1, 2, 3, 4, 5, 6, 7] [0, 8, 9, 10] [0, 4, 5, 6, 7, 8, 9, 10, 1, 2, 3] [0, 1, 2, 3, 4, 5] C (fun sz => kX3_forgetAll l dC dI g1 rp cp sz pf pa) (fun _ => bx_B_true) (fun _ _ _ => trivial) hw rfl rfl rfl rfl rfl (by decide) rfl rfl rfl rfl rfl rfl tw_methodLink_RX4_111_yX3_forgetAll mbX3_forgetAll rfl ⟨rfl, rfl⟩ ⟨Nat.le_of_ble_eq_true rfl, Nat.le_of_ble_eq_true rfl⟩ ⟨Nat.zero_le _, Nat.zero_le _⟩ hl.1 rfl (Nat.le_of_ble_eq_true rfl) dX4_clear_11 (fun H locs hw => ?_)
  exact hx_iret (Wf := (fun u => gl_W h0 g1 g2 rp rd cp cd u.1 u.2.1 u.2.2 da ds)) (post := post) (v := (fX3_forgetAll pf pa).1) (u := ((fX3_forgetAll pf pa).2.1, (fX3_forgetAll pf pa).2.2, (fX1_forget df))) hx hb hr hlocks hw hq dX4_clear_14
theorem kX4_clear (l : Launch) (dC : Nat → ClassId) (dI : Nat → Nat → Nat) (h0 g1 g2 : Nat) (rp rd : Nat → Nat) (cp cd : Nat → ClassId) (sz : Nat) (pf : Nat → Int32) (pa : Nat → Nat → Int32) (df : Nat → Int32) (da : Nat → Nat → Int32) (ds : Nat → Int64) : Met l yX4_clear (Cond.code yX4_clear cX4_clear 1 (some .int) :: bw) rmX4_clear (hPc [.ref h0] (dC, dI) (gl_T cp cd) (gl_W h0 g1 g2 rp rd cp cd pf pa df da ds) sz (fun _ => True)) (va_Qi (fun r u => (r, u) = fX4_clear pf pa df) (hBk (dC, dI) (gl_T cp cd) (va_A (gl_W h0 g1 g2 rp rd cp cd pf pa df da ds) sz) (fun u => gl_W h0 g1 g2 rp rd cp cd u.1 u.2.1 u.2.2 da ds)) (va_A (gl_W h0 g1 g2 rp rd cp cd pf pa df da ds) sz)) 0 0 (va_A (gl_W h0 g1 g2 rp rd cp cd pf pa df da ds) sz) := by
  refine hx_ent (by decide) _ _ (Nat.le_of_ble_eq_true rfl) rfl ?_
  intro p e s m below meth c ls C hl hw hsz _
  exact bX4_clear_0 pf pa df C hl hw (fun q => q = fX4_clear pf pa df) rfl
