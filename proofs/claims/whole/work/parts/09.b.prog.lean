def fX3_wordAt (ua : Nat → Nat → Int32) (x1 : Int32) : Int32 :=
  if (fX3_isWord x1) = 0 then (0 : Int32)
  else ((ua 0) x1.toNatClampNeg)
abbrev rmX3_wordAt : Room := { frames := 1, cells := 0, slots := 0, locals := 20 }
theorem mbX3_wordAt : mb_V RX3 yX3_wordAt cX3_wordAt 2 (some .int) 1 := ⟨⟨tw_instanceMethod_yX3_wordAt, tw_selects_RX3_yX3_wordAt_yX3_wordAt, tw_initialized_RX3, tw_code_yX3_wordAt⟩, rfl, by decide +kernel, by decide +kernel, by decide +kernel⟩
set_option maxRecDepth 20000 in
theorem bX3_wordAt_0 (ua : Nat → Nat → Int32) (x1 : Int32) {p : Program} {l : Launch} {e : Env} {s : State} {m : MethodId} {args : Array Value} {below : List Frame} {meth : Method} {c : Code} {dC : Nat → ClassId} {dI : Nat → Nat → Nat} {r : Nat → Nat} {cA : Nat → ClassId} {uf : Nat → Int32} {h0 : Nat} {ls : Array Slot} (C : bx_C p s m args meth c cX3_wordAt 2 (some .int) RX3) (hK0 : rd_K (dC, dI) (pg_T cA) (pg_W h0 r cA uf ua) s) (hl : lv_has ls 2 [(0, .ref h0), (1, .int x1)]) (post : (Int32) → Prop) (hq : post (fX3_wordAt ua x1)) : W p l e rmX3_wordAt s m args below meth c s.heap [] 0 0 (MQ below (vp_Si post) args s 0 0 (fun _ => False)) (F0 m 0 ls []) := by
  obtain ⟨hx, hb, hml, hr, hlocks, hown, hts⟩ := id C
  unfold fX3_wordAt at hq
  refine lv_iload_n hx hb dX3_wordAt_0 rfl (lv_at hl 1 rfl) ?_
  refine bx_si C (kX3_isWord l x1) bx_B_true (fun _ _ _ => trivial) tw_methodLink_RX3_41_yX3_isWord mbX3_isWord rfl ⟨rfl, rfl⟩ ⟨Nat.le_of_ble_eq_true rfl, Nat.le_of_ble_eq_true rfl⟩ ⟨Nat.zero_le _, Nat.zero_le _⟩ hl.1 rfl (Nat.le_of_ble_eq_true rfl) dX3_wordAt_1 ?_
  refine lv_if_eq (tgt := 16) hx hb dX3_wordAt_4 (by decide) (fun c1 => ?_) (fun c1 => ?_)
  · rw [if_pos c1] at hq
    refine lv_iconst (v := 0) hx hb dX3_wordAt_16 (by decide) ?_
    exact W.iret (v := (0 : Int32)) hx hb hr (fun t ht hW => ⟨_, rfl, hq, ht⟩) (fun _ h => absurd h List.not_mem_nil) dX3_wordAt_17
  · rw [if_neg c1] at hq
    refine lv_aload_n hx hb dX3_wordAt_7 rfl (lv_at hl 0 rfl) ?_
    refine hx_get (v := .ref (r 0)) hx hb hts inX3 hown hK0.1 hK0.2 0 rfl rfl 0 (by decide) tw_fieldLink_RX3_11_GlulxFloats_Program_words_I rfl rfl dX3_wordAt_8 ?_
    refine lv_iload_n hx hb dX3_wordAt_11 rfl (lv_at hl 1 rfl) ?_
    refine hx_iald hx hb hK0.1 hK0.2 1 0 rfl rfl (sd_word (by assumption)) dX3_wordAt_12 ?_
    refine lv_goto (tgt := 17) hx hb dX3_wordAt_13 (by decide) ?_
    exact W.iret (v := ((ua 0) x1.toNatClampNeg)) hx hb hr (fun t ht hW => ⟨_, rfl, hq, ht⟩) (fun _ h => absurd h List.not_mem_nil) dX3_wordAt_17
theorem kX3_wordAt (l : Launch) (dC : Nat → ClassId) (dI : Nat → Nat → Nat) (h0 : Nat) (r : Nat → Nat) (cA : Nat → ClassId) (uf : Nat → Int32) (ua : Nat → Nat → Int32) (x1 : Int32) : Met l yX3_wordAt (Cond.code yX3_wordAt cX3_wordAt 2 (some .int) :: bw) rmX3_wordAt (va_Pc [.ref h0, .int x1] (rd_K (dC, dI) (pg_T cA) (pg_W h0 r cA uf ua))) (vp_Si (fun r => r = fX3_wordAt ua x1)) 0 0 (fun _ => False) := by
  refine bx_ent (by decide) _ _ (Nat.le_of_ble_eq_true rfl) rfl ?_
  intro p e s m below meth c ls C hl hK0
  exact bX3_wordAt_0 ua x1 C hK0 hl _ rfl
def fX3_read (ua : Nat → Nat → Int32) (x1 : Int32) : Int64 :=
  ((fX3_wordAt ua x1).toInt64 &&& (4294967295 : Int64))
abbrev rmX3_read : Room := { frames := 2, cells := 0, slots := 0, locals := 41 }
theorem mbX3_read : mb_V RX3 yX3_read cX3_read 2 (some .long) 1 := ⟨⟨tw_instanceMethod_yX3_read, tw_selects_RX3_yX3_read_yX3_read, tw_initialized_RX3, tw_code_yX3_read⟩, rfl, by decide +kernel, by decide +kernel, by decide +kernel⟩
set_option maxRecDepth 20000 in
theorem bX3_read_0 (ua : Nat → Nat → Int32) (x1 : Int32) {p : Program} {l : Launch} {e : Env} {s : State} {m : MethodId} {args : Array Value} {below : List Frame} {meth : Method} {c : Code} {dC : Nat → ClassId} {dI : Nat → Nat → Nat} {r : Nat → Nat} {cA : Nat → ClassId} {uf : Nat → Int32} {h0 : Nat} {ls : Array Slot} (C : bx_C p s m args meth c cX3_read 2 (some .long) RX3) (hK0 : rd_K (dC, dI) (pg_T cA) (pg_W h0 r cA uf ua) s) (hl : lv_has ls 2 [(0, .ref h0), (1, .int x1)]) (post : (Int64) → Prop) (hq : post (fX3_read ua x1)) : W p l e rmX3_read s m args below meth c s.heap [] 0 0 (MQ below (vp_Sl post) args s 0 0 (fun _ => False)) (F0 m 0 ls []) := by
  obtain ⟨hx, hb, hml, hr, hlocks, hown, hts⟩ := id C
  unfold fX3_read at hq
  refine lv_aload_n hx hb dX3_read_0 rfl (lv_at hl 0 rfl) ?_
  refine lv_iload_n hx hb dX3_read_1 rfl (lv_at hl 1 rfl) ?_
  refine bx_vi C (kX3_wordAt l dC dI h0 r cA uf ua x1) (rd_B _ _ _) (fun U u1 u2 => rd_B _ _ _ s U u1 u2 hK0) (fun U u1 u2 => rd_ob (rd_B _ _ _ s U u1 u2 hK0) rfl rfl) tw_methodLink_RX3_47_yX3_wordAt mbX3_wordAt rfl ⟨rfl, rfl⟩ ⟨Nat.le_of_ble_eq_true rfl, Nat.le_of_ble_eq_true rfl⟩ ⟨Nat.zero_le _, Nat.zero_le _⟩ hl.1 rfl (Nat.le_of_ble_eq_true rfl) dX3_read_2 ?_
  refine bx_i2l hx hb dX3_read_5 ?_
  refine lv_ldc2 (v := 4294967295) hx hb hown (hts _ tw_constantLong_RX3_83_4294967295) dX3_read_6 ?_
  refine lv_land hx hb dX3_read_9 ?_
  exact W.lret (v := ((fX3_wordAt ua x1).toInt64 &&& (4294967295 : Int64))) hx hb hr (fun t ht hW => ⟨_, rfl, hq, ht⟩) (fun _ h => absurd h List.not_mem_nil) dX3_read_10
theorem kX3_read (l : Launch) (dC : Nat → ClassId) (dI : Nat → Nat → Nat) (h0 : Nat) (r : Nat → Nat) (cA : Nat → ClassId) (uf : Nat → Int32) (ua : Nat → Nat → Int32) (x1 : Int32) : Met l yX3_read (Cond.code yX3_read cX3_read 2 (some .long) :: bw) rmX3_read (va_Pc [.ref h0, .int x1] (rd_K (dC, dI) (pg_T cA) (pg_W h0 r cA uf ua))) (vp_Sl (fun r => r = fX3_read ua x1)) 0 0 (fun _ => False) := by
  refine bx_ent (by decide) _ _ (Nat.le_of_ble_eq_true rfl) rfl ?_
  intro p e s m below meth c ls C hl hK0
  exact bX3_read_0 ua x1 C hK0 hl _ rfl
def fX3_replaced (ua : Nat → Nat → Int32) (x1 : Int32) (x2 : Int32) : Int32 × (Nat → Nat → Int32) :=
  if (fX3_isWord x1) = 0 then ((fX3_wordAt ua x1), ua)
  else ((fX3_wordAt ua x1), (va_up ua 0 (upd (ua 0) x1.toNatClampNeg x2)))
abbrev rmX3_replaced : Room := { frames := 2, cells := 0, slots := 0, locals := 41 }
theorem mbX3_replaced : mb_V RX3 yX3_replaced cX3_replaced 4 (some .int) 2 := ⟨⟨tw_instanceMethod_yX3_replaced, tw_selects_RX3_yX3_replaced_yX3_replaced, tw_initialized_RX3, tw_code_yX3_replaced⟩, rfl, by decide +kernel, by decide +kernel, by decide +kernel⟩
set_option maxRecDepth 20000 in
theorem bX3_replaced_0 (ua : Nat → Nat → Int32) (x1 : Int32) (x2 : Int32) {p : Program} {l : Launch} {e : Env} {s : State} {m : MethodId} {args : Array Value} {below : List Frame} {meth : Method} {c : Code} {dC : Nat → ClassId} {dI : Nat → Nat → Nat} {r : Nat → Nat} {cA : Nat → ClassId} {Rg : Nat → Prop} {H : Heap} {locs : List Loc} {uf : Nat → Int32} {h0 : Nat} {ls : Array Slot} (C : bx_C p s m args meth c cX3_replaced 4 (some .int) RX3) (hl : lv_has ls 4 [(0, .ref h0), (1, .int x1), (2, .int x2)]) (hw : hW (dC, dI) (pg_T cA) Rg s H locs (pg_W h0 r cA uf ua)) (post : (Int32 × (Nat → Nat → Int32)) → Prop) (hq : post (fX3_replaced ua x1 x2)) : W p l e rmX3_replaced s m args below meth c H locs 0 0 (MQ below (va_Qi (fun r u => post (r, u)) (hBk (dC, dI) (pg_T cA) Rg (fun u => pg_W h0 r cA uf u)) Rg) args s 0 0 Rg) (F0 m 0 ls []) := by
  obtain ⟨hx, hb, hml, hr, hlocks, hown, hts⟩ := id C
  unfold fX3_replaced at hq
  refine lv_aload_n hx hb dX3_replaced_0 rfl (lv_at hl 0 rfl) ?_
  refine lv_iload_n hx hb dX3_replaced_1 rfl (lv_at hl 1 rfl) ?_
  refine bx_vi C (kX3_wordAt l dC dI h0 r cA uf ua x1) (rd_B _ _ _) (fun U u1 u2 => rd_of hw u1 u2) (fun U u1 u2 => hw_ob hw rfl rfl U u1 u2) tw_methodLink_RX3_47_yX3_wordAt mbX3_wordAt rfl ⟨rfl, rfl⟩ ⟨Nat.le_of_ble_eq_true rfl, Nat.le_of_ble_eq_true rfl⟩ ⟨Nat.zero_le _, Nat.zero_le _⟩ hl.1 rfl (Nat.le_of_ble_eq_true rfl) dX3_replaced_2 ?_
  refine lv_istore_n (lv' := [(3, .int (fX3_wordAt ua x1)), (0, .ref h0), (1, .int x1), (2, .int x2)]) hx hb dX3_replaced_5 rfl hl (by decide) rfl (fun ls hl => ?_)
  refine lv_iload_n hx hb dX3_replaced_6 rfl (lv_at hl 2 rfl) ?_
  refine bx_si C (kX3_isWord l x1) bx_B_true (fun _ _ _ => trivial) tw_methodLink_RX3_41_yX3_isWord mbX3_isWord rfl ⟨rfl, rfl⟩ ⟨Nat.le_of_ble_eq_true rfl, Nat.le_of_ble_eq_true rfl⟩ ⟨Nat.zero_le _, Nat.zero_le _⟩ hl.1 rfl (Nat.le_of_ble_eq_true rfl) dX3_replaced_7 ?_
  refine lv_if_eq (tgt := 20) hx hb dX3_replaced_10 (by decide) (fun c1 => ?_) (fun c1 => ?_)
  · rw [if_pos c1] at hq
    refine lv_iload_n hx hb dX3_replaced_20 rfl (lv_at hl 0 rfl) ?_
    exact hx_iret (Wf := (fun u => pg_W h0 r cA uf u)) (post := post) (v := (fX3_wordAt ua x1)) (u := ua) hx hb hr hlocks hw hq dX3_replaced_21
  · rw [if_neg c1] at hq
    refine lv_aload_n hx hb dX3_replaced_13 rfl (lv_at hl 1 rfl) ?_
    refine hx_get (v := .ref (r 0)) hx hb hts inX3 hown hw.1 hw.2.2.2.1 0 rfl rfl 0 (by decide) tw_fieldLink_RX3_11_GlulxFloats_Program_words_I rfl rfl dX3_replaced_14 ?_
    refine lv_iload_n hx hb dX3_replaced_17 rfl (lv_at hl 2 rfl) ?_
    refine lv_iload_n hx hb dX3_replaced_18 rfl (lv_at hl 3 rfl) ?_
    refine hx_iast (ws' := (pg_W h0 r cA uf (va_up ua 0 (upd (ua 0) x1.toNatClampNeg x2)))) hx hb hw 1 0 rfl rfl (sd_word (by assumption)) dX3_replaced_19 rfl (fun H locs hw => ?_)
    refine lv_iload_n hx hb dX3_replaced_20 rfl (lv_at hl 0 rfl) ?_
    exact hx_iret (Wf := (fun u => pg_W h0 r cA uf u)) (post := post) (v := (fX3_wordAt ua x1)) (u := (va_up ua 0 (upd (ua 0) x1.toNatClampNeg x2))) hx hb hr hlocks hw hq dX3_replaced_21
theorem kX3_replaced (l : Launch) (dC : Nat → ClassId) (dI : Nat → Nat → Nat) (h0 : Nat) (r : Nat → Nat) (cA : Nat → ClassId) (sz : Nat) (uf : Nat → Int32) (ua : Nat → Nat → Int32) (x1 : Int32) (x2 : Int32) : Met l yX3_replaced (Cond.code yX3_replaced cX3_replaced 4 (some .int) :: bw) rmX3_replaced (hPc [.ref h0, .int x1, .int x2] (dC, dI) (pg_T cA) (pg_W h0 r cA uf ua) sz (fun _ => True)) (va_Qi (fun r u => (r, u) = fX3_replaced ua x1 x2) (hBk (dC, dI) (pg_T cA) (va_A (pg_W h0 r cA uf ua) sz) (fun u => pg_W h0 r cA uf u)) (va_A (pg_W h0 r cA uf ua) sz)) 0 0 (va_A (pg_W h0 r cA uf ua) sz) := by
  refine hx_ent (by decide) _ _ (Nat.le_of_ble_eq_true rfl) rfl ?_
  intro p e s m below meth c ls C hl hw hsz _
  exact bX3_replaced_0 ua x1 x2 C hl hw (fun q => q = fX3_replaced ua x1 x2) rfl
def fX3_add (uf : Nat → Int32) (ua : Nat → Nat → Int32) (x1 : Int32) (x2 : Int32) (x3 : Int32) (x4 : Int32) (x5 : Int32) : Int32 × ((Nat → Int32) × (Nat → Nat → Int32)) :=
  if (fX3_isStep (uf 6)) = 0 then ((-104 : Int32), (uf, ua))
  else (((uf 6) + (1 : Int32)), ((va_up uf 6 ((uf 6) + (1 : Int32))), (va_up (va_up (va_up (va_up (va_up ua 1 (upd (ua 1) (uf 6).toNatClampNeg x1)) 2 (upd (ua 2) (uf 6).toNatClampNeg x2)) 3 (upd (ua 3) (uf 6).toNatClampNeg x3)) 4 (upd (ua 4) (uf 6).toNatClampNeg x4)) 5 (upd (ua 5) (uf 6).toNatClampNeg x5))))
abbrev rmX3_add : Room := { frames := 1, cells := 0, slots := 0, locals := 20 }
theorem mbX3_add : mb_V RX3 yX3_add cX3_add 6 (some .int) 5 := ⟨⟨tw_instanceMethod_yX3_add, tw_selects_RX3_yX3_add_yX3_add, tw_initialized_RX3, tw_code_yX3_add⟩, rfl, by decide +kernel, by decide +kernel, by decide +kernel⟩
set_option maxRecDepth 20000 in
theorem bX3_add_0 (uf : Nat → Int32) (ua : Nat → Nat → Int32) (x1 : Int32) (x2 : Int32) (x3 : Int32) (x4 : Int32) (x5 : Int32) {p : Program} {l : Launch} {e : Env} {s : State} {m : MethodId} {args : Array Value} {below : List Frame} {meth : Method} {c : Code} {dC : Nat → ClassId} {dI : Nat → Nat → Nat} {r : Nat → Nat} {cA : Nat → ClassId} {Rg : Nat → Prop} {H : Heap} {locs : List Loc} {h0 : Nat} {ls : Array Slot} (C : bx_C p s m args meth c cX3_add 6 (some .int) RX3) (hl : lv_has ls 6 [(0, .ref h0), (1, .int x1), (2, .int x2), (3, .int x3), (4, .int x4), (5, .int x5)]) (hw : hW (dC, dI) (pg_T cA) Rg s H locs (pg_W h0 r cA uf ua)) (post : (Int32 × ((Nat → Int32) × (Nat → Nat → Int32))) → Prop) (hq : post (fX3_add uf ua x1 x2 x3 x4 x5)) : W p l e rmX3_add s m args below meth c H locs 0 0 (MQ below (va_Qi (fun r u => post (r, u)) (hBk (dC, dI) (pg_T cA) Rg (fun u => pg_W h0 r cA u.1 u.2)) Rg) args s 0 0 Rg) (F0 m 0 ls []) := by
  obtain ⟨hx, hb, hml, hr, hlocks, hown, hts⟩ := id C
  unfold fX3_add at hq
  refine lv_aload_n hx hb dX3_add_0 rfl (lv_at hl 0 rfl) ?_
  refine hx_get (v := .int (uf 6)) hx hb hts inX3 hown hw.1 hw.2.2.2.1 0 rfl rfl 6 (by decide) tw_fieldLink_RX3_51_GlulxFloats_Program_count_I rfl rfl dX3_add_1 ?_
  refine bx_si C (kX3_isStep l (uf 6)) bx_B_true (fun _ _ _ => trivial) tw_methodLink_RX3_44_yX3_isStep mbX3_isStep rfl ⟨rfl, rfl⟩ ⟨Nat.le_of_ble_eq_true rfl, Nat.le_of_ble_eq_true rfl⟩ ⟨Nat.zero_le _, Nat.zero_le _⟩ hl.1 rfl (Nat.le_of_ble_eq_true rfl) dX3_add_4 ?_
  refine lv_if_ne (tgt := 13) hx hb dX3_add_7 (by decide) (fun c1 => ?_) (fun c1 => ?_)
  · rw [if_neg c1] at hq
    refine lv_aload_n hx hb dX3_add_13 rfl (lv_at hl 0 rfl) ?_
    refine hx_get (v := .ref (r 1)) hx hb hts inX3 hown hw.1 hw.2.2.2.1 0 rfl rfl 1 (by decide) tw_fieldLink_RX3_15_GlulxFloats_Program_codes_I rfl rfl dX3_add_14 ?_
    refine lv_aload_n hx hb dX3_add_17 rfl (lv_at hl 0 rfl) ?_
    refine hx_get (v := .int (uf 6)) hx hb hts inX3 hown hw.1 hw.2.2.2.1 0 rfl rfl 6 (by decide) tw_fieldLink_RX3_51_GlulxFloats_Program_count_I rfl rfl dX3_add_18 ?_
    refine lv_iload_n hx hb dX3_add_21 rfl (lv_at hl 1 rfl) ?_
    refine hx_iast (ws' := (pg_W h0 r cA uf (va_up ua 1 (upd (ua 1) (uf 6).toNatClampNeg x1)))) hx hb hw 2 1 rfl rfl (sd_step (by assumption)) dX3_add_22 rfl (fun H locs hw => ?_)
    refine lv_aload_n hx hb dX3_add_23 rfl (lv_at hl 0 rfl) ?_
    refine hx_get (v := .ref (r 2)) hx hb hts inX3 hown hw.1 hw.2.2.2.1 0 rfl rfl 2 (by decide) tw_fieldLink_RX3_18_GlulxFloats_Program_ts_I rfl rfl dX3_add_24 ?_
    refine lv_aload_n hx hb dX3_add_27 rfl (lv_at hl 0 rfl) ?_
    refine hx_get (v := .int (uf 6)) hx hb hts inX3 hown hw.1 hw.2.2.2.1 0 rfl rfl 6 (by decide) tw_fieldLink_RX3_51_GlulxFloats_Program_count_I rfl rfl dX3_add_28 ?_
    refine lv_iload_n hx hb dX3_add_31 rfl (lv_at hl 2 rfl) ?_
    refine hx_iast (ws' := (pg_W h0 r cA uf (va_up (va_up ua 1 (upd (ua 1) (uf 6).toNatClampNeg x1)) 2 (upd (ua 2) (uf 6).toNatClampNeg x2)))) hx hb hw 3 2 rfl rfl (sd_step (by assumption)) dX3_add_32 rfl (fun H locs hw => ?_)
    refine lv_aload_n hx hb dX3_add_33 rfl (lv_at hl 0 rfl) ?_
    refine hx_get (v := .ref (r 3)) hx hb hts inX3 hown hw.1 hw.2.2.2.1 0 rfl rfl 3 (by decide) tw_fieldLink_RX3_21_GlulxFloats_Program_xs_I rfl rfl dX3_add_34 ?_
    refine lv_aload_n hx hb dX3_add_37 rfl (lv_at hl 0 rfl) ?_
    refine hx_get (v := .int (uf 6)) hx hb hts inX3 hown hw.1 hw.2.2.2.1 0 rfl rfl 6 (by decide) tw_fieldLink_RX3_51_GlulxFloats_Program_count_I rfl rfl dX3_add_38 ?_
    refine lv_iload_n hx hb dX3_add_41 rfl (lv_at hl 3 rfl) ?_
    refine hx_iast (ws' := (pg_W h0 r cA uf (va_up (va_up (va_up ua 1 (upd (ua 1) (uf 6).toNatClampNeg x1)) 2 (upd (ua 2) (uf 6).toNatClampNeg x2)) 3 (upd (ua 3) (uf 6).toNatClampNeg x3)))) hx hb hw 4 3 rfl rfl (sd_step (by assumption)) dX3_add_42 rfl (fun H locs hw => ?_)
    refine lv_aload_n hx hb dX3_add_43 rfl (lv_at hl 0 rfl) ?_
    refine hx_get (v := .ref (r 4)) hx hb hts inX3 hown hw.1 hw.2.2.2.1 0 rfl rfl 4 (by decide) tw_fieldLink_RX3_24_GlulxFloats_Program_ys_I rfl rfl dX3_add_44 ?_
    refine lv_aload_n hx hb dX3_add_47 rfl (lv_at hl 0 rfl) ?_
    refine hx_get (v := .int (uf 6)) hx hb hts inX3 hown hw.1 hw.2.2.2.1 0 rfl rfl 6 (by decide) tw_fieldLink_RX3_51_GlulxFloats_Program_count_I rfl rfl dX3_add_48 ?_
    refine lv_iload hx hb dX3_add_51 (lv_at hl 4 rfl) ?_
    refine hx_iast (ws' := (pg_W h0 r cA uf (va_up (va_up (va_up (va_up ua 1 (upd (ua 1) (uf 6).toNatClampNeg x1)) 2 (upd (ua 2) (uf 6).toNatClampNeg x2)) 3 (upd (ua 3) (uf 6).toNatClampNeg x3)) 4 (upd (ua 4) (uf 6).toNatClampNeg x4)))) hx hb hw 5 4 rfl rfl (sd_step (by assumption)) dX3_add_53 rfl (fun H locs hw => ?_)
    refine lv_aload_n hx hb dX3_add_54 rfl (lv_at hl 0 rfl) ?_
    refine hx_get (v := .ref (r 5)) hx hb hts inX3 hown hw.1 hw.2.2.2.1 0 rfl rfl 5 (by decide) tw_fieldLink_RX3_27_GlulxFloats_Program_zs_I rfl rfl dX3_add_55 ?_
    refine lv_aload_n hx hb dX3_add_58 rfl (lv_at hl 0 rfl) ?_
    refine hx_get (v := .int (uf 6)) hx hb hts inX3 hown hw.1 hw.2.2.2.1 0 rfl rfl 6 (by decide) tw_fieldLink_RX3_51_GlulxFloats_Program_count_I rfl rfl dX3_add_59 ?_
    refine lv_iload hx hb dX3_add_62 (lv_at hl 5 rfl) ?_
    refine hx_iast (ws' := (pg_W h0 r cA uf (va_up (va_up (va_up (va_up (va_up ua 1 (upd (ua 1) (uf 6).toNatClampNeg x1)) 2 (upd (ua 2) (uf 6).toNatClampNeg x2)) 3 (upd (ua 3) (uf 6).toNatClampNeg x3)) 4 (upd (ua 4) (uf 6).toNatClampNeg x4)) 5 (upd (ua 5) (uf 6).toNatClampNeg x5)))) hx hb hw 6 5 rfl rfl (sd_step (by assumption)) dX3_add_64 rfl (fun H locs hw => ?_)
    refine lv_aload_n hx hb dX3_add_65 rfl (lv_at hl 0 rfl) ?_
    refine lv_dup hx hb dX3_add_66 rfl ?_
    refine hx_get (v := .int (uf 6)) hx hb hts inX3 hown hw.1 hw.2.2.2.1 0 rfl rfl 6 (by decide) tw_fieldLink_RX3_51_GlulxFloats_Program_count_I rfl rfl dX3_add_67 ?_
    refine lv_iconst (v := 1) hx hb dX3_add_70 (by decide) ?_
    refine lv_iadd hx hb dX3_add_71 ?_
    refine hx_put (ws' := (pg_W h0 r cA (va_up uf 6 ((uf 6) + (1 : Int32))) (va_up (va_up (va_up (va_up (va_up ua 1 (upd (ua 1) (uf 6).toNatClampNeg x1)) 2 (upd (ua 2) (uf 6).toNatClampNeg x2)) 3 (upd (ua 3) (uf 6).toNatClampNeg x3)) 4 (upd (ua 4) (uf 6).toNatClampNeg x4)) 5 (upd (ua 5) (uf 6).toNatClampNeg x5)))) hx hb hts inX3 tyX3 tyX3_ok nmX3 hown hw 0 rfl rfl 6 (by decide) tw_fieldLink_RX3_51_GlulxFloats_Program_count_I rfl rfl (by decide +kernel) (Nat.le_of_ble_eq_true rfl) dX3_add_72 rfl (fun H locs hw => ?_)
    refine lv_aload_n hx hb dX3_add_75 rfl (lv_at hl 0 rfl) ?_
    refine hx_get (v := .int ((uf 6) + (1 : Int32))) hx hb hts inX3 hown hw.1 hw.2.2.2.1 0 rfl rfl 6 (by decide) tw_fieldLink_RX3_51_GlulxFloats_Program_count_I rfl rfl dX3_add_76 ?_
    exact hx_iret (Wf := (fun u => pg_W h0 r cA u.1 u.2)) (post := post) (v := ((uf 6) + (1 : Int32))) (u := ((va_up uf 6 ((uf 6) + (1 : Int32))), (va_up (va_up (va_up (va_up (va_up ua 1 (upd (ua 1) (uf 6).toNatClampNeg x1)) 2 (upd (ua 2) (uf 6).toNatClampNeg x2)) 3 (upd (ua 3) (uf 6).toNatClampNeg x3)) 4 (upd (ua 4) (uf 6).toNatClampNeg x4)) 5 (upd (ua 5) (uf 6).toNatClampNeg x5)))) hx hb hr hlocks hw hq dX3_add_79
  · rw [if_pos c1] at hq
    refine lv_bipush (v := -104) hx hb dX3_add_10 (by decide) ?_
    exact hx_iret (Wf := (fun u => pg_W h0 r cA u.1 u.2)) (post := post) (v := (-104 : Int32)) (u := (uf, ua)) hx hb hr hlocks hw hq dX3_add_12
theorem kX3_add (l : Launch) (dC : Nat → ClassId) (dI : Nat → Nat → Nat) (h0 : Nat) (r : Nat → Nat) (cA : Nat → ClassId) (sz : Nat) (uf : Nat → Int32) (ua : Nat → Nat → Int32) (x1 : Int32) (x2 : Int32) (x3 : Int32) (x4 : Int32) (x5 : Int32) : Met l yX3_add (Cond.code yX3_add cX3_add 6 (some .int) :: bw) rmX3_add (hPc [.ref h0, .int x1, .int x2, .int x3, .int x4, .int x5] (dC, dI) (pg_T cA) (pg_W h0 r cA uf ua) sz (fun _ => True)) (va_Qi (fun r u => (r, u) = fX3_add uf ua x1 x2 x3 x4 x5) (hBk (dC, dI) (pg_T cA) (va_A (pg_W h0 r cA uf ua) sz) (fun u => pg_W h0 r cA u.1 u.2)) (va_A (pg_W h0 r cA uf ua) sz)) 0 0 (va_A (pg_W h0 r cA uf ua) sz) := by
  refine hx_ent (by decide) _ _ (Nat.le_of_ble_eq_true rfl) rfl ?_
  intro p e s m below meth c ls C hl hw hsz _
  exact bX3_add_0 uf ua x1 x2 x3 x4 x5 C hl hw (fun q => q = fX3_add uf ua x1 x2 x3 x4 x5) rfl
def fX3_forgetSteps (uf : Nat → Int32) : Int32 × (Nat → Int32) :=
  ((uf 6), (va_up uf 6 (0 : Int32)))
abbrev rmX3_forgetSteps : Room := { frames := 0, cells := 0, slots := 0, locals := 0 }
theorem mbX3_forgetSteps : mb_V RX3 yX3_forgetSteps cX3_forgetSteps 2 (some .int) 0 := ⟨⟨tw_instanceMethod_yX3_forgetSteps, tw_selects_RX3_yX3_forgetSteps_yX3_forgetSteps, tw_initialized_RX3, tw_code_yX3_forgetSteps⟩, rfl, by decide +kernel, by decide +kernel, by decide +kernel⟩
set_option maxRecDepth 20000 in
theorem bX3_forgetSteps_0 (uf : Nat → Int32) {p : Program} {l : Launch} {e : Env} {s : State} {m : MethodId} {args : Array Value} {below : List Frame} {meth : Method} {c : Code} {dC : Nat → ClassId} {dI : Nat → Nat → Nat} {r : Nat → Nat} {cA : Nat → ClassId} {Rg : Nat → Prop} {H : Heap} {locs : List Loc} {ua : Nat → Nat → Int32} {h0 : Nat} {ls : Array Slot} (C : bx_C p s m args meth c cX3_forgetSteps 2 (some .int) RX3) (hl : lv_has ls 2 [(0, .ref h0)]) (hw : hW (dC, dI) (pg_T cA) Rg s H locs (pg_W h0 r cA uf ua)) (post : (Int32 × (Nat → Int32)) → Prop) (hq : post (fX3_forgetSteps uf)) : W p l e rmX3_forgetSteps s m args below meth c H locs 0 0 (MQ below (va_Qi (fun r u => post (r, u)) (hBk (dC, dI) (pg_T cA) Rg (fun u => pg_W h0 r cA u ua)) Rg) args s 0 0 Rg) (F0 m 0 ls []) := by
  obtain ⟨hx, hb, hml, hr, hlocks, hown, hts⟩ := id C
  unfold fX3_forgetSteps at hq
  refine lv_aload_n hx hb dX3_forgetSteps_0 rfl (lv_at hl 0 rfl) ?_
  refine hx_get (v := .int (uf 6)) hx hb hts inX3 hown hw.1 hw.2.2.2.1 0 rfl rfl 6 (by decide) tw_fieldLink_RX3_51_GlulxFloats_Program_count_I rfl rfl dX3_forgetSteps_1 ?_
  refine lv_istore_n (lv' := [(1, .int (uf 6)), (0, .ref h0)]) hx hb dX3_forgetSteps_4 rfl hl (by decide) rfl (fun ls hl => ?_)
  refine lv_aload_n hx hb dX3_forgetSteps_5 rfl (lv_at hl 1 rfl) ?_
  refine lv_iconst (v := 0) hx hb dX3_forgetSteps_6 (by decide) ?_
  refine hx_put (ws' := (pg_W h0 r cA (va_up uf 6 (0 : Int32)) ua)) hx hb hts inX3 tyX3 tyX3_ok nmX3 hown hw 0 rfl rfl 6 (by decide) tw_fieldLink_RX3_51_GlulxFloats_Program_count_I rfl rfl (by decide +kernel) (Nat.le_of_ble_eq_true rfl) dX3_forgetSteps_7 rfl (fun H locs hw => ?_)
  refine lv_iload_n hx hb dX3_forgetSteps_10 rfl (lv_at hl 0 rfl) ?_
  exact hx_iret (Wf := (fun u => pg_W h0 r cA u ua)) (post := post) (v := (uf 6)) (u := (va_up uf 6 (0 : Int32))) hx hb hr hlocks hw hq dX3_forgetSteps_11
theorem kX3_forgetSteps (l : Launch) (dC : Nat → ClassId) (dI : Nat → Nat → Nat) (h0 : Nat) (r : Nat → Nat) (cA : Nat → ClassId) (sz : Nat) (uf : Nat → Int32) (ua : Nat → Nat → Int32) : Met l yX3_forgetSteps (Cond.code yX3_forgetSteps cX3_forgetSteps 2 (some .int) :: bw) rmX3_forgetSteps (hPc [.ref h0] (dC, dI) (pg_T cA) (pg_W h0 r cA uf ua) sz (fun _ => True)) (va_Qi (fun r u => (r, u) = fX3_forgetSteps uf) (hBk (dC, dI) (pg_T cA) (va_A (pg_W h0 r cA uf ua) sz) (fun u => pg_W h0 r cA u ua)) (va_A (pg_W h0 r cA uf ua) sz)) 0 0 (va_A (pg_W h0 r cA uf ua) sz) := by
  refine hx_ent (by decide) _ _ (Nat.le_of_ble_eq_true rfl) rfl ?_
  intro p e s m below meth c ls C hl hw hsz _
  exact bX3_forgetSteps_0 uf C hl hw (fun q => q = fX3_forgetSteps uf) rfl
def gX3_forgetAll_2 : Nat → (Nat → Nat → Int32) → Int32 → (Nat → Nat → Int32) × Int32
  | 0, ua, x1 => (ua, x1)
  | n + 1, ua, x1 =>
  if (16 : Int32) ≤ x1 then (ua, x1)
  else gX3_forgetAll_2 n (va_up ua 0 (upd (ua 0) x1.toNatClampNeg (0 : Int32))) (x1 + 1)
def fX3_forgetAll_21 (uf : Nat → Int32) (ua : Nat → Nat → Int32) : Int32 × ((Nat → Int32) × (Nat → Nat → Int32)) :=
  ((fX3_forgetSteps (va_up uf 7 (-109 : Int32))).1, ((fX3_forgetSteps (va_up uf 7 (-109 : Int32))).2, ua))
def fX3_forgetAll (uf : Nat → Int32) (ua : Nat → Nat → Int32) : Int32 × ((Nat → Int32) × (Nat → Nat → Int32)) :=
  fX3_forgetAll_21 uf ((gX3_forgetAll_2 (Nat.succ ((Int32.toInt (16) - Int32.toInt (0 : Int32)).toNat)) ua (0 : Int32)).1)
abbrev rmX3_forgetAll : Room := { frames := 1, cells := 0, slots := 0, locals := 21 }
theorem mbX3_forgetAll : mb_V RX3 yX3_forgetAll cX3_forgetAll 2 (some .int) 0 := ⟨⟨tw_instanceMethod_yX3_forgetAll, tw_selects_RX3_yX3_forgetAll_yX3_forgetAll, tw_initialized_RX3, tw_code_yX3_forgetAll⟩, rfl, by decide +kernel, by decide +kernel, by decide +kernel⟩
set_option maxRecDepth 20000 in
theorem lX3_forgetAll_2 {p : Program} {l : Launch} {e : Env} {s : State} {m : MethodId} {args : Array Value} {below : List Frame} {meth : Method} {c : Code} {dC : Nat → ClassId} {dI : Nat → Nat → Nat} {r : Nat → Nat} {cA : Nat → ClassId} {Rg : Nat → Prop} {uf : Nat → Int32} {h0 : Nat} {Q : State → Prop} (C : bx_C p s m args meth c cX3_forgetAll 2 (some .int) RX3) (post : ((Nat → Nat → Int32) × Int32) → Prop) (kx : ∀ (oua : Nat → Nat → Int32) (o1 : Int32) (ls : Array Slot) (H : Heap) (locs : List Loc), (0 ≤ Int32.toInt o1) → lv_has ls 2 [(0, .ref h0), (1, .int o1)] → hW (dC, dI) (pg_T cA) Rg s H locs (pg_W h0 r cA uf oua) → post (oua, o1) → W p l e rmX3_forgetAll s m args below meth c H locs 0 0 Q (F0 m 21 ls [])) :
    ∀ (n : Nat) (ua : Nat → Nat → Int32) (x1 : Int32) (ls : Array Slot) (H : Heap) (locs : List Loc), (Int32.toInt (16) - Int32.toInt x1).toNat < n → (0 ≤ Int32.toInt x1) → lv_has ls 2 [(0, .ref h0), (1, .int x1)] → hW (dC, dI) (pg_T cA) Rg s H locs (pg_W h0 r cA uf ua) → post (gX3_forgetAll_2 n ua x1) → W p l e rmX3_forgetAll s m args below meth c H locs 0 0 Q (F0 m 2 ls []) := by
  obtain ⟨hx, hb, hml, hr, hlocks, hown, hts⟩ := id C
  intro n
  induction n with
  | zero =>
    intro ua x1 ls H locs hm
    exact absurd hm (Nat.not_lt_zero _)
  | succ n ih =>
    intro ua x1 ls H locs hm hi hl hw hq
    rw [gX3_forgetAll_2] at hq
    refine lv_iload_n hx hb dX3_forgetAll_2 rfl (lv_at hl 1 rfl) ?_
    refine lv_bipush (v := 16) hx hb dX3_forgetAll_3 (by decide) ?_
    refine lv_icmp_ge (tgt := 21) hx hb dX3_forgetAll_5 (by decide) (fun c1 => ?_) (fun c1 => ?_)
    · rw [if_pos c1] at hq
      exact kx ua x1 _ _ _ hi (lv_sub hl [0, 1] rfl) hw hq
    · rw [if_neg c1] at hq
      refine lv_aload_n hx hb dX3_forgetAll_8 rfl (lv_at hl 0 rfl) ?_
      refine hx_get (v := .ref (r 0)) hx hb hts inX3 hown hw.1 hw.2.2.2.1 0 rfl rfl 0 (by decide) tw_fieldLink_RX3_11_GlulxFloats_Program_words_I rfl rfl dX3_forgetAll_9 ?_
      refine lv_iload_n hx hb dX3_forgetAll_12 rfl (lv_at hl 1 rfl) ?_
      refine lv_iconst (v := 0) hx hb dX3_forgetAll_13 (by decide) ?_
      refine hx_iast (ws' := (pg_W h0 r cA uf (va_up ua 0 (upd (ua 0) x1.toNatClampNeg (0 : Int32))))) hx hb hw 1 0 rfl rfl (by first | assumption | exact vi_lt hi (by assumption) (by decide)) dX3_forgetAll_14 rfl (fun H locs hw => ?_)
      refine lv_iinc (v := (x1 + 1)) (lv' := [(1, .int (x1 + 1)), (0, .ref h0)]) hx hb dX3_forgetAll_15 hl (k := 1) rfl rfl (by decide) rfl (fun ls hl => ?_)
      refine lv_goto (tgt := 2) hx hb dX3_forgetAll_18 (by decide) ?_
      exact ih (va_up ua 0 (upd (ua 0) x1.toNatClampNeg (0 : Int32))) (x1 + 1) _ _ _ (lp_up (by assumption) hm) (li_up (by assumption) hi) (lv_sub hl [1, 0] rfl) hw hq
set_option maxRecDepth 20000 in
theorem bX3_forgetAll_21 (uf : Nat → Int32) (ua : Nat → Nat → Int32) {p : Program} {l : Launch} {e : Env} {s : State} {m : MethodId} {args : Array Value} {below : List Frame} {meth : Method} {c : Code} {dC : Nat → ClassId} {dI : Nat → Nat → Nat} {r : Nat → Nat} {cA : Nat → ClassId} {Rg : Nat → Prop} {H : Heap} {locs : List Loc} {h0 : Nat} {ls : Array Slot} (C : bx_C p s m args meth c cX3_forgetAll 2 (some .int) RX3) (hl : lv_has ls 2 [(0, .ref h0)]) (hw : hW (dC, dI) (pg_T cA) Rg s H locs (pg_W h0 r cA uf ua)) (post : (Int32 × ((Nat → Int32) × (Nat → Nat → Int32))) → Prop) (hq : post (fX3_forgetAll_21 uf ua)) : W p l e rmX3_forgetAll s m args below meth c H locs 0 0 (MQ below (va_Qi (fun r u => post (r, u)) (hBk (dC, dI) (pg_T cA) Rg (fun u => pg_W h0 r cA u.1 u.2)) Rg) args s 0 0 Rg) (F0 m 21 ls []) := by
  obtain ⟨hx, hb, hml, hr, hlocks, hown, hts⟩ := id C
  unfold fX3_forgetAll_21 at hq
  refine lv_aload_n hx hb dX3_forgetAll_21 rfl (lv_at hl 0 rfl) ?_
  refine lv_bipush (v := -109) hx hb dX3_forgetAll_22 (by decide) ?_
  refine hx_put (ws' := (pg_W h0 r cA (va_up uf 7 (-109 : Int32)) ua)) hx hb hts inX3 tyX3 tyX3_ok nmX3 hown hw 0 rfl rfl 7 (by decide) tw_fieldLink_RX3_30_GlulxFloats_Program_goesOnAt_I rfl rfl (by decide +kernel) (Nat.le_of_ble_eq_true rfl) dX3_forgetAll_24 rfl (fun H locs hw => ?_)
  refine lv_aload_n hx hb dX3_forgetAll_27 rfl (lv_at hl 0 rfl) ?_
  refine hx_ci (Wf := (fun u => pg_W h0 r cA u ua)) (u0 := (va_up uf 7 (-109 : Int32))) (F := (fX3_forgetSteps (va_up uf 7 (-109 : Int32)))) C (fun sz => kX3_forgetSteps l dC dI h0 r cA sz (va_up uf 7 (-109 : Int32)) ua) (fun _ => bx_B_true) (fun _ _ _ => trivial) hw rfl rfl tw_methodLink_RX3_54_yX3_forgetSteps mbX3_forgetSteps rfl ⟨rfl, rfl⟩ ⟨Nat.le_of_ble_eq_true rfl, Nat.le_of_ble_eq_true rfl⟩ ⟨Nat.zero_le _, Nat.zero_le _⟩ hl.1 rfl (Nat.le_of_ble_eq_true rfl) dX3_forgetAll_28 (fun H locs hw => ?_)
  have hw : hW (dC, dI) (pg_T cA) Rg s H locs (pg_W h0 r cA ((fX3_forgetSteps (va_up uf 7 (-109 : Int32))).2) ua) := hw
  exact hx_iret (Wf := (fun u => pg_W h0 r cA u.1 u.2)) (post := post) (v := (fX3_forgetSteps (va_up uf 7 (-109 : Int32))).1) (u := ((fX3_forgetSteps (va_up uf 7 (-109 : Int32))).2, ua)) hx hb hr hlocks hw hq dX3_forgetAll_31
set_option maxRecDepth 20000 in
theorem bX3_forgetAll_0 (uf : Nat → Int32) (ua : Nat → Nat → Int32) {p : Program} {l : Launch} {e : Env} {s : State} {m : MethodId} {args : Array Value} {below : List Frame} {meth : Method} {c : Code} {dC : Nat → ClassId} {dI : Nat → Nat → Nat} {r : Nat → Nat} {cA : Nat → ClassId} {Rg : Nat → Prop} {H : Heap} {locs : List Loc} {h0 : Nat} {ls : Array Slot} (C : bx_C p s m args meth c cX3_forgetAll 2 (some .int) RX3) (hl : lv_has ls 2 [(0, .ref h0)]) (hw : hW (dC, dI) (pg_T cA) Rg s H locs (pg_W h0 r cA uf ua)) (post : (Int32 × ((Nat → Int32) × (Nat → Nat → Int32))) → Prop) (hq : post (fX3_forgetAll uf ua)) : W p l e rmX3_forgetAll s m args below meth c H locs 0 0 (MQ below (va_Qi (fun r u => post (r, u)) (hBk (dC, dI) (pg_T cA) Rg (fun u => pg_W h0 r cA u.1 u.2)) Rg) args s 0 0 Rg) (F0 m 0 ls []) := by
  obtain ⟨hx, hb, hml, hr, hlocks, hown, hts⟩ := id C
  unfold fX3_forgetAll at hq
  refine lv_iconst (v := 0) hx hb dX3_forgetAll_0 (by decide) ?_
  refine lv_istore_n (lv' := [(1, .int (0 : Int32)), (0, .ref h0)]) hx hb dX3_forgetAll_1 rfl hl (by decide) rfl (fun ls hl => ?_)
  exact lX3_forgetAll_2 C (fun t => post (fX3_forgetAll_21 uf t.1)) (fun oua o1 ls H locs hi hl hw hq => bX3_forgetAll_21 uf oua C (lv_sub hl [0] rfl) hw post hq) (Nat.succ ((Int32.toInt (16) - Int32.toInt (0 : Int32)).toNat)) ua (0 : Int32) _ _ _ (Nat.lt_succ_self _) (by decide) (lv_sub hl [1, 0] rfl) hw hq
theorem kX3_forgetAll (l : Launch) (dC : Nat → ClassId) (dI : Nat → Nat → Nat) (h0 : Nat) (r : Nat → Nat) (cA : Nat → ClassId) (sz : Nat) (uf : Nat → Int32) (ua : Nat → Nat → Int32) : Met l yX3_forgetAll (Cond.code yX3_forgetAll cX3_forgetAll 2 (some .int) :: bw) rmX3_forgetAll (hPc [.ref h0] (dC, dI) (pg_T cA) (pg_W h0 r cA uf ua) sz (fun _ => True)) (va_Qi (fun r u => (r, u) = fX3_forgetAll uf ua) (hBk (dC, dI) (pg_T cA) (va_A (pg_W h0 r cA uf ua) sz) (fun u => pg_W h0 r cA u.1 u.2)) (va_A (pg_W h0 r cA uf ua) sz)) 0 0 (va_A (pg_W h0 r cA uf ua) sz) := by
  refine hx_ent (by decide) _ _ (Nat.le_of_ble_eq_true rfl) rfl ?_
  intro p e s m below meth c ls C hl hw hsz _
  exact bX3_forgetAll_0 uf ua C hl hw (fun q => q = fX3_forgetAll uf ua) rfl
def fX3_isThere (uf : Nat → Int32) (x1 : Int32) : Int32 :=
  if (fX3_isStep x1) = 0 then (0 : Int32)
  else if (uf 6) ≤ x1 then (0 : Int32)
    else (1 : Int32)
theorem zX3_isThere (uf : Nat → Int32) (x1 : Int32) : ji_z (fX3_isThere uf x1) := by
  unfold fX3_isThere
  repeat' (first | with_reducible exact ji_z0 | with_reducible exact ji_z1 | with_reducible refine ji_z_ite ?_ ?_ | with_reducible assumption | with_reducible exact zX3_isStep ..)
abbrev rmX3_isThere : Room := { frames := 1, cells := 0, slots := 0, locals := 20 }
theorem mbX3_isThere : mb_V RX3 yX3_isThere cX3_isThere 2 (some .boolean) 1 := ⟨⟨tw_instanceMethod_yX3_isThere, tw_selects_RX3_yX3_isThere_yX3_isThere, tw_initialized_RX3, tw_code_yX3_isThere⟩, rfl, by decide +kernel, by decide +kernel, by decide +kernel⟩
set_option maxRecDepth 20000 in
theorem bX3_isThere_0 (uf : Nat → Int32) (x1 : Int32) {p : Program} {l : Launch} {e : Env} {s : State} {m : MethodId} {args : Array Value} {below : List Frame} {meth : Method} {c : Code} {dC : Nat → ClassId} {dI : Nat → Nat → Nat} {r : Nat → Nat} {cA : Nat → ClassId} {ua : Nat → Nat → Int32} {h0 : Nat} {ls : Array Slot} (C : bx_C p s m args meth c cX3_isThere 2 (some .boolean) RX3) (hK0 : rd_K (dC, dI) (pg_T cA) (pg_W h0 r cA uf ua) s) (hl : lv_has ls 2 [(0, .ref h0), (1, .int x1)]) (post : (Int32) → Prop) (hq : post (fX3_isThere uf x1)) : W p l e rmX3_isThere s m args below meth c s.heap [] 0 0 (MQ below (vp_Si post) args s 0 0 (fun _ => False)) (F0 m 0 ls []) := by
  obtain ⟨hx, hb, hml, hr, hlocks, hown, hts⟩ := id C
  unfold fX3_isThere at hq
  refine lv_iload_n hx hb dX3_isThere_0 rfl (lv_at hl 1 rfl) ?_
  refine bx_si C (kX3_isStep l x1) bx_B_true (fun _ _ _ => trivial) tw_methodLink_RX3_44_yX3_isStep mbX3_isStep rfl ⟨rfl, rfl⟩ ⟨Nat.le_of_ble_eq_true rfl, Nat.le_of_ble_eq_true rfl⟩ ⟨Nat.zero_le _, Nat.zero_le _⟩ hl.1 rfl (Nat.le_of_ble_eq_true rfl) dX3_isThere_1 ?_
  refine lv_if_eq (tgt := 19) hx hb dX3_isThere_4 (by decide) (fun c1 => ?_) (fun c1 => ?_)
  · rw [if_pos c1] at hq
    refine lv_iconst (v := 0) hx hb dX3_isThere_19 (by decide) ?_
    exact W.zret (v := (0 : Int32)) hx hb hr (ji_z_narrow (by repeat' (first | with_reducible exact ji_z0 | with_reducible exact ji_z1 | with_reducible refine ji_z_ite ?_ ?_ | with_reducible assumption | with_reducible exact zX3_isStep ..))) (fun t ht hW => ⟨_, rfl, hq, ht⟩) (fun _ h => absurd h List.not_mem_nil) dX3_isThere_20
  · rw [if_neg c1] at hq
    refine lv_iload_n hx hb dX3_isThere_7 rfl (lv_at hl 1 rfl) ?_
    refine lv_aload_n hx hb dX3_isThere_8 rfl (lv_at hl 0 rfl) ?_
    refine hx_get (v := .int (uf 6)) hx hb hts inX3 hown hK0.1 hK0.2 0 rfl rfl 6 (by decide) tw_fieldLink_RX3_51_GlulxFloats_Program_count_I rfl rfl dX3_isThere_9 ?_
    refine lv_icmp_ge (tgt := 19) hx hb dX3_isThere_12 (by decide) (fun c2 => ?_) (fun c2 => ?_)
    · rw [if_pos c2] at hq
      refine lv_iconst (v := 0) hx hb dX3_isThere_19 (by decide) ?_
      exact W.zret (v := (0 : Int32)) hx hb hr (ji_z_narrow (by repeat' (first | with_reducible exact ji_z0 | with_reducible exact ji_z1 | with_reducible refine ji_z_ite ?_ ?_ | with_reducible assumption | with_reducible exact zX3_isStep ..))) (fun t ht hW => ⟨_, rfl, hq, ht⟩) (fun _ h => absurd h List.not_mem_nil) dX3_isThere_20
    · rw [if_neg c2] at hq
      refine lv_iconst (v := 1) hx hb dX3_isThere_15 (by decide) ?_
      refine lv_goto (tgt := 20) hx hb dX3_isThere_16 (by decide) ?_
      exact W.zret (v := (1 : Int32)) hx hb hr (ji_z_narrow (by repeat' (first | with_reducible exact ji_z0 | with_reducible exact ji_z1 | with_reducible refine ji_z_ite ?_ ?_ | with_reducible assumption | with_reducible exact zX3_isStep ..))) (fun t ht hW => ⟨_, rfl, hq, ht⟩) (fun _ h => absurd h List.not_mem_nil) dX3_isThere_20
theorem kX3_isThere (l : Launch) (dC : Nat → ClassId) (dI : Nat → Nat → Nat) (h0 : Nat) (r : Nat → Nat) (cA : Nat → ClassId) (uf : Nat → Int32) (ua : Nat → Nat → Int32) (x1 : Int32) : Met l yX3_isThere (Cond.code yX3_isThere cX3_isThere 2 (some .boolean) :: bw) rmX3_isThere (va_Pc [.ref h0, .int x1] (rd_K (dC, dI) (pg_T cA) (pg_W h0 r cA uf ua))) (vp_Si (fun r => r = fX3_isThere uf x1)) 0 0 (fun _ => False) := by
  refine bx_ent (by decide) _ _ (Nat.le_of_ble_eq_true rfl) rfl ?_
  intro p e s m below meth c ls C hl hK0
  exact bX3_isThere_0 uf x1 C hK0 hl _ rfl
def fX3_restAt (uf : Nat → Int32) (x1 : Int32) : Nat → Int32 :=
  if (fX3_isThere uf x1) = 0 then (va_up uf 7 (-109 : Int32))
  else (va_up uf 7 x1)
abbrev rmX3_restAt : Room := { frames := 2, cells := 0, slots := 0, locals := 41 }
theorem mbX3_restAt : mb_V RX3 yX3_restAt cX3_restAt 2 none 1 := ⟨⟨tw_instanceMethod_yX3_restAt, tw_selects_RX3_yX3_restAt_yX3_restAt, tw_initialized_RX3, tw_code_yX3_restAt⟩, rfl, by decide +kernel, by decide +kernel, by decide +kernel⟩
set_option maxRecDepth 20000 in
theorem bX3_restAt_0 (uf : Nat → Int32) (x1 : Int32) {p : Program} {l : Launch} {e : Env} {s : State} {m : MethodId} {args : Array Value} {below : List Frame} {meth : Method} {c : Code} {dC : Nat → ClassId} {dI : Nat → Nat → Nat} {r : Nat → Nat} {cA : Nat → ClassId} {Rg : Nat → Prop} {H : Heap} {locs : List Loc} {ua : Nat → Nat → Int32} {h0 : Nat} {ls : Array Slot} (C : bx_C p s m args meth c cX3_restAt 2 none RX3) (hl : lv_has ls 2 [(0, .ref h0), (1, .int x1)]) (hw : hW (dC, dI) (pg_T cA) Rg s H locs (pg_W h0 r cA uf ua)) (post : (Nat → Int32) → Prop) (hq : post (fX3_restAt uf x1)) : W p l e rmX3_restAt s m args below meth c H locs 0 0 (MQ below (va_Qv post (hBk (dC, dI) (pg_T cA) Rg (fun u => pg_W h0 r cA u ua)) Rg) args s 0 0 Rg) (F0 m 0 ls []) := by
  obtain ⟨hx, hb, hml, hr, hlocks, hown, hts⟩ := id C
  unfold fX3_restAt at hq
  refine lv_aload_n hx hb dX3_restAt_0 rfl (lv_at hl 0 rfl) ?_
  refine lv_aload_n hx hb dX3_restAt_1 rfl (lv_at hl 0 rfl) ?_
  refine lv_iload_n hx hb dX3_restAt_2 rfl (lv_at hl 1 rfl) ?_
  refine bx_vi C (kX3_isThere l dC dI h0 r cA uf ua x1) (rd_B _ _ _) (fun U u1 u2 => rd_of hw u1 u2) (fun U u1 u2 => hw_ob hw rfl rfl U u1 u2) tw_methodLink_RX3_58_yX3_isThere mbX3_isThere rfl ⟨rfl, rfl⟩ ⟨Nat.le_of_ble_eq_true rfl, Nat.le_of_ble_eq_true rfl⟩ ⟨Nat.zero_le _, Nat.zero_le _⟩ hl.1 rfl (Nat.le_of_ble_eq_true rfl) dX3_restAt_3 ?_
  refine lv_if_eq (tgt := 13) hx hb dX3_restAt_6 (by decide) (fun c1 => ?_) (fun c1 => ?_)
  · rw [if_pos c1] at hq
    refine lv_bipush (v := -109) hx hb dX3_restAt_13 (by decide) ?_
    refine hx_put (ws' := (pg_W h0 r cA (va_up uf 7 (-109 : Int32)) ua)) hx hb hts inX3 tyX3 tyX3_ok nmX3 hown hw 0 rfl rfl 7 (by decide) tw_fieldLink_RX3_30_GlulxFloats_Program_goesOnAt_I rfl rfl (by decide +kernel) (Nat.le_of_ble_eq_true rfl) dX3_restAt_15 rfl (fun H locs hw => ?_)
    exact hx_vret (Wf := (fun u => pg_W h0 r cA u ua)) (u := (va_up uf 7 (-109 : Int32))) hx hb hr hlocks hw hq dX3_restAt_18
  · rw [if_neg c1] at hq
    refine lv_iload_n hx hb dX3_restAt_9 rfl (lv_at hl 1 rfl) ?_
    refine lv_goto (tgt := 15) hx hb dX3_restAt_10 (by decide) ?_
    refine hx_put (ws' := (pg_W h0 r cA (va_up uf 7 x1) ua)) hx hb hts inX3 tyX3 tyX3_ok nmX3 hown hw 0 rfl rfl 7 (by decide) tw_fieldLink_RX3_30_GlulxFloats_Program_goesOnAt_I rfl rfl (by decide +kernel) (Nat.le_of_ble_eq_true rfl) dX3_restAt_15 rfl (fun H locs hw => ?_)
    exact hx_vret (Wf := (fun u => pg_W h0 r cA u ua)) (u := (va_up uf 7 x1)) hx hb hr hlocks hw hq dX3_restAt_18
theorem kX3_restAt (l : Launch) (dC : Nat → ClassId) (dI : Nat → Nat → Nat) (h0 : Nat) (r : Nat → Nat) (cA : Nat → ClassId) (sz : Nat) (uf : Nat → Int32) (ua : Nat → Nat → Int32) (x1 : Int32) : Met l yX3_restAt (Cond.code yX3_restAt cX3_restAt 2 none :: bw) rmX3_restAt (hPc [.ref h0, .int x1] (dC, dI) (pg_T cA) (pg_W h0 r cA uf ua) sz (fun _ => True)) (va_Qv (fun u => u = fX3_restAt uf x1) (hBk (dC, dI) (pg_T cA) (va_A (pg_W h0 r cA uf ua) sz) (fun u => pg_W h0 r cA u ua)) (va_A (pg_W h0 r cA uf ua) sz)) 0 0 (va_A (pg_W h0 r cA uf ua) sz) := by
  refine hx_ent (by decide) _ _ (Nat.le_of_ble_eq_true rfl) rfl ?_
  intro p e s m below meth c ls C hl hw hsz _
  exact bX3_restAt_0 uf x1 C hl hw (fun u => u = fX3_restAt uf x1) rfl
