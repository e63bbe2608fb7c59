def fX5_put (uf : Nat → Int32) (ua : Nat → Nat → Int32) (x1 : Int32) : (Nat → Int32) × (Nat → Nat → Int32) :=
  ((va_up uf 11 ((uf 11) + (1 : Int32))), (va_up ua 10 (upd (ua 10) (uf 11).toNatClampNeg (ji_byte (ji_byte x1)))))
abbrev rmX5_put : Room := { frames := 0, cells := 0, slots := 0, locals := 0 }
theorem mbX5_put : mb_V RX5 yX5_put cX5_put 2 none 1 := ⟨⟨tw_instanceMethod_yX5_put, tw_selects_RX5_yX5_put_yX5_put, tw_initialized_RX5, tw_code_yX5_put⟩, rfl, by decide +kernel, by decide +kernel, by decide +kernel⟩
set_option maxRecDepth 20000 in
theorem bX5_put_0 (uf : Nat → Int32) (ua : Nat → Nat → Int32) (x1 : Int32) {p : Program} {l : Launch} {e : Env} {s : State} {m : MethodId} {args : Array Value} {below : List Frame} {meth : Method} {c : Code} {dC : Nat → ClassId} {dI : Nat → Nat → Nat} {r : Nat → Nat} {cA : Nat → ClassId} {Rg : Nat → Prop} {H : Heap} {locs : List Loc} {us : Nat → Int64} {h0 : Nat} {ls : Array Slot} (C : bx_C p s m args meth c cX5_put 2 none RX5) (hl : lv_has ls 2 [(0, .ref h0), (1, .int x1)]) (hw : hW (dC, dI) (md_T cA) Rg s H locs (md_W h0 r cA uf ua us)) (hp : vp_in (uf 11) 120) (post : ((Nat → Int32) × (Nat → Nat → Int32)) → Prop) (hq : post (fX5_put uf ua x1)) : W p l e rmX5_put s m args below meth c H locs 0 0 (MQ below (va_Qv post (hBk (dC, dI) (md_T cA) Rg (fun u => md_W h0 r cA u.1 u.2 us)) Rg) args s 0 0 Rg) (F0 m 0 ls []) := by
  obtain ⟨hx, hb, hml, hr, hlocks, hown, hts⟩ := id C
  unfold fX5_put at hq
  refine lv_aload_n hx hb dX5_put_0 rfl (lv_at hl 0 rfl) ?_
  refine hx_get (v := .ref (r 10)) hx hb hts inX5 hown hw.1 hw.2.2.2.1 0 rfl rfl 10 (by decide) tw_fieldLink_RX5_36_GlulxFloatsModel_out_B rfl rfl dX5_put_1 ?_
  refine lv_aload_n hx hb dX5_put_4 rfl (lv_at hl 0 rfl) ?_
  refine hx_get (v := .int (uf 11)) hx hb hts inX5 hown hw.1 hw.2.2.2.1 0 rfl rfl 11 (by decide) tw_fieldLink_RX5_245_GlulxFloatsModel_outSize_I rfl rfl dX5_put_5 ?_
  refine lv_iload_n hx hb dX5_put_8 rfl (lv_at hl 1 rfl) ?_
  refine bx_i2b hx hb dX5_put_9 ?_
  refine hx_bast (ws' := (md_W h0 r cA uf (va_up ua 10 (upd (ua 10) (uf 11).toNatClampNeg (ji_byte (ji_byte x1)))) us)) hx hb hw 8 7 rfl rfl hp dX5_put_10 rfl (fun H locs hw => ?_)
  refine lv_aload_n hx hb dX5_put_11 rfl (lv_at hl 0 rfl) ?_
  refine lv_dup hx hb dX5_put_12 rfl ?_
  refine hx_get (v := .int (uf 11)) hx hb hts inX5 hown hw.1 hw.2.2.2.1 0 rfl rfl 11 (by decide) tw_fieldLink_RX5_245_GlulxFloatsModel_outSize_I rfl rfl dX5_put_13 ?_
  refine lv_iconst (v := 1) hx hb dX5_put_16 (by decide) ?_
  refine lv_iadd hx hb dX5_put_17 ?_
  refine hx_put (ws' := (md_W h0 r cA (va_up uf 11 ((uf 11) + (1 : Int32))) (va_up ua 10 (upd (ua 10) (uf 11).toNatClampNeg (ji_byte (ji_byte x1)))) us)) hx hb hts inX5 tyX5 tyX5_ok nmX5 hown hw 0 rfl rfl 11 (by decide) tw_fieldLink_RX5_245_GlulxFloatsModel_outSize_I rfl rfl (by decide +kernel) (Nat.le_of_ble_eq_true rfl) dX5_put_18 rfl (fun H locs hw => ?_)
  exact hx_vret (Wf := (fun u => md_W h0 r cA u.1 u.2 us)) (u := ((va_up uf 11 ((uf 11) + (1 : Int32))), (va_up ua 10 (upd (ua 10) (uf 11).toNatClampNeg (ji_byte (ji_byte x1)))))) hx hb hr hlocks hw hq dX5_put_21
theorem kX5_put (l : Launch) (dC : Nat → ClassId) (dI : Nat → Nat → Nat) (h0 : Nat) (r : Nat → Nat) (cA : Nat → ClassId) (sz : Nat) (uf : Nat → Int32) (ua : Nat → Nat → Int32) (us : Nat → Int64) (x1 : Int32) (hp : vp_in (uf 11) 120) : Met l yX5_put (Cond.code yX5_put cX5_put 2 none :: bw) rmX5_put (hPc [.ref h0, .int x1] (dC, dI) (md_T cA) (md_W h0 r cA uf ua us) sz (fun _ => True)) (va_Qv (fun u => u = fX5_put uf ua x1) (hBk (dC, dI) (md_T cA) (va_A (md_W h0 r cA uf ua us) sz) (fun u => md_W h0 r cA u.1 u.2 us)) (va_A (md_W h0 r cA uf ua us) sz)) 0 0 (va_A (md_W h0 r cA uf ua us) sz) := by
  refine hx_ent (by decide) _ _ (Nat.le_of_ble_eq_true rfl) rfl ?_
  intro p e s m below meth c ls C hl hw hsz _
  exact bX5_put_0 uf ua x1 C hl hw hp (fun u => u = fX5_put uf ua x1) rfl
def fX5_putName (uf : Nat → Int32) (ua : Nat → Nat → Int32) (x1 : Int32) (x2 : Int32) (x3 : Int32) : (Nat → Int32) × (Nat → Nat → Int32) :=
  ((fX5_put ((fX5_put ((fX5_put uf ua x1).1) ((fX5_put uf ua x1).2) x2).1) ((fX5_put ((fX5_put uf ua x1).1) ((fX5_put uf ua x1).2) x2).2) x3).1, (fX5_put ((fX5_put ((fX5_put uf ua x1).1) ((fX5_put uf ua x1).2) x2).1) ((fX5_put ((fX5_put uf ua x1).1) ((fX5_put uf ua x1).2) x2).2) x3).2)
abbrev rmX5_putName : Room := { frames := 1, cells := 0, slots := 0, locals := 21 }
theorem mbX5_putName : mb_V RX5 yX5_putName cX5_putName 4 none 3 := ⟨⟨tw_instanceMethod_yX5_putName, tw_selects_RX5_yX5_putName_yX5_putName, tw_initialized_RX5, tw_code_yX5_putName⟩, rfl, by decide +kernel, by decide +kernel, by decide +kernel⟩
set_option maxRecDepth 20000 in
theorem bX5_putName_0 (uf : Nat → Int32) (ua : Nat → Nat → Int32) (x1 : Int32) (x2 : Int32) (x3 : Int32) {p : Program} {l : Launch} {e : Env} {s : State} {m : MethodId} {args : Array Value} {below : List Frame} {meth : Method} {c : Code} {dC : Nat → ClassId} {dI : Nat → Nat → Nat} {r : Nat → Nat} {cA : Nat → ClassId} {Rg : Nat → Prop} {H : Heap} {locs : List Loc} {us : Nat → Int64} {h0 : Nat} {ls : Array Slot} (C : bx_C p s m args meth c cX5_putName 4 none RX5) (hl : lv_has ls 4 [(0, .ref h0), (1, .int x1), (2, .int x2), (3, .int x3)]) (hw : hW (dC, dI) (md_T cA) Rg s H locs (md_W h0 r cA uf ua us)) (hp : 0 ≤ (uf 11).toInt ∧ (uf 11).toInt ≤ 100) (post : ((Nat → Int32) × (Nat → Nat → Int32)) → Prop) (hq : post (fX5_putName uf ua x1 x2 x3)) : W p l e rmX5_putName s m args below meth c H locs 0 0 (MQ below (va_Qv post (hBk (dC, dI) (md_T cA) Rg (fun u => md_W h0 r cA u.1 u.2 us)) Rg) args s 0 0 Rg) (F0 m 0 ls []) := by
  obtain ⟨hx, hb, hml, hr, hlocks, hown, hts⟩ := id C
  unfold fX5_putName at hq
  refine lv_aload_n hx hb dX5_putName_0 rfl (lv_at hl 0 rfl) ?_
  refine lv_iload_n hx hb dX5_putName_1 rfl (lv_at hl 1 rfl) ?_
  refine hx_cv (Wf := (fun u => md_W h0 r cA u.1 u.2 us)) (u0 := (uf, ua)) (F := (fX5_put uf ua x1)) C (fun sz => kX5_put l dC dI h0 r cA sz uf ua us x1 (sd_p0 hp)) (fun _ => bx_B_true) (fun _ _ _ => trivial) hw rfl rfl tw_methodLink_RX5_255_yX5_put mbX5_put rfl ⟨rfl, rfl⟩ ⟨Nat.le_of_ble_eq_true rfl, Nat.le_of_ble_eq_true rfl⟩ ⟨Nat.zero_le _, Nat.zero_le _⟩ hl.1 rfl (Nat.le_of_ble_eq_true rfl) dX5_putName_2 (fun H locs hw => ?_)
  have hw : hW (dC, dI) (md_T cA) Rg s H locs (md_W h0 r cA ((fX5_put uf ua x1).1) ((fX5_put uf ua x1).2) us) := hw
  refine lv_aload_n hx hb dX5_putName_5 rfl (lv_at hl 0 rfl) ?_
  refine lv_iload_n hx hb dX5_putName_6 rfl (lv_at hl 2 rfl) ?_
  refine hx_cv (Wf := (fun u => md_W h0 r cA u.1 u.2 us)) (u0 := ((fX5_put uf ua x1).1, (fX5_put uf ua x1).2)) (F := (fX5_put ((fX5_put uf ua x1).1) ((fX5_put uf ua x1).2) x2)) C (fun sz => kX5_put l dC dI h0 r cA sz ((fX5_put uf ua x1).1) ((fX5_put uf ua x1).2) us x2 (sd_p1 hp)) (fun _ => bx_B_true) (fun _ _ _ => trivial) hw rfl rfl tw_methodLink_RX5_255_yX5_put mbX5_put rfl ⟨rfl, rfl⟩ ⟨Nat.le_of_ble_eq_true rfl, Nat.le_of_ble_eq_true rfl⟩ ⟨Nat.zero_le _, Nat.zero_le _⟩ hl.1 rfl (Nat.le_of_ble_eq_true rfl) dX5_putName_7 (fun H locs hw => ?_)
  have hw : hW (dC, dI) (md_T cA) Rg s H locs (md_W h0 r cA ((fX5_put ((fX5_put uf ua x1).1) ((fX5_put uf ua x1).2) x2).1) ((fX5_put ((fX5_put uf ua x1).1) ((fX5_put uf ua x1).2) x2).2) us) := hw
  refine lv_aload_n hx hb dX5_putName_10 rfl (lv_at hl 0 rfl) ?_
  refine lv_iload_n hx hb dX5_putName_11 rfl (lv_at hl 3 rfl) ?_
  refine hx_cv (Wf := (fun u => md_W h0 r cA u.1 u.2 us)) (u0 := ((fX5_put ((fX5_put uf ua x1).1) ((fX5_put uf ua x1).2) x2).1, (fX5_put ((fX5_put uf ua x1).1) ((fX5_put uf ua x1).2) x2).2)) (F := (fX5_put ((fX5_put ((fX5_put uf ua x1).1) ((fX5_put uf ua x1).2) x2).1) ((fX5_put ((fX5_put uf ua x1).1) ((fX5_put uf ua x1).2) x2).2) x3)) C (fun sz => kX5_put l dC dI h0 r cA sz ((fX5_put ((fX5_put uf ua x1).1) ((fX5_put uf ua x1).2) x2).1) ((fX5_put ((fX5_put uf ua x1).1) ((fX5_put uf ua x1).2) x2).2) us x3 (sd_p2 hp)) (fun _ => bx_B_true) (fun _ _ _ => trivial) hw rfl rfl tw_methodLink_RX5_255_yX5_put mbX5_put rfl ⟨rfl, rfl⟩ ⟨Nat.le_of_ble_eq_true rfl, Nat.le_of_ble_eq_true rfl⟩ ⟨Nat.zero_le _, Nat.zero_le _⟩ hl.1 rfl (Nat.le_of_ble_eq_true rfl) dX5_putName_12 (fun H locs hw => ?_)
  have hw : hW (dC, dI) (md_T cA) Rg s H locs (md_W h0 r cA ((fX5_put ((fX5_put ((fX5_put uf ua x1).1) ((fX5_put uf ua x1).2) x2).1) ((fX5_put ((fX5_put uf ua x1).1) ((fX5_put uf ua x1).2) x2).2) x3).1) ((fX5_put ((fX5_put ((fX5_put uf ua x1).1) ((fX5_put uf ua x1).2) x2).1) ((fX5_put ((fX5_put uf ua x1).1) ((fX5_put uf ua x1).2) x2).2) x3).2) us) := hw
  exact hx_vret (Wf := (fun u => md_W h0 r cA u.1 u.2 us)) (u := ((fX5_put ((fX5_put ((fX5_put uf ua x1).1) ((fX5_put uf ua x1).2) x2).1) ((fX5_put ((fX5_put uf ua x1).1) ((fX5_put uf ua x1).2) x2).2) x3).1, (fX5_put ((fX5_put ((fX5_put uf ua x1).1) ((fX5_put uf ua x1).2) x2).1) ((fX5_put ((fX5_put uf ua x1).1) ((fX5_put uf ua x1).2) x2).2) x3).2)) hx hb hr hlocks hw hq dX5_putName_15
theorem kX5_putName (l : Launch) (dC : Nat → ClassId) (dI : Nat → Nat → Nat) (h0 : Nat) (r : Nat → Nat) (cA : Nat → ClassId) (sz : Nat) (uf : Nat → Int32) (ua : Nat → Nat → Int32) (us : Nat → Int64) (x1 : Int32) (x2 : Int32) (x3 : Int32) (hp : 0 ≤ (uf 11).toInt ∧ (uf 11).toInt ≤ 100) : Met l yX5_putName (Cond.code yX5_putName cX5_putName 4 none :: bw) rmX5_putName (hPc [.ref h0, .int x1, .int x2, .int x3] (dC, dI) (md_T cA) (md_W h0 r cA uf ua us) sz (fun _ => True)) (va_Qv (fun u => u = fX5_putName uf ua x1 x2 x3) (hBk (dC, dI) (md_T cA) (va_A (md_W h0 r cA uf ua us) sz) (fun u => md_W h0 r cA u.1 u.2 us)) (va_A (md_W h0 r cA uf ua us) sz)) 0 0 (va_A (md_W h0 r cA uf ua us) sz) := by
  refine hx_ent (by decide) _ _ (Nat.le_of_ble_eq_true rfl) rfl ?_
  intro p e s m below meth c ls C hl hw hsz _
  exact bX5_putName_0 uf ua x1 x2 x3 C hl hw hp (fun u => u = fX5_putName uf ua x1 x2 x3) rfl
def gX5_twice_4 (uf : Nat → Int32) : Nat → (Nat → Nat → Int32) → Int32 → Int32 → (Nat → Nat → Int32) × Int32 × Int32
  | 0, ua, x2, x3 => (ua, x2, x3)
  | n + 1, ua, x2, x3 =>
  if (uf 13) ≤ x3 then (ua, x2, x3)
  else gX5_twice_4 uf n (va_up ua 12 (upd (ua 12) x3.toNatClampNeg (ji_rem (x2 + ((2 : Int32) * ((ua 12) x3.toNatClampNeg))) (10 : Int32)))) ((x2 + ((2 : Int32) * ((ua 12) x3.toNatClampNeg))) / (10 : Int32)) (x3 + 1)
def fX5_twice_44 (uf : Nat → Int32) (ua : Nat → Nat → Int32) (x2 : Int32) : (Nat → Int32) × (Nat → Nat → Int32) :=
  if x2 ≤ 0 then (uf, ua)
  else ((va_up uf 13 ((uf 13) + (1 : Int32))), (va_up ua 12 (upd (ua 12) (uf 13).toNatClampNeg x2)))
def fX5_twice (uf : Nat → Int32) (ua : Nat → Nat → Int32) (x1 : Int32) : (Nat → Int32) × (Nat → Nat → Int32) :=
  fX5_twice_44 uf ((gX5_twice_4 uf (Nat.succ ((Int32.toInt ((uf 13)) - Int32.toInt (0 : Int32)).toNat)) ua x1 (0 : Int32)).1) ((gX5_twice_4 uf (Nat.succ ((Int32.toInt ((uf 13)) - Int32.toInt (0 : Int32)).toNat)) ua x1 (0 : Int32)).2.1)
abbrev rmX5_twice : Room := { frames := 0, cells := 0, slots := 0, locals := 0 }
theorem mbX5_twice : mb_V RX5 yX5_twice cX5_twice 4 none 1 := ⟨⟨tw_instanceMethod_yX5_twice, tw_selects_RX5_yX5_twice_yX5_twice, tw_initialized_RX5, tw_code_yX5_twice⟩, rfl, by decide +kernel, by decide +kernel, by decide +kernel⟩
set_option maxRecDepth 20000 in
theorem lX5_twice_4 (uf : Nat → Int32) {p : Program} {l : Launch} {e : Env} {s : State} {m : MethodId} {args : Array Value} {below : List Frame} {meth : Method} {c : Code} {dC : Nat → ClassId} {dI : Nat → Nat → Nat} {r : Nat → Nat} {cA : Nat → ClassId} {Rg : Nat → Prop} {us : Nat → Int64} {h0 : Nat} {Q : State → Prop} (C : bx_C p s m args meth c cX5_twice 4 none RX5) (hd : 0 ≤ (uf 13).toInt ∧ (uf 13).toInt ≤ 59) (post : ((Nat → Nat → Int32) × Int32 × Int32) → Prop) (kx : ∀ (oua : Nat → Nat → Int32) (o2 : Int32) (o3 : Int32) (ls : Array Slot) (H : Heap) (locs : List Loc), (0 ≤ Int32.toInt o3) → lv_has ls 4 [(0, .ref h0), (2, .int o2), (3, .int o3)] → hW (dC, dI) (md_T cA) Rg s H locs (md_W h0 r cA uf oua us) → post (oua, o2, o3) → W p l e rmX5_twice s m args below meth c H locs 0 0 Q (F0 m 44 ls [])) :
    ∀ (n : Nat) (ua : Nat → Nat → Int32) (x2 : Int32) (x3 : Int32) (ls : Array Slot) (H : Heap) (locs : List Loc), (Int32.toInt ((uf 13)) - Int32.toInt x3).toNat < n → (0 ≤ Int32.toInt x3) → lv_has ls 4 [(0, .ref h0), (2, .int x2), (3, .int x3)] → hW (dC, dI) (md_T cA) Rg s H locs (md_W h0 r cA uf ua us) → post (gX5_twice_4 uf n ua x2 x3) → W p l e rmX5_twice s m args below meth c H locs 0 0 Q (F0 m 4 ls []) := by
  obtain ⟨hx, hb, hml, hr, hlocks, hown, hts⟩ := id C
  intro n
  induction n with
  | zero =>
    intro ua x2 x3 ls H locs hm
    exact absurd hm (Nat.not_lt_zero _)
  | succ n ih =>
    intro ua x2 x3 ls H locs hm hi hl hw hq
    rw [gX5_twice_4] at hq
    refine lv_iload_n hx hb dX5_twice_4 rfl (lv_at hl 2 rfl) ?_
    refine lv_aload_n hx hb dX5_twice_5 rfl (lv_at hl 0 rfl) ?_
    refine hx_get (v := .int (uf 13)) hx hb hts inX5 hown hw.1 hw.2.2.2.1 0 rfl rfl 13 (by decide) tw_fieldLink_RX5_248_GlulxFloatsModel_decimalMany_I rfl rfl dX5_twice_6 ?_
    refine lv_icmp_ge (tgt := 44) hx hb dX5_twice_9 (by decide) (fun c1 => ?_) (fun c1 => ?_)
    · rw [if_pos c1] at hq
      exact kx ua x2 x3 _ _ _ hi (lv_sub hl [0, 1, 2] rfl) hw hq
    · rw [if_neg c1] at hq
      refine lv_iload_n hx hb dX5_twice_12 rfl (lv_at hl 1 rfl) ?_
      refine lv_iconst (v := 2) hx hb dX5_twice_13 (by decide) ?_
      refine lv_aload_n hx hb dX5_twice_14 rfl (lv_at hl 0 rfl) ?_
      refine hx_get (v := .ref (r 12)) hx hb hts inX5 hown hw.1 hw.2.2.2.1 0 rfl rfl 12 (by decide) tw_fieldLink_RX5_40_GlulxFloatsModel_decimals_I rfl rfl dX5_twice_15 ?_
      refine lv_iload_n hx hb dX5_twice_18 rfl (lv_at hl 2 rfl) ?_
      refine hx_iald hx hb hw.1 hw.2.2.2.1 9 8 rfl rfl (vi_lt hi (by assumption) (by omega)) dX5_twice_19 ?_
      refine lv_imul hx hb dX5_twice_20 ?_
      refine lv_iadd hx hb dX5_twice_21 ?_
      refine lv_istore_n (lv' := [(2, .int (x2 + ((2 : Int32) * ((ua 12) x3.toNatClampNeg)))), (0, .ref h0), (3, .int x3)]) hx hb dX5_twice_22 rfl hl (by decide) rfl (fun ls hl => ?_)
      refine lv_aload_n hx hb dX5_twice_23 rfl (lv_at hl 1 rfl) ?_
      refine hx_get (v := .ref (r 12)) hx hb hts inX5 hown hw.1 hw.2.2.2.1 0 rfl rfl 12 (by decide) tw_fieldLink_RX5_40_GlulxFloatsModel_decimals_I rfl rfl dX5_twice_24 ?_
      refine lv_iload_n hx hb dX5_twice_27 rfl (lv_at hl 2 rfl) ?_
      refine lv_iload_n hx hb dX5_twice_28 rfl (lv_at hl 0 rfl) ?_
      refine lv_bipush (v := 10) hx hb dX5_twice_29 (by decide) ?_
      refine bx_irem hx hb dX5_twice_31 (by first | assumption | decide) ?_
      refine hx_iast (ws' := (md_W h0 r cA uf (va_up ua 12 (upd (ua 12) x3.toNatClampNeg (ji_rem (x2 + ((2 : Int32) * ((ua 12) x3.toNatClampNeg))) (10 : Int32)))) us)) hx hb hw 9 8 rfl rfl (vi_lt hi (by assumption) (by omega)) dX5_twice_32 rfl (fun H locs hw => ?_)
      refine lv_iload_n hx hb dX5_twice_33 rfl (lv_at hl 0 rfl) ?_
      refine lv_bipush (v := 10) hx hb dX5_twice_34 (by decide) ?_
      refine lv_idiv hx hb dX5_twice_36 (by first | assumption | decide) ?_
      refine lv_istore_n (lv' := [(2, .int ((x2 + ((2 : Int32) * ((ua 12) x3.toNatClampNeg))) / (10 : Int32))), (0, .ref h0), (3, .int x3)]) hx hb dX5_twice_37 rfl hl (by decide) rfl (fun ls hl => ?_)
      refine lv_iinc (v := (x3 + 1)) (lv' := [(3, .int (x3 + 1)), (2, .int ((x2 + ((2 : Int32) * ((ua 12) x3.toNatClampNeg))) / (10 : Int32))), (0, .ref h0)]) hx hb dX5_twice_38 hl (k := 2) rfl rfl (by decide) rfl (fun ls hl => ?_)
      refine lv_goto (tgt := 4) hx hb dX5_twice_41 (by decide) ?_
      exact ih (va_up ua 12 (upd (ua 12) x3.toNatClampNeg (ji_rem (x2 + ((2 : Int32) * ((ua 12) x3.toNatClampNeg))) (10 : Int32)))) ((x2 + ((2 : Int32) * ((ua 12) x3.toNatClampNeg))) / (10 : Int32)) (x3 + 1) _ _ _ (lp_up (by assumption) hm) (li_up (by assumption) hi) (lv_sub hl [2, 1, 0] rfl) hw hq
set_option maxRecDepth 20000 in
theorem bX5_twice_44 (uf : Nat → Int32) (ua : Nat → Nat → Int32) (x2 : Int32) {p : Program} {l : Launch} {e : Env} {s : State} {m : MethodId} {args : Array Value} {below : List Frame} {meth : Method} {c : Code} {dC : Nat → ClassId} {dI : Nat → Nat → Nat} {r : Nat → Nat} {cA : Nat → ClassId} {Rg : Nat → Prop} {H : Heap} {locs : List Loc} {us : Nat → Int64} {h0 : Nat} {ls : Array Slot} (C : bx_C p s m args meth c cX5_twice 4 none RX5) (hl : lv_has ls 4 [(0, .ref h0), (2, .int x2)]) (hw : hW (dC, dI) (md_T cA) Rg s H locs (md_W h0 r cA uf ua us)) (hd : 0 ≤ (uf 13).toInt ∧ (uf 13).toInt ≤ 59) (post : ((Nat → Int32) × (Nat → Nat → Int32)) → Prop) (hq : post (fX5_twice_44 uf ua x2)) : W p l e rmX5_twice s m args below meth c H locs 0 0 (MQ below (va_Qv post (hBk (dC, dI) (md_T cA) Rg (fun u => md_W h0 r cA u.1 u.2 us)) Rg) args s 0 0 Rg) (F0 m 44 ls []) := by
  obtain ⟨hx, hb, hml, hr, hlocks, hown, hts⟩ := id C
  unfold fX5_twice_44 at hq
  refine lv_iload_n hx hb dX5_twice_44 rfl (lv_at hl 1 rfl) ?_
  refine lv_if_le (tgt := 68) hx hb dX5_twice_45 (by decide) (fun c2 => ?_) (fun c2 => ?_)
  · rw [if_pos c2] at hq
    exact hx_vret (Wf := (fun u => md_W h0 r cA u.1 u.2 us)) (u := (uf, ua)) hx hb hr hlocks hw hq dX5_twice_68
  · rw [if_neg c2] at hq
    refine lv_aload_n hx hb dX5_twice_48 rfl (lv_at hl 0 rfl) ?_
    refine hx_get (v := .ref (r 12)) hx hb hts inX5 hown hw.1 hw.2.2.2.1 0 rfl rfl 12 (by decide) tw_fieldLink_RX5_40_GlulxFloatsModel_decimals_I rfl rfl dX5_twice_49 ?_
    refine lv_aload_n hx hb dX5_twice_52 rfl (lv_at hl 0 rfl) ?_
    refine hx_get (v := .int (uf 13)) hx hb hts inX5 hown hw.1 hw.2.2.2.1 0 rfl rfl 13 (by decide) tw_fieldLink_RX5_248_GlulxFloatsModel_decimalMany_I rfl rfl dX5_twice_53 ?_
    refine lv_iload_n hx hb dX5_twice_56 rfl (lv_at hl 1 rfl) ?_
    refine hx_iast (ws' := (md_W h0 r cA uf (va_up ua 12 (upd (ua 12) (uf 13).toNatClampNeg x2)) us)) hx hb hw 9 8 rfl rfl (vi_in hd.1 (by omega)) dX5_twice_57 rfl (fun H locs hw => ?_)
    refine lv_aload_n hx hb dX5_twice_58 rfl (lv_at hl 0 rfl) ?_
    refine lv_dup hx hb dX5_twice_59 rfl ?_
    refine hx_get (v := .int (uf 13)) hx hb hts inX5 hown hw.1 hw.2.2.2.1 0 rfl rfl 13 (by decide) tw_fieldLink_RX5_248_GlulxFloatsModel_decimalMany_I rfl rfl dX5_twice_60 ?_
    refine lv_iconst (v := 1) hx hb dX5_twice_63 (by decide) ?_
    refine lv_iadd hx hb dX5_twice_64 ?_
    refine hx_put (ws' := (md_W h0 r cA (va_up uf 13 ((uf 13) + (1 : Int32))) (va_up ua 12 (upd (ua 12) (uf 13).toNatClampNeg x2)) us)) hx hb hts inX5 tyX5 tyX5_ok nmX5 hown hw 0 rfl rfl 13 (by decide) tw_fieldLink_RX5_248_GlulxFloatsModel_decimalMany_I rfl rfl (by decide +kernel) (Nat.le_of_ble_eq_true rfl) dX5_twice_65 rfl (fun H locs hw => ?_)
    exact hx_vret (Wf := (fun u => md_W h0 r cA u.1 u.2 us)) (u := ((va_up uf 13 ((uf 13) + (1 : Int32))), (va_up ua 12 (upd (ua 12) (uf 13).toNatClampNeg x2)))) hx hb hr hlocks hw hq dX5_twice_68
set_option maxRecDepth 20000 in
theorem bX5_twice_0 (uf : Nat → Int32) (ua : Nat → Nat → Int32) (x1 : Int32) {p : Program} {l : Launch} {e : Env} {s : State} {m : MethodId} {args : Array Value} {below : List Frame} {meth : Method} {c : Code} {dC : Nat → ClassId} {dI : Nat → Nat → Nat} {r : Nat → Nat} {cA : Nat → ClassId} {Rg : Nat → Prop} {H : Heap} {locs : List Loc} {us : Nat → Int64} {h0 : Nat} {ls : Array Slot} (C : bx_C p s m args meth c cX5_twice 4 none RX5) (hl : lv_has ls 4 [(0, .ref h0), (1, .int x1)]) (hw : hW (dC, dI) (md_T cA) Rg s H locs (md_W h0 r cA uf ua us)) (hd : 0 ≤ (uf 13).toInt ∧ (uf 13).toInt ≤ 59) (post : ((Nat → Int32) × (Nat → Nat → Int32)) → Prop) (hq : post (fX5_twice uf ua x1)) : W p l e rmX5_twice s m args below meth c H locs 0 0 (MQ below (va_Qv post (hBk (dC, dI) (md_T cA) Rg (fun u => md_W h0 r cA u.1 u.2 us)) Rg) args s 0 0 Rg) (F0 m 0 ls []) := by
  obtain ⟨hx, hb, hml, hr, hlocks, hown, hts⟩ := id C
  unfold fX5_twice at hq
  refine lv_iload_n hx hb dX5_twice_0 rfl (lv_at hl 1 rfl) ?_
  refine lv_istore_n (lv' := [(2, .int x1), (0, .ref h0), (1, .int x1)]) hx hb dX5_twice_1 rfl hl (by decide) rfl (fun ls hl => ?_)
  refine lv_iconst (v := 0) hx hb dX5_twice_2 (by decide) ?_
  refine lv_istore_n (lv' := [(3, .int (0 : Int32)), (2, .int x1), (0, .ref h0), (1, .int x1)]) hx hb dX5_twice_3 rfl hl (by decide) rfl (fun ls hl => ?_)
  exact lX5_twice_4 uf C hd (fun t => post (fX5_twice_44 uf t.1 t.2.1)) (fun oua o2 o3 ls H locs hi hl hw hq => bX5_twice_44 uf oua o2 C (lv_sub hl [0, 1] rfl) hw hd post hq) (Nat.succ ((Int32.toInt ((uf 13)) - Int32.toInt (0 : Int32)).toNat)) ua x1 (0 : Int32) _ _ _ (Nat.lt_succ_self _) (by decide) (lv_sub hl [2, 1, 0] rfl) hw hq
theorem kX5_twice (l : Launch) (dC : Nat → ClassId) (dI : Nat → Nat → Nat) (h0 : Nat) (r : Nat → Nat) (cA : Nat → ClassId) (sz : Nat) (uf : Nat → Int32) (ua : Nat → Nat → Int32) (us : Nat → Int64) (x1 : Int32) (hd : 0 ≤ (uf 13).toInt ∧ (uf 13).toInt ≤ 59) : Met l yX5_twice (Cond.code yX5_twice cX5_twice 4 none :: bw) rmX5_twice (hPc [.ref h0, .int x1] (dC, dI) (md_T cA) (md_W h0 r cA uf ua us) sz (fun _ => True)) (va_Qv (fun u => u = fX5_twice uf ua x1) (hBk (dC, dI) (md_T cA) (va_A (md_W h0 r cA uf ua us) sz) (fun u => md_W h0 r cA u.1 u.2 us)) (va_A (md_W h0 r cA uf ua us) sz)) 0 0 (va_A (md_W h0 r cA uf ua us) sz) := by
  refine hx_ent (by decide) _ _ (Nat.le_of_ble_eq_true rfl) rfl ?_
  intro p e s m below meth c ls C hl hw hsz _
  exact bX5_twice_0 uf ua x1 C hl hw hd (fun u => u = fX5_twice uf ua x1) rfl
def gX5_layBehind_3 : Nat → (Nat → Nat → Int32) → Int32 → (Nat → Nat → Int32) × Int32
  | 0, ua, x4 => (ua, x4)
  | n + 1, ua, x4 =>
  if (12 : Int32) ≤ x4 then (ua, x4)
  else gX5_layBehind_3 n (va_up ua 14 (upd (ua 14) x4.toNatClampNeg (0 : Int32))) (x4 + 1)
def gX5_layBehind_27 (x1 : Int64) (x3 : Int32) : Nat → (Nat → Nat → Int32) → Int32 → (Nat → Nat → Int32) × Int32
  | 0, ua, x4 => (ua, x4)
  | n + 1, ua, x4 =>
  if (24 : Int32) ≤ x4 then (ua, x4)
  else if ((-(x3 + x4)) - (1 : Int32)) < 0 then gX5_layBehind_27 x1 x3 n ua (x4 + 1)
    else if ((jl_ushr x1 x4) &&& (1 : Int64)) = (1 : Int64) then gX5_layBehind_27 x1 x3 n (va_up ua 14 (upd (ua 14) (((-(x3 + x4)) - (1 : Int32)) / (16 : Int32)).toNatClampNeg (((ua 14) (((-(x3 + x4)) - (1 : Int32)) / (16 : Int32)).toNatClampNeg) ||| (ji_shl (1 : Int32) ((15 : Int32) - (ji_rem ((-(x3 + x4)) - (1 : Int32)) (16 : Int32))))))) (x4 + 1)
      else gX5_layBehind_27 x1 x3 n ua (x4 + 1)
def fX5_layBehind_88 (ua : Nat → Nat → Int32) : Nat → Nat → Int32 :=
  ua
def fX5_layBehind_24 (ua : Nat → Nat → Int32) (x1 : Int64) (x3 : Int32) : Nat → Nat → Int32 :=
  fX5_layBehind_88 ((gX5_layBehind_27 x1 x3 (Nat.succ ((Int32.toInt (24) - Int32.toInt (0 : Int32)).toNat)) ua (0 : Int32)).1)
def fX5_layBehind (ua : Nat → Nat → Int32) (x1 : Int64) (x3 : Int32) : Nat → Nat → Int32 :=
  fX5_layBehind_24 ((gX5_layBehind_3 (Nat.succ ((Int32.toInt (12) - Int32.toInt (0 : Int32)).toNat)) ua (0 : Int32)).1) x1 x3
abbrev rmX5_layBehind : Room := { frames := 0, cells := 0, slots := 0, locals := 0 }
theorem mbX5_layBehind : mb_V RX5 yX5_layBehind cX5_layBehind 6 none 2 := ⟨⟨tw_instanceMethod_yX5_layBehind, tw_selects_RX5_yX5_layBehind_yX5_layBehind, tw_initialized_RX5, tw_code_yX5_layBehind⟩, rfl, by decide +kernel, by decide +kernel, by decide +kernel⟩
set_option maxRecDepth 20000 in
theorem lX5_layBehind_3 (x1 : Int64) (x3 : Int32) {p : Program} {l : Launch} {e : Env} {s : State} {m : MethodId} {args : Array Value} {below : List Frame} {meth : Method} {c : Code} {dC : Nat → ClassId} {dI : Nat → Nat → Nat} {r : Nat → Nat} {cA : Nat → ClassId} {Rg : Nat → Prop} {uf : Nat → Int32} {us : Nat → Int64} {h0 : Nat} {Q : State → Prop} (C : bx_C p s m args meth c cX5_layBehind 6 none RX5) (post : ((Nat → Nat → Int32) × Int32) → Prop) (kx : ∀ (oua : Nat → Nat → Int32) (o4 : Int32) (ls : Array Slot) (H : Heap) (locs : List Loc), (0 ≤ Int32.toInt o4) → lv_has ls 6 [(0, .ref h0), (1, .long x1), (3, .int x3), (4, .int o4)] → hW (dC, dI) (md_T cA) Rg s H locs (md_W h0 r cA uf oua us) → post (oua, o4) → W p l e rmX5_layBehind s m args below meth c H locs 0 0 Q (F0 m 24 ls [])) :
    ∀ (n : Nat) (ua : Nat → Nat → Int32) (x4 : Int32) (ls : Array Slot) (H : Heap) (locs : List Loc), (Int32.toInt (12) - Int32.toInt x4).toNat < n → (0 ≤ Int32.toInt x4) → lv_has ls 6 [(0, .ref h0), (1, .long x1), (3, .int x3), (4, .int x4)] → hW (dC, dI) (md_T cA) Rg s H locs (md_W h0 r cA uf ua us) → post (gX5_layBehind_3 n ua x4) → W p l e rmX5_layBehind s m args below meth c H locs 0 0 Q (F0 m 3 ls []) := by
  obtain ⟨hx, hb, hml, hr, hlocks, hown, hts⟩ := id C
  intro n
  induction n with
  | zero =>
    intro ua x4 ls H locs hm
    exact absurd hm (Nat.not_lt_zero _)
  | succ n ih =>
    intro ua x4 ls H locs hm hi hl hw hq
    rw [gX5_layBehind_3] at hq
    refine lv_iload hx hb dX5_layBehind_3 (lv_at hl 3 rfl) ?_
    refine lv_bipush (v := 12) hx hb dX5_layBehind_5 (by decide) ?_
    refine lv_icmp_ge (tgt := 24) hx hb dX5_layBehind_7 (by decide) (fun c1 => ?_) (fun c1 => ?_)
    · rw [if_pos c1] at hq
      exact kx ua x4 _ _ _ hi (lv_sub hl [0, 1, 2, 3] rfl) hw hq
    · rw [if_neg c1] at hq
      refine lv_aload_n hx hb dX5_layBehind_10 rfl (lv_at hl 0 rfl) ?_
      refine hx_get (v := .ref (r 14)) hx hb hts inX5 hown hw.1 hw.2.2.2.1 0 rfl rfl 14 (by decide) tw_fieldLink_RX5_43_GlulxFloatsModel_behind_I rfl rfl dX5_layBehind_11 ?_
      refine lv_iload hx hb dX5_layBehind_14 (lv_at hl 3 rfl) ?_
      refine lv_iconst (v := 0) hx hb dX5_layBehind_16 (by decide) ?_
      refine hx_iast (ws' := (md_W h0 r cA uf (va_up ua 14 (upd (ua 14) x4.toNatClampNeg (0 : Int32))) us)) hx hb hw 10 9 rfl rfl (by first | assumption | exact vi_lt hi (by assumption) (by decide)) dX5_layBehind_17 rfl (fun H locs hw => ?_)
      refine lv_iinc (v := (x4 + 1)) (lv' := [(4, .int (x4 + 1)), (0, .ref h0), (1, .long x1), (3, .int x3)]) hx hb dX5_layBehind_18 hl (k := 3) rfl rfl (by decide) rfl (fun ls hl => ?_)
      refine lv_goto (tgt := 3) hx hb dX5_layBehind_21 (by decide) ?_
      exact ih (va_up ua 14 (upd (ua 14) x4.toNatClampNeg (0 : Int32))) (x4 + 1) _ _ _ (lp_up (by assumption) hm) (li_up (by assumption) hi) (lv_sub hl [1, 2, 3, 0] rfl) hw hq
set_option maxRecDepth 20000 in
theorem lX5_layBehind_27 (x1 : Int64) (x3 : Int32) {p : Program} {l : Launch} {e : Env} {s : State} {m : MethodId} {args : Array Value} {below : List Frame} {meth : Method} {c : Code} {dC : Nat → ClassId} {dI : Nat → Nat → Nat} {r : Nat → Nat} {cA : Nat → ClassId} {Rg : Nat → Prop} {uf : Nat → Int32} {us : Nat → Int64} {h0 : Nat} {Q : State → Prop} (C : bx_C p s m args meth c cX5_layBehind 6 none RX5) (he : -160 ≤ x3.toInt ∧ x3.toInt ≤ 200) (post : ((Nat → Nat → Int32) × Int32) → Prop) (kx : ∀ (oua : Nat → Nat → Int32) (o4 : Int32) (ls : Array Slot) (H : Heap) (locs : List Loc), (0 ≤ Int32.toInt o4) → lv_has ls 6 [(4, .int o4)] → hW (dC, dI) (md_T cA) Rg s H locs (md_W h0 r cA uf oua us) → post (oua, o4) → W p l e rmX5_layBehind s m args below meth c H locs 0 0 Q (F0 m 88 ls [])) :
    ∀ (n : Nat) (ua : Nat → Nat → Int32) (x4 : Int32) (ls : Array Slot) (H : Heap) (locs : List Loc), (Int32.toInt (24) - Int32.toInt x4).toNat < n → (0 ≤ Int32.toInt x4) → lv_has ls 6 [(0, .ref h0), (1, .long x1), (3, .int x3), (4, .int x4)] → hW (dC, dI) (md_T cA) Rg s H locs (md_W h0 r cA uf ua us) → post (gX5_layBehind_27 x1 x3 n ua x4) → W p l e rmX5_layBehind s m args below meth c H locs 0 0 Q (F0 m 27 ls []) := by
  obtain ⟨hx, hb, hml, hr, hlocks, hown, hts⟩ := id C
  intro n
  induction n with
  | zero =>
    intro ua x4 ls H locs hm
    exact absurd hm (Nat.not_lt_zero _)
  | succ n ih =>
    intro ua x4 ls H locs hm hi hl hw hq
    rw [gX5_layBehind_27] at hq
    refine lv_iload hx hb dX5_layBehind_27 (lv_at hl 3 rfl) ?_
    refine lv_bipush (v := 24) hx hb dX5_layBehind_29 (by decide) ?_
    refine lv_icmp_ge (tgt := 88) hx hb dX5_layBehind_31 (by decide) (fun c2 => ?_) (fun c2 => ?_)
    · rw [if_pos c2] at hq
      exact kx ua x4 _ _ _ hi (lv_sub hl [3] rfl) hw hq
    · rw [if_neg c2] at hq
      refine lv_iload_n hx hb dX5_layBehind_34 rfl (lv_at hl 2 rfl) ?_
      refine lv_iload hx hb dX5_layBehind_35 (lv_at hl 3 rfl) ?_
      refine lv_iadd hx hb dX5_layBehind_37 ?_
      refine lv_ineg hx hb dX5_layBehind_38 ?_
      refine lv_iconst (v := 1) hx hb dX5_layBehind_39 (by decide) ?_
      refine lv_isub hx hb dX5_layBehind_40 ?_
      refine lv_istore (lv' := [(5, .int ((-(x3 + x4)) - (1 : Int32))), (0, .ref h0), (1, .long x1), (3, .int x3), (4, .int x4)]) hx hb dX5_layBehind_41 hl (by decide) rfl (fun ls hl => ?_)
      refine lv_iload hx hb dX5_layBehind_43 (lv_at hl 0 rfl) ?_
      refine lv_if_lt (tgt := 82) hx hb dX5_layBehind_45 (by decide) (fun c3 => ?_) (fun c3 => ?_)
      · rw [if_pos c3] at hq
        refine lv_iinc (v := (x4 + 1)) (lv' := [(4, .int (x4 + 1)), (5, .int ((-(x3 + x4)) - (1 : Int32))), (0, .ref h0), (1, .long x1), (3, .int x3)]) hx hb dX5_layBehind_82 hl (k := 4) rfl rfl (by decide) rfl (fun ls hl => ?_)
        refine lv_goto (tgt := 27) hx hb dX5_layBehind_85 (by decide) ?_
        exact ih ua (x4 + 1) _ _ _ (lp_up (by assumption) hm) (li_up (by assumption) hi) (lv_sub hl [2, 3, 4, 0] rfl) hw hq
      · rw [if_neg c3] at hq
        refine lv_lload_n hx hb dX5_layBehind_48 rfl (lv_at hl 2 rfl) ?_
        refine lv_iload hx hb dX5_layBehind_49 (lv_at hl 4 rfl) ?_
        refine bx_lushr hx hb dX5_layBehind_51 ?_
        refine lv_lconst (v := 1) hx hb dX5_layBehind_52 (by decide) ?_
        refine lv_land hx hb dX5_layBehind_53 ?_
        refine lv_lconst (v := 1) hx hb dX5_layBehind_54 (by decide) ?_
        refine bx_lc_ne (tgt := 82) hx hb dX5_layBehind_55 dX5_layBehind_56 (by decide) (fun c4 => ?_) (fun c4 => ?_)
        · rw [if_neg c4] at hq
          refine lv_iinc (v := (x4 + 1)) (lv' := [(4, .int (x4 + 1)), (5, .int ((-(x3 + x4)) - (1 : Int32))), (0, .ref h0), (1, .long x1), (3, .int x3)]) hx hb dX5_layBehind_82 hl (k := 4) rfl rfl (by decide) rfl (fun ls hl => ?_)
          refine lv_goto (tgt := 27) hx hb dX5_layBehind_85 (by decide) ?_
          exact ih ua (x4 + 1) _ _ _ (lp_up (by assumption) hm) (li_up (by assumption) hi) (lv_sub hl [2, 3, 4, 0] rfl) hw hq
        · rw [if_pos c4] at hq
          refine lv_aload_n hx hb dX5_layBehind_59 rfl (lv_at hl 1 rfl) ?_
          refine hx_get (v := .ref (r 14)) hx hb hts inX5 hown hw.1 hw.2.2.2.1 0 rfl rfl 14 (by decide) tw_fieldLink_RX5_43_GlulxFloatsModel_behind_I rfl rfl dX5_layBehind_60 ?_
          refine lv_iload hx hb dX5_layBehind_63 (lv_at hl 0 rfl) ?_
          refine lv_bipush (v := 16) hx hb dX5_layBehind_65 (by decide) ?_
          refine lv_idiv hx hb dX5_layBehind_67 (by first | assumption | decide) ?_
          refine lv_dup2_11 hx hb dX5_layBehind_68 rfl rfl ?_
          refine hx_iald hx hb hw.1 hw.2.2.2.1 10 9 rfl rfl (sd_lb he hi (by assumption) (by assumption)) dX5_layBehind_69 ?_
          refine lv_iconst (v := 1) hx hb dX5_layBehind_70 (by decide) ?_
          refine lv_bipush (v := 15) hx hb dX5_layBehind_71 (by decide) ?_
          refine lv_iload hx hb dX5_layBehind_73 (lv_at hl 0 rfl) ?_
          refine lv_bipush (v := 16) hx hb dX5_layBehind_75 (by decide) ?_
          refine bx_irem hx hb dX5_layBehind_77 (by first | assumption | decide) ?_
          refine lv_isub hx hb dX5_layBehind_78 ?_
          refine bx_ishl hx hb dX5_layBehind_79 ?_
          refine lv_ior hx hb dX5_layBehind_80 ?_
          refine hx_iast (ws' := (md_W h0 r cA uf (va_up ua 14 (upd (ua 14) (((-(x3 + x4)) - (1 : Int32)) / (16 : Int32)).toNatClampNeg (((ua 14) (((-(x3 + x4)) - (1 : Int32)) / (16 : Int32)).toNatClampNeg) ||| (ji_shl (1 : Int32) ((15 : Int32) - (ji_rem ((-(x3 + x4)) - (1 : Int32)) (16 : Int32))))))) us)) hx hb hw 10 9 rfl rfl (sd_lb he hi (by assumption) (by assumption)) dX5_layBehind_81 rfl (fun H locs hw => ?_)
          refine lv_iinc (v := (x4 + 1)) (lv' := [(4, .int (x4 + 1)), (5, .int ((-(x3 + x4)) - (1 : Int32))), (0, .ref h0), (1, .long x1), (3, .int x3)]) hx hb dX5_layBehind_82 hl (k := 4) rfl rfl (by decide) rfl (fun ls hl => ?_)
          refine lv_goto (tgt := 27) hx hb dX5_layBehind_85 (by decide) ?_
          exact ih (va_up ua 14 (upd (ua 14) (((-(x3 + x4)) - (1 : Int32)) / (16 : Int32)).toNatClampNeg (((ua 14) (((-(x3 + x4)) - (1 : Int32)) / (16 : Int32)).toNatClampNeg) ||| (ji_shl (1 : Int32) ((15 : Int32) - (ji_rem ((-(x3 + x4)) - (1 : Int32)) (16 : Int32))))))) (x4 + 1) _ _ _ (lp_up (by assumption) hm) (li_up (by assumption) hi) (lv_sub hl [2, 3, 4, 0] rfl) hw hq
set_option maxRecDepth 20000 in
theorem bX5_layBehind_88 (ua : Nat → Nat → Int32) {p : Program} {l : Launch} {e : Env} {s : State} {m : MethodId} {args : Array Value} {below : List Frame} {meth : Method} {c : Code} {dC : Nat → ClassId} {dI : Nat → Nat → Nat} {r : Nat → Nat} {cA : Nat → ClassId} {Rg : Nat → Prop} {H : Heap} {locs : List Loc} {uf : Nat → Int32} {us : Nat → Int64} {h0 : Nat} {ls : Array Slot} (C : bx_C p s m args meth c cX5_layBehind 6 none RX5) (hl : lv_has ls 6 []) (hw : hW (dC, dI) (md_T cA) Rg s H locs (md_W h0 r cA uf ua us)) (post : (Nat → Nat → Int32) → Prop) (hq : post (fX5_layBehind_88 ua)) : W p l e rmX5_layBehind s m args below meth c H locs 0 0 (MQ below (va_Qv post (hBk (dC, dI) (md_T cA) Rg (fun u => md_W h0 r cA uf u us)) Rg) args s 0 0 Rg) (F0 m 88 ls []) := by
  obtain ⟨hx, hb, hml, hr, hlocks, hown, hts⟩ := id C
  unfold fX5_layBehind_88 at hq
  exact hx_vret (Wf := (fun u => md_W h0 r cA uf u us)) (u := ua) hx hb hr hlocks hw hq dX5_layBehind_88
set_option maxRecDepth 20000 in
theorem bX5_layBehind_24 (ua : Nat → Nat → Int32) (x1 : Int64) (x3 : Int32) {p : Program} {l : Launch} {e : Env} {s : State} {m : MethodId} {args : Array Value} {below : List Frame} {meth : Method} {c : Code} {dC : Nat → ClassId} {dI : Nat → Nat → Nat} {r : Nat → Nat} {cA : Nat → ClassId} {Rg : Nat → Prop} {H : Heap} {locs : List Loc} {uf : Nat → Int32} {us : Nat → Int64} {h0 : Nat} {ls : Array Slot} (C : bx_C p s m args meth c cX5_layBehind 6 none RX5) (hl : lv_has ls 6 [(0, .ref h0), (1, .long x1), (3, .int x3)]) (hw : hW (dC, dI) (md_T cA) Rg s H locs (md_W h0 r cA uf ua us)) (he : -160 ≤ x3.toInt ∧ x3.toInt ≤ 200) (post : (Nat → Nat → Int32) → Prop) (hq : post (fX5_layBehind_24 ua x1 x3)) : W p l e rmX5_layBehind s m args below meth c H locs 0 0 (MQ below (va_Qv post (hBk (dC, dI) (md_T cA) Rg (fun u => md_W h0 r cA uf u us)) Rg) args s 0 0 Rg) (F0 m 24 ls []) := by
  obtain ⟨hx, hb, hml, hr, hlocks, hown, hts⟩ := id C
  unfold fX5_layBehind_24 at hq
  refine lv_iconst (v := 0) hx hb dX5_layBehind_24 (by decide) ?_
  refine lv_istore (lv' := [(4, .int (0 : Int32)), (0, .ref h0), (1, .long x1), (3, .int x3)]) hx hb dX5_layBehind_25 hl (by decide) rfl (fun ls hl => ?_)
  exact lX5_layBehind_27 x1 x3 C he (fun t => post (fX5_layBehind_88 t.1)) (fun oua o4 ls H locs hi hl hw hq => bX5_layBehind_88 oua C (lv_sub hl [] rfl) hw post hq) (Nat.succ ((Int32.toInt (24) - Int32.toInt (0 : Int32)).toNat)) ua (0 : Int32) _ _ _ (Nat.lt_succ_self _) (by decide) (lv_sub hl [1, 2, 3, 0] rfl) hw hq
set_option maxRecDepth 20000 in
theorem bX5_layBehind_0 (ua : Nat → Nat → Int32) (x1 : Int64) (x3 : Int32) {p : Program} {l : Launch} {e : Env} {s : State} {m : MethodId} {args : Array Value} {below : List Frame} {meth : Method} {c : Code} {dC : Nat → ClassId} {dI : Nat → Nat → Nat} {r : Nat → Nat} {cA : Nat → ClassId} {Rg : Nat → Prop} {H : Heap} {locs : List Loc} {uf : Nat → Int32} {us : Nat → Int64} {h0 : Nat} {ls : Array Slot} (C : bx_C p s m args meth c cX5_layBehind 6 none RX5) (hl : lv_has ls 6 [(0, .ref h0), (1, .long x1), (3, .int x3)]) (hw : hW (dC, dI) (md_T cA) Rg s H locs (md_W h0 r cA uf ua us)) (he : -160 ≤ x3.toInt ∧ x3.toInt ≤ 200) (post : (Nat → Nat → Int32) → Prop) (hq : post (fX5_layBehind ua x1 x3)) : W p l e rmX5_layBehind s m args below meth c H locs 0 0 (MQ below (va_Qv post (hBk (dC, dI) (md_T cA) Rg (fun u => md_W h0 r cA uf u us)) Rg) args s 0 0 Rg) (F0 m 0 ls []) := by
  obtain ⟨hx, hb, hml, hr, hlocks, hown, hts⟩ := id C
  unfold fX5_layBehind at hq
  refine lv_iconst (v := 0) hx hb dX5_layBehind_0 (by decide) ?_
  refine lv_istore (lv' := [(4, .int (0 : Int32)), (0, .ref h0), (1, .long x1), (3, .int x3)]) hx hb dX5_layBehind_1 hl (by decide) rfl (fun ls hl => ?_)
  exact lX5_layBehind_3 x1 x3 C (fun t => post (fX5_layBehind_24 t.1 x1 x3)) (fun oua o4 ls H locs hi hl hw hq => bX5_layBehind_24 oua x1 x3 C (lv_sub hl [0, 1, 2] rfl) hw he post hq) (Nat.succ ((Int32.toInt (12) - Int32.toInt (0 : Int32)).toNat)) ua (0 : Int32) _ _ _ (Nat.lt_succ_self _) (by decide) (lv_sub hl [1, 2, 3, 0] rfl) hw hq
theorem kX5_layBehind (l : Launch) (dC : Nat → ClassId) (dI : Nat → Nat → Nat) (h0 : Nat) (r : Nat → Nat) (cA : Nat → ClassId) (sz : Nat) (uf : Nat → Int32) (ua : Nat → Nat → Int32) (us : Nat → Int64) (x1 : Int64) (x3 : Int32) (he : -160 ≤ x3.toInt ∧ x3.toInt ≤ 200) : Met l yX5_layBehind (Cond.code yX5_layBehind cX5_layBehind 6 none :: bw) rmX5_layBehind (hPc [.ref h0, .long x1, .int x3] (dC, dI) (md_T cA) (md_W h0 r cA uf ua us) sz (fun _ => True)) (va_Qv (fun u => u = fX5_layBehind ua x1 x3) (hBk (dC, dI) (md_T cA) (va_A (md_W h0 r cA uf ua us) sz) (fun u => md_W h0 r cA uf u us)) (va_A (md_W h0 r cA uf ua us) sz)) 0 0 (va_A (md_W h0 r cA uf ua us) sz) := by
  refine hx_ent (by decide) _ _ (Nat.le_of_ble_eq_true rfl) rfl ?_
  intro p e s m below meth c ls C hl hw hsz _
  exact bX5_layBehind_0 ua x1 x3 C hl hw he (fun u => u = fX5_layBehind ua x1 x3) rfl
def gX5_nextDigit_5 : Nat → (Nat → Nat → Int32) → Int32 → Int32 → (Nat → Nat → Int32) × Int32 × Int32
  | 0, ua, x1, x2 => (ua, x1, x2)
  | n + 1, ua, x1, x2 =>
  if x2 < 0 then (ua, x1, x2)
  else gX5_nextDigit_5 n (va_up ua 14 (upd (ua 14) x2.toNatClampNeg ((x1 + ((10 : Int32) * ((ua 14) x2.toNatClampNeg))) &&& (65535 : Int32)))) (ji_shr (x1 + ((10 : Int32) * ((ua 14) x2.toNatClampNeg))) (16 : Int32)) (x2 + (-1))
def fX5_nextDigit_43 (ua : Nat → Nat → Int32) (x1 : Int32) : Int32 × (Nat → Nat → Int32) :=
  (x1, ua)
def fX5_nextDigit (ua : Nat → Nat → Int32) : Int32 × (Nat → Nat → Int32) :=
  fX5_nextDigit_43 ((gX5_nextDigit_5 (Nat.succ ((Int32.toInt (11 : Int32) + 1).toNat)) ua (0 : Int32) (11 : Int32)).1) ((gX5_nextDigit_5 (Nat.succ ((Int32.toInt (11 : Int32) + 1).toNat)) ua (0 : Int32) (11 : Int32)).2.1)
abbrev rmX5_nextDigit : Room := { frames := 0, cells := 0, slots := 0, locals := 0 }
theorem mbX5_nextDigit : mb_V RX5 yX5_nextDigit cX5_nextDigit 3 (some .int) 0 := ⟨⟨tw_instanceMethod_yX5_nextDigit, tw_selects_RX5_yX5_nextDigit_yX5_nextDigit, tw_initialized_RX5, tw_code_yX5_nextDigit⟩, rfl, by decide +kernel, by decide +kernel, by decide +kernel⟩
set_option maxRecDepth 20000 in
theorem lX5_nextDigit_5 {p : Program} {l : Launch} {e : Env} {s : State} {m : MethodId} {args : Array Value} {below : List Frame} {meth : Method} {c : Code} {dC : Nat → ClassId} {dI : Nat → Nat → Nat} {r : Nat → Nat} {cA : Nat → ClassId} {Rg : Nat → Prop} {uf : Nat → Int32} {us : Nat → Int64} {h0 : Nat} {Q : State → Prop} (C : bx_C p s m args meth c cX5_nextDigit 3 (some .int) RX5) (post : ((Nat → Nat → Int32) × Int32 × Int32) → Prop) (kx : ∀ (oua : Nat → Nat → Int32) (o1 : Int32) (o2 : Int32) (ls : Array Slot) (H : Heap) (locs : List Loc), (Int32.toInt o2 < 12) → lv_has ls 3 [(1, .int o1), (2, .int o2)] → hW (dC, dI) (md_T cA) Rg s H locs (md_W h0 r cA uf oua us) → post (oua, o1, o2) → W p l e rmX5_nextDigit s m args below meth c H locs 0 0 Q (F0 m 43 ls [])) :
    ∀ (n : Nat) (ua : Nat → Nat → Int32) (x1 : Int32) (x2 : Int32) (ls : Array Slot) (H : Heap) (locs : List Loc), (Int32.toInt x2 + 1).toNat < n → (Int32.toInt x2 < 12) → lv_has ls 3 [(0, .ref h0), (1, .int x1), (2, .int x2)] → hW (dC, dI) (md_T cA) Rg s H locs (md_W h0 r cA uf ua us) → post (gX5_nextDigit_5 n ua x1 x2) → W p l e rmX5_nextDigit s m args below meth c H locs 0 0 Q (F0 m 5 ls []) := by
  obtain ⟨hx, hb, hml, hr, hlocks, hown, hts⟩ := id C
  intro n
  induction n with
  | zero =>
    intro ua x1 x2 ls H locs hm
    exact absurd hm (Nat.not_lt_zero _)
  | succ n ih =>
    intro ua x1 x2 ls H locs hm hi hl hw hq
    rw [gX5_nextDigit_5] at hq
    refine lv_iload_n hx hb dX5_nextDigit_5 rfl (lv_at hl 2 rfl) ?_
    refine lv_if_lt (tgt := 43) hx hb dX5_nextDigit_6 (by decide) (fun c1 => ?_) (fun c1 => ?_)
    · rw [if_pos c1] at hq
      exact kx ua x1 x2 _ _ _ hi (lv_sub hl [1, 2] rfl) hw hq
    · rw [if_neg c1] at hq
      refine lv_iload_n hx hb dX5_nextDigit_9 rfl (lv_at hl 1 rfl) ?_
      refine lv_bipush (v := 10) hx hb dX5_nextDigit_10 (by decide) ?_
      refine lv_aload_n hx hb dX5_nextDigit_12 rfl (lv_at hl 0 rfl) ?_
      refine hx_get (v := .ref (r 14)) hx hb hts inX5 hown hw.1 hw.2.2.2.1 0 rfl rfl 14 (by decide) tw_fieldLink_RX5_43_GlulxFloatsModel_behind_I rfl rfl dX5_nextDigit_13 ?_
      refine lv_iload_n hx hb dX5_nextDigit_16 rfl (lv_at hl 2 rfl) ?_
      refine hx_iald hx hb hw.1 hw.2.2.2.1 10 9 rfl rfl (sd_in hi (by assumption)) dX5_nextDigit_17 ?_
      refine lv_imul hx hb dX5_nextDigit_18 ?_
      refine lv_iadd hx hb dX5_nextDigit_19 ?_
      refine lv_istore_n (lv' := [(1, .int (x1 + ((10 : Int32) * ((ua 14) x2.toNatClampNeg)))), (0, .ref h0), (2, .int x2)]) hx hb dX5_nextDigit_20 rfl hl (by decide) rfl (fun ls hl => ?_)
      refine lv_aload_n hx hb dX5_nextDigit_21 rfl (lv_at hl 1 rfl) ?_
      refine hx_get (v := .ref (r 14)) hx hb hts inX5 hown hw.1 hw.2.2.2.1 0 rfl rfl 14 (by decide) tw_fieldLink_RX5_43_GlulxFloatsModel_behind_I rfl rfl dX5_nextDigit_22 ?_
      refine lv_iload_n hx hb dX5_nextDigit_25 rfl (lv_at hl 2 rfl) ?_
      refine lv_iload_n hx hb dX5_nextDigit_26 rfl (lv_at hl 0 rfl) ?_
      refine lv_ldcw (v := 65535) hx hb hown (hts _ tw_constant_RX5_258_65535) dX5_nextDigit_27 ?_
      refine lv_iand hx hb dX5_nextDigit_30 ?_
      refine hx_iast (ws' := (md_W h0 r cA uf (va_up ua 14 (upd (ua 14) x2.toNatClampNeg ((x1 + ((10 : Int32) * ((ua 14) x2.toNatClampNeg))) &&& (65535 : Int32)))) us)) hx hb hw 10 9 rfl rfl (sd_in hi (by assumption)) dX5_nextDigit_31 rfl (fun H locs hw => ?_)
      refine lv_iload_n hx hb dX5_nextDigit_32 rfl (lv_at hl 0 rfl) ?_
      refine lv_bipush (v := 16) hx hb dX5_nextDigit_33 (by decide) ?_
      refine bx_ishr hx hb dX5_nextDigit_35 ?_
      refine lv_istore_n (lv' := [(1, .int (ji_shr (x1 + ((10 : Int32) * ((ua 14) x2.toNatClampNeg))) (16 : Int32))), (0, .ref h0), (2, .int x2)]) hx hb dX5_nextDigit_36 rfl hl (by decide) rfl (fun ls hl => ?_)
      refine lv_iinc (v := (x2 + (-1))) (lv' := [(2, .int (x2 + (-1))), (1, .int (ji_shr (x1 + ((10 : Int32) * ((ua 14) x2.toNatClampNeg))) (16 : Int32))), (0, .ref h0)]) hx hb dX5_nextDigit_37 hl (k := 2) rfl rfl (by decide) rfl (fun ls hl => ?_)
      refine lv_goto (tgt := 5) hx hb dX5_nextDigit_40 (by decide) ?_
      exact ih (va_up ua 14 (upd (ua 14) x2.toNatClampNeg ((x1 + ((10 : Int32) * ((ua 14) x2.toNatClampNeg))) &&& (65535 : Int32)))) (ji_shr (x1 + ((10 : Int32) * ((ua 14) x2.toNatClampNeg))) (16 : Int32)) (x2 + (-1)) _ _ _ (lp_dn2 (by assumption) hm) (sd_dec hi (by assumption)) (lv_sub hl [2, 1, 0] rfl) hw hq
set_option maxRecDepth 20000 in
theorem bX5_nextDigit_43 (ua : Nat → Nat → Int32) (x1 : Int32) {p : Program} {l : Launch} {e : Env} {s : State} {m : MethodId} {args : Array Value} {below : List Frame} {meth : Method} {c : Code} {dC : Nat → ClassId} {dI : Nat → Nat → Nat} {r : Nat → Nat} {cA : Nat → ClassId} {Rg : Nat → Prop} {H : Heap} {locs : List Loc} {uf : Nat → Int32} {us : Nat → Int64} {h0 : Nat} {ls : Array Slot} (C : bx_C p s m args meth c cX5_nextDigit 3 (some .int) RX5) (hl : lv_has ls 3 [(1, .int x1)]) (hw : hW (dC, dI) (md_T cA) Rg s H locs (md_W h0 r cA uf ua us)) (post : (Int32 × (Nat → Nat → Int32)) → Prop) (hq : post (fX5_nextDigit_43 ua x1)) : W p l e rmX5_nextDigit s m args below meth c H locs 0 0 (MQ below (va_Qi (fun r u => post (r, u)) (hBk (dC, dI) (md_T cA) Rg (fun u => md_W h0 r cA uf u us)) Rg) args s 0 0 Rg) (F0 m 43 ls []) := by
  obtain ⟨hx, hb, hml, hr, hlocks, hown, hts⟩ := id C
  unfold fX5_nextDigit_43 at hq
  refine lv_iload_n hx hb dX5_nextDigit_43 rfl (lv_at hl 0 rfl) ?_
  exact hx_iret (Wf := (fun u => md_W h0 r cA uf u us)) (post := post) (v := x1) (u := ua) hx hb hr hlocks hw hq dX5_nextDigit_44
set_option maxRecDepth 20000 in
theorem bX5_nextDigit_0 (ua : Nat → Nat → Int32) {p : Program} {l : Launch} {e : Env} {s : State} {m : MethodId} {args : Array Value} {below : List Frame} {meth : Method} {c : Code} {dC : Nat → ClassId} {dI : Nat → Nat → Nat} {r : Nat → Nat} {cA : Nat → ClassId} {Rg : Nat → Prop} {H : Heap} {locs : List Loc} {uf : Nat → Int32} {us : Nat → Int64} {h0 : Nat} {ls : Array Slot} (C : bx_C p s m args meth c cX5_nextDigit 3 (some .int) RX5) (hl : lv_has ls 3 [(0, .ref h0)]) (hw : hW (dC, dI) (md_T cA) Rg s H locs (md_W h0 r cA uf ua us)) (post : (Int32 × (Nat → Nat → Int32)) → Prop) (hq : post (fX5_nextDigit ua)) : W p l e rmX5_nextDigit s m args below meth c H locs 0 0 (MQ below (va_Qi (fun r u => post (r, u)) (hBk (dC, dI) (md_T cA) Rg (fun u => md_W h0 r cA uf u us)) Rg) args s 0 0 Rg) (F0 m 0 ls []) := by
  obtain ⟨hx, hb, hml, hr, hlocks, hown, hts⟩ := id C
  unfold fX5_nextDigit at hq
  refine lv_iconst (v := 0) hx hb dX5_nextDigit_0 (by decide) ?_
  refine lv_istore_n (lv' := [(1, .int (0 : Int32)), (0, .ref h0)]) hx hb dX5_nextDigit_1 rfl hl (by decide) rfl (fun ls hl => ?_)
  refine lv_bipush (v := 11) hx hb dX5_nextDigit_2 (by decide) ?_
  refine lv_istore_n (lv' := [(2, .int (11 : Int32)), (1, .int (0 : Int32)), (0, .ref h0)]) hx hb dX5_nextDigit_4 rfl hl (by decide) rfl (fun ls hl => ?_)
  exact lX5_nextDigit_5 C (fun t => post (fX5_nextDigit_43 t.1 t.2.1)) (fun oua o1 o2 ls H locs hi hl hw hq => bX5_nextDigit_43 oua o1 C (lv_sub hl [0] rfl) hw post hq) (Nat.succ ((Int32.toInt (11 : Int32) + 1).toNat)) ua (0 : Int32) (11 : Int32) _ _ _ (Nat.lt_succ_self _) (by decide) (lv_sub hl [2, 1, 0] rfl) hw hq
theorem kX5_nextDigit (l : Launch) (dC : Nat → ClassId) (dI : Nat → Nat → Nat) (h0 : Nat) (r : Nat → Nat) (cA : Nat → ClassId) (sz : Nat) (uf : Nat → Int32) (ua : Nat → Nat → Int32) (us : Nat → Int64) : Met l yX5_nextDigit (Cond.code yX5_nextDigit cX5_nextDigit 3 (some .int) :: bw) rmX5_nextDigit (hPc [.ref h0] (dC, dI) (md_T cA) (md_W h0 r cA uf ua us) sz (fun _ => True)) (va_Qi (fun r u => (r, u) = fX5_nextDigit ua) (hBk (dC, dI) (md_T cA) (va_A (md_W h0 r cA uf ua us) sz) (fun u => md_W h0 r cA uf u us)) (va_A (md_W h0 r cA uf ua us) sz)) 0 0 (va_A (md_W h0 r cA uf ua us) sz) := by
  refine hx_ent (by decide) _ _ (Nat.le_of_ble_eq_true rfl) rfl ?_
  intro p e s m below meth c ls C hl hw hsz _
  exact bX5_nextDigit_0 ua C hl hw (fun q => q = fX5_nextDigit ua) rfl
def fX5_at (uf : Nat → Int32) (ua : Nat → Nat → Int32) (x1 : Int32) : Int32 :=
  if (fX5_in x1 (0 : Int32) ((uf 11) - (1 : Int32))) = 0 then (-109 : Int32)
  else ((ua 10) x1.toNatClampNeg)
abbrev rmX5_at : Room := { frames := 1, cells := 0, slots := 0, locals := 22 }
theorem mbX5_at : mb_V RX5 yX5_at cX5_at 2 (some .int) 1 := ⟨⟨tw_instanceMethod_yX5_at, tw_selects_RX5_yX5_at_yX5_at, tw_initialized_RX5, tw_code_yX5_at⟩, rfl, by decide +kernel, by decide +kernel, by decide +kernel⟩
set_option maxRecDepth 20000 in
theorem bX5_at_0 (uf : Nat → Int32) (ua : Nat → Nat → Int32) (x1 : Int32) {p : Program} {l : Launch} {e : Env} {s : State} {m : MethodId} {args : Array Value} {below : List Frame} {meth : Method} {c : Code} {dC : Nat → ClassId} {dI : Nat → Nat → Nat} {r : Nat → Nat} {cA : Nat → ClassId} {us : Nat → Int64} {h0 : Nat} {ls : Array Slot} (C : bx_C p s m args meth c cX5_at 2 (some .int) RX5) (hK0 : rd_K (dC, dI) (md_T cA) (md_W h0 r cA uf ua us) s) (hl : lv_has ls 2 [(0, .ref h0), (1, .int x1)]) (ho : 0 ≤ (uf 11).toInt ∧ (uf 11).toInt ≤ 120) (post : (Int32) → Prop) (hq : post (fX5_at uf ua x1)) : W p l e rmX5_at s m args below meth c s.heap [] 0 0 (MQ below (vp_Si post) args s 0 0 (fun _ => False)) (F0 m 0 ls []) := by
  obtain ⟨hx, hb, hml, hr, hlocks, hown, hts⟩ := id C
  unfold fX5_at at hq
  refine lv_iload_n hx hb dX5_at_0 rfl (lv_at hl 1 rfl) ?_
  refine lv_iconst (v := 0) hx hb dX5_at_1 (by decide) ?_
  refine lv_aload_n hx hb dX5_at_2 rfl (lv_at hl 0 rfl) ?_
  refine hx_get (v := .int (uf 11)) hx hb hts inX5 hown hK0.1 hK0.2 0 rfl rfl 11 (by decide) tw_fieldLink_RX5_245_GlulxFloatsModel_outSize_I rfl rfl dX5_at_3 ?_
  refine lv_iconst (v := 1) hx hb dX5_at_6 (by decide) ?_
  refine lv_isub hx hb dX5_at_7 ?_
  refine bx_si C (kX5_in l x1 (0 : Int32) ((uf 11) - (1 : Int32))) bx_B_true (fun _ _ _ => trivial) tw_methodLink_RX5_225_yX5_in mbX5_in rfl ⟨rfl, rfl⟩ ⟨Nat.le_of_ble_eq_true rfl, Nat.le_of_ble_eq_true rfl⟩ ⟨Nat.zero_le _, Nat.zero_le _⟩ hl.1 rfl (Nat.le_of_ble_eq_true rfl) dX5_at_8 ?_
  refine lv_if_eq (tgt := 23) hx hb dX5_at_11 (by decide) (fun c1 => ?_) (fun c1 => ?_)
  · rw [if_pos c1] at hq
    refine lv_bipush (v := -109) hx hb dX5_at_23 (by decide) ?_
    exact W.iret (v := (-109 : Int32)) hx hb hr (fun t ht hW => ⟨_, rfl, hq, ht⟩) (fun _ h => absurd h List.not_mem_nil) dX5_at_25
  · rw [if_neg c1] at hq
    refine lv_aload_n hx hb dX5_at_14 rfl (lv_at hl 0 rfl) ?_
    refine hx_get (v := .ref (r 10)) hx hb hts inX5 hown hK0.1 hK0.2 0 rfl rfl 10 (by decide) tw_fieldLink_RX5_36_GlulxFloatsModel_out_B rfl rfl dX5_at_15 ?_
    refine lv_iload_n hx hb dX5_at_18 rfl (lv_at hl 1 rfl) ?_
    refine hx_bald hx hb hK0.1 hK0.2 8 7 rfl rfl (sd_at9 ho (by assumption)) dX5_at_19 ?_
    refine lv_goto (tgt := 25) hx hb dX5_at_20 (by decide) ?_
    exact W.iret (v := ((ua 10) x1.toNatClampNeg)) hx hb hr (fun t ht hW => ⟨_, rfl, hq, ht⟩) (fun _ h => absurd h List.not_mem_nil) dX5_at_25
theorem kX5_at (l : Launch) (dC : Nat → ClassId) (dI : Nat → Nat → Nat) (h0 : Nat) (r : Nat → Nat) (cA : Nat → ClassId) (uf : Nat → Int32) (ua : Nat → Nat → Int32) (us : Nat → Int64) (x1 : Int32) (ho : 0 ≤ (uf 11).toInt ∧ (uf 11).toInt ≤ 120) : Met l yX5_at (Cond.code yX5_at cX5_at 2 (some .int) :: bw) rmX5_at (va_Pc [.ref h0, .int x1] (rd_K (dC, dI) (md_T cA) (md_W h0 r cA uf ua us))) (vp_Si (fun r => r = fX5_at uf ua x1)) 0 0 (fun _ => False) := by
  refine bx_ent (by decide) _ _ (Nat.le_of_ble_eq_true rfl) rfl ?_
  intro p e s m below meth c ls C hl hK0
  exact bX5_at_0 uf ua x1 C hK0 hl ho _ rfl
def fX5_set_16 (uf : Nat → Int32) (ua : Nat → Nat → Int32) (x1 : Int32) (x2 : Int32) (s1 : Int32) : Int32 × ((Nat → Int32) × (Nat → Nat → Int32)) :=
  if (fX5_thrown0 uf s1).1 ≤ 0 then (((ua 0) x1.toNatClampNeg), ((fX5_thrown0 uf s1).2, (va_up ua 0 (upd (ua 0) x1.toNatClampNeg x2))))
  else ((0 : Int32), ((fX5_thrown0 uf s1).2, ua))
def fX5_set (uf : Nat → Int32) (ua : Nat → Nat → Int32) (x1 : Int32) (x2 : Int32) : Int32 × ((Nat → Int32) × (Nat → Nat → Int32)) :=
  if (fX5_in x1 (0 : Int32) (15 : Int32)) = 0 then fX5_set_16 uf ua x1 x2 (1 : Int32)
  else fX5_set_16 uf ua x1 x2 (0 : Int32)
abbrev rmX5_set : Room := { frames := 1, cells := 0, slots := 0, locals := 22 }
theorem mbX5_set : mb_V RX5 yX5_set cX5_set 4 (some .int) 2 := ⟨⟨tw_instanceMethod_yX5_set, tw_selects_RX5_yX5_set_yX5_set, tw_initialized_RX5, tw_code_yX5_set⟩, rfl, by decide +kernel, by decide +kernel, by decide +kernel⟩
set_option maxRecDepth 20000 in
theorem bX5_set_16 (uf : Nat → Int32) (ua : Nat → Nat → Int32) (x1 : Int32) (x2 : Int32) (s1 : Int32) {p : Program} {l : Launch} {e : Env} {s : State} {m : MethodId} {args : Array Value} {below : List Frame} {meth : Method} {c : Code} {dC : Nat → ClassId} {dI : Nat → Nat → Nat} {r : Nat → Nat} {cA : Nat → ClassId} {Rg : Nat → Prop} {H : Heap} {locs : List Loc} {us : Nat → Int64} {h0 : Nat} {ls : Array Slot} (C : bx_C p s m args meth c cX5_set 4 (some .int) RX5) (hl : lv_has ls 4 [(0, .ref h0), (1, .int x1), (2, .int x2)]) (hw : hW (dC, dI) (md_T cA) Rg s H locs (md_W h0 r cA uf ua us)) (hz : s1 = 0 → vp_in x1 16) (post : (Int32 × ((Nat → Int32) × (Nat → Nat → Int32))) → Prop) (hq : post (fX5_set_16 uf ua x1 x2 s1)) : W p l e rmX5_set s m args below meth c H locs 0 0 (MQ below (va_Qi (fun r u => post (r, u)) (hBk (dC, dI) (md_T cA) Rg (fun u => md_W h0 r cA u.1 u.2 us)) Rg) args s 0 0 Rg) (F0 m 16 ls [.int s1, .ref h0]) := by
  obtain ⟨hx, hb, hml, hr, hlocks, hown, hts⟩ := id C
  unfold fX5_set_16 at hq
  refine hx_ci (Wf := (fun u => md_W h0 r cA u ua us)) (u0 := uf) (F := (fX5_thrown0 uf s1)) C (fun sz => kX5_thrown0 l dC dI h0 r cA sz uf ua us s1) (fun _ => bx_B_true) (fun _ _ _ => trivial) hw rfl rfl tw_methodLink_RX5_229_yX5_thrown0 mbX5_thrown0 rfl ⟨rfl, rfl⟩ ⟨Nat.le_of_ble_eq_true rfl, Nat.le_of_ble_eq_true rfl⟩ ⟨Nat.zero_le _, Nat.zero_le _⟩ hl.1 rfl (Nat.le_of_ble_eq_true rfl) dX5_set_16 (fun H locs hw => ?_)
  have hw : hW (dC, dI) (md_T cA) Rg s H locs (md_W h0 r cA ((fX5_thrown0 uf s1).2) ua us) := hw
  refine lv_if_le (tgt := 24) hx hb dX5_set_19 (by decide) (fun c2 => ?_) (fun c2 => ?_)
  · rw [if_pos c2] at hq
    refine lv_aload_n hx hb dX5_set_24 rfl (lv_at hl 0 rfl) ?_
    refine hx_get (v := .ref (r 0)) hx hb hts inX5 hown hw.1 hw.2.2.2.1 0 rfl rfl 0 (by decide) tw_fieldLink_RX5_7_GlulxFloatsModel_words_I rfl rfl dX5_set_25 ?_
    refine lv_iload_n hx hb dX5_set_28 rfl (lv_at hl 1 rfl) ?_
    refine hx_iald hx hb hw.1 hw.2.2.2.1 1 0 rfl rfl (hz (sd_thr (by assumption))) dX5_set_29 ?_
    refine lv_istore_n (lv' := [(3, .int ((ua 0) x1.toNatClampNeg)), (0, .ref h0), (1, .int x1), (2, .int x2)]) hx hb dX5_set_30 rfl hl (by decide) rfl (fun ls hl => ?_)
    refine lv_aload_n hx hb dX5_set_31 rfl (lv_at hl 1 rfl) ?_
    refine hx_get (v := .ref (r 0)) hx hb hts inX5 hown hw.1 hw.2.2.2.1 0 rfl rfl 0 (by decide) tw_fieldLink_RX5_7_GlulxFloatsModel_words_I rfl rfl dX5_set_32 ?_
    refine lv_iload_n hx hb dX5_set_35 rfl (lv_at hl 2 rfl) ?_
    refine lv_iload_n hx hb dX5_set_36 rfl (lv_at hl 3 rfl) ?_
    refine hx_iast (ws' := (md_W h0 r cA ((fX5_thrown0 uf s1).2) (va_up ua 0 (upd (ua 0) x1.toNatClampNeg x2)) us)) hx hb hw 1 0 rfl rfl (hz (sd_thr (by assumption))) dX5_set_37 rfl (fun H locs hw => ?_)
    refine lv_iload_n hx hb dX5_set_38 rfl (lv_at hl 0 rfl) ?_
    exact hx_iret (Wf := (fun u => md_W h0 r cA u.1 u.2 us)) (post := post) (v := ((ua 0) x1.toNatClampNeg)) (u := ((fX5_thrown0 uf s1).2, (va_up ua 0 (upd (ua 0) x1.toNatClampNeg x2)))) hx hb hr hlocks hw hq dX5_set_39
  · rw [if_neg c2] at hq
    refine lv_iconst (v := 0) hx hb dX5_set_22 (by decide) ?_
    exact hx_iret (Wf := (fun u => md_W h0 r cA u.1 u.2 us)) (post := post) (v := (0 : Int32)) (u := ((fX5_thrown0 uf s1).2, ua)) hx hb hr hlocks hw hq dX5_set_23
set_option maxRecDepth 20000 in
theorem bX5_set_0 (uf : Nat → Int32) (ua : Nat → Nat → Int32) (x1 : Int32) (x2 : Int32) {p : Program} {l : Launch} {e : Env} {s : State} {m : MethodId} {args : Array Value} {below : List Frame} {meth : Method} {c : Code} {dC : Nat → ClassId} {dI : Nat → Nat → Nat} {r : Nat → Nat} {cA : Nat → ClassId} {Rg : Nat → Prop} {H : Heap} {locs : List Loc} {us : Nat → Int64} {h0 : Nat} {ls : Array Slot} (C : bx_C p s m args meth c cX5_set 4 (some .int) RX5) (hl : lv_has ls 4 [(0, .ref h0), (1, .int x1), (2, .int x2)]) (hw : hW (dC, dI) (md_T cA) Rg s H locs (md_W h0 r cA uf ua us)) (post : (Int32 × ((Nat → Int32) × (Nat → Nat → Int32))) → Prop) (hq : post (fX5_set uf ua x1 x2)) : W p l e rmX5_set s m args below meth c H locs 0 0 (MQ below (va_Qi (fun r u => post (r, u)) (hBk (dC, dI) (md_T cA) Rg (fun u => md_W h0 r cA u.1 u.2 us)) Rg) args s 0 0 Rg) (F0 m 0 ls []) := by
  obtain ⟨hx, hb, hml, hr, hlocks, hown, hts⟩ := id C
  unfold fX5_set at hq
  refine lv_aload_n hx hb dX5_set_0 rfl (lv_at hl 0 rfl) ?_
  refine lv_iload_n hx hb dX5_set_1 rfl (lv_at hl 1 rfl) ?_
  refine lv_iconst (v := 0) hx hb dX5_set_2 (by decide) ?_
  refine lv_bipush (v := 15) hx hb dX5_set_3 (by decide) ?_
  refine bx_si C (kX5_in l x1 (0 : Int32) (15 : Int32)) bx_B_true (fun _ _ _ => trivial) tw_methodLink_RX5_225_yX5_in mbX5_in rfl ⟨rfl, rfl⟩ ⟨Nat.le_of_ble_eq_true rfl, Nat.le_of_ble_eq_true rfl⟩ ⟨Nat.zero_le _, Nat.zero_le _⟩ hl.1 rfl (Nat.le_of_ble_eq_true rfl) dX5_set_5 ?_
  refine lv_if_ne (tgt := 15) hx hb dX5_set_8 (by decide) (fun c1 => ?_) (fun c1 => ?_)
  · rw [if_neg c1] at hq
    refine lv_iconst (v := 0) hx hb dX5_set_15 (by decide) ?_
    exact bX5_set_16 uf ua x1 x2 (0 : Int32) C (lv_sub hl [0, 1, 2] rfl) hw (by first | exact fun h => absurd h (by decide) | exact fun _ => sd_in16 (by assumption)) post hq
  · rw [if_pos c1] at hq
    refine lv_iconst (v := 1) hx hb dX5_set_11 (by decide) ?_
    refine lv_goto (tgt := 16) hx hb dX5_set_12 (by decide) ?_
    exact bX5_set_16 uf ua x1 x2 (1 : Int32) C (lv_sub hl [0, 1, 2] rfl) hw (by first | exact fun h => absurd h (by decide) | exact fun _ => sd_in16 (by assumption)) post hq
theorem kX5_set (l : Launch) (dC : Nat → ClassId) (dI : Nat → Nat → Nat) (h0 : Nat) (r : Nat → Nat) (cA : Nat → ClassId) (sz : Nat) (uf : Nat → Int32) (ua : Nat → Nat → Int32) (us : Nat → Int64) (x1 : Int32) (x2 : Int32) : Met l yX5_set (Cond.code yX5_set cX5_set 4 (some .int) :: bw) rmX5_set (hPc [.ref h0, .int x1, .int x2] (dC, dI) (md_T cA) (md_W h0 r cA uf ua us) sz (fun _ => True)) (va_Qi (fun r u => (r, u) = fX5_set uf ua x1 x2) (hBk (dC, dI) (md_T cA) (va_A (md_W h0 r cA uf ua us) sz) (fun u => md_W h0 r cA u.1 u.2 us)) (va_A (md_W h0 r cA uf ua us) sz)) 0 0 (va_A (md_W h0 r cA uf ua us) sz) := by
  refine hx_ent (by decide) _ _ (Nat.le_of_ble_eq_true rfl) rfl ?_
  intro p e s m below meth c ls C hl hw hsz _
  exact bX5_set_0 uf ua x1 x2 C hl hw (fun q => q = fX5_set uf ua x1 x2) rfl
def fX5_word_16 (uf : Nat → Int32) (ua : Nat → Nat → Int32) (x1 : Int32) (s1 : Int32) : Int32 × (Nat → Int32) :=
  if (fX5_thrown0 uf s1).1 ≤ 0 then (((ua 0) x1.toNatClampNeg), (fX5_thrown0 uf s1).2)
  else ((0 : Int32), (fX5_thrown0 uf s1).2)
def fX5_word (uf : Nat → Int32) (ua : Nat → Nat → Int32) (x1 : Int32) : Int32 × (Nat → Int32) :=
  if (fX5_in x1 (0 : Int32) (15 : Int32)) = 0 then fX5_word_16 uf ua x1 (1 : Int32)
  else fX5_word_16 uf ua x1 (0 : Int32)
abbrev rmX5_word : Room := { frames := 1, cells := 0, slots := 0, locals := 22 }
theorem mbX5_word : mb_V RX5 yX5_word cX5_word 2 (some .int) 1 := ⟨⟨tw_instanceMethod_yX5_word, tw_selects_RX5_yX5_word_yX5_word, tw_initialized_RX5, tw_code_yX5_word⟩, rfl, by decide +kernel, by decide +kernel, by decide +kernel⟩
set_option maxRecDepth 20000 in
theorem bX5_word_16 (uf : Nat → Int32) (ua : Nat → Nat → Int32) (x1 : Int32) (s1 : Int32) {p : Program} {l : Launch} {e : Env} {s : State} {m : MethodId} {args : Array Value} {below : List Frame} {meth : Method} {c : Code} {dC : Nat → ClassId} {dI : Nat → Nat → Nat} {r : Nat → Nat} {cA : Nat → ClassId} {Rg : Nat → Prop} {H : Heap} {locs : List Loc} {us : Nat → Int64} {h0 : Nat} {ls : Array Slot} (C : bx_C p s m args meth c cX5_word 2 (some .int) RX5) (hl : lv_has ls 2 [(0, .ref h0), (1, .int x1)]) (hw : hW (dC, dI) (md_T cA) Rg s H locs (md_W h0 r cA uf ua us)) (hz : s1 = 0 → vp_in x1 16) (post : (Int32 × (Nat → Int32)) → Prop) (hq : post (fX5_word_16 uf ua x1 s1)) : W p l e rmX5_word s m args below meth c H locs 0 0 (MQ below (va_Qi (fun r u => post (r, u)) (hBk (dC, dI) (md_T cA) Rg (fun u => md_W h0 r cA u ua us)) Rg) args s 0 0 Rg) (F0 m 16 ls [.int s1, .ref h0]) := by
  obtain ⟨hx, hb, hml, hr, hlocks, hown, hts⟩ := id C
  unfold fX5_word_16 at hq
  refine hx_ci (Wf := (fun u => md_W h0 r cA u ua us)) (u0 := uf) (F := (fX5_thrown0 uf s1)) C (fun sz => kX5_thrown0 l dC dI h0 r cA sz uf ua us s1) (fun _ => bx_B_true) (fun _ _ _ => trivial) hw rfl rfl tw_methodLink_RX5_229_yX5_thrown0 mbX5_thrown0 rfl ⟨rfl, rfl⟩ ⟨Nat.le_of_ble_eq_true rfl, Nat.le_of_ble_eq_true rfl⟩ ⟨Nat.zero_le _, Nat.zero_le _⟩ hl.1 rfl (Nat.le_of_ble_eq_true rfl) dX5_word_16 (fun H locs hw => ?_)
  have hw : hW (dC, dI) (md_T cA) Rg s H locs (md_W h0 r cA ((fX5_thrown0 uf s1).2) ua us) := hw
  refine lv_if_le (tgt := 26) hx hb dX5_word_19 (by decide) (fun c2 => ?_) (fun c2 => ?_)
  · rw [if_pos c2] at hq
    refine lv_aload_n hx hb dX5_word_26 rfl (lv_at hl 0 rfl) ?_
    refine hx_get (v := .ref (r 0)) hx hb hts inX5 hown hw.1 hw.2.2.2.1 0 rfl rfl 0 (by decide) tw_fieldLink_RX5_7_GlulxFloatsModel_words_I rfl rfl dX5_word_27 ?_
    refine lv_iload_n hx hb dX5_word_30 rfl (lv_at hl 1 rfl) ?_
    refine hx_iald hx hb hw.1 hw.2.2.2.1 1 0 rfl rfl (hz (sd_thr (by assumption))) dX5_word_31 ?_
    exact hx_iret (Wf := (fun u => md_W h0 r cA u ua us)) (post := post) (v := ((ua 0) x1.toNatClampNeg)) (u := (fX5_thrown0 uf s1).2) hx hb hr hlocks hw hq dX5_word_32
  · rw [if_neg c2] at hq
    refine lv_iconst (v := 0) hx hb dX5_word_22 (by decide) ?_
    refine lv_goto (tgt := 32) hx hb dX5_word_23 (by decide) ?_
    exact hx_iret (Wf := (fun u => md_W h0 r cA u ua us)) (post := post) (v := (0 : Int32)) (u := (fX5_thrown0 uf s1).2) hx hb hr hlocks hw hq dX5_word_32
set_option maxRecDepth 20000 in
theorem bX5_word_0 (uf : Nat → Int32) (ua : Nat → Nat → Int32) (x1 : Int32) {p : Program} {l : Launch} {e : Env} {s : State} {m : MethodId} {args : Array Value} {below : List Frame} {meth : Method} {c : Code} {dC : Nat → ClassId} {dI : Nat → Nat → Nat} {r : Nat → Nat} {cA : Nat → ClassId} {Rg : Nat → Prop} {H : Heap} {locs : List Loc} {us : Nat → Int64} {h0 : Nat} {ls : Array Slot} (C : bx_C p s m args meth c cX5_word 2 (some .int) RX5) (hl : lv_has ls 2 [(0, .ref h0), (1, .int x1)]) (hw : hW (dC, dI) (md_T cA) Rg s H locs (md_W h0 r cA uf ua us)) (post : (Int32 × (Nat → Int32)) → Prop) (hq : post (fX5_word uf ua x1)) : W p l e rmX5_word s m args below meth c H locs 0 0 (MQ below (va_Qi (fun r u => post (r, u)) (hBk (dC, dI) (md_T cA) Rg (fun u => md_W h0 r cA u ua us)) Rg) args s 0 0 Rg) (F0 m 0 ls []) := by
  obtain ⟨hx, hb, hml, hr, hlocks, hown, hts⟩ := id C
  unfold fX5_word at hq
  refine lv_aload_n hx hb dX5_word_0 rfl (lv_at hl 0 rfl) ?_
  refine lv_iload_n hx hb dX5_word_1 rfl (lv_at hl 1 rfl) ?_
  refine lv_iconst (v := 0) hx hb dX5_word_2 (by decide) ?_
  refine lv_bipush (v := 15) hx hb dX5_word_3 (by decide) ?_
  refine bx_si C (kX5_in l x1 (0 : Int32) (15 : Int32)) bx_B_true (fun _ _ _ => trivial) tw_methodLink_RX5_225_yX5_in mbX5_in rfl ⟨rfl, rfl⟩ ⟨Nat.le_of_ble_eq_true rfl, Nat.le_of_ble_eq_true rfl⟩ ⟨Nat.zero_le _, Nat.zero_le _⟩ hl.1 rfl (Nat.le_of_ble_eq_true rfl) dX5_word_5 ?_
  refine lv_if_ne (tgt := 15) hx hb dX5_word_8 (by decide) (fun c1 => ?_) (fun c1 => ?_)
  · rw [if_neg c1] at hq
    refine lv_iconst (v := 0) hx hb dX5_word_15 (by decide) ?_
    exact bX5_word_16 uf ua x1 (0 : Int32) C (lv_sub hl [0, 1] rfl) hw (by first | exact fun h => absurd h (by decide) | exact fun _ => sd_in16 (by assumption)) post hq
  · rw [if_pos c1] at hq
    refine lv_iconst (v := 1) hx hb dX5_word_11 (by decide) ?_
    refine lv_goto (tgt := 16) hx hb dX5_word_12 (by decide) ?_
    exact bX5_word_16 uf ua x1 (1 : Int32) C (lv_sub hl [0, 1] rfl) hw (by first | exact fun h => absurd h (by decide) | exact fun _ => sd_in16 (by assumption)) post hq
theorem kX5_word (l : Launch) (dC : Nat → ClassId) (dI : Nat → Nat → Nat) (h0 : Nat) (r : Nat → Nat) (cA : Nat → ClassId) (sz : Nat) (uf : Nat → Int32) (ua : Nat → Nat → Int32) (us : Nat → Int64) (x1 : Int32) : Met l yX5_word (Cond.code yX5_word cX5_word 2 (some .int) :: bw) rmX5_word (hPc [.ref h0, .int x1] (dC, dI) (md_T cA) (md_W h0 r cA uf ua us) sz (fun _ => True)) (va_Qi (fun r u => (r, u) = fX5_word uf ua x1) (hBk (dC, dI) (md_T cA) (va_A (md_W h0 r cA uf ua us) sz) (fun u => md_W h0 r cA u ua us)) (va_A (md_W h0 r cA uf ua us) sz)) 0 0 (va_A (md_W h0 r cA uf ua us) sz) := by
  refine hx_ent (by decide) _ _ (Nat.le_of_ble_eq_true rfl) rfl ?_
  intro p e s m below meth c ls C hl hw hsz _
  exact bX5_word_0 uf ua x1 C hl hw (fun q => q = fX5_word uf ua x1) rfl
def fX5_step_204 (uf : Nat → Int32) (ua : Nat → Nat → Int32) (x1 : Int32) (x2 : Int32) (x3 : Int32) (x4 : Int32) (x5 : Int32) (s0 : Int32) : Int32 × ((Nat → Int32) × (Nat → Nat → Int32)) :=
  if s0 = 0 then ((-102 : Int32), (uf, ua))
  else if (uf 1) = (40 : Int32) then ((-104 : Int32), (uf, ua))
    else (((uf 1) + (1 : Int32)), ((va_up uf 1 ((uf 1) + (1 : Int32))), (va_up (va_up (va_up (va_up (va_up ua 2 (upd (ua 2) (uf 1).toNatClampNeg x1)) 3 (upd (ua 3) (uf 1).toNatClampNeg x2)) 4 (upd (ua 4) (uf 1).toNatClampNeg x3)) 5 (upd (ua 5) (uf 1).toNatClampNeg x4)) 6 (upd (ua 6) (uf 1).toNatClampNeg x5))))
def fX5_step_203 (uf : Nat → Int32) (ua : Nat → Nat → Int32) (x1 : Int32) (x2 : Int32) (x3 : Int32) (x4 : Int32) (x5 : Int32) : Int32 × ((Nat → Int32) × (Nat → Nat → Int32)) :=
  fX5_step_204 uf ua x1 x2 x3 x4 x5 (0 : Int32)
def fX5_step_199 (uf : Nat → Int32) (ua : Nat → Nat → Int32) (x1 : Int32) (x2 : Int32) (x3 : Int32) (x4 : Int32) (x5 : Int32) : Int32 × ((Nat → Int32) × (Nat → Nat → Int32)) :=
  fX5_step_204 uf ua x1 x2 x3 x4 x5 (1 : Int32)
def fX5_step_170 (uf : Nat → Int32) (ua : Nat → Nat → Int32) (x1 : Int32) (x2 : Int32) (x3 : Int32) (x4 : Int32) (x5 : Int32) (s0 : Int32) : Int32 × ((Nat → Int32) × (Nat → Nat → Int32)) :=
  if s0 = 0 then fX5_step_203 uf ua x1 x2 x3 x4 x5
  else if (fX5_in x1 (40 : Int32) (43 : Int32)) = 0 then if (fX5_in x5 (0 : Int32) (15 : Int32)) = 0 then fX5_step_203 uf ua x1 x2 x3 x4 x5
      else fX5_step_199 uf ua x1 x2 x3 x4 x5
    else fX5_step_199 uf ua x1 x2 x3 x4 x5
def fX5_step_169 (uf : Nat → Int32) (ua : Nat → Nat → Int32) (x1 : Int32) (x2 : Int32) (x3 : Int32) (x4 : Int32) (x5 : Int32) : Int32 × ((Nat → Int32) × (Nat → Nat → Int32)) :=
  fX5_step_170 uf ua x1 x2 x3 x4 x5 (0 : Int32)
def fX5_step_165 (uf : Nat → Int32) (ua : Nat → Nat → Int32) (x1 : Int32) (x2 : Int32) (x3 : Int32) (x4 : Int32) (x5 : Int32) : Int32 × ((Nat → Int32) × (Nat → Nat → Int32)) :=
  fX5_step_170 uf ua x1 x2 x3 x4 x5 (1 : Int32)
def fX5_step_129 (uf : Nat → Int32) (ua : Nat → Nat → Int32) (x1 : Int32) (x2 : Int32) (x3 : Int32) (x4 : Int32) (x5 : Int32) (s0 : Int32) : Int32 × ((Nat → Int32) × (Nat → Nat → Int32)) :=
  if s0 = 0 then fX5_step_169 uf ua x1 x2 x3 x4 x5
  else if x1 = (40 : Int32) then fX5_step_165 uf ua x1 x2 x3 x4 x5
    else if x1 = (41 : Int32) then fX5_step_165 uf ua x1 x2 x3 x4 x5
      else if x1 = (43 : Int32) then fX5_step_165 uf ua x1 x2 x3 x4 x5
        else if (fX5_in x4 (0 : Int32) (15 : Int32)) = 0 then fX5_step_169 uf ua x1 x2 x3 x4 x5
          else fX5_step_165 uf ua x1 x2 x3 x4 x5
def fX5_step_128 (uf : Nat → Int32) (ua : Nat → Nat → Int32) (x1 : Int32) (x2 : Int32) (x3 : Int32) (x4 : Int32) (x5 : Int32) : Int32 × ((Nat → Int32) × (Nat → Nat → Int32)) :=
  fX5_step_129 uf ua x1 x2 x3 x4 x5 (0 : Int32)
def fX5_step_124 (uf : Nat → Int32) (ua : Nat → Nat → Int32) (x1 : Int32) (x2 : Int32) (x3 : Int32) (x4 : Int32) (x5 : Int32) : Int32 × ((Nat → Int32) × (Nat → Nat → Int32)) :=
  fX5_step_129 uf ua x1 x2 x3 x4 x5 (1 : Int32)
def fX5_step_89 (uf : Nat → Int32) (ua : Nat → Nat → Int32) (x1 : Int32) (x2 : Int32) (x3 : Int32) (x4 : Int32) (x5 : Int32) (s0 : Int32) : Int32 × ((Nat → Int32) × (Nat → Nat → Int32)) :=
  if s0 = 0 then fX5_step_128 uf ua x1 x2 x3 x4 x5
  else if x1 = (40 : Int32) then fX5_step_124 uf ua x1 x2 x3 x4 x5
    else if x1 = (41 : Int32) then fX5_step_124 uf ua x1 x2 x3 x4 x5
      else if x1 = (43 : Int32) then fX5_step_124 uf ua x1 x2 x3 x4 x5
        else if (fX5_in x3 (0 : Int32) (15 : Int32)) = 0 then fX5_step_128 uf ua x1 x2 x3 x4 x5
          else fX5_step_124 uf ua x1 x2 x3 x4 x5
def fX5_step_88 (uf : Nat → Int32) (ua : Nat → Nat → Int32) (x1 : Int32) (x2 : Int32) (x3 : Int32) (x4 : Int32) (x5 : Int32) : Int32 × ((Nat → Int32) × (Nat → Nat → Int32)) :=
  fX5_step_89 uf ua x1 x2 x3 x4 x5 (0 : Int32)
def fX5_step_84 (uf : Nat → Int32) (ua : Nat → Nat → Int32) (x1 : Int32) (x2 : Int32) (x3 : Int32) (x4 : Int32) (x5 : Int32) : Int32 × ((Nat → Int32) × (Nat → Nat → Int32)) :=
  fX5_step_89 uf ua x1 x2 x3 x4 x5 (1 : Int32)
def fX5_step_78 (uf : Nat → Int32) (ua : Nat → Nat → Int32) (x1 : Int32) (x2 : Int32) (x3 : Int32) (x4 : Int32) (x5 : Int32) (s0 : Int32) (s1 : Int32) (s2 : Int32) : Int32 × ((Nat → Int32) × (Nat → Nat → Int32)) :=
  if (fX5_in s0 s1 s2) = 0 then fX5_step_88 uf ua x1 x2 x3 x4 x5
  else fX5_step_84 uf ua x1 x2 x3 x4 x5
def fX5_step_71 (uf : Nat → Int32) (ua : Nat → Nat → Int32) (x1 : Int32) (x2 : Int32) (x3 : Int32) (x4 : Int32) (x5 : Int32) (s0 : Int32) (s1 : Int32) : Int32 × ((Nat → Int32) × (Nat → Nat → Int32)) :=
  fX5_step_78 uf ua x1 x2 x3 x4 x5 s0 s1 (39 : Int32)
def fX5_step_45 (uf : Nat → Int32) (ua : Nat → Nat → Int32) (x1 : Int32) (x2 : Int32) (x3 : Int32) (x4 : Int32) (x5 : Int32) (x7 : Int32) (s0 : Int32) : Int32 × ((Nat → Int32) × (Nat → Nat → Int32)) :=
  if s0 = 0 then fX5_step_88 uf ua x1 x2 x3 x4 x5
  else if x1 = (40 : Int32) then fX5_step_84 uf ua x1 x2 x3 x4 x5
    else if x7 = 0 then if x1 = (43 : Int32) then fX5_step_71 uf ua x1 x2 x3 x4 x5 x2 (0 : Int32)
        else fX5_step_78 uf ua x1 x2 x3 x4 x5 x2 (0 : Int32) (15 : Int32)
      else fX5_step_71 uf ua x1 x2 x3 x4 x5 x2 (0 : Int32)
def fX5_step_40 (uf : Nat → Int32) (ua : Nat → Nat → Int32) (x1 : Int32) (x2 : Int32) (x3 : Int32) (x4 : Int32) (x5 : Int32) (x7 : Int32) : Int32 × ((Nat → Int32) × (Nat → Nat → Int32)) :=
  fX5_step_45 uf ua x1 x2 x3 x4 x5 x7 (1 : Int32)
def fX5_step (uf : Nat → Int32) (ua : Nat → Nat → Int32) (x1 : Int32) (x2 : Int32) (x3 : Int32) (x4 : Int32) (x5 : Int32) : Int32 × ((Nat → Int32) × (Nat → Nat → Int32)) :=
  if (fX5_in x1 (0 : Int32) (23 : Int32)) = 0 then if (fX5_in x1 (30 : Int32) (37 : Int32)) = 0 then if (fX5_in x1 (40 : Int32) (43 : Int32)) = 0 then fX5_step_45 uf ua x1 x2 x3 x4 x5 (fX5_in x1 (30 : Int32) (37 : Int32)) (0 : Int32)
      else fX5_step_40 uf ua x1 x2 x3 x4 x5 (fX5_in x1 (30 : Int32) (37 : Int32))
    else fX5_step_40 uf ua x1 x2 x3 x4 x5 (fX5_in x1 (30 : Int32) (37 : Int32))
  else fX5_step_40 uf ua x1 x2 x3 x4 x5 (fX5_in x1 (30 : Int32) (37 : Int32))
abbrev rmX5_step : Room := { frames := 1, cells := 0, slots := 0, locals := 22 }
theorem mbX5_step : mb_V RX5 yX5_step cX5_step 9 (some .int) 5 := ⟨⟨tw_instanceMethod_yX5_step, tw_selects_RX5_yX5_step_yX5_step, tw_initialized_RX5, tw_code_yX5_step⟩, rfl, by decide +kernel, by decide +kernel, by decide +kernel⟩
set_option maxRecDepth 20000 in
theorem bX5_step_204 (uf : Nat → Int32) (ua : Nat → Nat → Int32) (x1 : Int32) (x2 : Int32) (x3 : Int32) (x4 : Int32) (x5 : Int32) (s0 : Int32) {p : Program} {l : Launch} {e : Env} {s : State} {m : MethodId} {args : Array Value} {below : List Frame} {meth : Method} {c : Code} {dC : Nat → ClassId} {dI : Nat → Nat → Nat} {r : Nat → Nat} {cA : Nat → ClassId} {Rg : Nat → Prop} {H : Heap} {locs : List Loc} {us : Nat → Int64} {h0 : Nat} {ls : Array Slot} (C : bx_C p s m args meth c cX5_step 9 (some .int) RX5) (hl : lv_has ls 9 [(0, .ref h0), (1, .int x1), (2, .int x2), (3, .int x3), (4, .int x4), (5, .int x5)]) (hw : hW (dC, dI) (md_T cA) Rg s H locs (md_W h0 r cA uf ua us)) (hk : 0 ≤ (uf 1).toInt ∧ (uf 1).toInt ≤ 40) (post : (Int32 × ((Nat → Int32) × (Nat → Nat → Int32))) → Prop) (hq : post (fX5_step_204 uf ua x1 x2 x3 x4 x5 s0)) : W p l e rmX5_step s m args below meth c H locs 0 0 (MQ below (va_Qi (fun r u => post (r, u)) (hBk (dC, dI) (md_T cA) Rg (fun u => md_W h0 r cA u.1 u.2 us)) Rg) args s 0 0 Rg) (F0 m 204 ls [.int s0]) := by
  obtain ⟨hx, hb, hml, hr, hlocks, hown, hts⟩ := id C
  unfold fX5_step_204 at hq
  refine lv_istore (lv' := [(8, .int s0), (0, .ref h0), (1, .int x1), (2, .int x2), (3, .int x3), (4, .int x4), (5, .int x5)]) hx hb dX5_step_204 hl (by decide) rfl (fun ls hl => ?_)
  refine lv_iload hx hb dX5_step_206 (lv_at hl 0 rfl) ?_
  refine lv_if_ne (tgt := 214) hx hb dX5_step_208 (by decide) (fun c6 => ?_) (fun c6 => ?_)
  · rw [if_neg c6] at hq
    refine lv_aload_n hx hb dX5_step_214 rfl (lv_at hl 1 rfl) ?_
    refine hx_get (v := .int (uf 1)) hx hb hts inX5 hown hw.1 hw.2.2.2.1 0 rfl rfl 1 (by decide) tw_fieldLink_RX5_274_GlulxFloatsModel_steps_I rfl rfl dX5_step_215 ?_
    refine lv_bipush (v := 40) hx hb dX5_step_218 (by decide) ?_
    refine lv_icmp_ne (tgt := 226) hx hb dX5_step_220 (by decide) (fun c7 => ?_) (fun c7 => ?_)
    · rw [if_neg c7] at hq
      refine lv_aload_n hx hb dX5_step_226 rfl (lv_at hl 1 rfl) ?_
      refine hx_get (v := .ref (r 2)) hx hb hts inX5 hown hw.1 hw.2.2.2.1 0 rfl rfl 2 (by decide) tw_fieldLink_RX5_13_GlulxFloatsModel_codes_I rfl rfl dX5_step_227 ?_
      refine lv_aload_n hx hb dX5_step_230 rfl (lv_at hl 1 rfl) ?_
      refine hx_get (v := .int (uf 1)) hx hb hts inX5 hown hw.1 hw.2.2.2.1 0 rfl rfl 1 (by decide) tw_fieldLink_RX5_274_GlulxFloatsModel_steps_I rfl rfl dX5_step_231 ?_
      refine lv_iload_n hx hb dX5_step_234 rfl (lv_at hl 2 rfl) ?_
      refine hx_iast (ws' := (md_W h0 r cA uf (va_up ua 2 (upd (ua 2) (uf 1).toNatClampNeg x1)) us)) hx hb hw 2 1 rfl rfl (sd_st hk (by assumption)) dX5_step_235 rfl (fun H locs hw => ?_)
      refine lv_aload_n hx hb dX5_step_236 rfl (lv_at hl 1 rfl) ?_
      refine hx_get (v := .ref (r 3)) hx hb hts inX5 hown hw.1 hw.2.2.2.1 0 rfl rfl 3 (by decide) tw_fieldLink_RX5_16_GlulxFloatsModel_ts_I rfl rfl dX5_step_237 ?_
      refine lv_aload_n hx hb dX5_step_240 rfl (lv_at hl 1 rfl) ?_
      refine hx_get (v := .int (uf 1)) hx hb hts inX5 hown hw.1 hw.2.2.2.1 0 rfl rfl 1 (by decide) tw_fieldLink_RX5_274_GlulxFloatsModel_steps_I rfl rfl dX5_step_241 ?_
      refine lv_iload_n hx hb dX5_step_244 rfl (lv_at hl 3 rfl) ?_
      refine hx_iast (ws' := (md_W h0 r cA uf (va_up (va_up ua 2 (upd (ua 2) (uf 1).toNatClampNeg x1)) 3 (upd (ua 3) (uf 1).toNatClampNeg x2)) us)) hx hb hw 3 2 rfl rfl (sd_st hk (by assumption)) dX5_step_245 rfl (fun H locs hw => ?_)
      refine lv_aload_n hx hb dX5_step_246 rfl (lv_at hl 1 rfl) ?_
      refine hx_get (v := .ref (r 4)) hx hb hts inX5 hown hw.1 hw.2.2.2.1 0 rfl rfl 4 (by decide) tw_fieldLink_RX5_19_GlulxFloatsModel_xs_I rfl rfl dX5_step_247 ?_
      refine lv_aload_n hx hb dX5_step_250 rfl (lv_at hl 1 rfl) ?_
      refine hx_get (v := .int (uf 1)) hx hb hts inX5 hown hw.1 hw.2.2.2.1 0 rfl rfl 1 (by decide) tw_fieldLink_RX5_274_GlulxFloatsModel_steps_I rfl rfl dX5_step_251 ?_
      refine lv_iload_n hx hb dX5_step_254 rfl (lv_at hl 4 rfl) ?_
      refine hx_iast (ws' := (md_W h0 r cA uf (va_up (va_up (va_up ua 2 (upd (ua 2) (uf 1).toNatClampNeg x1)) 3 (upd (ua 3) (uf 1).toNatClampNeg x2)) 4 (upd (ua 4) (uf 1).toNatClampNeg x3)) us)) hx hb hw 4 3 rfl rfl (sd_st hk (by assumption)) dX5_step_255 rfl (fun H locs hw => ?_)
      refine lv_aload_n hx hb dX5_step_256 rfl (lv_at hl 1 rfl) ?_
      refine hx_get (v := .ref (r 5)) hx hb hts inX5 hown hw.1 hw.2.2.2.1 0 rfl rfl 5 (by decide) tw_fieldLink_RX5_22_GlulxFloatsModel_ys_I rfl rfl dX5_step_257 ?_
      refine lv_aload_n hx hb dX5_step_260 rfl (lv_at hl 1 rfl) ?_
      refine hx_get (v := .int (uf 1)) hx hb hts inX5 hown hw.1 hw.2.2.2.1 0 rfl rfl 1 (by decide) tw_fieldLink_RX5_274_GlulxFloatsModel_steps_I rfl rfl dX5_step_261 ?_
      refine lv_iload hx hb dX5_step_264 (lv_at hl 5 rfl) ?_
      refine hx_iast (ws' := (md_W h0 r cA uf (va_up (va_up (va_up (va_up ua 2 (upd (ua 2) (uf 1).toNatClampNeg x1)) 3 (upd (ua 3) (uf 1).toNatClampNeg x2)) 4 (upd (ua 4) (uf 1).toNatClampNeg x3)) 5 (upd (ua 5) (uf 1).toNatClampNeg x4)) us)) hx hb hw 5 4 rfl rfl (sd_st hk (by assumption)) dX5_step_266 rfl (fun H locs hw => ?_)
      refine lv_aload_n hx hb dX5_step_267 rfl (lv_at hl 1 rfl) ?_
      refine hx_get (v := .ref (r 6)) hx hb hts inX5 hown hw.1 hw.2.2.2.1 0 rfl rfl 6 (by decide) tw_fieldLink_RX5_25_GlulxFloatsModel_zs_I rfl rfl dX5_step_268 ?_
      refine lv_aload_n hx hb dX5_step_271 rfl (lv_at hl 1 rfl) ?_
      refine hx_get (v := .int (uf 1)) hx hb hts inX5 hown hw.1 hw.2.2.2.1 0 rfl rfl 1 (by decide) tw_fieldLink_RX5_274_GlulxFloatsModel_steps_I rfl rfl dX5_step_272 ?_
      refine lv_iload hx hb dX5_step_275 (lv_at hl 6 rfl) ?_
      refine hx_iast (ws' := (md_W h0 r cA uf (va_up (va_up (va_up (va_up (va_up ua 2 (upd (ua 2) (uf 1).toNatClampNeg x1)) 3 (upd (ua 3) (uf 1).toNatClampNeg x2)) 4 (upd (ua 4) (uf 1).toNatClampNeg x3)) 5 (upd (ua 5) (uf 1).toNatClampNeg x4)) 6 (upd (ua 6) (uf 1).toNatClampNeg x5)) us)) hx hb hw 6 5 rfl rfl (sd_st hk (by assumption)) dX5_step_277 rfl (fun H locs hw => ?_)
      refine lv_aload_n hx hb dX5_step_278 rfl (lv_at hl 1 rfl) ?_
      refine lv_dup hx hb dX5_step_279 rfl ?_
      refine hx_get (v := .int (uf 1)) hx hb hts inX5 hown hw.1 hw.2.2.2.1 0 rfl rfl 1 (by decide) tw_fieldLink_RX5_274_GlulxFloatsModel_steps_I rfl rfl dX5_step_280 ?_
      refine lv_iconst (v := 1) hx hb dX5_step_283 (by decide) ?_
      refine lv_iadd hx hb dX5_step_284 ?_
      refine hx_put (ws' := (md_W h0 r cA (va_up uf 1 ((uf 1) + (1 : Int32))) (va_up (va_up (va_up (va_up (va_up ua 2 (upd (ua 2) (uf 1).toNatClampNeg x1)) 3 (upd (ua 3) (uf 1).toNatClampNeg x2)) 4 (upd (ua 4) (uf 1).toNatClampNeg x3)) 5 (upd (ua 5) (uf 1).toNatClampNeg x4)) 6 (upd (ua 6) (uf 1).toNatClampNeg x5)) us)) hx hb hts inX5 tyX5 tyX5_ok nmX5 hown hw 0 rfl rfl 1 (by decide) tw_fieldLink_RX5_274_GlulxFloatsModel_steps_I rfl rfl (by decide +kernel) (Nat.le_of_ble_eq_true rfl) dX5_step_285 rfl (fun H locs hw => ?_)
      refine lv_aload_n hx hb dX5_step_288 rfl (lv_at hl 1 rfl) ?_
      refine hx_get (v := .int ((uf 1) + (1 : Int32))) hx hb hts inX5 hown hw.1 hw.2.2.2.1 0 rfl rfl 1 (by decide) tw_fieldLink_RX5_274_GlulxFloatsModel_steps_I rfl rfl dX5_step_289 ?_
      exact hx_iret (Wf := (fun u => md_W h0 r cA u.1 u.2 us)) (post := post) (v := ((uf 1) + (1 : Int32))) (u := ((va_up uf 1 ((uf 1) + (1 : Int32))), (va_up (va_up (va_up (va_up (va_up ua 2 (upd (ua 2) (uf 1).toNatClampNeg x1)) 3 (upd (ua 3) (uf 1).toNatClampNeg x2)) 4 (upd (ua 4) (uf 1).toNatClampNeg x3)) 5 (upd (ua 5) (uf 1).toNatClampNeg x4)) 6 (upd (ua 6) (uf 1).toNatClampNeg x5)))) hx hb hr hlocks hw hq dX5_step_292
    · rw [if_pos c7] at hq
      refine lv_bipush (v := -104) hx hb dX5_step_223 (by decide) ?_
      exact hx_iret (Wf := (fun u => md_W h0 r cA u.1 u.2 us)) (post := post) (v := (-104 : Int32)) (u := (uf, ua)) hx hb hr hlocks hw hq dX5_step_225
  · rw [if_pos c6] at hq
    refine lv_bipush (v := -102) hx hb dX5_step_211 (by decide) ?_
    exact hx_iret (Wf := (fun u => md_W h0 r cA u.1 u.2 us)) (post := post) (v := (-102 : Int32)) (u := (uf, ua)) hx hb hr hlocks hw hq dX5_step_213
set_option maxRecDepth 20000 in
theorem bX5_step_203 (uf : Nat → Int32) (ua : Nat → Nat → Int32) (x1 : Int32) (x2 : Int32) (x3 : Int32) (x4 : Int32) (x5 : Int32) {p : Program} {l : Launch} {e : Env} {s : State} {m : MethodId} {args : Array Value} {below : List Frame} {meth : Method} {c : Code} {dC : Nat → ClassId} {dI : Nat → Nat → Nat} {r : Nat → Nat} {cA : Nat → ClassId} {Rg : Nat → Prop} {H : Heap} {locs : List Loc} {us : Nat → Int64} {h0 : Nat} {ls : Array Slot} (C : bx_C p s m args meth c cX5_step 9 (some .int) RX5) (hl : lv_has ls 9 [(0, .ref h0), (1, .int x1), (2, .int x2), (3, .int x3), (4, .int x4), (5, .int x5)]) (hw : hW (dC, dI) (md_T cA) Rg s H locs (md_W h0 r cA uf ua us)) (hk : 0 ≤ (uf 1).toInt ∧ (uf 1).toInt ≤ 40) (post : (Int32 × ((Nat → Int32) × (Nat → Nat → Int32))) → Prop) (hq : post (fX5_step_203 uf ua x1 x2 x3 x4 x5)) : W p l e rmX5_step s m args below meth c H locs 0 0 (MQ below (va_Qi (fun r u => post (r, u)) (hBk (dC, dI) (md_T cA) Rg (fun u => md_W h0 r cA u.1 u.2 us)) Rg) args s 0 0 Rg) (F0 m 203 ls []) := by
  obtain ⟨hx, hb, hml, hr, hlocks, hown, hts⟩ := id C
  unfold fX5_step_203 at hq
  refine lv_iconst (v := 0) hx hb dX5_step_203 (by decide) ?_
  exact bX5_step_204 uf ua x1 x2 x3 x4 x5 (0 : Int32) C (lv_sub hl [0, 1, 2, 3, 4, 5] rfl) hw hk post hq
set_option maxRecDepth 20000 in
theorem bX5_step_199 (uf : Nat → Int32) (ua : Nat → Nat → Int32) (x1 : Int32) (x2 : Int32) (x3 : Int32) (x4 : Int32) (x5 : Int32) {p : Program} {l : Launch} {e : Env} {s : State} {m : MethodId} {args : Array Value} {below : List Frame} {meth : Method} {c : Code} {dC : Nat → ClassId} {dI : Nat → Nat → Nat} {r : Nat → Nat} {cA : Nat → ClassId} {Rg : Nat → Prop} {H : Heap} {locs : List Loc} {us : Nat → Int64} {h0 : Nat} {ls : Array Slot} (C : bx_C p s m args meth c cX5_step 9 (some .int) RX5) (hl : lv_has ls 9 [(0, .ref h0), (1, .int x1), (2, .int x2), (3, .int x3), (4, .int x4), (5, .int x5)]) (hw : hW (dC, dI) (md_T cA) Rg s H locs (md_W h0 r cA uf ua us)) (hk : 0 ≤ (uf 1).toInt ∧ (uf 1).toInt ≤ 40) (post : (Int32 × ((Nat → Int32) × (Nat → Nat → Int32))) → Prop) (hq : post (fX5_step_199 uf ua x1 x2 x3 x4 x5)) : W p l e rmX5_step s m args below meth c H locs 0 0 (MQ below (va_Qi (fun r u => post (r, u)) (hBk (dC, dI) (md_T cA) Rg (fun u => md_W h0 r cA u.1 u.2 us)) Rg) args s 0 0 Rg) (F0 m 199 ls []) := by
  obtain ⟨hx, hb, hml, hr, hlocks, hown, hts⟩ := id C
  unfold fX5_step_199 at hq
  refine lv_iconst (v := 1) hx hb dX5_step_199 (by decide) ?_
  refine lv_goto (tgt := 204) hx hb dX5_step_200 (by decide) ?_
  exact bX5_step_204 uf ua x1 x2 x3 x4 x5 (1 : Int32) C (lv_sub hl [0, 1, 2, 3, 4, 5] rfl) hw hk post hq
set_option maxRecDepth 20000 in
theorem bX5_step_170 (uf : Nat → Int32) (ua : Nat → Nat → Int32) (x1 : Int32) (x2 : Int32) (x3 : Int32) (x4 : Int32) (x5 : Int32) (s0 : Int32) {p : Program} {l : Launch} {e : Env} {s : State} {m : MethodId} {args : Array Value} {below : List Frame} {meth : Method} {c : Code} {dC : Nat → ClassId} {dI : Nat → Nat → Nat} {r : Nat → Nat} {cA : Nat → ClassId} {Rg : Nat → Prop} {H : Heap} {locs : List Loc} {us : Nat → Int64} {h0 : Nat} {ls : Array Slot} (C : bx_C p s m args meth c cX5_step 9 (some .int) RX5) (hl : lv_has ls 9 [(0, .ref h0), (1, .int x1), (2, .int x2), (3, .int x3), (4, .int x4), (5, .int x5)]) (hw : hW (dC, dI) (md_T cA) Rg s H locs (md_W h0 r cA uf ua us)) (hk : 0 ≤ (uf 1).toInt ∧ (uf 1).toInt ≤ 40) (post : (Int32 × ((Nat → Int32) × (Nat → Nat → Int32))) → Prop) (hq : post (fX5_step_170 uf ua x1 x2 x3 x4 x5 s0)) : W p l e rmX5_step s m args below meth c H locs 0 0 (MQ below (va_Qi (fun r u => post (r, u)) (hBk (dC, dI) (md_T cA) Rg (fun u => md_W h0 r cA u.1 u.2 us)) Rg) args s 0 0 Rg) (F0 m 170 ls [.int s0]) := by
  obtain ⟨hx, hb, hml, hr, hlocks, hown, hts⟩ := id C
  unfold fX5_step_170 at hq
  refine lv_istore (lv' := [(8, .int s0), (0, .ref h0), (1, .int x1), (2, .int x2), (3, .int x3), (4, .int x4), (5, .int x5)]) hx hb dX5_step_170 hl (by decide) rfl (fun ls hl => ?_)
  refine lv_iload hx hb dX5_step_172 (lv_at hl 0 rfl) ?_
  refine lv_if_eq (tgt := 203) hx hb dX5_step_174 (by decide) (fun c5 => ?_) (fun c5 => ?_)
  · rw [if_pos c5] at hq
    exact bX5_step_203 uf ua x1 x2 x3 x4 x5 C (lv_sub hl [1, 2, 3, 4, 5, 6] rfl) hw hk post hq
  · rw [if_neg c5] at hq
    refine lv_iload_n hx hb dX5_step_177 rfl (lv_at hl 2 rfl) ?_
    refine lv_bipush (v := 40) hx hb dX5_step_178 (by decide) ?_
    refine lv_bipush (v := 43) hx hb dX5_step_180 (by decide) ?_
    refine bx_si C (kX5_in l x1 (40 : Int32) (43 : Int32)) bx_B_true (fun _ _ _ => trivial) tw_methodLink_RX5_225_yX5_in mbX5_in rfl ⟨rfl, rfl⟩ ⟨Nat.le_of_ble_eq_true rfl, Nat.le_of_ble_eq_true rfl⟩ ⟨Nat.zero_le _, Nat.zero_le _⟩ hl.1 rfl (Nat.le_of_ble_eq_true rfl) dX5_step_182 ?_
    refine lv_if_ne (tgt := 199) hx hb dX5_step_185 (by decide) (fun c8 => ?_) (fun c8 => ?_)
    · rw [if_neg c8] at hq
      exact bX5_step_199 uf ua x1 x2 x3 x4 x5 C (lv_sub hl [1, 2, 3, 4, 5, 6] rfl) hw hk post hq
    · rw [if_pos c8] at hq
      refine lv_iload hx hb dX5_step_188 (lv_at hl 6 rfl) ?_
      refine lv_iconst (v := 0) hx hb dX5_step_190 (by decide) ?_
      refine lv_bipush (v := 15) hx hb dX5_step_191 (by decide) ?_
      refine bx_si C (kX5_in l x5 (0 : Int32) (15 : Int32)) bx_B_true (fun _ _ _ => trivial) tw_methodLink_RX5_225_yX5_in mbX5_in rfl ⟨rfl, rfl⟩ ⟨Nat.le_of_ble_eq_true rfl, Nat.le_of_ble_eq_true rfl⟩ ⟨Nat.zero_le _, Nat.zero_le _⟩ hl.1 rfl (Nat.le_of_ble_eq_true rfl) dX5_step_193 ?_
      refine lv_if_eq (tgt := 203) hx hb dX5_step_196 (by decide) (fun c9 => ?_) (fun c9 => ?_)
      · rw [if_pos c9] at hq
        exact bX5_step_203 uf ua x1 x2 x3 x4 x5 C (lv_sub hl [1, 2, 3, 4, 5, 6] rfl) hw hk post hq
      · rw [if_neg c9] at hq
        exact bX5_step_199 uf ua x1 x2 x3 x4 x5 C (lv_sub hl [1, 2, 3, 4, 5, 6] rfl) hw hk post hq
set_option maxRecDepth 20000 in
theorem bX5_step_169 (uf : Nat → Int32) (ua : Nat → Nat → Int32) (x1 : Int32) (x2 : Int32) (x3 : Int32) (x4 : Int32) (x5 : Int32) {p : Program} {l : Launch} {e : Env} {s : State} {m : MethodId} {args : Array Value} {below : List Frame} {meth : Method} {c : Code} {dC : Nat → ClassId} {dI : Nat → Nat → Nat} {r : Nat → Nat} {cA : Nat → ClassId} {Rg : Nat → Prop} {H : Heap} {locs : List Loc} {us : Nat → Int64} {h0 : Nat} {ls : Array Slot} (C : bx_C p s m args meth c cX5_step 9 (some .int) RX5) (hl : lv_has ls 9 [(0, .ref h0), (1, .int x1), (2, .int x2), (3, .int x3), (4, .int x4), (5, .int x5)]) (hw : hW (dC, dI) (md_T cA) Rg s H locs (md_W h0 r cA uf ua us)) (hk : 0 ≤ (uf 1).toInt ∧ (uf 1).toInt ≤ 40) (post : (Int32 × ((Nat → Int32) × (Nat → Nat → Int32))) → Prop) (hq : post (fX5_step_169 uf ua x1 x2 x3 x4 x5)) : W p l e rmX5_step s m args below meth c H locs 0 0 (MQ below (va_Qi (fun r u => post (r, u)) (hBk (dC, dI) (md_T cA) Rg (fun u => md_W h0 r cA u.1 u.2 us)) Rg) args s 0 0 Rg) (F0 m 169 ls []) := by
  obtain ⟨hx, hb, hml, hr, hlocks, hown, hts⟩ := id C
  unfold fX5_step_169 at hq
  refine lv_iconst (v := 0) hx hb dX5_step_169 (by decide) ?_
  exact bX5_step_170 uf ua x1 x2 x3 x4 x5 (0 : Int32) C (lv_sub hl [0, 1, 2, 3, 4, 5] rfl) hw hk post hq
set_option maxRecDepth 20000 in
theorem bX5_step_165 (uf : Nat → Int32) (ua : Nat → Nat → Int32) (x1 : Int32) (x2 : Int32) (x3 : Int32) (x4 : Int32) (x5 : Int32) {p : Program} {l : Launch} {e : Env} {s : State} {m : MethodId} {args : Array Value} {below : List Frame} {meth : Method} {c : Code} {dC : Nat → ClassId} {dI : Nat → Nat → Nat} {r : Nat → Nat} {cA : Nat → ClassId} {Rg : Nat → Prop} {H : Heap} {locs : List Loc} {us : Nat → Int64} {h0 : Nat} {ls : Array Slot} (C : bx_C p s m args meth c cX5_step 9 (some .int) RX5) (hl : lv_has ls 9 [(0, .ref h0), (1, .int x1), (2, .int x2), (3, .int x3), (4, .int x4), (5, .int x5)]) (hw : hW (dC, dI) (md_T cA) Rg s H locs (md_W h0 r cA uf ua us)) (hk : 0 ≤ (uf 1).toInt ∧ (uf 1).toInt ≤ 40) (post : (Int32 × ((Nat → Int32) × (Nat → Nat → Int32))) → Prop) (hq : post (fX5_step_165 uf ua x1 x2 x3 x4 x5)) : W p l e rmX5_step s m args below meth c H locs 0 0 (MQ below (va_Qi (fun r u => post (r, u)) (hBk (dC, dI) (md_T cA) Rg (fun u => md_W h0 r cA u.1 u.2 us)) Rg) args s 0 0 Rg) (F0 m 165 ls []) := by
  obtain ⟨hx, hb, hml, hr, hlocks, hown, hts⟩ := id C
  unfold fX5_step_165 at hq
  refine lv_iconst (v := 1) hx hb dX5_step_165 (by decide) ?_
  refine lv_goto (tgt := 170) hx hb dX5_step_166 (by decide) ?_
  exact bX5_step_170 uf ua x1 x2 x3 x4 x5 (1 : Int32) C (lv_sub hl [0, 1, 2, 3, 4, 5] rfl) hw hk post hq
set_option maxRecDepth 20000 in
theorem bX5_step_129 (uf : Nat → Int32) (ua : Nat → Nat → Int32) (x1 : Int32) (x2 : Int32) (x3 : Int32) (x4 : Int32) (x5 : Int32) (s0 : Int32) {p : Program} {l : Launch} {e : Env} {s : State} {m : MethodId} {args : Array Value} {below : List Frame} {meth : Method} {c : Code} {dC : Nat → ClassId} {dI : Nat → Nat → Nat} {r : Nat → Nat} {cA : Nat → ClassId} {Rg : Nat → Prop} {H : Heap} {locs : List Loc} {us : Nat → Int64} {h0 : Nat} {ls : Array Slot} (C : bx_C p s m args meth c cX5_step 9 (some .int) RX5) (hl : lv_has ls 9 [(0, .ref h0), (1, .int x1), (2, .int x2), (3, .int x3), (4, .int x4), (5, .int x5)]) (hw : hW (dC, dI) (md_T cA) Rg s H locs (md_W h0 r cA uf ua us)) (hk : 0 ≤ (uf 1).toInt ∧ (uf 1).toInt ≤ 40) (post : (Int32 × ((Nat → Int32) × (Nat → Nat → Int32))) → Prop) (hq : post (fX5_step_129 uf ua x1 x2 x3 x4 x5 s0)) : W p l e rmX5_step s m args below meth c H locs 0 0 (MQ below (va_Qi (fun r u => post (r, u)) (hBk (dC, dI) (md_T cA) Rg (fun u => md_W h0 r cA u.1 u.2 us)) Rg) args s 0 0 Rg) (F0 m 129 ls [.int s0]) := by
  obtain ⟨hx, hb, hml, hr, hlocks, hown, hts⟩ := id C
  unfold fX5_step_129 at hq
  refine lv_istore (lv' := [(8, .int s0), (0, .ref h0), (1, .int x1), (2, .int x2), (3, .int x3), (4, .int x4), (5, .int x5)]) hx hb dX5_step_129 hl (by decide) rfl (fun ls hl => ?_)
  refine lv_iload hx hb dX5_step_131 (lv_at hl 0 rfl) ?_
  refine lv_if_eq (tgt := 169) hx hb dX5_step_133 (by decide) (fun c4 => ?_) (fun c4 => ?_)
  · rw [if_pos c4] at hq
    exact bX5_step_169 uf ua x1 x2 x3 x4 x5 C (lv_sub hl [1, 2, 3, 4, 5, 6] rfl) hw hk post hq
  · rw [if_neg c4] at hq
    refine lv_iload_n hx hb dX5_step_136 rfl (lv_at hl 2 rfl) ?_
    refine lv_bipush (v := 40) hx hb dX5_step_137 (by decide) ?_
    refine lv_icmp_eq (tgt := 165) hx hb dX5_step_139 (by decide) (fun c10 => ?_) (fun c10 => ?_)
    · rw [if_pos c10] at hq
      exact bX5_step_165 uf ua x1 x2 x3 x4 x5 C (lv_sub hl [1, 2, 3, 4, 5, 6] rfl) hw hk post hq
    · rw [if_neg c10] at hq
      refine lv_iload_n hx hb dX5_step_142 rfl (lv_at hl 2 rfl) ?_
      refine lv_bipush (v := 41) hx hb dX5_step_143 (by decide) ?_
      refine lv_icmp_eq (tgt := 165) hx hb dX5_step_145 (by decide) (fun c11 => ?_) (fun c11 => ?_)
      · rw [if_pos c11] at hq
        exact bX5_step_165 uf ua x1 x2 x3 x4 x5 C (lv_sub hl [1, 2, 3, 4, 5, 6] rfl) hw hk post hq
      · rw [if_neg c11] at hq
        refine lv_iload_n hx hb dX5_step_148 rfl (lv_at hl 2 rfl) ?_
        refine lv_bipush (v := 43) hx hb dX5_step_149 (by decide) ?_
        refine lv_icmp_eq (tgt := 165) hx hb dX5_step_151 (by decide) (fun c12 => ?_) (fun c12 => ?_)
        · rw [if_pos c12] at hq
          exact bX5_step_165 uf ua x1 x2 x3 x4 x5 C (lv_sub hl [1, 2, 3, 4, 5, 6] rfl) hw hk post hq
        · rw [if_neg c12] at hq
          refine lv_iload hx hb dX5_step_154 (lv_at hl 5 rfl) ?_
          refine lv_iconst (v := 0) hx hb dX5_step_156 (by decide) ?_
          refine lv_bipush (v := 15) hx hb dX5_step_157 (by decide) ?_
          refine bx_si C (kX5_in l x4 (0 : Int32) (15 : Int32)) bx_B_true (fun _ _ _ => trivial) tw_methodLink_RX5_225_yX5_in mbX5_in rfl ⟨rfl, rfl⟩ ⟨Nat.le_of_ble_eq_true rfl, Nat.le_of_ble_eq_true rfl⟩ ⟨Nat.zero_le _, Nat.zero_le _⟩ hl.1 rfl (Nat.le_of_ble_eq_true rfl) dX5_step_159 ?_
          refine lv_if_eq (tgt := 169) hx hb dX5_step_162 (by decide) (fun c13 => ?_) (fun c13 => ?_)
          · rw [if_pos c13] at hq
            exact bX5_step_169 uf ua x1 x2 x3 x4 x5 C (lv_sub hl [1, 2, 3, 4, 5, 6] rfl) hw hk post hq
          · rw [if_neg c13] at hq
            exact bX5_step_165 uf ua x1 x2 x3 x4 x5 C (lv_sub hl [1, 2, 3, 4, 5, 6] rfl) hw hk post hq
set_option maxRecDepth 20000 in
theorem bX5_step_128 (uf : Nat → Int32) (ua : Nat → Nat → Int32) (x1 : Int32) (x2 : Int32) (x3 : Int32) (x4 : Int32) (x5 : Int32) {p : Program} {l : Launch} {e : Env} {s : State} {m : MethodId} {args : Array Value} {below : List Frame} {meth : Method} {c : Code} {dC : Nat → ClassId} {dI : Nat → Nat → Nat} {r : Nat → Nat} {cA : Nat → ClassId} {Rg : Nat → Prop} {H : Heap} {locs : List Loc} {us : Nat → Int64} {h0 : Nat} {ls : Array Slot} (C : bx_C p s m args meth c cX5_step 9 (some .int) RX5) (hl : lv_has ls 9 [(0, .ref h0), (1, .int x1), (2, .int x2), (3, .int x3), (4, .int x4), (5, .int x5)]) (hw : hW (dC, dI) (md_T cA) Rg s H locs (md_W h0 r cA uf ua us)) (hk : 0 ≤ (uf 1).toInt ∧ (uf 1).toInt ≤ 40) (post : (Int32 × ((Nat → Int32) × (Nat → Nat → Int32))) → Prop) (hq : post (fX5_step_128 uf ua x1 x2 x3 x4 x5)) : W p l e rmX5_step s m args below meth c H locs 0 0 (MQ below (va_Qi (fun r u => post (r, u)) (hBk (dC, dI) (md_T cA) Rg (fun u => md_W h0 r cA u.1 u.2 us)) Rg) args s 0 0 Rg) (F0 m 128 ls []) := by
  obtain ⟨hx, hb, hml, hr, hlocks, hown, hts⟩ := id C
  unfold fX5_step_128 at hq
  refine lv_iconst (v := 0) hx hb dX5_step_128 (by decide) ?_
  exact bX5_step_129 uf ua x1 x2 x3 x4 x5 (0 : Int32) C (lv_sub hl [0, 1, 2, 3, 4, 5] rfl) hw hk post hq
set_option maxRecDepth 20000 in
theorem bX5_step_124 (uf : Nat → Int32) (ua : Nat → Nat → Int32) (x1 : Int32) (x2 : Int32) (x3 : Int32) (x4 : Int32) (x5 : Int32) {p : Program} {l : Launch} {e : Env} {s : State} {m : MethodId} {args : Array Value} {below : List Frame} {meth : Method} {c : Code} {dC : Nat → ClassId} {dI : Nat → Nat → Nat} {r : Nat → Nat} {cA : Nat → ClassId} {Rg : Nat → Prop} {H : Heap} {locs : List Loc} {us : Nat → Int64} {h0 : Nat} {ls : Array Slot} (C : bx_C p s m args meth c cX5_step 9 (some .int) RX5) (hl : lv_has ls 9 [(0, .ref h0), (1, .int x1), (2, .int x2), (3, .int x3), (4, .int x4), (5, .int x5)]) (hw : hW (dC, dI) (md_T cA) Rg s H locs (md_W h0 r cA uf ua us)) (hk : 0 ≤ (uf 1).toInt ∧ (uf 1).toInt ≤ 40) (post : (Int32 × ((Nat → Int32) × (Nat → Nat → Int32))) → Prop) (hq : post (fX5_step_124 uf ua x1 x2 x3 x4 x5)) : W p l e rmX5_step s m args below meth c H locs 0 0 (MQ below (va_Qi (fun r u => post (r, u)) (hBk (dC, dI) (md_T cA) Rg (fun u => md_W h0 r cA u.1 u.2 us)) Rg) args s 0 0 Rg) (F0 m 124 ls []) := by
  obtain ⟨hx, hb, hml, hr, hlocks, hown, hts⟩ := id C
  unfold fX5_step_124 at hq
  refine lv_iconst (v := 1) hx hb dX5_step_124 (by decide) ?_
  refine lv_goto (tgt := 129) hx hb dX5_step_125 (by decide) ?_
  exact bX5_step_129 uf ua x1 x2 x3 x4 x5 (1 : Int32) C (lv_sub hl [0, 1, 2, 3, 4, 5] rfl) hw hk post hq
set_option maxRecDepth 20000 in
theorem bX5_step_89 (uf : Nat → Int32) (ua : Nat → Nat → Int32) (x1 : Int32) (x2 : Int32) (x3 : Int32) (x4 : Int32) (x5 : Int32) (s0 : Int32) {p : Program} {l : Launch} {e : Env} {s : State} {m : MethodId} {args : Array Value} {below : List Frame} {meth : Method} {c : Code} {dC : Nat → ClassId} {dI : Nat → Nat → Nat} {r : Nat → Nat} {cA : Nat → ClassId} {Rg : Nat → Prop} {H : Heap} {locs : List Loc} {us : Nat → Int64} {h0 : Nat} {ls : Array Slot} (C : bx_C p s m args meth c cX5_step 9 (some .int) RX5) (hl : lv_has ls 9 [(0, .ref h0), (1, .int x1), (2, .int x2), (3, .int x3), (4, .int x4), (5, .int x5)]) (hw : hW (dC, dI) (md_T cA) Rg s H locs (md_W h0 r cA uf ua us)) (hk : 0 ≤ (uf 1).toInt ∧ (uf 1).toInt ≤ 40) (post : (Int32 × ((Nat → Int32) × (Nat → Nat → Int32))) → Prop) (hq : post (fX5_step_89 uf ua x1 x2 x3 x4 x5 s0)) : W p l e rmX5_step s m args below meth c H locs 0 0 (MQ below (va_Qi (fun r u => post (r, u)) (hBk (dC, dI) (md_T cA) Rg (fun u => md_W h0 r cA u.1 u.2 us)) Rg) args s 0 0 Rg) (F0 m 89 ls [.int s0]) := by
  obtain ⟨hx, hb, hml, hr, hlocks, hown, hts⟩ := id C
  unfold fX5_step_89 at hq
  refine lv_istore (lv' := [(8, .int s0), (0, .ref h0), (1, .int x1), (2, .int x2), (3, .int x3), (4, .int x4), (5, .int x5)]) hx hb dX5_step_89 hl (by decide) rfl (fun ls hl => ?_)
  refine lv_iload hx hb dX5_step_91 (lv_at hl 0 rfl) ?_
  refine lv_if_eq (tgt := 128) hx hb dX5_step_93 (by decide) (fun c3 => ?_) (fun c3 => ?_)
  · rw [if_pos c3] at hq
    exact bX5_step_128 uf ua x1 x2 x3 x4 x5 C (lv_sub hl [1, 2, 3, 4, 5, 6] rfl) hw hk post hq
  · rw [if_neg c3] at hq
    refine lv_iload_n hx hb dX5_step_96 rfl (lv_at hl 2 rfl) ?_
    refine lv_bipush (v := 40) hx hb dX5_step_97 (by decide) ?_
    refine lv_icmp_eq (tgt := 124) hx hb dX5_step_99 (by decide) (fun c14 => ?_) (fun c14 => ?_)
    · rw [if_pos c14] at hq
      exact bX5_step_124 uf ua x1 x2 x3 x4 x5 C (lv_sub hl [1, 2, 3, 4, 5, 6] rfl) hw hk post hq
    · rw [if_neg c14] at hq
      refine lv_iload_n hx hb dX5_step_102 rfl (lv_at hl 2 rfl) ?_
      refine lv_bipush (v := 41) hx hb dX5_step_103 (by decide) ?_
      refine lv_icmp_eq (tgt := 124) hx hb dX5_step_105 (by decide) (fun c15 => ?_) (fun c15 => ?_)
      · rw [if_pos c15] at hq
        exact bX5_step_124 uf ua x1 x2 x3 x4 x5 C (lv_sub hl [1, 2, 3, 4, 5, 6] rfl) hw hk post hq
      · rw [if_neg c15] at hq
        refine lv_iload_n hx hb dX5_step_108 rfl (lv_at hl 2 rfl) ?_
        refine lv_bipush (v := 43) hx hb dX5_step_109 (by decide) ?_
        refine lv_icmp_eq (tgt := 124) hx hb dX5_step_111 (by decide) (fun c16 => ?_) (fun c16 => ?_)
        · rw [if_pos c16] at hq
          exact bX5_step_124 uf ua x1 x2 x3 x4 x5 C (lv_sub hl [1, 2, 3, 4, 5, 6] rfl) hw hk post hq
        · rw [if_neg c16] at hq
          refine lv_iload_n hx hb dX5_step_114 rfl (lv_at hl 4 rfl) ?_
          refine lv_iconst (v := 0) hx hb dX5_step_115 (by decide) ?_
          refine lv_bipush (v := 15) hx hb dX5_step_116 (by decide) ?_
          refine bx_si C (kX5_in l x3 (0 : Int32) (15 : Int32)) bx_B_true (fun _ _ _ => trivial) tw_methodLink_RX5_225_yX5_in mbX5_in rfl ⟨rfl, rfl⟩ ⟨Nat.le_of_ble_eq_true rfl, Nat.le_of_ble_eq_true rfl⟩ ⟨Nat.zero_le _, Nat.zero_le _⟩ hl.1 rfl (Nat.le_of_ble_eq_true rfl) dX5_step_118 ?_
          refine lv_if_eq (tgt := 128) hx hb dX5_step_121 (by decide) (fun c17 => ?_) (fun c17 => ?_)
          · rw [if_pos c17] at hq
            exact bX5_step_128 uf ua x1 x2 x3 x4 x5 C (lv_sub hl [1, 2, 3, 4, 5, 6] rfl) hw hk post hq
          · rw [if_neg c17] at hq
            exact bX5_step_124 uf ua x1 x2 x3 x4 x5 C (lv_sub hl [1, 2, 3, 4, 5, 6] rfl) hw hk post hq
set_option maxRecDepth 20000 in
theorem bX5_step_88 (uf : Nat → Int32) (ua : Nat → Nat → Int32) (x1 : Int32) (x2 : Int32) (x3 : Int32) (x4 : Int32) (x5 : Int32) {p : Program} {l : Launch} {e : Env} {s : State} {m : MethodId} {args : Array Value} {below : List Frame} {meth : Method} {c : Code} {dC : Nat → ClassId} {dI : Nat → Nat → Nat} {r : Nat → Nat} {cA : Nat → ClassId} {Rg : Nat → Prop} {H : Heap} {locs : List Loc} {us : Nat → Int64} {h0 : Nat} {ls : Array Slot} (C : bx_C p s m args meth c cX5_step 9 (some .int) RX5) (hl : lv_has ls 9 [(0, .ref h0), (1, .int x1), (2, .int x2), (3, .int x3), (4, .int x4), (5, .int x5)]) (hw : hW (dC, dI) (md_T cA) Rg s H locs (md_W h0 r cA uf ua us)) (hk : 0 ≤ (uf 1).toInt ∧ (uf 1).toInt ≤ 40) (post : (Int32 × ((Nat → Int32) × (Nat → Nat → Int32))) → Prop) (hq : post (fX5_step_88 uf ua x1 x2 x3 x4 x5)) : W p l e rmX5_step s m args below meth c H locs 0 0 (MQ below (va_Qi (fun r u => post (r, u)) (hBk (dC, dI) (md_T cA) Rg (fun u => md_W h0 r cA u.1 u.2 us)) Rg) args s 0 0 Rg) (F0 m 88 ls []) := by
  obtain ⟨hx, hb, hml, hr, hlocks, hown, hts⟩ := id C
  unfold fX5_step_88 at hq
  refine lv_iconst (v := 0) hx hb dX5_step_88 (by decide) ?_
  exact bX5_step_89 uf ua x1 x2 x3 x4 x5 (0 : Int32) C (lv_sub hl [0, 1, 2, 3, 4, 5] rfl) hw hk post hq
set_option maxRecDepth 20000 in
theorem bX5_step_84 (uf : Nat → Int32) (ua : Nat → Nat → Int32) (x1 : Int32) (x2 : Int32) (x3 : Int32) (x4 : Int32) (x5 : Int32) {p : Program} {l : Launch} {e : Env} {s : State} {m : MethodId} {args : Array Value} {below : List Frame} {meth : Method} {c : Code} {dC : Nat → ClassId} {dI : Nat → Nat → Nat} {r : Nat → Nat} {cA : Nat → ClassId} {Rg : Nat → Prop} {H : Heap} {locs : List Loc} {us : Nat → Int64} {h0 : Nat} {ls : Array Slot} (C : bx_C p s m args meth c cX5_step 9 (some .int) RX5) (hl : lv_has ls 9 [(0, .ref h0), (1, .int x1), (2, .int x2), (3, .int x3), (4, .int x4), (5, .int x5)]) (hw : hW (dC, dI) (md_T cA) Rg s H locs (md_W h0 r cA uf ua us)) (hk : 0 ≤ (uf 1).toInt ∧ (uf 1).toInt ≤ 40) (post : (Int32 × ((Nat → Int32) × (Nat → Nat → Int32))) → Prop) (hq : post (fX5_step_84 uf ua x1 x2 x3 x4 x5)) : W p l e rmX5_step s m args below meth c H locs 0 0 (MQ below (va_Qi (fun r u => post (r, u)) (hBk (dC, dI) (md_T cA) Rg (fun u => md_W h0 r cA u.1 u.2 us)) Rg) args s 0 0 Rg) (F0 m 84 ls []) := by
  obtain ⟨hx, hb, hml, hr, hlocks, hown, hts⟩ := id C
  unfold fX5_step_84 at hq
  refine lv_iconst (v := 1) hx hb dX5_step_84 (by decide) ?_
  refine lv_goto (tgt := 89) hx hb dX5_step_85 (by decide) ?_
  exact bX5_step_89 uf ua x1 x2 x3 x4 x5 (1 : Int32) C (lv_sub hl [0, 1, 2, 3, 4, 5] rfl) hw hk post hq
set_option maxRecDepth 20000 in
theorem bX5_step_78 (uf : Nat → Int32) (ua : Nat → Nat → Int32) (x1 : Int32) (x2 : Int32) (x3 : Int32) (x4 : Int32) (x5 : Int32) (s0 : Int32) (s1 : Int32) (s2 : Int32) {p : Program} {l : Launch} {e : Env} {s : State} {m : MethodId} {args : Array Value} {below : List Frame} {meth : Method} {c : Code} {dC : Nat → ClassId} {dI : Nat → Nat → Nat} {r : Nat → Nat} {cA : Nat → ClassId} {Rg : Nat → Prop} {H : Heap} {locs : List Loc} {us : Nat → Int64} {h0 : Nat} {ls : Array Slot} (C : bx_C p s m args meth c cX5_step 9 (some .int) RX5) (hl : lv_has ls 9 [(0, .ref h0), (1, .int x1), (2, .int x2), (3, .int x3), (4, .int x4), (5, .int x5)]) (hw : hW (dC, dI) (md_T cA) Rg s H locs (md_W h0 r cA uf ua us)) (hk : 0 ≤ (uf 1).toInt ∧ (uf 1).toInt ≤ 40) (post : (Int32 × ((Nat → Int32) × (Nat → Nat → Int32))) → Prop) (hq : post (fX5_step_78 uf ua x1 x2 x3 x4 x5 s0 s1 s2)) : W p l e rmX5_step s m args below meth c H locs 0 0 (MQ below (va_Qi (fun r u => post (r, u)) (hBk (dC, dI) (md_T cA) Rg (fun u => md_W h0 r cA u.1 u.2 us)) Rg) args s 0 0 Rg) (F0 m 78 ls [.int s2, .int s1, .int s0]) := by
  obtain ⟨hx, hb, hml, hr, hlocks, hown, hts⟩ := id C
  unfold fX5_step_78 at hq
  refine bx_si C (kX5_in l s0 s1 s2) bx_B_true (fun _ _ _ => trivial) tw_methodLink_RX5_225_yX5_in mbX5_in rfl ⟨rfl, rfl⟩ ⟨Nat.le_of_ble_eq_true rfl, Nat.le_of_ble_eq_true rfl⟩ ⟨Nat.zero_le _, Nat.zero_le _⟩ hl.1 rfl (Nat.le_of_ble_eq_true rfl) dX5_step_78 ?_
  refine lv_if_eq (tgt := 88) hx hb dX5_step_81 (by decide) (fun c20 => ?_) (fun c20 => ?_)
  · rw [if_pos c20] at hq
    exact bX5_step_88 uf ua x1 x2 x3 x4 x5 C (lv_sub hl [0, 1, 2, 3, 4, 5] rfl) hw hk post hq
  · rw [if_neg c20] at hq
    exact bX5_step_84 uf ua x1 x2 x3 x4 x5 C (lv_sub hl [0, 1, 2, 3, 4, 5] rfl) hw hk post hq
set_option maxRecDepth 20000 in
theorem bX5_step_71 (uf : Nat → Int32) (ua : Nat → Nat → Int32) (x1 : Int32) (x2 : Int32) (x3 : Int32) (x4 : Int32) (x5 : Int32) (s0 : Int32) (s1 : Int32) {p : Program} {l : Launch} {e : Env} {s : State} {m : MethodId} {args : Array Value} {below : List Frame} {meth : Method} {c : Code} {dC : Nat → ClassId} {dI : Nat → Nat → Nat} {r : Nat → Nat} {cA : Nat → ClassId} {Rg : Nat → Prop} {H : Heap} {locs : List Loc} {us : Nat → Int64} {h0 : Nat} {ls : Array Slot} (C : bx_C p s m args meth c cX5_step 9 (some .int) RX5) (hl : lv_has ls 9 [(0, .ref h0), (1, .int x1), (2, .int x2), (3, .int x3), (4, .int x4), (5, .int x5)]) (hw : hW (dC, dI) (md_T cA) Rg s H locs (md_W h0 r cA uf ua us)) (hk : 0 ≤ (uf 1).toInt ∧ (uf 1).toInt ≤ 40) (post : (Int32 × ((Nat → Int32) × (Nat → Nat → Int32))) → Prop) (hq : post (fX5_step_71 uf ua x1 x2 x3 x4 x5 s0 s1)) : W p l e rmX5_step s m args below meth c H locs 0 0 (MQ below (va_Qi (fun r u => post (r, u)) (hBk (dC, dI) (md_T cA) Rg (fun u => md_W h0 r cA u.1 u.2 us)) Rg) args s 0 0 Rg) (F0 m 71 ls [.int s1, .int s0]) := by
  obtain ⟨hx, hb, hml, hr, hlocks, hown, hts⟩ := id C
  unfold fX5_step_71 at hq
  refine lv_bipush (v := 39) hx hb dX5_step_71 (by decide) ?_
  refine lv_goto (tgt := 78) hx hb dX5_step_73 (by decide) ?_
  exact bX5_step_78 uf ua x1 x2 x3 x4 x5 s0 s1 (39 : Int32) C (lv_sub hl [0, 1, 2, 3, 4, 5] rfl) hw hk post hq
set_option maxRecDepth 20000 in
theorem bX5_step_45 (uf : Nat → Int32) (ua : Nat → Nat → Int32) (x1 : Int32) (x2 : Int32) (x3 : Int32) (x4 : Int32) (x5 : Int32) (x7 : Int32) (s0 : Int32) {p : Program} {l : Launch} {e : Env} {s : State} {m : MethodId} {args : Array Value} {below : List Frame} {meth : Method} {c : Code} {dC : Nat → ClassId} {dI : Nat → Nat → Nat} {r : Nat → Nat} {cA : Nat → ClassId} {Rg : Nat → Prop} {H : Heap} {locs : List Loc} {us : Nat → Int64} {h0 : Nat} {ls : Array Slot} (C : bx_C p s m args meth c cX5_step 9 (some .int) RX5) (hl : lv_has ls 9 [(0, .ref h0), (1, .int x1), (2, .int x2), (3, .int x3), (4, .int x4), (5, .int x5), (7, .int x7)]) (hw : hW (dC, dI) (md_T cA) Rg s H locs (md_W h0 r cA uf ua us)) (hk : 0 ≤ (uf 1).toInt ∧ (uf 1).toInt ≤ 40) (post : (Int32 × ((Nat → Int32) × (Nat → Nat → Int32))) → Prop) (hq : post (fX5_step_45 uf ua x1 x2 x3 x4 x5 x7 s0)) : W p l e rmX5_step s m args below meth c H locs 0 0 (MQ below (va_Qi (fun r u => post (r, u)) (hBk (dC, dI) (md_T cA) Rg (fun u => md_W h0 r cA u.1 u.2 us)) Rg) args s 0 0 Rg) (F0 m 45 ls [.int s0]) := by
  obtain ⟨hx, hb, hml, hr, hlocks, hown, hts⟩ := id C
  unfold fX5_step_45 at hq
  refine lv_istore (lv' := [(8, .int s0), (0, .ref h0), (1, .int x1), (2, .int x2), (3, .int x3), (4, .int x4), (5, .int x5), (7, .int x7)]) hx hb dX5_step_45 hl (by decide) rfl (fun ls hl => ?_)
  refine lv_iload hx hb dX5_step_47 (lv_at hl 0 rfl) ?_
  refine lv_if_eq (tgt := 88) hx hb dX5_step_49 (by decide) (fun c2 => ?_) (fun c2 => ?_)
  · rw [if_pos c2] at hq
    exact bX5_step_88 uf ua x1 x2 x3 x4 x5 C (lv_sub hl [1, 2, 3, 4, 5, 6] rfl) hw hk post hq
  · rw [if_neg c2] at hq
    refine lv_iload_n hx hb dX5_step_52 rfl (lv_at hl 2 rfl) ?_
    refine lv_bipush (v := 40) hx hb dX5_step_53 (by decide) ?_
    refine lv_icmp_eq (tgt := 84) hx hb dX5_step_55 (by decide) (fun c18 => ?_) (fun c18 => ?_)
    · rw [if_pos c18] at hq
      exact bX5_step_84 uf ua x1 x2 x3 x4 x5 C (lv_sub hl [1, 2, 3, 4, 5, 6] rfl) hw hk post hq
    · rw [if_neg c18] at hq
      refine lv_iload_n hx hb dX5_step_58 rfl (lv_at hl 3 rfl) ?_
      refine lv_iconst (v := 0) hx hb dX5_step_59 (by decide) ?_
      refine lv_iload hx hb dX5_step_60 (lv_at hl 7 rfl) ?_
      refine lv_if_ne (tgt := 71) hx hb dX5_step_62 (by decide) (fun c19 => ?_) (fun c19 => ?_)
      · rw [if_neg c19] at hq
        exact bX5_step_71 uf ua x1 x2 x3 x4 x5 x2 (0 : Int32) C (lv_sub hl [1, 2, 3, 4, 5, 6] rfl) hw hk post hq
      · rw [if_pos c19] at hq
        refine lv_iload_n hx hb dX5_step_65 rfl (lv_at hl 2 rfl) ?_
        refine lv_bipush (v := 43) hx hb dX5_step_66 (by decide) ?_
        refine lv_icmp_ne (tgt := 76) hx hb dX5_step_68 (by decide) (fun c21 => ?_) (fun c21 => ?_)
        · rw [if_neg c21] at hq
          refine lv_bipush (v := 15) hx hb dX5_step_76 (by decide) ?_
          exact bX5_step_78 uf ua x1 x2 x3 x4 x5 x2 (0 : Int32) (15 : Int32) C (lv_sub hl [1, 2, 3, 4, 5, 6] rfl) hw hk post hq
        · rw [if_pos c21] at hq
          exact bX5_step_71 uf ua x1 x2 x3 x4 x5 x2 (0 : Int32) C (lv_sub hl [1, 2, 3, 4, 5, 6] rfl) hw hk post hq
set_option maxRecDepth 20000 in
theorem bX5_step_40 (uf : Nat → Int32) (ua : Nat → Nat → Int32) (x1 : Int32) (x2 : Int32) (x3 : Int32) (x4 : Int32) (x5 : Int32) (x7 : Int32) {p : Program} {l : Launch} {e : Env} {s : State} {m : MethodId} {args : Array Value} {below : List Frame} {meth : Method} {c : Code} {dC : Nat → ClassId} {dI : Nat → Nat → Nat} {r : Nat → Nat} {cA : Nat → ClassId} {Rg : Nat → Prop} {H : Heap} {locs : List Loc} {us : Nat → Int64} {h0 : Nat} {ls : Array Slot} (C : bx_C p s m args meth c cX5_step 9 (some .int) RX5) (hl : lv_has ls 9 [(0, .ref h0), (1, .int x1), (2, .int x2), (3, .int x3), (4, .int x4), (5, .int x5), (7, .int x7)]) (hw : hW (dC, dI) (md_T cA) Rg s H locs (md_W h0 r cA uf ua us)) (hk : 0 ≤ (uf 1).toInt ∧ (uf 1).toInt ≤ 40) (post : (Int32 × ((Nat → Int32) × (Nat → Nat → Int32))) → Prop) (hq : post (fX5_step_40 uf ua x1 x2 x3 x4 x5 x7)) : W p l e rmX5_step s m args below meth c H locs 0 0 (MQ below (va_Qi (fun r u => post (r, u)) (hBk (dC, dI) (md_T cA) Rg (fun u => md_W h0 r cA u.1 u.2 us)) Rg) args s 0 0 Rg) (F0 m 40 ls []) := by
  obtain ⟨hx, hb, hml, hr, hlocks, hown, hts⟩ := id C
  unfold fX5_step_40 at hq
  refine lv_iconst (v := 1) hx hb dX5_step_40 (by decide) ?_
  refine lv_goto (tgt := 45) hx hb dX5_step_41 (by decide) ?_
  exact bX5_step_45 uf ua x1 x2 x3 x4 x5 x7 (1 : Int32) C (lv_sub hl [0, 1, 2, 3, 4, 5, 6] rfl) hw hk post hq
set_option maxRecDepth 20000 in
theorem bX5_step_0 (uf : Nat → Int32) (ua : Nat → Nat → Int32) (x1 : Int32) (x2 : Int32) (x3 : Int32) (x4 : Int32) (x5 : Int32) {p : Program} {l : Launch} {e : Env} {s : State} {m : MethodId} {args : Array Value} {below : List Frame} {meth : Method} {c : Code} {dC : Nat → ClassId} {dI : Nat → Nat → Nat} {r : Nat → Nat} {cA : Nat → ClassId} {Rg : Nat → Prop} {H : Heap} {locs : List Loc} {us : Nat → Int64} {h0 : Nat} {ls : Array Slot} (C : bx_C p s m args meth c cX5_step 9 (some .int) RX5) (hl : lv_has ls 9 [(0, .ref h0), (1, .int x1), (2, .int x2), (3, .int x3), (4, .int x4), (5, .int x5)]) (hw : hW (dC, dI) (md_T cA) Rg s H locs (md_W h0 r cA uf ua us)) (hk : 0 ≤ (uf 1).toInt ∧ (uf 1).toInt ≤ 40) (post : (Int32 × ((Nat → Int32) × (Nat → Nat → Int32))) → Prop) (hq : post (fX5_step uf ua x1 x2 x3 x4 x5)) : W p l e rmX5_step s m args below meth c H locs 0 0 (MQ below (va_Qi (fun r u => post (r, u)) (hBk (dC, dI) (md_T cA) Rg (fun u => md_W h0 r cA u.1 u.2 us)) Rg) args s 0 0 Rg) (F0 m 0 ls []) := by
  obtain ⟨hx, hb, hml, hr, hlocks, hown, hts⟩ := id C
  unfold fX5_step at hq
  refine lv_iload_n hx hb dX5_step_0 rfl (lv_at hl 1 rfl) ?_
  refine lv_iconst (v := 0) hx hb dX5_step_1 (by decide) ?_
  refine lv_bipush (v := 23) hx hb dX5_step_2 (by decide) ?_
  refine bx_si C (kX5_in l x1 (0 : Int32) (23 : Int32)) bx_B_true (fun _ _ _ => trivial) tw_methodLink_RX5_225_yX5_in mbX5_in rfl ⟨rfl, rfl⟩ ⟨Nat.le_of_ble_eq_true rfl, Nat.le_of_ble_eq_true rfl⟩ ⟨Nat.zero_le _, Nat.zero_le _⟩ hl.1 rfl (Nat.le_of_ble_eq_true rfl) dX5_step_4 ?_
  refine lv_istore (lv' := [(6, .int (fX5_in x1 (0 : Int32) (23 : Int32))), (0, .ref h0), (1, .int x1), (2, .int x2), (3, .int x3), (4, .int x4), (5, .int x5)]) hx hb dX5_step_7 hl (by decide) rfl (fun ls hl => ?_)
  refine lv_iload_n hx hb dX5_step_9 rfl (lv_at hl 2 rfl) ?_
  refine lv_bipush (v := 30) hx hb dX5_step_10 (by decide) ?_
  refine lv_bipush (v := 37) hx hb dX5_step_12 (by decide) ?_
  refine bx_si C (kX5_in l x1 (30 : Int32) (37 : Int32)) bx_B_true (fun _ _ _ => trivial) tw_methodLink_RX5_225_yX5_in mbX5_in rfl ⟨rfl, rfl⟩ ⟨Nat.le_of_ble_eq_true rfl, Nat.le_of_ble_eq_true rfl⟩ ⟨Nat.zero_le _, Nat.zero_le _⟩ hl.1 rfl (Nat.le_of_ble_eq_true rfl) dX5_step_14 ?_
  refine lv_istore (lv' := [(7, .int (fX5_in x1 (30 : Int32) (37 : Int32))), (6, .int (fX5_in x1 (0 : Int32) (23 : Int32))), (0, .ref h0), (1, .int x1), (2, .int x2), (3, .int x3), (4, .int x4), (5, .int x5)]) hx hb dX5_step_17 hl (by decide) rfl (fun ls hl => ?_)
  refine lv_iload hx hb dX5_step_19 (lv_at hl 1 rfl) ?_
  refine lv_if_ne (tgt := 40) hx hb dX5_step_21 (by decide) (fun c1 => ?_) (fun c1 => ?_)
  · rw [if_neg c1] at hq
    exact bX5_step_40 uf ua x1 x2 x3 x4 x5 (fX5_in x1 (30 : Int32) (37 : Int32)) C (lv_sub hl [2, 3, 4, 5, 6, 7, 0] rfl) hw hk post hq
  · rw [if_pos c1] at hq
    refine lv_iload hx hb dX5_step_24 (lv_at hl 0 rfl) ?_
    refine lv_if_ne (tgt := 40) hx hb dX5_step_26 (by decide) (fun c22 => ?_) (fun c22 => ?_)
    · rw [if_neg c22] at hq
      exact bX5_step_40 uf ua x1 x2 x3 x4 x5 (fX5_in x1 (30 : Int32) (37 : Int32)) C (lv_sub hl [2, 3, 4, 5, 6, 7, 0] rfl) hw hk post hq
    · rw [if_pos c22] at hq
      refine lv_iload_n hx hb dX5_step_29 rfl (lv_at hl 3 rfl) ?_
      refine lv_bipush (v := 40) hx hb dX5_step_30 (by decide) ?_
      refine lv_bipush (v := 43) hx hb dX5_step_32 (by decide) ?_
      refine bx_si C (kX5_in l x1 (40 : Int32) (43 : Int32)) bx_B_true (fun _ _ _ => trivial) tw_methodLink_RX5_225_yX5_in mbX5_in rfl ⟨rfl, rfl⟩ ⟨Nat.le_of_ble_eq_true rfl, Nat.le_of_ble_eq_true rfl⟩ ⟨Nat.zero_le _, Nat.zero_le _⟩ hl.1 rfl (Nat.le_of_ble_eq_true rfl) dX5_step_34 ?_
      refine lv_if_eq (tgt := 44) hx hb dX5_step_37 (by decide) (fun c23 => ?_) (fun c23 => ?_)
      · rw [if_pos c23] at hq
        refine lv_iconst (v := 0) hx hb dX5_step_44 (by decide) ?_
        exact bX5_step_45 uf ua x1 x2 x3 x4 x5 (fX5_in x1 (30 : Int32) (37 : Int32)) (0 : Int32) C (lv_sub hl [2, 3, 4, 5, 6, 7, 0] rfl) hw hk post hq
      · rw [if_neg c23] at hq
        exact bX5_step_40 uf ua x1 x2 x3 x4 x5 (fX5_in x1 (30 : Int32) (37 : Int32)) C (lv_sub hl [2, 3, 4, 5, 6, 7, 0] rfl) hw hk post hq
theorem kX5_step (l : Launch) (dC : Nat → ClassId) (dI : Nat → Nat → Nat) (h0 : Nat) (r : Nat → Nat) (cA : Nat → ClassId) (sz : Nat) (uf : Nat → Int32) (ua : Nat → Nat → Int32) (us : Nat → Int64) (x1 : Int32) (x2 : Int32) (x3 : Int32) (x4 : Int32) (x5 : Int32) (hk : 0 ≤ (uf 1).toInt ∧ (uf 1).toInt ≤ 40) : Met l yX5_step (Cond.code yX5_step cX5_step 9 (some .int) :: bw) rmX5_step (hPc [.ref h0, .int x1, .int x2, .int x3, .int x4, .int x5] (dC, dI) (md_T cA) (md_W h0 r cA uf ua us) sz (fun _ => True)) (va_Qi (fun r u => (r, u) = fX5_step uf ua x1 x2 x3 x4 x5) (hBk (dC, dI) (md_T cA) (va_A (md_W h0 r cA uf ua us) sz) (fun u => md_W h0 r cA u.1 u.2 us)) (va_A (md_W h0 r cA uf ua us) sz)) 0 0 (va_A (md_W h0 r cA uf ua us) sz) := by
  refine hx_ent (by decide) _ _ (Nat.le_of_ble_eq_true rfl) rfl ?_
  intro p e s m below meth c ls C hl hw hsz _
  exact bX5_step_0 uf ua x1 x2 x3 x4 x5 C hl hw hk (fun q => q = fX5_step uf ua x1 x2 x3 x4 x5) rfl
def fX5_drop (uf : Nat → Int32) : Int32 × (Nat → Int32) :=
  ((uf 1), (va_up uf 1 (0 : Int32)))
abbrev rmX5_drop : Room := { frames := 0, cells := 0, slots := 0, locals := 0 }
theorem mbX5_drop : mb_V RX5 yX5_drop cX5_drop 2 (some .int) 0 := ⟨⟨tw_instanceMethod_yX5_drop, tw_selects_RX5_yX5_drop_yX5_drop, tw_initialized_RX5, tw_code_yX5_drop⟩, rfl, by decide +kernel, by decide +kernel, by decide +kernel⟩
set_option maxRecDepth 20000 in
theorem bX5_drop_0 (uf : Nat → Int32) {p : Program} {l : Launch} {e : Env} {s : State} {m : MethodId} {args : Array Value} {below : List Frame} {meth : Method} {c : Code} {dC : Nat → ClassId} {dI : Nat → Nat → Nat} {r : Nat → Nat} {cA : Nat → ClassId} {Rg : Nat → Prop} {H : Heap} {locs : List Loc} {ua : Nat → Nat → Int32} {us : Nat → Int64} {h0 : Nat} {ls : Array Slot} (C : bx_C p s m args meth c cX5_drop 2 (some .int) RX5) (hl : lv_has ls 2 [(0, .ref h0)]) (hw : hW (dC, dI) (md_T cA) Rg s H locs (md_W h0 r cA uf ua us)) (post : (Int32 × (Nat → Int32)) → Prop) (hq : post (fX5_drop uf)) : W p l e rmX5_drop s m args below meth c H locs 0 0 (MQ below (va_Qi (fun r u => post (r, u)) (hBk (dC, dI) (md_T cA) Rg (fun u => md_W h0 r cA u ua us)) Rg) args s 0 0 Rg) (F0 m 0 ls []) := by
  obtain ⟨hx, hb, hml, hr, hlocks, hown, hts⟩ := id C
  unfold fX5_drop at hq
  refine lv_aload_n hx hb dX5_drop_0 rfl (lv_at hl 0 rfl) ?_
  refine hx_get (v := .int (uf 1)) hx hb hts inX5 hown hw.1 hw.2.2.2.1 0 rfl rfl 1 (by decide) tw_fieldLink_RX5_274_GlulxFloatsModel_steps_I rfl rfl dX5_drop_1 ?_
  refine lv_istore_n (lv' := [(1, .int (uf 1)), (0, .ref h0)]) hx hb dX5_drop_4 rfl hl (by decide) rfl (fun ls hl => ?_)
  refine lv_aload_n hx hb dX5_drop_5 rfl (lv_at hl 1 rfl) ?_
  refine lv_iconst (v := 0) hx hb dX5_drop_6 (by decide) ?_
  refine hx_put (ws' := (md_W h0 r cA (va_up uf 1 (0 : Int32)) ua us)) hx hb hts inX5 tyX5 tyX5_ok nmX5 hown hw 0 rfl rfl 1 (by decide) tw_fieldLink_RX5_274_GlulxFloatsModel_steps_I rfl rfl (by decide +kernel) (Nat.le_of_ble_eq_true rfl) dX5_drop_7 rfl (fun H locs hw => ?_)
  refine lv_iload_n hx hb dX5_drop_10 rfl (lv_at hl 0 rfl) ?_
  exact hx_iret (Wf := (fun u => md_W h0 r cA u ua us)) (post := post) (v := (uf 1)) (u := (va_up uf 1 (0 : Int32))) hx hb hr hlocks hw hq dX5_drop_11
theorem kX5_drop (l : Launch) (dC : Nat → ClassId) (dI : Nat → Nat → Nat) (h0 : Nat) (r : Nat → Nat) (cA : Nat → ClassId) (sz : Nat) (uf : Nat → Int32) (ua : Nat → Nat → Int32) (us : Nat → Int64) : Met l yX5_drop (Cond.code yX5_drop cX5_drop 2 (some .int) :: bw) rmX5_drop (hPc [.ref h0] (dC, dI) (md_T cA) (md_W h0 r cA uf ua us) sz (fun _ => True)) (va_Qi (fun r u => (r, u) = fX5_drop uf) (hBk (dC, dI) (md_T cA) (va_A (md_W h0 r cA uf ua us) sz) (fun u => md_W h0 r cA u ua us)) (va_A (md_W h0 r cA uf ua us) sz)) 0 0 (va_A (md_W h0 r cA uf ua us) sz) := by
  refine hx_ent (by decide) _ _ (Nat.le_of_ble_eq_true rfl) rfl ?_
  intro p e s m below meth c ls C hl hw hsz _
  exact bX5_drop_0 uf C hl hw (fun q => q = fX5_drop uf) rfl
def fX5_next (uf : Nat → Int32) : Int32 :=
  (uf 7)
abbrev rmX5_next : Room := { frames := 0, cells := 0, slots := 0, locals := 0 }
theorem mbX5_next : mb_V RX5 yX5_next cX5_next 1 (some .int) 0 := ⟨⟨tw_instanceMethod_yX5_next, tw_selects_RX5_yX5_next_yX5_next, tw_initialized_RX5, tw_code_yX5_next⟩, rfl, by decide +kernel, by decide +kernel, by decide +kernel⟩
set_option maxRecDepth 20000 in
theorem bX5_next_0 (uf : Nat → Int32) {p : Program} {l : Launch} {e : Env} {s : State} {m : MethodId} {args : Array Value} {below : List Frame} {meth : Method} {c : Code} {dC : Nat → ClassId} {dI : Nat → Nat → Nat} {r : Nat → Nat} {cA : Nat → ClassId} {ua : Nat → Nat → Int32} {us : Nat → Int64} {h0 : Nat} {ls : Array Slot} (C : bx_C p s m args meth c cX5_next 1 (some .int) RX5) (hK0 : rd_K (dC, dI) (md_T cA) (md_W h0 r cA uf ua us) s) (hl : lv_has ls 1 [(0, .ref h0)]) (post : (Int32) → Prop) (hq : post (fX5_next uf)) : W p l e rmX5_next s m args below meth c s.heap [] 0 0 (MQ below (vp_Si post) args s 0 0 (fun _ => False)) (F0 m 0 ls []) := by
  obtain ⟨hx, hb, hml, hr, hlocks, hown, hts⟩ := id C
  unfold fX5_next at hq
  refine lv_aload_n hx hb dX5_next_0 rfl (lv_at hl 0 rfl) ?_
  refine hx_get (v := .int (uf 7)) hx hb hts inX5 hown hK0.1 hK0.2 0 rfl rfl 7 (by decide) tw_fieldLink_RX5_28_GlulxFloatsModel_nextStep_I rfl rfl dX5_next_1 ?_
  exact W.iret (v := (uf 7)) hx hb hr (fun t ht hW => ⟨_, rfl, hq, ht⟩) (fun _ h => absurd h List.not_mem_nil) dX5_next_4
theorem kX5_next (l : Launch) (dC : Nat → ClassId) (dI : Nat → Nat → Nat) (h0 : Nat) (r : Nat → Nat) (cA : Nat → ClassId) (uf : Nat → Int32) (ua : Nat → Nat → Int32) (us : Nat → Int64) : Met l yX5_next (Cond.code yX5_next cX5_next 1 (some .int) :: bw) rmX5_next (va_Pc [.ref h0] (rd_K (dC, dI) (md_T cA) (md_W h0 r cA uf ua us))) (vp_Si (fun r => r = fX5_next uf)) 0 0 (fun _ => False) := by
  refine bx_ent (by decide) _ _ (Nat.le_of_ble_eq_true rfl) rfl ?_
  intro p e s m below meth c ls C hl hK0
  exact bX5_next_0 uf C hK0 hl _ rfl
def gX5_clear_23 : Nat → (Nat → Nat → Int32) → Int32 → (Nat → Nat → Int32) × Int32
  | 0, ua, x2 => (ua, x2)
  | n + 1, ua, x2 =>
  if (16 : Int32) ≤ x2 then (ua, x2)
  else gX5_clear_23 n (va_up ua 0 (upd (ua 0) x2.toNatClampNeg (0 : Int32))) (x2 + 1)
def fX5_clear_42 (uf : Nat → Int32) (ua : Nat → Nat → Int32) (x1 : Int32) : Int32 × ((Nat → Int32) × (Nat → Nat → Int32)) :=
  (x1, (uf, ua))
def fX5_clear (uf : Nat → Int32) (ua : Nat → Nat → Int32) : Int32 × ((Nat → Int32) × (Nat → Nat → Int32)) :=
  fX5_clear_42 (va_up (va_up (va_up uf 1 (0 : Int32)) 11 (0 : Int32)) 7 (-109 : Int32)) ((gX5_clear_23 (Nat.succ ((Int32.toInt (16) - Int32.toInt (0 : Int32)).toNat)) ua (0 : Int32)).1) (uf 1)
abbrev rmX5_clear : Room := { frames := 0, cells := 0, slots := 0, locals := 0 }
theorem mbX5_clear : mb_V RX5 yX5_clear cX5_clear 3 (some .int) 0 := ⟨⟨tw_instanceMethod_yX5_clear, tw_selects_RX5_yX5_clear_yX5_clear, tw_initialized_RX5, tw_code_yX5_clear⟩, rfl, by decide +kernel, by decide +kernel, by decide +kernel⟩
set_option maxRecDepth 20000 in
theorem lX5_clear_23 (x1 : Int32) {p : Program} {l : Launch} {e : Env} {s : State} {m : MethodId} {args : Array Value} {below : List Frame} {meth : Method} {c : Code} {dC : Nat → ClassId} {dI : Nat → Nat → Nat} {r : Nat → Nat} {cA : Nat → ClassId} {Rg : Nat → Prop} {uf : Nat → Int32} {us : Nat → Int64} {h0 : Nat} {Q : State → Prop} (C : bx_C p s m args meth c cX5_clear 3 (some .int) RX5) (post : ((Nat → Nat → Int32) × Int32) → Prop) (kx : ∀ (oua : Nat → Nat → Int32) (o2 : Int32) (ls : Array Slot) (H : Heap) (locs : List Loc), (0 ≤ Int32.toInt o2) → lv_has ls 3 [(1, .int x1), (2, .int o2)] → hW (dC, dI) (md_T cA) Rg s H locs (md_W h0 r cA uf oua us) → post (oua, o2) → W p l e rmX5_clear s m args below meth c H locs 0 0 Q (F0 m 42 ls [])) :
    ∀ (n : Nat) (ua : Nat → Nat → Int32) (x2 : Int32) (ls : Array Slot) (H : Heap) (locs : List Loc), (Int32.toInt (16) - Int32.toInt x2).toNat < n → (0 ≤ Int32.toInt x2) → lv_has ls 3 [(0, .ref h0), (1, .int x1), (2, .int x2)] → hW (dC, dI) (md_T cA) Rg s H locs (md_W h0 r cA uf ua us) → post (gX5_clear_23 n ua x2) → W p l e rmX5_clear s m args below meth c H locs 0 0 Q (F0 m 23 ls []) := by
  obtain ⟨hx, hb, hml, hr, hlocks, hown, hts⟩ := id C
  intro n
  induction n with
  | zero =>
    intro ua x2 ls H locs hm
    exact absurd hm (Nat.not_lt_zero _)
  | succ n ih =>
    intro ua x2 ls H locs hm hi hl hw hq
    rw [gX5_clear_23] at hq
    refine lv_iload_n hx hb dX5_clear_23 rfl (lv_at hl 2 rfl) ?_
    refine lv_bipush (v := 16) hx hb dX5_clear_24 (by decide) ?_
    refine lv_icmp_ge (tgt := 42) hx hb dX5_clear_26 (by decide) (fun c1 => ?_) (fun c1 => ?_)
    · rw [if_pos c1] at hq
      exact kx ua x2 _ _ _ hi (lv_sub hl [1, 2] rfl) hw hq
    · rw [if_neg c1] at hq
      refine lv_aload_n hx hb dX5_clear_29 rfl (lv_at hl 0 rfl) ?_
      refine hx_get (v := .ref (r 0)) hx hb hts inX5 hown hw.1 hw.2.2.2.1 0 rfl rfl 0 (by decide) tw_fieldLink_RX5_7_GlulxFloatsModel_words_I rfl rfl dX5_clear_30 ?_
      refine lv_iload_n hx hb dX5_clear_33 rfl (lv_at hl 2 rfl) ?_
      refine lv_iconst (v := 0) hx hb dX5_clear_34 (by decide) ?_
      refine hx_iast (ws' := (md_W h0 r cA uf (va_up ua 0 (upd (ua 0) x2.toNatClampNeg (0 : Int32))) us)) hx hb hw 1 0 rfl rfl (by first | assumption | exact vi_lt hi (by assumption) (by decide)) dX5_clear_35 rfl (fun H locs hw => ?_)
      refine lv_iinc (v := (x2 + 1)) (lv' := [(2, .int (x2 + 1)), (0, .ref h0), (1, .int x1)]) hx hb dX5_clear_36 hl (k := 2) rfl rfl (by decide) rfl (fun ls hl => ?_)
      refine lv_goto (tgt := 23) hx hb dX5_clear_39 (by decide) ?_
      exact ih (va_up ua 0 (upd (ua 0) x2.toNatClampNeg (0 : Int32))) (x2 + 1) _ _ _ (lp_up (by assumption) hm) (li_up (by assumption) hi) (lv_sub hl [1, 2, 0] rfl) hw hq
set_option maxRecDepth 20000 in
theorem bX5_clear_42 (uf : Nat → Int32) (ua : Nat → Nat → Int32) (x1 : Int32) {p : Program} {l : Launch} {e : Env} {s : State} {m : MethodId} {args : Array Value} {below : List Frame} {meth : Method} {c : Code} {dC : Nat → ClassId} {dI : Nat → Nat → Nat} {r : Nat → Nat} {cA : Nat → ClassId} {Rg : Nat → Prop} {H : Heap} {locs : List Loc} {us : Nat → Int64} {h0 : Nat} {ls : Array Slot} (C : bx_C p s m args meth c cX5_clear 3 (some .int) RX5) (hl : lv_has ls 3 [(1, .int x1)]) (hw : hW (dC, dI) (md_T cA) Rg s H locs (md_W h0 r cA uf ua us)) (post : (Int32 × ((Nat → Int32) × (Nat → Nat → Int32))) → Prop) (hq : post (fX5_clear_42 uf ua x1)) : W p l e rmX5_clear s m args below meth c H locs 0 0 (MQ below (va_Qi (fun r u => post (r, u)) (hBk (dC, dI) (md_T cA) Rg (fun u => md_W h0 r cA u.1 u.2 us)) Rg) args s 0 0 Rg) (F0 m 42 ls []) := by
  obtain ⟨hx, hb, hml, hr, hlocks, hown, hts⟩ := id C
  unfold fX5_clear_42 at hq
  refine lv_iload_n hx hb dX5_clear_42 rfl (lv_at hl 0 rfl) ?_
  exact hx_iret (Wf := (fun u => md_W h0 r cA u.1 u.2 us)) (post := post) (v := x1) (u := (uf, ua)) hx hb hr hlocks hw hq dX5_clear_43
set_option maxRecDepth 20000 in
theorem bX5_clear_0 (uf : Nat → Int32) (ua : Nat → Nat → Int32) {p : Program} {l : Launch} {e : Env} {s : State} {m : MethodId} {args : Array Value} {below : List Frame} {meth : Method} {c : Code} {dC : Nat → ClassId} {dI : Nat → Nat → Nat} {r : Nat → Nat} {cA : Nat → ClassId} {Rg : Nat → Prop} {H : Heap} {locs : List Loc} {us : Nat → Int64} {h0 : Nat} {ls : Array Slot} (C : bx_C p s m args meth c cX5_clear 3 (some .int) RX5) (hl : lv_has ls 3 [(0, .ref h0)]) (hw : hW (dC, dI) (md_T cA) Rg s H locs (md_W h0 r cA uf ua us)) (post : (Int32 × ((Nat → Int32) × (Nat → Nat → Int32))) → Prop) (hq : post (fX5_clear uf ua)) : W p l e rmX5_clear s m args below meth c H locs 0 0 (MQ below (va_Qi (fun r u => post (r, u)) (hBk (dC, dI) (md_T cA) Rg (fun u => md_W h0 r cA u.1 u.2 us)) Rg) args s 0 0 Rg) (F0 m 0 ls []) := by
  obtain ⟨hx, hb, hml, hr, hlocks, hown, hts⟩ := id C
  unfold fX5_clear at hq
  refine lv_aload_n hx hb dX5_clear_0 rfl (lv_at hl 0 rfl) ?_
  refine hx_get (v := .int (uf 1)) hx hb hts inX5 hown hw.1 hw.2.2.2.1 0 rfl rfl 1 (by decide) tw_fieldLink_RX5_274_GlulxFloatsModel_steps_I rfl rfl dX5_clear_1 ?_
  refine lv_istore_n (lv' := [(1, .int (uf 1)), (0, .ref h0)]) hx hb dX5_clear_4 rfl hl (by decide) rfl (fun ls hl => ?_)
  refine lv_aload_n hx hb dX5_clear_5 rfl (lv_at hl 1 rfl) ?_
  refine lv_iconst (v := 0) hx hb dX5_clear_6 (by decide) ?_
  refine hx_put (ws' := (md_W h0 r cA (va_up uf 1 (0 : Int32)) ua us)) hx hb hts inX5 tyX5 tyX5_ok nmX5 hown hw 0 rfl rfl 1 (by decide) tw_fieldLink_RX5_274_GlulxFloatsModel_steps_I rfl rfl (by decide +kernel) (Nat.le_of_ble_eq_true rfl) dX5_clear_7 rfl (fun H locs hw => ?_)
  refine lv_aload_n hx hb dX5_clear_10 rfl (lv_at hl 1 rfl) ?_
  refine lv_iconst (v := 0) hx hb dX5_clear_11 (by decide) ?_
  refine hx_put (ws' := (md_W h0 r cA (va_up (va_up uf 1 (0 : Int32)) 11 (0 : Int32)) ua us)) hx hb hts inX5 tyX5 tyX5_ok nmX5 hown hw 0 rfl rfl 11 (by decide) tw_fieldLink_RX5_245_GlulxFloatsModel_outSize_I rfl rfl (by decide +kernel) (Nat.le_of_ble_eq_true rfl) dX5_clear_12 rfl (fun H locs hw => ?_)
  refine lv_aload_n hx hb dX5_clear_15 rfl (lv_at hl 1 rfl) ?_
  refine lv_bipush (v := -109) hx hb dX5_clear_16 (by decide) ?_
  refine hx_put (ws' := (md_W h0 r cA (va_up (va_up (va_up uf 1 (0 : Int32)) 11 (0 : Int32)) 7 (-109 : Int32)) ua us)) hx hb hts inX5 tyX5 tyX5_ok nmX5 hown hw 0 rfl rfl 7 (by decide) tw_fieldLink_RX5_28_GlulxFloatsModel_nextStep_I rfl rfl (by decide +kernel) (Nat.le_of_ble_eq_true rfl) dX5_clear_18 rfl (fun H locs hw => ?_)
  refine lv_iconst (v := 0) hx hb dX5_clear_21 (by decide) ?_
  refine lv_istore_n (lv' := [(2, .int (0 : Int32)), (1, .int (uf 1)), (0, .ref h0)]) hx hb dX5_clear_22 rfl hl (by decide) rfl (fun ls hl => ?_)
  exact lX5_clear_23 (uf 1) C (fun t => post (fX5_clear_42 (va_up (va_up (va_up uf 1 (0 : Int32)) 11 (0 : Int32)) 7 (-109 : Int32)) t.1 (uf 1))) (fun oua o2 ls H locs hi hl hw hq => bX5_clear_42 (va_up (va_up (va_up uf 1 (0 : Int32)) 11 (0 : Int32)) 7 (-109 : Int32)) oua (uf 1) C (lv_sub hl [0] rfl) hw post hq) (Nat.succ ((Int32.toInt (16) - Int32.toInt (0 : Int32)).toNat)) ua (0 : Int32) _ _ _ (Nat.lt_succ_self _) (by decide) (lv_sub hl [2, 1, 0] rfl) hw hq
theorem kX5_clear (l : Launch) (dC : Nat → ClassId) (dI : Nat → Nat → Nat) (h0 : Nat) (r : Nat → Nat) (cA : Nat → ClassId) (sz : Nat) (uf : Nat → Int32) (ua : Nat → Nat → Int32) (us : Nat → Int64) : Met l yX5_clear (Cond.code yX5_clear cX5_clear 3 (some .int) :: bw) rmX5_clear (hPc [.ref h0] (dC, dI) (md_T cA) (md_W h0 r cA uf ua us) sz (fun _ => True)) (va_Qi (fun r u => (r, u) = fX5_clear uf ua) (hBk (dC, dI) (md_T cA) (va_A (md_W h0 r cA uf ua us) sz) (fun u => md_W h0 r cA u.1 u.2 us)) (va_A (md_W h0 r cA uf ua us) sz)) 0 0 (va_A (md_W h0 r cA uf ua us) sz) := by
  refine hx_ent (by decide) _ _ (Nat.le_of_ble_eq_true rfl) rfl ?_
  intro p e s m below meth c ls C hl hw hsz _
  exact bX5_clear_0 uf ua C hl hw (fun q => q = fX5_clear uf ua) rfl
def fX5_done (ua : Nat → Nat → Int32) (us : Nat → Int64) (x1 : Int32) : Int32 × ((Nat → Nat → Int32) × (Nat → Int64)) :=
  if ((ua 2) x1.toNatClampNeg) = (40 : Int32) then ((-109 : Int32), (ua, us))
  else if ((ua 2) x1.toNatClampNeg) = (43 : Int32) then (((ua 3) x1.toNatClampNeg), (ua, us))
    else if ((ua 2) x1.toNatClampNeg) = (41 : Int32) then ((x1 + (1 : Int32)), ((va_up ua 0 (upd (ua 0) ((ua 3) x1.toNatClampNeg).toNatClampNeg ((ua 4) x1.toNatClampNeg))), us))
      else if ((ua 2) x1.toNatClampNeg) = (42 : Int32) then ((x1 + (1 : Int32)), ((va_up ua 0 (upd (ua 0) ((ua 3) x1.toNatClampNeg).toNatClampNeg (((ua 0) ((ua 4) x1.toNatClampNeg).toNatClampNeg) + ((ua 0) ((ua 5) x1.toNatClampNeg).toNatClampNeg)))), us))
        else if (24 : Int32) ≤ ((ua 2) x1.toNatClampNeg) then if (fX5_holds us (((ua 2) x1.toNatClampNeg) - (30 : Int32)) (fX5_bits ((ua 0) ((ua 4) x1.toNatClampNeg).toNatClampNeg)) (fX5_bits ((ua 0) ((ua 5) x1.toNatClampNeg).toNatClampNeg)) (fX5_bits ((ua 0) ((ua 6) x1.toNatClampNeg).toNatClampNeg)) (0 : Int32)).1 = 0 then ((x1 + (1 : Int32)), (ua, (fX5_holds us (((ua 2) x1.toNatClampNeg) - (30 : Int32)) (fX5_bits ((ua 0) ((ua 4) x1.toNatClampNeg).toNatClampNeg)) (fX5_bits ((ua 0) ((ua 5) x1.toNatClampNeg).toNatClampNeg)) (fX5_bits ((ua 0) ((ua 6) x1.toNatClampNeg).toNatClampNeg)) (0 : Int32)).2))
            else (((ua 3) x1.toNatClampNeg), (ua, (fX5_holds us (((ua 2) x1.toNatClampNeg) - (30 : Int32)) (fX5_bits ((ua 0) ((ua 4) x1.toNatClampNeg).toNatClampNeg)) (fX5_bits ((ua 0) ((ua 5) x1.toNatClampNeg).toNatClampNeg)) (fX5_bits ((ua 0) ((ua 6) x1.toNatClampNeg).toNatClampNeg)) (0 : Int32)).2))
          else ((x1 + (1 : Int32)), ((va_up ua 0 (upd (ua 0) ((ua 3) x1.toNatClampNeg).toNatClampNeg ((fX5_single us ((ua 2) x1.toNatClampNeg) ((ua 0) ((ua 4) x1.toNatClampNeg).toNatClampNeg) ((ua 0) ((ua 5) x1.toNatClampNeg).toNatClampNeg) ((ua 0) ((ua 6) x1.toNatClampNeg).toNatClampNeg)).1))), (fX5_single us ((ua 2) x1.toNatClampNeg) ((ua 0) ((ua 4) x1.toNatClampNeg).toNatClampNeg) ((ua 0) ((ua 5) x1.toNatClampNeg).toNatClampNeg) ((ua 0) ((ua 6) x1.toNatClampNeg).toNatClampNeg)).2))
abbrev rmX5_done : Room := { frames := 9, cells := 0, slots := 0, locals := 253 }
theorem mbX5_done : mb_V RX5 yX5_done cX5_done 3 (some .int) 1 := ⟨⟨tw_instanceMethod_yX5_done, tw_selects_RX5_yX5_done_yX5_done, tw_initialized_RX5, tw_code_yX5_done⟩, rfl, by decide +kernel, by decide +kernel, by decide +kernel⟩
set_option maxRecDepth 20000 in
theorem bX5_done_0 (ua : Nat → Nat → Int32) (us : Nat → Int64) (x1 : Int32) {p : Program} {l : Launch} {e : Env} {s : State} {m : MethodId} {args : Array Value} {below : List Frame} {meth : Method} {c : Code} {dC : Nat → ClassId} {dI : Nat → Nat → Nat} {r : Nat → Nat} {cA : Nat → ClassId} {Rg : Nat → Prop} {H : Heap} {locs : List Loc} {uf : Nat → Int32} {h0 : Nat} {ls : Array Slot} (C : bx_C p s m args meth c cX5_done 3 (some .int) RX5) (hl : lv_has ls 3 [(0, .ref h0), (1, .int x1)]) (hw : hW (dC, dI) (md_T cA) Rg s H locs (md_W h0 r cA uf ua us)) (hs : vp_in x1 40) (hk : st_ok (ua 2 x1.toNatClampNeg) (ua 3 x1.toNatClampNeg) (ua 4 x1.toNatClampNeg) (ua 5 x1.toNatClampNeg) (ua 6 x1.toNatClampNeg)) (post : (Int32 × ((Nat → Nat → Int32) × (Nat → Int64))) → Prop) (hq : post (fX5_done ua us x1)) : W p l e rmX5_done s m args below meth c H locs 0 0 (MQ below (va_Qi (fun r u => post (r, u)) (hBk (dC, dI) (md_T cA) Rg (fun u => md_W h0 r cA uf u.1 u.2)) Rg) args s 0 0 Rg) (F0 m 0 ls []) := by
  obtain ⟨hx, hb, hml, hr, hlocks, hown, hts⟩ := id C
  unfold fX5_done at hq
  refine lv_aload_n hx hb dX5_done_0 rfl (lv_at hl 0 rfl) ?_
  refine hx_get (v := .ref (r 2)) hx hb hts inX5 hown hw.1 hw.2.2.2.1 0 rfl rfl 2 (by decide) tw_fieldLink_RX5_13_GlulxFloatsModel_codes_I rfl rfl dX5_done_1 ?_
  refine lv_iload_n hx hb dX5_done_4 rfl (lv_at hl 1 rfl) ?_
  refine hx_iald hx hb hw.1 hw.2.2.2.1 2 1 rfl rfl hs dX5_done_5 ?_
  refine lv_istore_n (lv' := [(2, .int ((ua 2) x1.toNatClampNeg)), (0, .ref h0), (1, .int x1)]) hx hb dX5_done_6 rfl hl (by decide) rfl (fun ls hl => ?_)
  refine lv_iload_n hx hb dX5_done_7 rfl (lv_at hl 0 rfl) ?_
  refine lv_bipush (v := 40) hx hb dX5_done_8 (by decide) ?_
  refine lv_icmp_ne (tgt := 16) hx hb dX5_done_10 (by decide) (fun c1 => ?_) (fun c1 => ?_)
  · rw [if_neg c1] at hq
    refine lv_iload_n hx hb dX5_done_16 rfl (lv_at hl 0 rfl) ?_
    refine lv_bipush (v := 43) hx hb dX5_done_17 (by decide) ?_
    refine lv_icmp_ne (tgt := 29) hx hb dX5_done_19 (by decide) (fun c2 => ?_) (fun c2 => ?_)
    · rw [if_neg c2] at hq
      refine lv_iload_n hx hb dX5_done_29 rfl (lv_at hl 0 rfl) ?_
      refine lv_bipush (v := 41) hx hb dX5_done_30 (by decide) ?_
      refine lv_icmp_ne (tgt := 55) hx hb dX5_done_32 (by decide) (fun c3 => ?_) (fun c3 => ?_)
      · rw [if_neg c3] at hq
        refine lv_iload_n hx hb dX5_done_55 rfl (lv_at hl 0 rfl) ?_
        refine lv_bipush (v := 42) hx hb dX5_done_56 (by decide) ?_
        refine lv_icmp_ne (tgt := 98) hx hb dX5_done_58 (by decide) (fun c4 => ?_) (fun c4 => ?_)
        · rw [if_neg c4] at hq
          refine lv_iload_n hx hb dX5_done_98 rfl (lv_at hl 0 rfl) ?_
          refine lv_bipush (v := 24) hx hb dX5_done_99 (by decide) ?_
          refine lv_icmp_ge (tgt := 156) hx hb dX5_done_101 (by decide) (fun c5 => ?_) (fun c5 => ?_)
          · rw [if_pos c5] at hq
            refine lv_aload_n hx hb dX5_done_156 rfl (lv_at hl 1 rfl) ?_
            refine lv_iload_n hx hb dX5_done_157 rfl (lv_at hl 0 rfl) ?_
            refine lv_bipush (v := 30) hx hb dX5_done_158 (by decide) ?_
            refine lv_isub hx hb dX5_done_160 ?_
            refine lv_aload_n hx hb dX5_done_161 rfl (lv_at hl 1 rfl) ?_
            refine hx_get (v := .ref (r 0)) hx hb hts inX5 hown hw.1 hw.2.2.2.1 0 rfl rfl 0 (by decide) tw_fieldLink_RX5_7_GlulxFloatsModel_words_I rfl rfl dX5_done_162 ?_
            refine lv_aload_n hx hb dX5_done_165 rfl (lv_at hl 1 rfl) ?_
            refine hx_get (v := .ref (r 4)) hx hb hts inX5 hown hw.1 hw.2.2.2.1 0 rfl rfl 4 (by decide) tw_fieldLink_RX5_19_GlulxFloatsModel_xs_I rfl rfl dX5_done_166 ?_
            refine lv_iload_n hx hb dX5_done_169 rfl (lv_at hl 2 rfl) ?_
            refine hx_iald hx hb hw.1 hw.2.2.2.1 4 3 rfl rfl hs dX5_done_170 ?_
            refine hx_iald hx hb hw.1 hw.2.2.2.1 1 0 rfl rfl (st_tst hk (by assumption) (by assumption) (by assumption) (by assumption) (by assumption)).1 dX5_done_171 ?_
            refine bx_sl C (kX5_bits l ((ua 0) ((ua 4) x1.toNatClampNeg).toNatClampNeg)) bx_B_true (fun _ _ _ => trivial) tw_methodLink_RX5_217_yX5_bits mbX5_bits rfl ⟨rfl, rfl⟩ ⟨Nat.le_of_ble_eq_true rfl, Nat.le_of_ble_eq_true rfl⟩ ⟨Nat.zero_le _, Nat.zero_le _⟩ hl.1 rfl (Nat.le_of_ble_eq_true rfl) dX5_done_172 ?_
            refine lv_aload_n hx hb dX5_done_175 rfl (lv_at hl 1 rfl) ?_
            refine hx_get (v := .ref (r 0)) hx hb hts inX5 hown hw.1 hw.2.2.2.1 0 rfl rfl 0 (by decide) tw_fieldLink_RX5_7_GlulxFloatsModel_words_I rfl rfl dX5_done_176 ?_
            refine lv_aload_n hx hb dX5_done_179 rfl (lv_at hl 1 rfl) ?_
            refine hx_get (v := .ref (r 5)) hx hb hts inX5 hown hw.1 hw.2.2.2.1 0 rfl rfl 5 (by decide) tw_fieldLink_RX5_22_GlulxFloatsModel_ys_I rfl rfl dX5_done_180 ?_
            refine lv_iload_n hx hb dX5_done_183 rfl (lv_at hl 2 rfl) ?_
            refine hx_iald hx hb hw.1 hw.2.2.2.1 5 4 rfl rfl hs dX5_done_184 ?_
            refine hx_iald hx hb hw.1 hw.2.2.2.1 1 0 rfl rfl (st_tst hk (by assumption) (by assumption) (by assumption) (by assumption) (by assumption)).2.1 dX5_done_185 ?_
            refine bx_sl C (kX5_bits l ((ua 0) ((ua 5) x1.toNatClampNeg).toNatClampNeg)) bx_B_true (fun _ _ _ => trivial) tw_methodLink_RX5_217_yX5_bits mbX5_bits rfl ⟨rfl, rfl⟩ ⟨Nat.le_of_ble_eq_true rfl, Nat.le_of_ble_eq_true rfl⟩ ⟨Nat.zero_le _, Nat.zero_le _⟩ hl.1 rfl (Nat.le_of_ble_eq_true rfl) dX5_done_186 ?_
            refine lv_aload_n hx hb dX5_done_189 rfl (lv_at hl 1 rfl) ?_
            refine hx_get (v := .ref (r 0)) hx hb hts inX5 hown hw.1 hw.2.2.2.1 0 rfl rfl 0 (by decide) tw_fieldLink_RX5_7_GlulxFloatsModel_words_I rfl rfl dX5_done_190 ?_
            refine lv_aload_n hx hb dX5_done_193 rfl (lv_at hl 1 rfl) ?_
            refine hx_get (v := .ref (r 6)) hx hb hts inX5 hown hw.1 hw.2.2.2.1 0 rfl rfl 6 (by decide) tw_fieldLink_RX5_25_GlulxFloatsModel_zs_I rfl rfl dX5_done_194 ?_
            refine lv_iload_n hx hb dX5_done_197 rfl (lv_at hl 2 rfl) ?_
            refine hx_iald hx hb hw.1 hw.2.2.2.1 6 5 rfl rfl hs dX5_done_198 ?_
            refine hx_iald hx hb hw.1 hw.2.2.2.1 1 0 rfl rfl (st_tst hk (by assumption) (by assumption) (by assumption) (by assumption) (by assumption)).2.2 dX5_done_199 ?_
            refine bx_sl C (kX5_bits l ((ua 0) ((ua 6) x1.toNatClampNeg).toNatClampNeg)) bx_B_true (fun _ _ _ => trivial) tw_methodLink_RX5_217_yX5_bits mbX5_bits rfl ⟨rfl, rfl⟩ ⟨Nat.le_of_ble_eq_true rfl, Nat.le_of_ble_eq_true rfl⟩ ⟨Nat.zero_le _, Nat.zero_le _⟩ hl.1 rfl (Nat.le_of_ble_eq_true rfl) dX5_done_200 ?_
            refine lv_iconst (v := 0) hx hb dX5_done_203 (by decide) ?_
            refine hx_ci (Wf := (fun u => md_W h0 r cA uf ua u)) (u0 := us) (F := (fX5_holds us (((ua 2) x1.toNatClampNeg) - (30 : Int32)) (fX5_bits ((ua 0) ((ua 4) x1.toNatClampNeg).toNatClampNeg)) (fX5_bits ((ua 0) ((ua 5) x1.toNatClampNeg).toNatClampNeg)) (fX5_bits ((ua 0) ((ua 6) x1.toNatClampNeg).toNatClampNeg)) (0 : Int32))) C (fun sz => kX5_holds l dC dI h0 r cA sz uf ua us (((ua 2) x1.toNatClampNeg) - (30 : Int32)) (fX5_bits ((ua 0) ((ua 4) x1.toNatClampNeg).toNatClampNeg)) (fX5_bits ((ua 0) ((ua 5) x1.toNatClampNeg).toNatClampNeg)) (fX5_bits ((ua 0) ((ua 6) x1.toNatClampNeg).toNatClampNeg)) (0 : Int32) (fun _ => sd_bits _) (fun _ => sd_bits _)) (fun _ => bx_B_true) (fun _ _ _ => trivial) hw rfl rfl tw_methodLink_RX5_240_yX5_holds mbX5_holds rfl ⟨rfl, rfl⟩ ⟨Nat.le_of_ble_eq_true rfl, Nat.le_of_ble_eq_true rfl⟩ ⟨Nat.zero_le _, Nat.zero_le _⟩ hl.1 rfl (Nat.le_of_ble_eq_true rfl) dX5_done_204 (fun H locs hw => ?_)
            have hw : hW (dC, dI) (md_T cA) Rg s H locs (md_W h0 r cA uf ua ((fX5_holds us (((ua 2) x1.toNatClampNeg) - (30 : Int32)) (fX5_bits ((ua 0) ((ua 4) x1.toNatClampNeg).toNatClampNeg)) (fX5_bits ((ua 0) ((ua 5) x1.toNatClampNeg).toNatClampNeg)) (fX5_bits ((ua 0) ((ua 6) x1.toNatClampNeg).toNatClampNeg)) (0 : Int32)).2)) := hw
            refine lv_if_eq (tgt := 217) hx hb dX5_done_207 (by decide) (fun c6 => ?_) (fun c6 => ?_)
            · rw [if_pos c6] at hq
              refine lv_iload_n hx hb dX5_done_217 rfl (lv_at hl 2 rfl) ?_
              refine lv_iconst (v := 1) hx hb dX5_done_218 (by decide) ?_
              refine lv_iadd hx hb dX5_done_219 ?_
              exact hx_iret (Wf := (fun u => md_W h0 r cA uf u.1 u.2)) (post := post) (v := (x1 + (1 : Int32))) (u := (ua, (fX5_holds us (((ua 2) x1.toNatClampNeg) - (30 : Int32)) (fX5_bits ((ua 0) ((ua 4) x1.toNatClampNeg).toNatClampNeg)) (fX5_bits ((ua 0) ((ua 5) x1.toNatClampNeg).toNatClampNeg)) (fX5_bits ((ua 0) ((ua 6) x1.toNatClampNeg).toNatClampNeg)) (0 : Int32)).2)) hx hb hr hlocks hw hq dX5_done_220
            · rw [if_neg c6] at hq
              refine lv_aload_n hx hb dX5_done_210 rfl (lv_at hl 1 rfl) ?_
              refine hx_get (v := .ref (r 3)) hx hb hts inX5 hown hw.1 hw.2.2.2.1 0 rfl rfl 3 (by decide) tw_fieldLink_RX5_16_GlulxFloatsModel_ts_I rfl rfl dX5_done_211 ?_
              refine lv_iload_n hx hb dX5_done_214 rfl (lv_at hl 2 rfl) ?_
              refine hx_iald hx hb hw.1 hw.2.2.2.1 3 2 rfl rfl hs dX5_done_215 ?_
              exact hx_iret (Wf := (fun u => md_W h0 r cA uf u.1 u.2)) (post := post) (v := ((ua 3) x1.toNatClampNeg)) (u := (ua, (fX5_holds us (((ua 2) x1.toNatClampNeg) - (30 : Int32)) (fX5_bits ((ua 0) ((ua 4) x1.toNatClampNeg).toNatClampNeg)) (fX5_bits ((ua 0) ((ua 5) x1.toNatClampNeg).toNatClampNeg)) (fX5_bits ((ua 0) ((ua 6) x1.toNatClampNeg).toNatClampNeg)) (0 : Int32)).2)) hx hb hr hlocks hw hq dX5_done_216
          · rw [if_neg c5] at hq
            refine lv_aload_n hx hb dX5_done_104 rfl (lv_at hl 1 rfl) ?_
            refine hx_get (v := .ref (r 0)) hx hb hts inX5 hown hw.1 hw.2.2.2.1 0 rfl rfl 0 (by decide) tw_fieldLink_RX5_7_GlulxFloatsModel_words_I rfl rfl dX5_done_105 ?_
            refine lv_aload_n hx hb dX5_done_108 rfl (lv_at hl 1 rfl) ?_
            refine hx_get (v := .ref (r 3)) hx hb hts inX5 hown hw.1 hw.2.2.2.1 0 rfl rfl 3 (by decide) tw_fieldLink_RX5_16_GlulxFloatsModel_ts_I rfl rfl dX5_done_109 ?_
            refine lv_iload_n hx hb dX5_done_112 rfl (lv_at hl 2 rfl) ?_
            refine hx_iald hx hb hw.1 hw.2.2.2.1 3 2 rfl rfl hs dX5_done_113 ?_
            refine lv_aload_n hx hb dX5_done_114 rfl (lv_at hl 1 rfl) ?_
            refine lv_iload_n hx hb dX5_done_115 rfl (lv_at hl 0 rfl) ?_
            refine lv_aload_n hx hb dX5_done_116 rfl (lv_at hl 1 rfl) ?_
            refine hx_get (v := .ref (r 0)) hx hb hts inX5 hown hw.1 hw.2.2.2.1 0 rfl rfl 0 (by decide) tw_fieldLink_RX5_7_GlulxFloatsModel_words_I rfl rfl dX5_done_117 ?_
            refine lv_aload_n hx hb dX5_done_120 rfl (lv_at hl 1 rfl) ?_
            refine hx_get (v := .ref (r 4)) hx hb hts inX5 hown hw.1 hw.2.2.2.1 0 rfl rfl 4 (by decide) tw_fieldLink_RX5_19_GlulxFloatsModel_xs_I rfl rfl dX5_done_121 ?_
            refine lv_iload_n hx hb dX5_done_124 rfl (lv_at hl 2 rfl) ?_
            refine hx_iald hx hb hw.1 hw.2.2.2.1 4 3 rfl rfl hs dX5_done_125 ?_
            refine hx_iald hx hb hw.1 hw.2.2.2.1 1 0 rfl rfl (st_act hk (by assumption)).2.1 dX5_done_126 ?_
            refine lv_aload_n hx hb dX5_done_127 rfl (lv_at hl 1 rfl) ?_
            refine hx_get (v := .ref (r 0)) hx hb hts inX5 hown hw.1 hw.2.2.2.1 0 rfl rfl 0 (by decide) tw_fieldLink_RX5_7_GlulxFloatsModel_words_I rfl rfl dX5_done_128 ?_
            refine lv_aload_n hx hb dX5_done_131 rfl (lv_at hl 1 rfl) ?_
            refine hx_get (v := .ref (r 5)) hx hb hts inX5 hown hw.1 hw.2.2.2.1 0 rfl rfl 5 (by decide) tw_fieldLink_RX5_22_GlulxFloatsModel_ys_I rfl rfl dX5_done_132 ?_
            refine lv_iload_n hx hb dX5_done_135 rfl (lv_at hl 2 rfl) ?_
            refine hx_iald hx hb hw.1 hw.2.2.2.1 5 4 rfl rfl hs dX5_done_136 ?_
            refine hx_iald hx hb hw.1 hw.2.2.2.1 1 0 rfl rfl (st_act hk (by assumption)).2.2.1 dX5_done_137 ?_
            refine lv_aload_n hx hb dX5_done_138 rfl (lv_at hl 1 rfl) ?_
            refine hx_get (v := .ref (r 0)) hx hb hts inX5 hown hw.1 hw.2.2.2.1 0 rfl rfl 0 (by decide) tw_fieldLink_RX5_7_GlulxFloatsModel_words_I rfl rfl dX5_done_139 ?_
            refine lv_aload_n hx hb dX5_done_142 rfl (lv_at hl 1 rfl) ?_
            refine hx_get (v := .ref (r 6)) hx hb hts inX5 hown hw.1 hw.2.2.2.1 0 rfl rfl 6 (by decide) tw_fieldLink_RX5_25_GlulxFloatsModel_zs_I rfl rfl dX5_done_143 ?_
            refine lv_iload_n hx hb dX5_done_146 rfl (lv_at hl 2 rfl) ?_
            refine hx_iald hx hb hw.1 hw.2.2.2.1 6 5 rfl rfl hs dX5_done_147 ?_
            refine hx_iald hx hb hw.1 hw.2.2.2.1 1 0 rfl rfl (st_act hk (by assumption)).2.2.2 dX5_done_148 ?_
            refine hx_ci (Wf := (fun u => md_W h0 r cA uf ua u)) (u0 := us) (F := (fX5_single us ((ua 2) x1.toNatClampNeg) ((ua 0) ((ua 4) x1.toNatClampNeg).toNatClampNeg) ((ua 0) ((ua 5) x1.toNatClampNeg).toNatClampNeg) ((ua 0) ((ua 6) x1.toNatClampNeg).toNatClampNeg))) C (fun sz => kX5_single l dC dI h0 r cA sz uf ua us ((ua 2) x1.toNatClampNeg) ((ua 0) ((ua 4) x1.toNatClampNeg).toNatClampNeg) ((ua 0) ((ua 5) x1.toNatClampNeg).toNatClampNeg) ((ua 0) ((ua 6) x1.toNatClampNeg).toNatClampNeg)) (fun _ => bx_B_true) (fun _ _ _ => trivial) hw rfl rfl tw_methodLink_RX5_232_yX5_single mbX5_single rfl ⟨rfl, rfl⟩ ⟨Nat.le_of_ble_eq_true rfl, Nat.le_of_ble_eq_true rfl⟩ ⟨Nat.zero_le _, Nat.zero_le _⟩ hl.1 rfl (Nat.le_of_ble_eq_true rfl) dX5_done_149 (fun H locs hw => ?_)
            have hw : hW (dC, dI) (md_T cA) Rg s H locs (md_W h0 r cA uf ua ((fX5_single us ((ua 2) x1.toNatClampNeg) ((ua 0) ((ua 4) x1.toNatClampNeg).toNatClampNeg) ((ua 0) ((ua 5) x1.toNatClampNeg).toNatClampNeg) ((ua 0) ((ua 6) x1.toNatClampNeg).toNatClampNeg)).2)) := hw
            refine hx_iast (ws' := (md_W h0 r cA uf (va_up ua 0 (upd (ua 0) ((ua 3) x1.toNatClampNeg).toNatClampNeg ((fX5_single us ((ua 2) x1.toNatClampNeg) ((ua 0) ((ua 4) x1.toNatClampNeg).toNatClampNeg) ((ua 0) ((ua 5) x1.toNatClampNeg).toNatClampNeg) ((ua 0) ((ua 6) x1.toNatClampNeg).toNatClampNeg)).1))) ((fX5_single us ((ua 2) x1.toNatClampNeg) ((ua 0) ((ua 4) x1.toNatClampNeg).toNatClampNeg) ((ua 0) ((ua 5) x1.toNatClampNeg).toNatClampNeg) ((ua 0) ((ua 6) x1.toNatClampNeg).toNatClampNeg)).2))) hx hb hw 1 0 rfl rfl (st_act hk (by assumption)).1 dX5_done_152 rfl (fun H locs hw => ?_)
            refine lv_goto (tgt := 217) hx hb dX5_done_153 (by decide) ?_
            refine lv_iload_n hx hb dX5_done_217 rfl (lv_at hl 2 rfl) ?_
            refine lv_iconst (v := 1) hx hb dX5_done_218 (by decide) ?_
            refine lv_iadd hx hb dX5_done_219 ?_
            exact hx_iret (Wf := (fun u => md_W h0 r cA uf u.1 u.2)) (post := post) (v := (x1 + (1 : Int32))) (u := ((va_up ua 0 (upd (ua 0) ((ua 3) x1.toNatClampNeg).toNatClampNeg ((fX5_single us ((ua 2) x1.toNatClampNeg) ((ua 0) ((ua 4) x1.toNatClampNeg).toNatClampNeg) ((ua 0) ((ua 5) x1.toNatClampNeg).toNatClampNeg) ((ua 0) ((ua 6) x1.toNatClampNeg).toNatClampNeg)).1))), (fX5_single us ((ua 2) x1.toNatClampNeg) ((ua 0) ((ua 4) x1.toNatClampNeg).toNatClampNeg) ((ua 0) ((ua 5) x1.toNatClampNeg).toNatClampNeg) ((ua 0) ((ua 6) x1.toNatClampNeg).toNatClampNeg)).2)) hx hb hr hlocks hw hq dX5_done_220
        · rw [if_pos c4] at hq
          refine lv_aload_n hx hb dX5_done_61 rfl (lv_at hl 1 rfl) ?_
          refine hx_get (v := .ref (r 0)) hx hb hts inX5 hown hw.1 hw.2.2.2.1 0 rfl rfl 0 (by decide) tw_fieldLink_RX5_7_GlulxFloatsModel_words_I rfl rfl dX5_done_62 ?_
          refine lv_aload_n hx hb dX5_done_65 rfl (lv_at hl 1 rfl) ?_
          refine hx_get (v := .ref (r 3)) hx hb hts inX5 hown hw.1 hw.2.2.2.1 0 rfl rfl 3 (by decide) tw_fieldLink_RX5_16_GlulxFloatsModel_ts_I rfl rfl dX5_done_66 ?_
          refine lv_iload_n hx hb dX5_done_69 rfl (lv_at hl 2 rfl) ?_
          refine hx_iald hx hb hw.1 hw.2.2.2.1 3 2 rfl rfl hs dX5_done_70 ?_
          refine lv_aload_n hx hb dX5_done_71 rfl (lv_at hl 1 rfl) ?_
          refine hx_get (v := .ref (r 0)) hx hb hts inX5 hown hw.1 hw.2.2.2.1 0 rfl rfl 0 (by decide) tw_fieldLink_RX5_7_GlulxFloatsModel_words_I rfl rfl dX5_done_72 ?_
          refine lv_aload_n hx hb dX5_done_75 rfl (lv_at hl 1 rfl) ?_
          refine hx_get (v := .ref (r 4)) hx hb hts inX5 hown hw.1 hw.2.2.2.1 0 rfl rfl 4 (by decide) tw_fieldLink_RX5_19_GlulxFloatsModel_xs_I rfl rfl dX5_done_76 ?_
          refine lv_iload_n hx hb dX5_done_79 rfl (lv_at hl 2 rfl) ?_
          refine hx_iald hx hb hw.1 hw.2.2.2.1 4 3 rfl rfl hs dX5_done_80 ?_
          refine hx_iald hx hb hw.1 hw.2.2.2.1 1 0 rfl rfl (st_42 hk (by assumption)).2.1 dX5_done_81 ?_
          refine lv_aload_n hx hb dX5_done_82 rfl (lv_at hl 1 rfl) ?_
          refine hx_get (v := .ref (r 0)) hx hb hts inX5 hown hw.1 hw.2.2.2.1 0 rfl rfl 0 (by decide) tw_fieldLink_RX5_7_GlulxFloatsModel_words_I rfl rfl dX5_done_83 ?_
          refine lv_aload_n hx hb dX5_done_86 rfl (lv_at hl 1 rfl) ?_
          refine hx_get (v := .ref (r 5)) hx hb hts inX5 hown hw.1 hw.2.2.2.1 0 rfl rfl 5 (by decide) tw_fieldLink_RX5_22_GlulxFloatsModel_ys_I rfl rfl dX5_done_87 ?_
          refine lv_iload_n hx hb dX5_done_90 rfl (lv_at hl 2 rfl) ?_
          refine hx_iald hx hb hw.1 hw.2.2.2.1 5 4 rfl rfl hs dX5_done_91 ?_
          refine hx_iald hx hb hw.1 hw.2.2.2.1 1 0 rfl rfl (st_42 hk (by assumption)).2.2 dX5_done_92 ?_
          refine lv_iadd hx hb dX5_done_93 ?_
          refine hx_iast (ws' := (md_W h0 r cA uf (va_up ua 0 (upd (ua 0) ((ua 3) x1.toNatClampNeg).toNatClampNeg (((ua 0) ((ua 4) x1.toNatClampNeg).toNatClampNeg) + ((ua 0) ((ua 5) x1.toNatClampNeg).toNatClampNeg)))) us)) hx hb hw 1 0 rfl rfl (st_42 hk (by assumption)).1 dX5_done_94 rfl (fun H locs hw => ?_)
          refine lv_goto (tgt := 217) hx hb dX5_done_95 (by decide) ?_
          refine lv_iload_n hx hb dX5_done_217 rfl (lv_at hl 2 rfl) ?_
          refine lv_iconst (v := 1) hx hb dX5_done_218 (by decide) ?_
          refine lv_iadd hx hb dX5_done_219 ?_
          exact hx_iret (Wf := (fun u => md_W h0 r cA uf u.1 u.2)) (post := post) (v := (x1 + (1 : Int32))) (u := ((va_up ua 0 (upd (ua 0) ((ua 3) x1.toNatClampNeg).toNatClampNeg (((ua 0) ((ua 4) x1.toNatClampNeg).toNatClampNeg) + ((ua 0) ((ua 5) x1.toNatClampNeg).toNatClampNeg)))), us)) hx hb hr hlocks hw hq dX5_done_220
      · rw [if_pos c3] at hq
        refine lv_aload_n hx hb dX5_done_35 rfl (lv_at hl 1 rfl) ?_
        refine hx_get (v := .ref (r 0)) hx hb hts inX5 hown hw.1 hw.2.2.2.1 0 rfl rfl 0 (by decide) tw_fieldLink_RX5_7_GlulxFloatsModel_words_I rfl rfl dX5_done_36 ?_
        refine lv_aload_n hx hb dX5_done_39 rfl (lv_at hl 1 rfl) ?_
        refine hx_get (v := .ref (r 3)) hx hb hts inX5 hown hw.1 hw.2.2.2.1 0 rfl rfl 3 (by decide) tw_fieldLink_RX5_16_GlulxFloatsModel_ts_I rfl rfl dX5_done_40 ?_
        refine lv_iload_n hx hb dX5_done_43 rfl (lv_at hl 2 rfl) ?_
        refine hx_iald hx hb hw.1 hw.2.2.2.1 3 2 rfl rfl hs dX5_done_44 ?_
        refine lv_aload_n hx hb dX5_done_45 rfl (lv_at hl 1 rfl) ?_
        refine hx_get (v := .ref (r 4)) hx hb hts inX5 hown hw.1 hw.2.2.2.1 0 rfl rfl 4 (by decide) tw_fieldLink_RX5_19_GlulxFloatsModel_xs_I rfl rfl dX5_done_46 ?_
        refine lv_iload_n hx hb dX5_done_49 rfl (lv_at hl 2 rfl) ?_
        refine hx_iald hx hb hw.1 hw.2.2.2.1 4 3 rfl rfl hs dX5_done_50 ?_
        refine hx_iast (ws' := (md_W h0 r cA uf (va_up ua 0 (upd (ua 0) ((ua 3) x1.toNatClampNeg).toNatClampNeg ((ua 4) x1.toNatClampNeg))) us)) hx hb hw 1 0 rfl rfl (st_41 hk (by assumption)) dX5_done_51 rfl (fun H locs hw => ?_)
        refine lv_goto (tgt := 217) hx hb dX5_done_52 (by decide) ?_
        refine lv_iload_n hx hb dX5_done_217 rfl (lv_at hl 2 rfl) ?_
        refine lv_iconst (v := 1) hx hb dX5_done_218 (by decide) ?_
        refine lv_iadd hx hb dX5_done_219 ?_
        exact hx_iret (Wf := (fun u => md_W h0 r cA uf u.1 u.2)) (post := post) (v := (x1 + (1 : Int32))) (u := ((va_up ua 0 (upd (ua 0) ((ua 3) x1.toNatClampNeg).toNatClampNeg ((ua 4) x1.toNatClampNeg))), us)) hx hb hr hlocks hw hq dX5_done_220
    · rw [if_pos c2] at hq
      refine lv_aload_n hx hb dX5_done_22 rfl (lv_at hl 1 rfl) ?_
      refine hx_get (v := .ref (r 3)) hx hb hts inX5 hown hw.1 hw.2.2.2.1 0 rfl rfl 3 (by decide) tw_fieldLink_RX5_16_GlulxFloatsModel_ts_I rfl rfl dX5_done_23 ?_
      refine lv_iload_n hx hb dX5_done_26 rfl (lv_at hl 2 rfl) ?_
      refine hx_iald hx hb hw.1 hw.2.2.2.1 3 2 rfl rfl hs dX5_done_27 ?_
      exact hx_iret (Wf := (fun u => md_W h0 r cA uf u.1 u.2)) (post := post) (v := ((ua 3) x1.toNatClampNeg)) (u := (ua, us)) hx hb hr hlocks hw hq dX5_done_28
  · rw [if_pos c1] at hq
    refine lv_bipush (v := -109) hx hb dX5_done_13 (by decide) ?_
    exact hx_iret (Wf := (fun u => md_W h0 r cA uf u.1 u.2)) (post := post) (v := (-109 : Int32)) (u := (ua, us)) hx hb hr hlocks hw hq dX5_done_15
theorem kX5_done (l : Launch) (dC : Nat → ClassId) (dI : Nat → Nat → Nat) (h0 : Nat) (r : Nat → Nat) (cA : Nat → ClassId) (sz : Nat) (uf : Nat → Int32) (ua : Nat → Nat → Int32) (us : Nat → Int64) (x1 : Int32) (hs : vp_in x1 40) (hk : st_ok (ua 2 x1.toNatClampNeg) (ua 3 x1.toNatClampNeg) (ua 4 x1.toNatClampNeg) (ua 5 x1.toNatClampNeg) (ua 6 x1.toNatClampNeg)) : Met l yX5_done (Cond.code yX5_done cX5_done 3 (some .int) :: bw) rmX5_done (hPc [.ref h0, .int x1] (dC, dI) (md_T cA) (md_W h0 r cA uf ua us) sz (fun _ => True)) (va_Qi (fun r u => (r, u) = fX5_done ua us x1) (hBk (dC, dI) (md_T cA) (va_A (md_W h0 r cA uf ua us) sz) (fun u => md_W h0 r cA uf u.1 u.2)) (va_A (md_W h0 r cA uf ua us) sz)) 0 0 (va_A (md_W h0 r cA uf ua us) sz) := by
  refine hx_ent (by decide) _ _ (Nat.le_of_ble_eq_true rfl) rfl ?_
  intro p e s m below meth c ls C hl hw hsz _
  exact bX5_done_0 ua us x1 C hl hw hs hk (fun q => q = fX5_done ua us x1) rfl
