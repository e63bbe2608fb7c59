def fX5_thrown0 (uf : Nat → Int32) (x1 : Int32) : Int32 × (Nat → Int32) :=
  if x1 = 0 then ((0 : Int32), (va_up uf 8 (0 : Int32)))
  else ((1 : Int32), (va_up uf 8 (1 : Int32)))
abbrev rmX5_thrown0 : Room := { frames := 0, cells := 0, slots := 0, locals := 0 }
theorem mbX5_thrown0 : mb_V RX5 yX5_thrown0 cX5_thrown0 2 (some .int) 1 := ⟨⟨tw_instanceMethod_yX5_thrown0, tw_selects_RX5_yX5_thrown0_yX5_thrown0, tw_initialized_RX5, tw_code_yX5_thrown0⟩, rfl, by decide +kernel, by decide +kernel, by decide +kernel⟩
set_option maxRecDepth 20000 in
theorem bX5_thrown0_0 (uf : Nat → Int32) (x1 : Int32) {p : Program} {l : Launch} {e : Env} {s : State} {m : MethodId} {args : Array Value} {below : List Frame} {meth : Method} {c : Code} {dC : Nat → ClassId} {dI : Nat → Nat → Nat} {r : Nat → Nat} {cA : Nat → ClassId} {Rg : Nat → Prop} {H : Heap} {locs : List Loc} {ua : Nat → Nat → Int32} {us : Nat → Int64} {h0 : Nat} {ls : Array Slot} (C : bx_C p s m args meth c cX5_thrown0 2 (some .int) RX5) (hl : lv_has ls 2 [(0, .ref h0), (1, .int x1)]) (hw : hW (dC, dI) (md_T cA) Rg s H locs (md_W h0 r cA uf ua us)) (post : (Int32 × (Nat → Int32)) → Prop) (hq : post (fX5_thrown0 uf x1)) : W p l e rmX5_thrown0 s m args below meth c H locs 0 0 (MQ below (va_Qi (fun r u => post (r, u)) (hBk (dC, dI) (md_T cA) Rg (fun u => md_W h0 r cA u ua us)) Rg) args s 0 0 Rg) (F0 m 0 ls []) := by
  obtain ⟨hx, hb, hml, hr, hlocks, hown, hts⟩ := id C
  unfold fX5_thrown0 at hq
  refine lv_aload_n hx hb dX5_thrown0_0 rfl (lv_at hl 0 rfl) ?_
  refine lv_iload_n hx hb dX5_thrown0_1 rfl (lv_at hl 1 rfl) ?_
  refine lv_if_eq (tgt := 9) hx hb dX5_thrown0_2 (by decide) (fun c1 => ?_) (fun c1 => ?_)
  · rw [if_pos c1] at hq
    refine lv_iconst (v := 0) hx hb dX5_thrown0_9 (by decide) ?_
    refine hx_put (ws' := (md_W h0 r cA (va_up uf 8 (0 : Int32)) ua us)) hx hb hts inX5 tyX5 tyX5_ok nmX5 hown hw 0 rfl rfl 8 (by decide) tw_fieldLink_RX5_212_GlulxFloatsModel_thrownNow_I rfl rfl (by decide +kernel) (Nat.le_of_ble_eq_true rfl) dX5_thrown0_10 rfl (fun H locs hw => ?_)
    refine lv_aload_n hx hb dX5_thrown0_13 rfl (lv_at hl 0 rfl) ?_
    refine hx_get (v := .int (0 : Int32)) hx hb hts inX5 hown hw.1 hw.2.2.2.1 0 rfl rfl 8 (by decide) tw_fieldLink_RX5_212_GlulxFloatsModel_thrownNow_I rfl rfl dX5_thrown0_14 ?_
    exact hx_iret (Wf := (fun u => md_W h0 r cA u ua us)) (post := post) (v := (0 : Int32)) (u := (va_up uf 8 (0 : Int32))) hx hb hr hlocks hw hq dX5_thrown0_17
  · rw [if_neg c1] at hq
    refine lv_iconst (v := 1) hx hb dX5_thrown0_5 (by decide) ?_
    refine lv_goto (tgt := 10) hx hb dX5_thrown0_6 (by decide) ?_
    refine hx_put (ws' := (md_W h0 r cA (va_up uf 8 (1 : Int32)) ua us)) hx hb hts inX5 tyX5 tyX5_ok nmX5 hown hw 0 rfl rfl 8 (by decide) tw_fieldLink_RX5_212_GlulxFloatsModel_thrownNow_I rfl rfl (by decide +kernel) (Nat.le_of_ble_eq_true rfl) dX5_thrown0_10 rfl (fun H locs hw => ?_)
    refine lv_aload_n hx hb dX5_thrown0_13 rfl (lv_at hl 0 rfl) ?_
    refine hx_get (v := .int (1 : Int32)) hx hb hts inX5 hown hw.1 hw.2.2.2.1 0 rfl rfl 8 (by decide) tw_fieldLink_RX5_212_GlulxFloatsModel_thrownNow_I rfl rfl dX5_thrown0_14 ?_
    exact hx_iret (Wf := (fun u => md_W h0 r cA u ua us)) (post := post) (v := (1 : Int32)) (u := (va_up uf 8 (1 : Int32))) hx hb hr hlocks hw hq dX5_thrown0_17
theorem kX5_thrown0 (l : Launch) (dC : Nat → ClassId) (dI : Nat → Nat → Nat) (h0 : Nat) (r : Nat → Nat) (cA : Nat → ClassId) (sz : Nat) (uf : Nat → Int32) (ua : Nat → Nat → Int32) (us : Nat → Int64) (x1 : Int32) : Met l yX5_thrown0 (Cond.code yX5_thrown0 cX5_thrown0 2 (some .int) :: bw) rmX5_thrown0 (hPc [.ref h0, .int x1] (dC, dI) (md_T cA) (md_W h0 r cA uf ua us) sz (fun _ => True)) (va_Qi (fun r u => (r, u) = fX5_thrown0 uf x1) (hBk (dC, dI) (md_T cA) (va_A (md_W h0 r cA uf ua us) sz) (fun u => md_W h0 r cA u ua us)) (va_A (md_W h0 r cA uf ua us) sz)) 0 0 (va_A (md_W h0 r cA uf ua us) sz) := by
  refine hx_ent (by decide) _ _ (Nat.le_of_ble_eq_true rfl) rfl ?_
  intro p e s m below meth c ls C hl hw hsz _
  exact bX5_thrown0_0 uf x1 C hl hw (fun q => q = fX5_thrown0 uf x1) rfl
def fX5_thrown (uf : Nat → Int32) : Int32 :=
  (uf 8)
abbrev rmX5_thrown : Room := { frames := 0, cells := 0, slots := 0, locals := 0 }
theorem mbX5_thrown : mb_V RX5 yX5_thrown cX5_thrown 1 (some .int) 0 := ⟨⟨tw_instanceMethod_yX5_thrown, tw_selects_RX5_yX5_thrown_yX5_thrown, tw_initialized_RX5, tw_code_yX5_thrown⟩, rfl, by decide +kernel, by decide +kernel, by decide +kernel⟩
set_option maxRecDepth 20000 in
theorem bX5_thrown_0 (uf : Nat → Int32) {p : Program} {l : Launch} {e : Env} {s : State} {m : MethodId} {args : Array Value} {below : List Frame} {meth : Method} {c : Code} {dC : Nat → ClassId} {dI : Nat → Nat → Nat} {r : Nat → Nat} {cA : Nat → ClassId} {ua : Nat → Nat → Int32} {us : Nat → Int64} {h0 : Nat} {ls : Array Slot} (C : bx_C p s m args meth c cX5_thrown 1 (some .int) RX5) (hK0 : rd_K (dC, dI) (md_T cA) (md_W h0 r cA uf ua us) s) (hl : lv_has ls 1 [(0, .ref h0)]) (post : (Int32) → Prop) (hq : post (fX5_thrown uf)) : W p l e rmX5_thrown s m args below meth c s.heap [] 0 0 (MQ below (vp_Si post) args s 0 0 (fun _ => False)) (F0 m 0 ls []) := by
  obtain ⟨hx, hb, hml, hr, hlocks, hown, hts⟩ := id C
  unfold fX5_thrown at hq
  refine lv_aload_n hx hb dX5_thrown_0 rfl (lv_at hl 0 rfl) ?_
  refine hx_get (v := .int (uf 8)) hx hb hts inX5 hown hK0.1 hK0.2 0 rfl rfl 8 (by decide) tw_fieldLink_RX5_212_GlulxFloatsModel_thrownNow_I rfl rfl dX5_thrown_1 ?_
  exact W.iret (v := (uf 8)) hx hb hr (fun t ht hW => ⟨_, rfl, hq, ht⟩) (fun _ h => absurd h List.not_mem_nil) dX5_thrown_4
theorem kX5_thrown (l : Launch) (dC : Nat → ClassId) (dI : Nat → Nat → Nat) (h0 : Nat) (r : Nat → Nat) (cA : Nat → ClassId) (uf : Nat → Int32) (ua : Nat → Nat → Int32) (us : Nat → Int64) : Met l yX5_thrown (Cond.code yX5_thrown cX5_thrown 1 (some .int) :: bw) rmX5_thrown (va_Pc [.ref h0] (rd_K (dC, dI) (md_T cA) (md_W h0 r cA uf ua us))) (vp_Si (fun r => r = fX5_thrown uf)) 0 0 (fun _ => False) := by
  refine bx_ent (by decide) _ _ (Nat.le_of_ble_eq_true rfl) rfl ?_
  intro p e s m below meth c ls C hl hK0
  exact bX5_thrown_0 uf C hK0 hl _ rfl
def gX5_clearSum_2 : Nat → (Nat → Int64) → Int32 → (Nat → Int64) × Int32
  | 0, us, x1 => (us, x1)
  | n + 1, us, x1 =>
  if (290 : Int32) ≤ x1 then (us, x1)
  else gX5_clearSum_2 n (vp_updL us x1.toNatClampNeg (0 : Int64)) (x1 + 1)
def fX5_clearSum_22 (us : Nat → Int64) : Nat → Int64 :=
  us
def fX5_clearSum (us : Nat → Int64) : Nat → Int64 :=
  fX5_clearSum_22 ((gX5_clearSum_2 (Nat.succ ((Int32.toInt (290) - Int32.toInt (0 : Int32)).toNat)) us (0 : Int32)).1)
abbrev rmX5_clearSum : Room := { frames := 0, cells := 0, slots := 0, locals := 0 }
theorem mbX5_clearSum : mb_V RX5 yX5_clearSum cX5_clearSum 2 none 0 := ⟨⟨tw_instanceMethod_yX5_clearSum, tw_selects_RX5_yX5_clearSum_yX5_clearSum, tw_initialized_RX5, tw_code_yX5_clearSum⟩, rfl, by decide +kernel, by decide +kernel, by decide +kernel⟩
set_option maxRecDepth 20000 in
theorem lX5_clearSum_2 {p : Program} {l : Launch} {e : Env} {s : State} {m : MethodId} {args : Array Value} {below : List Frame} {meth : Method} {c : Code} {dC : Nat → ClassId} {dI : Nat → Nat → Nat} {r : Nat → Nat} {cA : Nat → ClassId} {Rg : Nat → Prop} {uf : Nat → Int32} {ua : Nat → Nat → Int32} {h0 : Nat} {Q : State → Prop} (C : bx_C p s m args meth c cX5_clearSum 2 none RX5) (post : ((Nat → Int64) × Int32) → Prop) (kx : ∀ (ous : Nat → Int64) (o1 : Int32) (ls : Array Slot) (H : Heap) (locs : List Loc), (0 ≤ Int32.toInt o1) → lv_has ls 2 [(1, .int o1)] → hW (dC, dI) (md_T cA) Rg s H locs (md_W h0 r cA uf ua ous) → post (ous, o1) → W p l e rmX5_clearSum s m args below meth c H locs 0 0 Q (F0 m 22 ls [])) :
    ∀ (n : Nat) (us : Nat → Int64) (x1 : Int32) (ls : Array Slot) (H : Heap) (locs : List Loc), (Int32.toInt (290) - Int32.toInt x1).toNat < n → (0 ≤ Int32.toInt x1) → lv_has ls 2 [(0, .ref h0), (1, .int x1)] → hW (dC, dI) (md_T cA) Rg s H locs (md_W h0 r cA uf ua us) → post (gX5_clearSum_2 n us x1) → W p l e rmX5_clearSum s m args below meth c H locs 0 0 Q (F0 m 2 ls []) := by
  obtain ⟨hx, hb, hml, hr, hlocks, hown, hts⟩ := id C
  intro n
  induction n with
  | zero =>
    intro us x1 ls H locs hm
    exact absurd hm (Nat.not_lt_zero _)
  | succ n ih =>
    intro us x1 ls H locs hm hi hl hw hq
    rw [gX5_clearSum_2] at hq
    refine lv_iload_n hx hb dX5_clearSum_2 rfl (lv_at hl 1 rfl) ?_
    refine lv_sipush (v := 290) hx hb dX5_clearSum_3 (by decide) ?_
    refine lv_icmp_ge (tgt := 22) hx hb dX5_clearSum_6 (by decide) (fun c1 => ?_) (fun c1 => ?_)
    · rw [if_pos c1] at hq
      exact kx us x1 _ _ _ hi (lv_sub hl [1] rfl) hw hq
    · rw [if_neg c1] at hq
      refine lv_aload_n hx hb dX5_clearSum_9 rfl (lv_at hl 0 rfl) ?_
      refine hx_get (v := .ref (r 9)) hx hb hts inX5 hown hw.1 hw.2.2.2.1 0 rfl rfl 9 (by decide) tw_fieldLink_RX5_32_GlulxFloatsModel_sum_J rfl rfl dX5_clearSum_10 ?_
      refine lv_iload_n hx hb dX5_clearSum_13 rfl (lv_at hl 1 rfl) ?_
      refine lv_lconst (v := 0) hx hb dX5_clearSum_14 (by decide) ?_
      refine hx_last (ws' := (md_W h0 r cA uf ua (vp_updL us x1.toNatClampNeg (0 : Int64)))) hx hb hw 7 6 rfl rfl (by first | assumption | exact vi_lt hi (by assumption) (by decide)) dX5_clearSum_15 rfl (fun H locs hw => ?_)
      refine lv_iinc (v := (x1 + 1)) (lv' := [(1, .int (x1 + 1)), (0, .ref h0)]) hx hb dX5_clearSum_16 hl (k := 1) rfl rfl (by decide) rfl (fun ls hl => ?_)
      refine lv_goto (tgt := 2) hx hb dX5_clearSum_19 (by decide) ?_
      exact ih (vp_updL us x1.toNatClampNeg (0 : Int64)) (x1 + 1) _ _ _ (lp_up (by assumption) hm) (li_up (by assumption) hi) (lv_sub hl [1, 0] rfl) hw hq
set_option maxRecDepth 20000 in
theorem bX5_clearSum_22 (us : Nat → Int64) {p : Program} {l : Launch} {e : Env} {s : State} {m : MethodId} {args : Array Value} {below : List Frame} {meth : Method} {c : Code} {dC : Nat → ClassId} {dI : Nat → Nat → Nat} {r : Nat → Nat} {cA : Nat → ClassId} {Rg : Nat → Prop} {H : Heap} {locs : List Loc} {uf : Nat → Int32} {ua : Nat → Nat → Int32} {h0 : Nat} {ls : Array Slot} (C : bx_C p s m args meth c cX5_clearSum 2 none RX5) (hl : lv_has ls 2 []) (hw : hW (dC, dI) (md_T cA) Rg s H locs (md_W h0 r cA uf ua us)) (post : (Nat → Int64) → Prop) (hq : post (fX5_clearSum_22 us)) : W p l e rmX5_clearSum s m args below meth c H locs 0 0 (MQ below (va_Qv post (hBk (dC, dI) (md_T cA) Rg (fun u => md_W h0 r cA uf ua u)) Rg) args s 0 0 Rg) (F0 m 22 ls []) := by
  obtain ⟨hx, hb, hml, hr, hlocks, hown, hts⟩ := id C
  unfold fX5_clearSum_22 at hq
  exact hx_vret (Wf := (fun u => md_W h0 r cA uf ua u)) (u := us) hx hb hr hlocks hw hq dX5_clearSum_22
set_option maxRecDepth 20000 in
theorem bX5_clearSum_0 (us : Nat → Int64) {p : Program} {l : Launch} {e : Env} {s : State} {m : MethodId} {args : Array Value} {below : List Frame} {meth : Method} {c : Code} {dC : Nat → ClassId} {dI : Nat → Nat → Nat} {r : Nat → Nat} {cA : Nat → ClassId} {Rg : Nat → Prop} {H : Heap} {locs : List Loc} {uf : Nat → Int32} {ua : Nat → Nat → Int32} {h0 : Nat} {ls : Array Slot} (C : bx_C p s m args meth c cX5_clearSum 2 none RX5) (hl : lv_has ls 2 [(0, .ref h0)]) (hw : hW (dC, dI) (md_T cA) Rg s H locs (md_W h0 r cA uf ua us)) (post : (Nat → Int64) → Prop) (hq : post (fX5_clearSum us)) : W p l e rmX5_clearSum s m args below meth c H locs 0 0 (MQ below (va_Qv post (hBk (dC, dI) (md_T cA) Rg (fun u => md_W h0 r cA uf ua u)) Rg) args s 0 0 Rg) (F0 m 0 ls []) := by
  obtain ⟨hx, hb, hml, hr, hlocks, hown, hts⟩ := id C
  unfold fX5_clearSum at hq
  refine lv_iconst (v := 0) hx hb dX5_clearSum_0 (by decide) ?_
  refine lv_istore_n (lv' := [(1, .int (0 : Int32)), (0, .ref h0)]) hx hb dX5_clearSum_1 rfl hl (by decide) rfl (fun ls hl => ?_)
  exact lX5_clearSum_2 C (fun t => post (fX5_clearSum_22 t.1)) (fun ous o1 ls H locs hi hl hw hq => bX5_clearSum_22 ous C (lv_sub hl [] rfl) hw post hq) (Nat.succ ((Int32.toInt (290) - Int32.toInt (0 : Int32)).toNat)) us (0 : Int32) _ _ _ (Nat.lt_succ_self _) (by decide) (lv_sub hl [1, 0] rfl) hw hq
theorem kX5_clearSum (l : Launch) (dC : Nat → ClassId) (dI : Nat → Nat → Nat) (h0 : Nat) (r : Nat → Nat) (cA : Nat → ClassId) (sz : Nat) (uf : Nat → Int32) (ua : Nat → Nat → Int32) (us : Nat → Int64) : Met l yX5_clearSum (Cond.code yX5_clearSum cX5_clearSum 2 none :: bw) rmX5_clearSum (hPc [.ref h0] (dC, dI) (md_T cA) (md_W h0 r cA uf ua us) sz (fun _ => True)) (va_Qv (fun u => u = fX5_clearSum us) (hBk (dC, dI) (md_T cA) (va_A (md_W h0 r cA uf ua us) sz) (fun u => md_W h0 r cA uf ua u)) (va_A (md_W h0 r cA uf ua us) sz)) 0 0 (va_A (md_W h0 r cA uf ua us) sz) := by
  refine hx_ent (by decide) _ _ (Nat.le_of_ble_eq_true rfl) rfl ?_
  intro p e s m below meth c ls C hl hw hsz _
  exact bX5_clearSum_0 us C hl hw (fun u => u = fX5_clearSum us) rfl
def gX5_carry_4 : Nat → (Nat → Int64) → Int64 → Int32 → (Nat → Int64) × Int64 × Int32
  | 0, us, x1, x3 => (us, x1, x3)
  | n + 1, us, x1, x3 =>
  if (290 : Int32) ≤ x3 then (us, x1, x3)
  else gX5_carry_4 n (vp_updL us x3.toNatClampNeg ((x1 + (us x3.toNatClampNeg)) &&& (65535 : Int64))) (jl_shr (x1 + (us x3.toNatClampNeg)) (16 : Int32)) (x3 + 1)
def fX5_carry_42 (us : Nat → Int64) (x1 : Int64) : Int64 × (Nat → Int64) :=
  (x1, us)
def fX5_carry (us : Nat → Int64) : Int64 × (Nat → Int64) :=
  fX5_carry_42 ((gX5_carry_4 (Nat.succ ((Int32.toInt (290) - Int32.toInt (0 : Int32)).toNat)) us (0 : Int64) (0 : Int32)).1) ((gX5_carry_4 (Nat.succ ((Int32.toInt (290) - Int32.toInt (0 : Int32)).toNat)) us (0 : Int64) (0 : Int32)).2.1)
abbrev rmX5_carry : Room := { frames := 0, cells := 0, slots := 0, locals := 0 }
theorem mbX5_carry : mb_V RX5 yX5_carry cX5_carry 4 (some .long) 0 := ⟨⟨tw_instanceMethod_yX5_carry, tw_selects_RX5_yX5_carry_yX5_carry, tw_initialized_RX5, tw_code_yX5_carry⟩, rfl, by decide +kernel, by decide +kernel, by decide +kernel⟩
set_option maxRecDepth 20000 in
theorem lX5_carry_4 {p : Program} {l : Launch} {e : Env} {s : State} {m : MethodId} {args : Array Value} {below : List Frame} {meth : Method} {c : Code} {dC : Nat → ClassId} {dI : Nat → Nat → Nat} {r : Nat → Nat} {cA : Nat → ClassId} {Rg : Nat → Prop} {uf : Nat → Int32} {ua : Nat → Nat → Int32} {h0 : Nat} {Q : State → Prop} (C : bx_C p s m args meth c cX5_carry 4 (some .long) RX5) (post : ((Nat → Int64) × Int64 × Int32) → Prop) (kx : ∀ (ous : Nat → Int64) (o1 : Int64) (o3 : Int32) (ls : Array Slot) (H : Heap) (locs : List Loc), (0 ≤ Int32.toInt o3) → lv_has ls 4 [(1, .long o1), (3, .int o3)] → hW (dC, dI) (md_T cA) Rg s H locs (md_W h0 r cA uf ua ous) → post (ous, o1, o3) → W p l e rmX5_carry s m args below meth c H locs 0 0 Q (F0 m 42 ls [])) :
    ∀ (n : Nat) (us : Nat → Int64) (x1 : Int64) (x3 : Int32) (ls : Array Slot) (H : Heap) (locs : List Loc), (Int32.toInt (290) - Int32.toInt x3).toNat < n → (0 ≤ Int32.toInt x3) → lv_has ls 4 [(0, .ref h0), (1, .long x1), (3, .int x3)] → hW (dC, dI) (md_T cA) Rg s H locs (md_W h0 r cA uf ua us) → post (gX5_carry_4 n us x1 x3) → W p l e rmX5_carry s m args below meth c H locs 0 0 Q (F0 m 4 ls []) := by
  obtain ⟨hx, hb, hml, hr, hlocks, hown, hts⟩ := id C
  intro n
  induction n with
  | zero =>
    intro us x1 x3 ls H locs hm
    exact absurd hm (Nat.not_lt_zero _)
  | succ n ih =>
    intro us x1 x3 ls H locs hm hi hl hw hq
    rw [gX5_carry_4] at hq
    refine lv_iload_n hx hb dX5_carry_4 rfl (lv_at hl 2 rfl) ?_
    refine lv_sipush (v := 290) hx hb dX5_carry_5 (by decide) ?_
    refine lv_icmp_ge (tgt := 42) hx hb dX5_carry_8 (by decide) (fun c1 => ?_) (fun c1 => ?_)
    · rw [if_pos c1] at hq
      exact kx us x1 x3 _ _ _ hi (lv_sub hl [1, 2] rfl) hw hq
    · rw [if_neg c1] at hq
      refine lv_lload_n hx hb dX5_carry_11 rfl (lv_at hl 1 rfl) ?_
      refine lv_aload_n hx hb dX5_carry_12 rfl (lv_at hl 0 rfl) ?_
      refine hx_get (v := .ref (r 9)) hx hb hts inX5 hown hw.1 hw.2.2.2.1 0 rfl rfl 9 (by decide) tw_fieldLink_RX5_32_GlulxFloatsModel_sum_J rfl rfl dX5_carry_13 ?_
      refine lv_iload_n hx hb dX5_carry_16 rfl (lv_at hl 2 rfl) ?_
      refine hx_lald hx hb hw.1 hw.2.2.2.1 7 6 rfl rfl (by first | assumption | exact vi_lt hi (by assumption) (by decide)) dX5_carry_17 ?_
      refine lv_ladd hx hb dX5_carry_18 ?_
      refine lv_lstore_n (lv' := [(1, .long (x1 + (us x3.toNatClampNeg))), (0, .ref h0), (3, .int x3)]) hx hb dX5_carry_19 rfl hl (by decide) rfl (fun ls hl => ?_)
      refine lv_aload_n hx hb dX5_carry_20 rfl (lv_at hl 1 rfl) ?_
      refine hx_get (v := .ref (r 9)) hx hb hts inX5 hown hw.1 hw.2.2.2.1 0 rfl rfl 9 (by decide) tw_fieldLink_RX5_32_GlulxFloatsModel_sum_J rfl rfl dX5_carry_21 ?_
      refine lv_iload_n hx hb dX5_carry_24 rfl (lv_at hl 2 rfl) ?_
      refine lv_lload_n hx hb dX5_carry_25 rfl (lv_at hl 0 rfl) ?_
      refine lv_ldc2 (v := 65535) hx hb hown (hts _ tw_constantLong_RX5_86_65535) dX5_carry_26 ?_
      refine lv_land hx hb dX5_carry_29 ?_
      refine hx_last (ws' := (md_W h0 r cA uf ua (vp_updL us x3.toNatClampNeg ((x1 + (us x3.toNatClampNeg)) &&& (65535 : Int64))))) hx hb hw 7 6 rfl rfl (by first | assumption | exact vi_lt hi (by assumption) (by decide)) dX5_carry_30 rfl (fun H locs hw => ?_)
      refine lv_lload_n hx hb dX5_carry_31 rfl (lv_at hl 0 rfl) ?_
      refine lv_bipush (v := 16) hx hb dX5_carry_32 (by decide) ?_
      refine bx_lshr hx hb dX5_carry_34 ?_
      refine lv_lstore_n (lv' := [(1, .long (jl_shr (x1 + (us x3.toNatClampNeg)) (16 : Int32))), (0, .ref h0), (3, .int x3)]) hx hb dX5_carry_35 rfl hl (by decide) rfl (fun ls hl => ?_)
      refine lv_iinc (v := (x3 + 1)) (lv' := [(3, .int (x3 + 1)), (1, .long (jl_shr (x1 + (us x3.toNatClampNeg)) (16 : Int32))), (0, .ref h0)]) hx hb dX5_carry_36 hl (k := 2) rfl rfl (by decide) rfl (fun ls hl => ?_)
      refine lv_goto (tgt := 4) hx hb dX5_carry_39 (by decide) ?_
      exact ih (vp_updL us x3.toNatClampNeg ((x1 + (us x3.toNatClampNeg)) &&& (65535 : Int64))) (jl_shr (x1 + (us x3.toNatClampNeg)) (16 : Int32)) (x3 + 1) _ _ _ (lp_up (by assumption) hm) (li_up (by assumption) hi) (lv_sub hl [2, 1, 0] rfl) hw hq
set_option maxRecDepth 20000 in
theorem bX5_carry_42 (us : Nat → Int64) (x1 : Int64) {p : Program} {l : Launch} {e : Env} {s : State} {m : MethodId} {args : Array Value} {below : List Frame} {meth : Method} {c : Code} {dC : Nat → ClassId} {dI : Nat → Nat → Nat} {r : Nat → Nat} {cA : Nat → ClassId} {Rg : Nat → Prop} {H : Heap} {locs : List Loc} {uf : Nat → Int32} {ua : Nat → Nat → Int32} {h0 : Nat} {ls : Array Slot} (C : bx_C p s m args meth c cX5_carry 4 (some .long) RX5) (hl : lv_has ls 4 [(1, .long x1)]) (hw : hW (dC, dI) (md_T cA) Rg s H locs (md_W h0 r cA uf ua us)) (post : (Int64 × (Nat → Int64)) → Prop) (hq : post (fX5_carry_42 us x1)) : W p l e rmX5_carry s m args below meth c H locs 0 0 (MQ below (va_Ql (fun r u => post (r, u)) (hBk (dC, dI) (md_T cA) Rg (fun u => md_W h0 r cA uf ua u)) Rg) args s 0 0 Rg) (F0 m 42 ls []) := by
  obtain ⟨hx, hb, hml, hr, hlocks, hown, hts⟩ := id C
  unfold fX5_carry_42 at hq
  refine lv_lload_n hx hb dX5_carry_42 rfl (lv_at hl 0 rfl) ?_
  exact hx_lret (Wf := (fun u => md_W h0 r cA uf ua u)) (post := post) (v := x1) (u := us) hx hb hr hlocks hw hq dX5_carry_43
set_option maxRecDepth 20000 in
theorem bX5_carry_0 (us : Nat → Int64) {p : Program} {l : Launch} {e : Env} {s : State} {m : MethodId} {args : Array Value} {below : List Frame} {meth : Method} {c : Code} {dC : Nat → ClassId} {dI : Nat → Nat → Nat} {r : Nat → Nat} {cA : Nat → ClassId} {Rg : Nat → Prop} {H : Heap} {locs : List Loc} {uf : Nat → Int32} {ua : Nat → Nat → Int32} {h0 : Nat} {ls : Array Slot} (C : bx_C p s m args meth c cX5_carry 4 (some .long) RX5) (hl : lv_has ls 4 [(0, .ref h0)]) (hw : hW (dC, dI) (md_T cA) Rg s H locs (md_W h0 r cA uf ua us)) (post : (Int64 × (Nat → Int64)) → Prop) (hq : post (fX5_carry us)) : W p l e rmX5_carry s m args below meth c H locs 0 0 (MQ below (va_Ql (fun r u => post (r, u)) (hBk (dC, dI) (md_T cA) Rg (fun u => md_W h0 r cA uf ua u)) Rg) args s 0 0 Rg) (F0 m 0 ls []) := by
  obtain ⟨hx, hb, hml, hr, hlocks, hown, hts⟩ := id C
  unfold fX5_carry at hq
  refine lv_lconst (v := 0) hx hb dX5_carry_0 (by decide) ?_
  refine lv_lstore_n (lv' := [(1, .long (0 : Int64)), (0, .ref h0)]) hx hb dX5_carry_1 rfl hl (by decide) rfl (fun ls hl => ?_)
  refine lv_iconst (v := 0) hx hb dX5_carry_2 (by decide) ?_
  refine lv_istore_n (lv' := [(3, .int (0 : Int32)), (1, .long (0 : Int64)), (0, .ref h0)]) hx hb dX5_carry_3 rfl hl (by decide) rfl (fun ls hl => ?_)
  exact lX5_carry_4 C (fun t => post (fX5_carry_42 t.1 t.2.1)) (fun ous o1 o3 ls H locs hi hl hw hq => bX5_carry_42 ous o1 C (lv_sub hl [0] rfl) hw post hq) (Nat.succ ((Int32.toInt (290) - Int32.toInt (0 : Int32)).toNat)) us (0 : Int64) (0 : Int32) _ _ _ (Nat.lt_succ_self _) (by decide) (lv_sub hl [2, 1, 0] rfl) hw hq
theorem kX5_carry (l : Launch) (dC : Nat → ClassId) (dI : Nat → Nat → Nat) (h0 : Nat) (r : Nat → Nat) (cA : Nat → ClassId) (sz : Nat) (uf : Nat → Int32) (ua : Nat → Nat → Int32) (us : Nat → Int64) : Met l yX5_carry (Cond.code yX5_carry cX5_carry 4 (some .long) :: bw) rmX5_carry (hPc [.ref h0] (dC, dI) (md_T cA) (md_W h0 r cA uf ua us) sz (fun _ => True)) (va_Ql (fun r u => (r, u) = fX5_carry us) (hBk (dC, dI) (md_T cA) (va_A (md_W h0 r cA uf ua us) sz) (fun u => md_W h0 r cA uf ua u)) (va_A (md_W h0 r cA uf ua us) sz)) 0 0 (va_A (md_W h0 r cA uf ua us) sz) := by
  refine hx_ent (by decide) _ _ (Nat.le_of_ble_eq_true rfl) rfl ?_
  intro p e s m below meth c ls C hl hw hsz _
  exact bX5_carry_0 us C hl hw (fun q => q = fX5_carry us) rfl
def gX5_addTo_25 (x1 : Int32) (x2 : Int64) (x6 : Int32) (x7 : Int32) : Nat → (Nat → Int64) → Int32 → (Nat → Int64) × Int32
  | 0, us, x8 => (us, x8)
  | n + 1, us, x8 =>
  if (4 : Int32) ≤ x8 then (us, x8)
  else if x1 = 0 then if x1 = 0 then gX5_addTo_25 x1 x2 x6 x7 n (vp_updL (vp_updL us (x7 + x8).toNatClampNeg ((us (x7 + x8).toNatClampNeg) + ((jl_shl ((jl_ushr x2 ((16 : Int32) * x8)) &&& (65535 : Int64)) x6) &&& (65535 : Int64)))) ((x7 + x8) + (1 : Int32)).toNatClampNeg (((vp_updL us (x7 + x8).toNatClampNeg ((us (x7 + x8).toNatClampNeg) + ((jl_shl ((jl_ushr x2 ((16 : Int32) * x8)) &&& (65535 : Int64)) x6) &&& (65535 : Int64)))) ((x7 + x8) + (1 : Int32)).toNatClampNeg) + (jl_ushr (jl_shl ((jl_ushr x2 ((16 : Int32) * x8)) &&& (65535 : Int64)) x6) (16 : Int32)))) (x8 + 1)
      else gX5_addTo_25 x1 x2 x6 x7 n (vp_updL (vp_updL us (x7 + x8).toNatClampNeg ((us (x7 + x8).toNatClampNeg) + ((jl_shl ((jl_ushr x2 ((16 : Int32) * x8)) &&& (65535 : Int64)) x6) &&& (65535 : Int64)))) ((x7 + x8) + (1 : Int32)).toNatClampNeg (((vp_updL us (x7 + x8).toNatClampNeg ((us (x7 + x8).toNatClampNeg) + ((jl_shl ((jl_ushr x2 ((16 : Int32) * x8)) &&& (65535 : Int64)) x6) &&& (65535 : Int64)))) ((x7 + x8) + (1 : Int32)).toNatClampNeg) + (-(jl_ushr (jl_shl ((jl_ushr x2 ((16 : Int32) * x8)) &&& (65535 : Int64)) x6) (16 : Int32))))) (x8 + 1)
    else if x1 = 0 then gX5_addTo_25 x1 x2 x6 x7 n (vp_updL (vp_updL us (x7 + x8).toNatClampNeg ((us (x7 + x8).toNatClampNeg) + (-((jl_shl ((jl_ushr x2 ((16 : Int32) * x8)) &&& (65535 : Int64)) x6) &&& (65535 : Int64))))) ((x7 + x8) + (1 : Int32)).toNatClampNeg (((vp_updL us (x7 + x8).toNatClampNeg ((us (x7 + x8).toNatClampNeg) + (-((jl_shl ((jl_ushr x2 ((16 : Int32) * x8)) &&& (65535 : Int64)) x6) &&& (65535 : Int64))))) ((x7 + x8) + (1 : Int32)).toNatClampNeg) + (jl_ushr (jl_shl ((jl_ushr x2 ((16 : Int32) * x8)) &&& (65535 : Int64)) x6) (16 : Int32)))) (x8 + 1)
      else gX5_addTo_25 x1 x2 x6 x7 n (vp_updL (vp_updL us (x7 + x8).toNatClampNeg ((us (x7 + x8).toNatClampNeg) + (-((jl_shl ((jl_ushr x2 ((16 : Int32) * x8)) &&& (65535 : Int64)) x6) &&& (65535 : Int64))))) ((x7 + x8) + (1 : Int32)).toNatClampNeg (((vp_updL us (x7 + x8).toNatClampNeg ((us (x7 + x8).toNatClampNeg) + (-((jl_shl ((jl_ushr x2 ((16 : Int32) * x8)) &&& (65535 : Int64)) x6) &&& (65535 : Int64))))) ((x7 + x8) + (1 : Int32)).toNatClampNeg) + (-(jl_ushr (jl_shl ((jl_ushr x2 ((16 : Int32) * x8)) &&& (65535 : Int64)) x6) (16 : Int32))))) (x8 + 1)
def fX5_addTo_120 (us : Nat → Int64) : Nat → Int64 :=
  us
def fX5_addTo (us : Nat → Int64) (x1 : Int32) (x2 : Int64) (x4 : Int32) : Nat → Int64 :=
  fX5_addTo_120 ((gX5_addTo_25 x1 x2 (ji_rem (x4 + (2200 : Int32)) (16 : Int32)) ((x4 + (2200 : Int32)) / (16 : Int32)) (Nat.succ ((Int32.toInt (4) - Int32.toInt (0 : Int32)).toNat)) us (0 : Int32)).1)
abbrev rmX5_addTo : Room := { frames := 0, cells := 0, slots := 0, locals := 0 }
theorem mbX5_addTo : mb_V RX5 yX5_addTo cX5_addTo 15 none 3 := ⟨⟨tw_instanceMethod_yX5_addTo, tw_selects_RX5_yX5_addTo_yX5_addTo, tw_initialized_RX5, tw_code_yX5_addTo⟩, rfl, by decide +kernel, by decide +kernel, by decide +kernel⟩
set_option maxRecDepth 20000 in
theorem lX5_addTo_25 (x1 : Int32) (x2 : Int64) (x6 : Int32) (x7 : Int32) {p : Program} {l : Launch} {e : Env} {s : State} {m : MethodId} {args : Array Value} {below : List Frame} {meth : Method} {c : Code} {dC : Nat → ClassId} {dI : Nat → Nat → Nat} {r : Nat → Nat} {cA : Nat → ClassId} {Rg : Nat → Prop} {uf : Nat → Int32} {ua : Nat → Nat → Int32} {h0 : Nat} {Q : State → Prop} (C : bx_C p s m args meth c cX5_addTo 15 none RX5) (h7 : 0 ≤ x7.toInt ∧ x7.toInt ≤ 285) (post : ((Nat → Int64) × Int32) → Prop) (kx : ∀ (ous : Nat → Int64) (o8 : Int32) (ls : Array Slot) (H : Heap) (locs : List Loc), (0 ≤ Int32.toInt o8) → lv_has ls 15 [(8, .int o8)] → hW (dC, dI) (md_T cA) Rg s H locs (md_W h0 r cA uf ua ous) → post (ous, o8) → W p l e rmX5_addTo s m args below meth c H locs 0 0 Q (F0 m 120 ls [])) :
    ∀ (n : Nat) (us : Nat → Int64) (x8 : Int32) (ls : Array Slot) (H : Heap) (locs : List Loc), (Int32.toInt (4) - Int32.toInt x8).toNat < n → (0 ≤ Int32.toInt x8) → lv_has ls 15 [(0, .ref h0), (1, .int x1), (2, .long x2), (6, .int x6), (7, .int x7), (8, .int x8)] → hW (dC, dI) (md_T cA) Rg s H locs (md_W h0 r cA uf ua us) → post (gX5_addTo_25 x1 x2 x6 x7 n us x8) → W p l e rmX5_addTo s m args below meth c H locs 0 0 Q (F0 m 25 ls []) := by
  obtain ⟨hx, hb, hml, hr, hlocks, hown, hts⟩ := id C
  intro n
  induction n with
  | zero =>
    intro us x8 ls H locs hm
    exact absurd hm (Nat.not_lt_zero _)
  | succ n ih =>
    intro us x8 ls H locs hm hi hl hw hq
    rw [gX5_addTo_25] at hq
    refine lv_iload hx hb dX5_addTo_25 (lv_at hl 5 rfl) ?_
    refine lv_iconst (v := 4) hx hb dX5_addTo_27 (by decide) ?_
    refine lv_icmp_ge (tgt := 120) hx hb dX5_addTo_28 (by decide) (fun c1 => ?_) (fun c1 => ?_)
    · rw [if_pos c1] at hq
      exact kx us x8 _ _ _ hi (lv_sub hl [5] rfl) hw hq
    · rw [if_neg c1] at hq
      refine lv_lload_n hx hb dX5_addTo_31 rfl (lv_at hl 2 rfl) ?_
      refine lv_bipush (v := 16) hx hb dX5_addTo_32 (by decide) ?_
      refine lv_iload hx hb dX5_addTo_34 (lv_at hl 5 rfl) ?_
      refine lv_imul hx hb dX5_addTo_36 ?_
      refine bx_lushr hx hb dX5_addTo_37 ?_
      refine lv_ldc2 (v := 65535) hx hb hown (hts _ tw_constantLong_RX5_86_65535) dX5_addTo_38 ?_
      refine lv_land hx hb dX5_addTo_41 ?_
      refine lv_iload hx hb dX5_addTo_42 (lv_at hl 3 rfl) ?_
      refine bx_lshl hx hb dX5_addTo_44 ?_
      refine lv_lstore (lv' := [(9, .long (jl_shl ((jl_ushr x2 ((16 : Int32) * x8)) &&& (65535 : Int64)) x6)), (0, .ref h0), (1, .int x1), (2, .long x2), (6, .int x6), (7, .int x7), (8, .int x8)]) hx hb dX5_addTo_45 hl (by decide) rfl (fun ls hl => ?_)
      refine lv_lload hx hb dX5_addTo_47 (lv_at hl 0 rfl) ?_
      refine lv_ldc2 (v := 65535) hx hb hown (hts _ tw_constantLong_RX5_86_65535) dX5_addTo_49 ?_
      refine lv_land hx hb dX5_addTo_52 ?_
      refine lv_lstore (lv' := [(11, .long ((jl_shl ((jl_ushr x2 ((16 : Int32) * x8)) &&& (65535 : Int64)) x6) &&& (65535 : Int64))), (9, .long (jl_shl ((jl_ushr x2 ((16 : Int32) * x8)) &&& (65535 : Int64)) x6)), (0, .ref h0), (1, .int x1), (2, .long x2), (6, .int x6), (7, .int x7), (8, .int x8)]) hx hb dX5_addTo_53 hl (by decide) rfl (fun ls hl => ?_)
      refine lv_lload hx hb dX5_addTo_55 (lv_at hl 1 rfl) ?_
      refine lv_bipush (v := 16) hx hb dX5_addTo_57 (by decide) ?_
      refine bx_lushr hx hb dX5_addTo_59 ?_
      refine lv_lstore (lv' := [(13, .long (jl_ushr (jl_shl ((jl_ushr x2 ((16 : Int32) * x8)) &&& (65535 : Int64)) x6) (16 : Int32))), (11, .long ((jl_shl ((jl_ushr x2 ((16 : Int32) * x8)) &&& (65535 : Int64)) x6) &&& (65535 : Int64))), (9, .long (jl_shl ((jl_ushr x2 ((16 : Int32) * x8)) &&& (65535 : Int64)) x6)), (0, .ref h0), (1, .int x1), (2, .long x2), (6, .int x6), (7, .int x7), (8, .int x8)]) hx hb dX5_addTo_60 hl (by decide) rfl (fun ls hl => ?_)
      refine lv_aload_n hx hb dX5_addTo_62 rfl (lv_at hl 3 rfl) ?_
      refine hx_get (v := .ref (r 9)) hx hb hts inX5 hown hw.1 hw.2.2.2.1 0 rfl rfl 9 (by decide) tw_fieldLink_RX5_32_GlulxFloatsModel_sum_J rfl rfl dX5_addTo_63 ?_
      refine lv_iload hx hb dX5_addTo_66 (lv_at hl 7 rfl) ?_
      refine lv_iload hx hb dX5_addTo_68 (lv_at hl 8 rfl) ?_
      refine lv_iadd hx hb dX5_addTo_70 ?_
      refine lv_dup2_11 hx hb dX5_addTo_71 rfl rfl ?_
      refine hx_lald hx hb hw.1 hw.2.2.2.1 7 6 rfl rfl (sd_at0 h7 hi (by assumption)) dX5_addTo_72 ?_
      refine lv_iload_n hx hb dX5_addTo_73 rfl (lv_at hl 4 rfl) ?_
      refine lv_if_eq (tgt := 83) hx hb dX5_addTo_74 (by decide) (fun c2 => ?_) (fun c2 => ?_)
      · rw [if_pos c2] at hq
        refine lv_lload hx hb dX5_addTo_83 (lv_at hl 1 rfl) ?_
        refine lv_ladd hx hb dX5_addTo_85 ?_
        refine hx_last (ws' := (md_W h0 r cA uf ua (vp_updL us (x7 + x8).toNatClampNeg ((us (x7 + x8).toNatClampNeg) + ((jl_shl ((jl_ushr x2 ((16 : Int32) * x8)) &&& (65535 : Int64)) x6) &&& (65535 : Int64)))))) hx hb hw 7 6 rfl rfl (sd_at0 h7 hi (by assumption)) dX5_addTo_86 rfl (fun H locs hw => ?_)
        refine lv_aload_n hx hb dX5_addTo_87 rfl (lv_at hl 3 rfl) ?_
        refine hx_get (v := .ref (r 9)) hx hb hts inX5 hown hw.1 hw.2.2.2.1 0 rfl rfl 9 (by decide) tw_fieldLink_RX5_32_GlulxFloatsModel_sum_J rfl rfl dX5_addTo_88 ?_
        refine lv_iload hx hb dX5_addTo_91 (lv_at hl 7 rfl) ?_
        refine lv_iload hx hb dX5_addTo_93 (lv_at hl 8 rfl) ?_
        refine lv_iadd hx hb dX5_addTo_95 ?_
        refine lv_iconst (v := 1) hx hb dX5_addTo_96 (by decide) ?_
        refine lv_iadd hx hb dX5_addTo_97 ?_
        refine lv_dup2_11 hx hb dX5_addTo_98 rfl rfl ?_
        refine hx_lald hx hb hw.1 hw.2.2.2.1 7 6 rfl rfl (sd_at1 h7 hi (by assumption)) dX5_addTo_99 ?_
        refine lv_iload_n hx hb dX5_addTo_100 rfl (lv_at hl 4 rfl) ?_
        refine lv_if_eq (tgt := 110) hx hb dX5_addTo_101 (by decide) (fun c3 => ?_) (fun c3 => ?_)
        · rw [if_pos c3] at hq
          refine lv_lload hx hb dX5_addTo_110 (lv_at hl 0 rfl) ?_
          refine lv_ladd hx hb dX5_addTo_112 ?_
          refine hx_last (ws' := (md_W h0 r cA uf ua (vp_updL (vp_updL us (x7 + x8).toNatClampNeg ((us (x7 + x8).toNatClampNeg) + ((jl_shl ((jl_ushr x2 ((16 : Int32) * x8)) &&& (65535 : Int64)) x6) &&& (65535 : Int64)))) ((x7 + x8) + (1 : Int32)).toNatClampNeg (((vp_updL us (x7 + x8).toNatClampNeg ((us (x7 + x8).toNatClampNeg) + ((jl_shl ((jl_ushr x2 ((16 : Int32) * x8)) &&& (65535 : Int64)) x6) &&& (65535 : Int64)))) ((x7 + x8) + (1 : Int32)).toNatClampNeg) + (jl_ushr (jl_shl ((jl_ushr x2 ((16 : Int32) * x8)) &&& (65535 : Int64)) x6) (16 : Int32)))))) hx hb hw 7 6 rfl rfl (sd_at1 h7 hi (by assumption)) dX5_addTo_113 rfl (fun H locs hw => ?_)
          refine lv_iinc (v := (x8 + 1)) (lv' := [(8, .int (x8 + 1)), (13, .long (jl_ushr (jl_shl ((jl_ushr x2 ((16 : Int32) * x8)) &&& (65535 : Int64)) x6) (16 : Int32))), (11, .long ((jl_shl ((jl_ushr x2 ((16 : Int32) * x8)) &&& (65535 : Int64)) x6) &&& (65535 : Int64))), (9, .long (jl_shl ((jl_ushr x2 ((16 : Int32) * x8)) &&& (65535 : Int64)) x6)), (0, .ref h0), (1, .int x1), (2, .long x2), (6, .int x6), (7, .int x7)]) hx hb dX5_addTo_114 hl (k := 8) rfl rfl (by decide) rfl (fun ls hl => ?_)
          refine lv_goto (tgt := 25) hx hb dX5_addTo_117 (by decide) ?_
          exact ih (vp_updL (vp_updL us (x7 + x8).toNatClampNeg ((us (x7 + x8).toNatClampNeg) + ((jl_shl ((jl_ushr x2 ((16 : Int32) * x8)) &&& (65535 : Int64)) x6) &&& (65535 : Int64)))) ((x7 + x8) + (1 : Int32)).toNatClampNeg (((vp_updL us (x7 + x8).toNatClampNeg ((us (x7 + x8).toNatClampNeg) + ((jl_shl ((jl_ushr x2 ((16 : Int32) * x8)) &&& (65535 : Int64)) x6) &&& (65535 : Int64)))) ((x7 + x8) + (1 : Int32)).toNatClampNeg) + (jl_ushr (jl_shl ((jl_ushr x2 ((16 : Int32) * x8)) &&& (65535 : Int64)) x6) (16 : Int32)))) (x8 + 1) _ _ _ (lp_up (by assumption) hm) (li_up (by assumption) hi) (lv_sub hl [4, 5, 6, 7, 8, 0] rfl) hw hq
        · rw [if_neg c3] at hq
          refine lv_lload hx hb dX5_addTo_104 (lv_at hl 0 rfl) ?_
          refine lv_lneg hx hb dX5_addTo_106 ?_
          refine lv_goto (tgt := 112) hx hb dX5_addTo_107 (by decide) ?_
          refine lv_ladd hx hb dX5_addTo_112 ?_
          refine hx_last (ws' := (md_W h0 r cA uf ua (vp_updL (vp_updL us (x7 + x8).toNatClampNeg ((us (x7 + x8).toNatClampNeg) + ((jl_shl ((jl_ushr x2 ((16 : Int32) * x8)) &&& (65535 : Int64)) x6) &&& (65535 : Int64)))) ((x7 + x8) + (1 : Int32)).toNatClampNeg (((vp_updL us (x7 + x8).toNatClampNeg ((us (x7 + x8).toNatClampNeg) + ((jl_shl ((jl_ushr x2 ((16 : Int32) * x8)) &&& (65535 : Int64)) x6) &&& (65535 : Int64)))) ((x7 + x8) + (1 : Int32)).toNatClampNeg) + (-(jl_ushr (jl_shl ((jl_ushr x2 ((16 : Int32) * x8)) &&& (65535 : Int64)) x6) (16 : Int32))))))) hx hb hw 7 6 rfl rfl (sd_at1 h7 hi (by assumption)) dX5_addTo_113 rfl (fun H locs hw => ?_)
          refine lv_iinc (v := (x8 + 1)) (lv' := [(8, .int (x8 + 1)), (13, .long (jl_ushr (jl_shl ((jl_ushr x2 ((16 : Int32) * x8)) &&& (65535 : Int64)) x6) (16 : Int32))), (11, .long ((jl_shl ((jl_ushr x2 ((16 : Int32) * x8)) &&& (65535 : Int64)) x6) &&& (65535 : Int64))), (9, .long (jl_shl ((jl_ushr x2 ((16 : Int32) * x8)) &&& (65535 : Int64)) x6)), (0, .ref h0), (1, .int x1), (2, .long x2), (6, .int x6), (7, .int x7)]) hx hb dX5_addTo_114 hl (k := 8) rfl rfl (by decide) rfl (fun ls hl => ?_)
          refine lv_goto (tgt := 25) hx hb dX5_addTo_117 (by decide) ?_
          exact ih (vp_updL (vp_updL us (x7 + x8).toNatClampNeg ((us (x7 + x8).toNatClampNeg) + ((jl_shl ((jl_ushr x2 ((16 : Int32) * x8)) &&& (65535 : Int64)) x6) &&& (65535 : Int64)))) ((x7 + x8) + (1 : Int32)).toNatClampNeg (((vp_updL us (x7 + x8).toNatClampNeg ((us (x7 + x8).toNatClampNeg) + ((jl_shl ((jl_ushr x2 ((16 : Int32) * x8)) &&& (65535 : Int64)) x6) &&& (65535 : Int64)))) ((x7 + x8) + (1 : Int32)).toNatClampNeg) + (-(jl_ushr (jl_shl ((jl_ushr x2 ((16 : Int32) * x8)) &&& (65535 : Int64)) x6) (16 : Int32))))) (x8 + 1) _ _ _ (lp_up (by assumption) hm) (li_up (by assumption) hi) (lv_sub hl [4, 5, 6, 7, 8, 0] rfl) hw hq
      · rw [if_neg c2] at hq
        refine lv_lload hx hb dX5_addTo_77 (lv_at hl 1 rfl) ?_
        refine lv_lneg hx hb dX5_addTo_79 ?_
        refine lv_goto (tgt := 85) hx hb dX5_addTo_80 (by decide) ?_
        refine lv_ladd hx hb dX5_addTo_85 ?_
        refine hx_last (ws' := (md_W h0 r cA uf ua (vp_updL us (x7 + x8).toNatClampNeg ((us (x7 + x8).toNatClampNeg) + (-((jl_shl ((jl_ushr x2 ((16 : Int32) * x8)) &&& (65535 : Int64)) x6) &&& (65535 : Int64))))))) hx hb hw 7 6 rfl rfl (sd_at0 h7 hi (by assumption)) dX5_addTo_86 rfl (fun H locs hw => ?_)
        refine lv_aload_n hx hb dX5_addTo_87 rfl (lv_at hl 3 rfl) ?_
        refine hx_get (v := .ref (r 9)) hx hb hts inX5 hown hw.1 hw.2.2.2.1 0 rfl rfl 9 (by decide) tw_fieldLink_RX5_32_GlulxFloatsModel_sum_J rfl rfl dX5_addTo_88 ?_
        refine lv_iload hx hb dX5_addTo_91 (lv_at hl 7 rfl) ?_
        refine lv_iload hx hb dX5_addTo_93 (lv_at hl 8 rfl) ?_
        refine lv_iadd hx hb dX5_addTo_95 ?_
        refine lv_iconst (v := 1) hx hb dX5_addTo_96 (by decide) ?_
        refine lv_iadd hx hb dX5_addTo_97 ?_
        refine lv_dup2_11 hx hb dX5_addTo_98 rfl rfl ?_
        refine hx_lald hx hb hw.1 hw.2.2.2.1 7 6 rfl rfl (sd_at1 h7 hi (by assumption)) dX5_addTo_99 ?_
        refine lv_iload_n hx hb dX5_addTo_100 rfl (lv_at hl 4 rfl) ?_
        refine lv_if_eq (tgt := 110) hx hb dX5_addTo_101 (by decide) (fun c4 => ?_) (fun c4 => ?_)
        · rw [if_pos c4] at hq
          refine lv_lload hx hb dX5_addTo_110 (lv_at hl 0 rfl) ?_
          refine lv_ladd hx hb dX5_addTo_112 ?_
          refine hx_last (ws' := (md_W h0 r cA uf ua (vp_updL (vp_updL us (x7 + x8).toNatClampNeg ((us (x7 + x8).toNatClampNeg) + (-((jl_shl ((jl_ushr x2 ((16 : Int32) * x8)) &&& (65535 : Int64)) x6) &&& (65535 : Int64))))) ((x7 + x8) + (1 : Int32)).toNatClampNeg (((vp_updL us (x7 + x8).toNatClampNeg ((us (x7 + x8).toNatClampNeg) + (-((jl_shl ((jl_ushr x2 ((16 : Int32) * x8)) &&& (65535 : Int64)) x6) &&& (65535 : Int64))))) ((x7 + x8) + (1 : Int32)).toNatClampNeg) + (jl_ushr (jl_shl ((jl_ushr x2 ((16 : Int32) * x8)) &&& (65535 : Int64)) x6) (16 : Int32)))))) hx hb hw 7 6 rfl rfl (sd_at1 h7 hi (by assumption)) dX5_addTo_113 rfl (fun H locs hw => ?_)
          refine lv_iinc (v := (x8 + 1)) (lv' := [(8, .int (x8 + 1)), (13, .long (jl_ushr (jl_shl ((jl_ushr x2 ((16 : Int32) * x8)) &&& (65535 : Int64)) x6) (16 : Int32))), (11, .long ((jl_shl ((jl_ushr x2 ((16 : Int32) * x8)) &&& (65535 : Int64)) x6) &&& (65535 : Int64))), (9, .long (jl_shl ((jl_ushr x2 ((16 : Int32) * x8)) &&& (65535 : Int64)) x6)), (0, .ref h0), (1, .int x1), (2, .long x2), (6, .int x6), (7, .int x7)]) hx hb dX5_addTo_114 hl (k := 8) rfl rfl (by decide) rfl (fun ls hl => ?_)
          refine lv_goto (tgt := 25) hx hb dX5_addTo_117 (by decide) ?_
          exact ih (vp_updL (vp_updL us (x7 + x8).toNatClampNeg ((us (x7 + x8).toNatClampNeg) + (-((jl_shl ((jl_ushr x2 ((16 : Int32) * x8)) &&& (65535 : Int64)) x6) &&& (65535 : Int64))))) ((x7 + x8) + (1 : Int32)).toNatClampNeg (((vp_updL us (x7 + x8).toNatClampNeg ((us (x7 + x8).toNatClampNeg) + (-((jl_shl ((jl_ushr x2 ((16 : Int32) * x8)) &&& (65535 : Int64)) x6) &&& (65535 : Int64))))) ((x7 + x8) + (1 : Int32)).toNatClampNeg) + (jl_ushr (jl_shl ((jl_ushr x2 ((16 : Int32) * x8)) &&& (65535 : Int64)) x6) (16 : Int32)))) (x8 + 1) _ _ _ (lp_up (by assumption) hm) (li_up (by assumption) hi) (lv_sub hl [4, 5, 6, 7, 8, 0] rfl) hw hq
        · rw [if_neg c4] at hq
          refine lv_lload hx hb dX5_addTo_104 (lv_at hl 0 rfl) ?_
          refine lv_lneg hx hb dX5_addTo_106 ?_
          refine lv_goto (tgt := 112) hx hb dX5_addTo_107 (by decide) ?_
          refine lv_ladd hx hb dX5_addTo_112 ?_
          refine hx_last (ws' := (md_W h0 r cA uf ua (vp_updL (vp_updL us (x7 + x8).toNatClampNeg ((us (x7 + x8).toNatClampNeg) + (-((jl_shl ((jl_ushr x2 ((16 : Int32) * x8)) &&& (65535 : Int64)) x6) &&& (65535 : Int64))))) ((x7 + x8) + (1 : Int32)).toNatClampNeg (((vp_updL us (x7 + x8).toNatClampNeg ((us (x7 + x8).toNatClampNeg) + (-((jl_shl ((jl_ushr x2 ((16 : Int32) * x8)) &&& (65535 : Int64)) x6) &&& (65535 : Int64))))) ((x7 + x8) + (1 : Int32)).toNatClampNeg) + (-(jl_ushr (jl_shl ((jl_ushr x2 ((16 : Int32) * x8)) &&& (65535 : Int64)) x6) (16 : Int32))))))) hx hb hw 7 6 rfl rfl (sd_at1 h7 hi (by assumption)) dX5_addTo_113 rfl (fun H locs hw => ?_)
          refine lv_iinc (v := (x8 + 1)) (lv' := [(8, .int (x8 + 1)), (13, .long (jl_ushr (jl_shl ((jl_ushr x2 ((16 : Int32) * x8)) &&& (65535 : Int64)) x6) (16 : Int32))), (11, .long ((jl_shl ((jl_ushr x2 ((16 : Int32) * x8)) &&& (65535 : Int64)) x6) &&& (65535 : Int64))), (9, .long (jl_shl ((jl_ushr x2 ((16 : Int32) * x8)) &&& (65535 : Int64)) x6)), (0, .ref h0), (1, .int x1), (2, .long x2), (6, .int x6), (7, .int x7)]) hx hb dX5_addTo_114 hl (k := 8) rfl rfl (by decide) rfl (fun ls hl => ?_)
          refine lv_goto (tgt := 25) hx hb dX5_addTo_117 (by decide) ?_
          exact ih (vp_updL (vp_updL us (x7 + x8).toNatClampNeg ((us (x7 + x8).toNatClampNeg) + (-((jl_shl ((jl_ushr x2 ((16 : Int32) * x8)) &&& (65535 : Int64)) x6) &&& (65535 : Int64))))) ((x7 + x8) + (1 : Int32)).toNatClampNeg (((vp_updL us (x7 + x8).toNatClampNeg ((us (x7 + x8).toNatClampNeg) + (-((jl_shl ((jl_ushr x2 ((16 : Int32) * x8)) &&& (65535 : Int64)) x6) &&& (65535 : Int64))))) ((x7 + x8) + (1 : Int32)).toNatClampNeg) + (-(jl_ushr (jl_shl ((jl_ushr x2 ((16 : Int32) * x8)) &&& (65535 : Int64)) x6) (16 : Int32))))) (x8 + 1) _ _ _ (lp_up (by assumption) hm) (li_up (by assumption) hi) (lv_sub hl [4, 5, 6, 7, 8, 0] rfl) hw hq
set_option maxRecDepth 20000 in
theorem bX5_addTo_120 (us : Nat → Int64) {p : Program} {l : Launch} {e : Env} {s : State} {m : MethodId} {args : Array Value} {below : List Frame} {meth : Method} {c : Code} {dC : Nat → ClassId} {dI : Nat → Nat → Nat} {r : Nat → Nat} {cA : Nat → ClassId} {Rg : Nat → Prop} {H : Heap} {locs : List Loc} {uf : Nat → Int32} {ua : Nat → Nat → Int32} {h0 : Nat} {ls : Array Slot} (C : bx_C p s m args meth c cX5_addTo 15 none RX5) (hl : lv_has ls 15 []) (hw : hW (dC, dI) (md_T cA) Rg s H locs (md_W h0 r cA uf ua us)) (post : (Nat → Int64) → Prop) (hq : post (fX5_addTo_120 us)) : W p l e rmX5_addTo s m args below meth c H locs 0 0 (MQ below (va_Qv post (hBk (dC, dI) (md_T cA) Rg (fun u => md_W h0 r cA uf ua u)) Rg) args s 0 0 Rg) (F0 m 120 ls []) := by
  obtain ⟨hx, hb, hml, hr, hlocks, hown, hts⟩ := id C
  unfold fX5_addTo_120 at hq
  exact hx_vret (Wf := (fun u => md_W h0 r cA uf ua u)) (u := us) hx hb hr hlocks hw hq dX5_addTo_120
set_option maxRecDepth 20000 in
theorem bX5_addTo_0 (us : Nat → Int64) (x1 : Int32) (x2 : Int64) (x4 : Int32) {p : Program} {l : Launch} {e : Env} {s : State} {m : MethodId} {args : Array Value} {below : List Frame} {meth : Method} {c : Code} {dC : Nat → ClassId} {dI : Nat → Nat → Nat} {r : Nat → Nat} {cA : Nat → ClassId} {Rg : Nat → Prop} {H : Heap} {locs : List Loc} {uf : Nat → Int32} {ua : Nat → Nat → Int32} {h0 : Nat} {ls : Array Slot} (C : bx_C p s m args meth c cX5_addTo 15 none RX5) (hl : lv_has ls 15 [(0, .ref h0), (1, .int x1), (2, .long x2), (4, .int x4)]) (hw : hW (dC, dI) (md_T cA) Rg s H locs (md_W h0 r cA uf ua us)) (he : 0 ≤ (x4 + (2200 : Int32)).toInt ∧ (x4 + (2200 : Int32)).toInt ≤ 4560) (post : (Nat → Int64) → Prop) (hq : post (fX5_addTo us x1 x2 x4)) : W p l e rmX5_addTo s m args below meth c H locs 0 0 (MQ below (va_Qv post (hBk (dC, dI) (md_T cA) Rg (fun u => md_W h0 r cA uf ua u)) Rg) args s 0 0 Rg) (F0 m 0 ls []) := by
  obtain ⟨hx, hb, hml, hr, hlocks, hown, hts⟩ := id C
  unfold fX5_addTo at hq
  refine lv_iload hx hb dX5_addTo_0 (lv_at hl 3 rfl) ?_
  refine lv_sipush (v := 2200) hx hb dX5_addTo_2 (by decide) ?_
  refine lv_iadd hx hb dX5_addTo_5 ?_
  refine lv_istore (lv' := [(5, .int (x4 + (2200 : Int32))), (0, .ref h0), (1, .int x1), (2, .long x2), (4, .int x4)]) hx hb dX5_addTo_6 hl (by decide) rfl (fun ls hl => ?_)
  refine lv_iload hx hb dX5_addTo_8 (lv_at hl 0 rfl) ?_
  refine lv_bipush (v := 16) hx hb dX5_addTo_10 (by decide) ?_
  refine bx_irem hx hb dX5_addTo_12 (by first | assumption | decide) ?_
  refine lv_istore (lv' := [(6, .int (ji_rem (x4 + (2200 : Int32)) (16 : Int32))), (5, .int (x4 + (2200 : Int32))), (0, .ref h0), (1, .int x1), (2, .long x2), (4, .int x4)]) hx hb dX5_addTo_13 hl (by decide) rfl (fun ls hl => ?_)
  refine lv_iload hx hb dX5_addTo_15 (lv_at hl 1 rfl) ?_
  refine lv_bipush (v := 16) hx hb dX5_addTo_17 (by decide) ?_
  refine lv_idiv hx hb dX5_addTo_19 (by first | assumption | decide) ?_
  refine lv_istore (lv' := [(7, .int ((x4 + (2200 : Int32)) / (16 : Int32))), (6, .int (ji_rem (x4 + (2200 : Int32)) (16 : Int32))), (5, .int (x4 + (2200 : Int32))), (0, .ref h0), (1, .int x1), (2, .long x2), (4, .int x4)]) hx hb dX5_addTo_20 hl (by decide) rfl (fun ls hl => ?_)
  refine lv_iconst (v := 0) hx hb dX5_addTo_22 (by decide) ?_
  refine lv_istore (lv' := [(8, .int (0 : Int32)), (7, .int ((x4 + (2200 : Int32)) / (16 : Int32))), (6, .int (ji_rem (x4 + (2200 : Int32)) (16 : Int32))), (5, .int (x4 + (2200 : Int32))), (0, .ref h0), (1, .int x1), (2, .long x2), (4, .int x4)]) hx hb dX5_addTo_23 hl (by decide) rfl (fun ls hl => ?_)
  exact lX5_addTo_25 x1 x2 (ji_rem (x4 + (2200 : Int32)) (16 : Int32)) ((x4 + (2200 : Int32)) / (16 : Int32)) C (sd_at he) (fun t => post (fX5_addTo_120 t.1)) (fun ous o8 ls H locs hi hl hw hq => bX5_addTo_120 ous C (lv_sub hl [] rfl) hw post hq) (Nat.succ ((Int32.toInt (4) - Int32.toInt (0 : Int32)).toNat)) us (0 : Int32) _ _ _ (Nat.lt_succ_self _) (by decide) (lv_sub hl [4, 5, 6, 2, 1, 0] rfl) hw hq
theorem kX5_addTo (l : Launch) (dC : Nat → ClassId) (dI : Nat → Nat → Nat) (h0 : Nat) (r : Nat → Nat) (cA : Nat → ClassId) (sz : Nat) (uf : Nat → Int32) (ua : Nat → Nat → Int32) (us : Nat → Int64) (x1 : Int32) (x2 : Int64) (x4 : Int32) (he : 0 ≤ (x4 + (2200 : Int32)).toInt ∧ (x4 + (2200 : Int32)).toInt ≤ 4560) : Met l yX5_addTo (Cond.code yX5_addTo cX5_addTo 15 none :: bw) rmX5_addTo (hPc [.ref h0, .int x1, .long x2, .int x4] (dC, dI) (md_T cA) (md_W h0 r cA uf ua us) sz (fun _ => True)) (va_Qv (fun u => u = fX5_addTo us x1 x2 x4) (hBk (dC, dI) (md_T cA) (va_A (md_W h0 r cA uf ua us) sz) (fun u => md_W h0 r cA uf ua u)) (va_A (md_W h0 r cA uf ua us) sz)) 0 0 (va_A (md_W h0 r cA uf ua us) sz) := by
  refine hx_ent (by decide) _ _ (Nat.le_of_ble_eq_true rfl) rfl ?_
  intro p e s m below meth c ls C hl hw hsz _
  exact bX5_addTo_0 us x1 x2 x4 C hl hw he (fun u => u = fX5_addTo us x1 x2 x4) rfl
def gX5_addProduct_3 (x1 : Int32) (x2 : Int64) (x4 : Int64) (x6 : Int32) : Nat → (Nat → Int64) → Int32 → (Nat → Int64) × Int32
  | 0, us, x7 => (us, x7)
  | n + 1, us, x7 =>
  if (7 : Int32) ≤ x7 then (us, x7)
  else gX5_addProduct_3 x1 x2 x4 x6 n (fX5_addTo us x1 (((jl_ushr x2 ((8 : Int32) * x7)) &&& (255 : Int64)) * x4) (x6 + ((8 : Int32) * x7))) (x7 + 1)
def fX5_addProduct_43 (us : Nat → Int64) : Nat → Int64 :=
  us
def fX5_addProduct (us : Nat → Int64) (x1 : Int32) (x2 : Int64) (x4 : Int64) (x6 : Int32) : Nat → Int64 :=
  fX5_addProduct_43 ((gX5_addProduct_3 x1 x2 x4 x6 (Nat.succ ((Int32.toInt (7) - Int32.toInt (0 : Int32)).toNat)) us (0 : Int32)).1)
abbrev rmX5_addProduct : Room := { frames := 1, cells := 0, slots := 0, locals := 34 }
theorem mbX5_addProduct : mb_V RX5 yX5_addProduct cX5_addProduct 8 none 4 := ⟨⟨tw_instanceMethod_yX5_addProduct, tw_selects_RX5_yX5_addProduct_yX5_addProduct, tw_initialized_RX5, tw_code_yX5_addProduct⟩, rfl, by decide +kernel, by decide +kernel, by decide +kernel⟩
set_option maxRecDepth 20000 in
theorem lX5_addProduct_3 (x1 : Int32) (x2 : Int64) (x4 : Int64) (x6 : Int32) {p : Program} {l : Launch} {e : Env} {s : State} {m : MethodId} {args : Array Value} {below : List Frame} {meth : Method} {c : Code} {dC : Nat → ClassId} {dI : Nat → Nat → Nat} {r : Nat → Nat} {cA : Nat → ClassId} {Rg : Nat → Prop} {uf : Nat → Int32} {ua : Nat → Nat → Int32} {h0 : Nat} {Q : State → Prop} (C : bx_C p s m args meth c cX5_addProduct 8 none RX5) (he : 0 ≤ (x6 + (2200 : Int32)).toInt ∧ (x6 + (2200 : Int32)).toInt ≤ 4500) (post : ((Nat → Int64) × Int32) → Prop) (kx : ∀ (ous : Nat → Int64) (o7 : Int32) (ls : Array Slot) (H : Heap) (locs : List Loc), (0 ≤ Int32.toInt o7) → lv_has ls 8 [(7, .int o7)] → hW (dC, dI) (md_T cA) Rg s H locs (md_W h0 r cA uf ua ous) → post (ous, o7) → W p l e rmX5_addProduct s m args below meth c H locs 0 0 Q (F0 m 43 ls [])) :
    ∀ (n : Nat) (us : Nat → Int64) (x7 : Int32) (ls : Array Slot) (H : Heap) (locs : List Loc), (Int32.toInt (7) - Int32.toInt x7).toNat < n → (0 ≤ Int32.toInt x7) → lv_has ls 8 [(0, .ref h0), (1, .int x1), (2, .long x2), (4, .long x4), (6, .int x6), (7, .int x7)] → hW (dC, dI) (md_T cA) Rg s H locs (md_W h0 r cA uf ua us) → post (gX5_addProduct_3 x1 x2 x4 x6 n us x7) → W p l e rmX5_addProduct s m args below meth c H locs 0 0 Q (F0 m 3 ls []) := by
  obtain ⟨hx, hb, hml, hr, hlocks, hown, hts⟩ := id C
  intro n
  induction n with
  | zero =>
    intro us x7 ls H locs hm
    exact absurd hm (Nat.not_lt_zero _)
  | succ n ih =>
    intro us x7 ls H locs hm hi hl hw hq
    rw [gX5_addProduct_3] at hq
    refine lv_iload hx hb dX5_addProduct_3 (lv_at hl 5 rfl) ?_
    refine lv_bipush (v := 7) hx hb dX5_addProduct_5 (by decide) ?_
    refine lv_icmp_ge (tgt := 43) hx hb dX5_addProduct_7 (by decide) (fun c1 => ?_) (fun c1 => ?_)
    · rw [if_pos c1] at hq
      exact kx us x7 _ _ _ hi (lv_sub hl [5] rfl) hw hq
    · rw [if_neg c1] at hq
      refine lv_aload_n hx hb dX5_addProduct_10 rfl (lv_at hl 0 rfl) ?_
      refine lv_iload_n hx hb dX5_addProduct_11 rfl (lv_at hl 1 rfl) ?_
      refine lv_lload_n hx hb dX5_addProduct_12 rfl (lv_at hl 2 rfl) ?_
      refine lv_bipush (v := 8) hx hb dX5_addProduct_13 (by decide) ?_
      refine lv_iload hx hb dX5_addProduct_15 (lv_at hl 5 rfl) ?_
      refine lv_imul hx hb dX5_addProduct_17 ?_
      refine bx_lushr hx hb dX5_addProduct_18 ?_
      refine lv_ldc2 (v := 255) hx hb hown (hts _ tw_constantLong_RX5_88_255) dX5_addProduct_19 ?_
      refine lv_land hx hb dX5_addProduct_22 ?_
      refine lv_lload hx hb dX5_addProduct_23 (lv_at hl 3 rfl) ?_
      refine lv_lmul hx hb dX5_addProduct_25 ?_
      refine lv_iload hx hb dX5_addProduct_26 (lv_at hl 4 rfl) ?_
      refine lv_bipush (v := 8) hx hb dX5_addProduct_28 (by decide) ?_
      refine lv_iload hx hb dX5_addProduct_30 (lv_at hl 5 rfl) ?_
      refine lv_imul hx hb dX5_addProduct_32 ?_
      refine lv_iadd hx hb dX5_addProduct_33 ?_
      refine hx_cv (Wf := (fun u => md_W h0 r cA uf ua u)) (u0 := us) (F := (fX5_addTo us x1 (((jl_ushr x2 ((8 : Int32) * x7)) &&& (255 : Int64)) * x4) (x6 + ((8 : Int32) * x7)))) C (fun sz => kX5_addTo l dC dI h0 r cA sz uf ua us x1 (((jl_ushr x2 ((8 : Int32) * x7)) &&& (255 : Int64)) * x4) (x6 + ((8 : Int32) * x7)) (sd_ap he hi (by assumption))) (fun _ => bx_B_true) (fun _ _ _ => trivial) hw rfl rfl tw_methodLink_RX5_90_yX5_addTo mbX5_addTo rfl ⟨rfl, rfl⟩ ⟨Nat.le_of_ble_eq_true rfl, Nat.le_of_ble_eq_true rfl⟩ ⟨Nat.zero_le _, Nat.zero_le _⟩ hl.1 rfl (Nat.le_of_ble_eq_true rfl) dX5_addProduct_34 (fun H locs hw => ?_)
      have hw : hW (dC, dI) (md_T cA) Rg s H locs (md_W h0 r cA uf ua (fX5_addTo us x1 (((jl_ushr x2 ((8 : Int32) * x7)) &&& (255 : Int64)) * x4) (x6 + ((8 : Int32) * x7)))) := hw
      refine lv_iinc (v := (x7 + 1)) (lv' := [(7, .int (x7 + 1)), (0, .ref h0), (1, .int x1), (2, .long x2), (4, .long x4), (6, .int x6)]) hx hb dX5_addProduct_37 hl (k := 5) rfl rfl (by decide) rfl (fun ls hl => ?_)
      refine lv_goto (tgt := 3) hx hb dX5_addProduct_40 (by decide) ?_
      exact ih (fX5_addTo us x1 (((jl_ushr x2 ((8 : Int32) * x7)) &&& (255 : Int64)) * x4) (x6 + ((8 : Int32) * x7))) (x7 + 1) _ _ _ (lp_up (by assumption) hm) (li_up (by assumption) hi) (lv_sub hl [1, 2, 3, 4, 5, 0] rfl) hw hq
set_option maxRecDepth 20000 in
theorem bX5_addProduct_43 (us : Nat → Int64) {p : Program} {l : Launch} {e : Env} {s : State} {m : MethodId} {args : Array Value} {below : List Frame} {meth : Method} {c : Code} {dC : Nat → ClassId} {dI : Nat → Nat → Nat} {r : Nat → Nat} {cA : Nat → ClassId} {Rg : Nat → Prop} {H : Heap} {locs : List Loc} {uf : Nat → Int32} {ua : Nat → Nat → Int32} {h0 : Nat} {ls : Array Slot} (C : bx_C p s m args meth c cX5_addProduct 8 none RX5) (hl : lv_has ls 8 []) (hw : hW (dC, dI) (md_T cA) Rg s H locs (md_W h0 r cA uf ua us)) (post : (Nat → Int64) → Prop) (hq : post (fX5_addProduct_43 us)) : W p l e rmX5_addProduct s m args below meth c H locs 0 0 (MQ below (va_Qv post (hBk (dC, dI) (md_T cA) Rg (fun u => md_W h0 r cA uf ua u)) Rg) args s 0 0 Rg) (F0 m 43 ls []) := by
  obtain ⟨hx, hb, hml, hr, hlocks, hown, hts⟩ := id C
  unfold fX5_addProduct_43 at hq
  exact hx_vret (Wf := (fun u => md_W h0 r cA uf ua u)) (u := us) hx hb hr hlocks hw hq dX5_addProduct_43
set_option maxRecDepth 20000 in
theorem bX5_addProduct_0 (us : Nat → Int64) (x1 : Int32) (x2 : Int64) (x4 : Int64) (x6 : Int32) {p : Program} {l : Launch} {e : Env} {s : State} {m : MethodId} {args : Array Value} {below : List Frame} {meth : Method} {c : Code} {dC : Nat → ClassId} {dI : Nat → Nat → Nat} {r : Nat → Nat} {cA : Nat → ClassId} {Rg : Nat → Prop} {H : Heap} {locs : List Loc} {uf : Nat → Int32} {ua : Nat → Nat → Int32} {h0 : Nat} {ls : Array Slot} (C : bx_C p s m args meth c cX5_addProduct 8 none RX5) (hl : lv_has ls 8 [(0, .ref h0), (1, .int x1), (2, .long x2), (4, .long x4), (6, .int x6)]) (hw : hW (dC, dI) (md_T cA) Rg s H locs (md_W h0 r cA uf ua us)) (he : 0 ≤ (x6 + (2200 : Int32)).toInt ∧ (x6 + (2200 : Int32)).toInt ≤ 4500) (post : (Nat → Int64) → Prop) (hq : post (fX5_addProduct us x1 x2 x4 x6)) : W p l e rmX5_addProduct s m args below meth c H locs 0 0 (MQ below (va_Qv post (hBk (dC, dI) (md_T cA) Rg (fun u => md_W h0 r cA uf ua u)) Rg) args s 0 0 Rg) (F0 m 0 ls []) := by
  obtain ⟨hx, hb, hml, hr, hlocks, hown, hts⟩ := id C
  unfold fX5_addProduct at hq
  refine lv_iconst (v := 0) hx hb dX5_addProduct_0 (by decide) ?_
  refine lv_istore (lv' := [(7, .int (0 : Int32)), (0, .ref h0), (1, .int x1), (2, .long x2), (4, .long x4), (6, .int x6)]) hx hb dX5_addProduct_1 hl (by decide) rfl (fun ls hl => ?_)
  exact lX5_addProduct_3 x1 x2 x4 x6 C he (fun t => post (fX5_addProduct_43 t.1)) (fun ous o7 ls H locs hi hl hw hq => bX5_addProduct_43 ous C (lv_sub hl [] rfl) hw post hq) (Nat.succ ((Int32.toInt (7) - Int32.toInt (0 : Int32)).toNat)) us (0 : Int32) _ _ _ (Nat.lt_succ_self _) (by decide) (lv_sub hl [1, 2, 3, 4, 5, 0] rfl) hw hq
theorem kX5_addProduct (l : Launch) (dC : Nat → ClassId) (dI : Nat → Nat → Nat) (h0 : Nat) (r : Nat → Nat) (cA : Nat → ClassId) (sz : Nat) (uf : Nat → Int32) (ua : Nat → Nat → Int32) (us : Nat → Int64) (x1 : Int32) (x2 : Int64) (x4 : Int64) (x6 : Int32) (he : 0 ≤ (x6 + (2200 : Int32)).toInt ∧ (x6 + (2200 : Int32)).toInt ≤ 4500) : Met l yX5_addProduct (Cond.code yX5_addProduct cX5_addProduct 8 none :: bw) rmX5_addProduct (hPc [.ref h0, .int x1, .long x2, .long x4, .int x6] (dC, dI) (md_T cA) (md_W h0 r cA uf ua us) sz (fun _ => True)) (va_Qv (fun u => u = fX5_addProduct us x1 x2 x4 x6) (hBk (dC, dI) (md_T cA) (va_A (md_W h0 r cA uf ua us) sz) (fun u => md_W h0 r cA uf ua u)) (va_A (md_W h0 r cA uf ua us) sz)) 0 0 (va_A (md_W h0 r cA uf ua us) sz) := by
  refine hx_ent (by decide) _ _ (Nat.le_of_ble_eq_true rfl) rfl ?_
  intro p e s m below meth c ls C hl hw hsz _
  exact bX5_addProduct_0 us x1 x2 x4 x6 C hl hw he (fun u => u = fX5_addProduct us x1 x2 x4 x6) rfl
def gX5_sumRounded_62 (us : Nat → Int64) : Nat → Int32 → Int32
  | 0, x4 => x4
  | n + 1, x4 =>
  if x4 < 0 then x4
  else if (us x4.toNatClampNeg) = (0 : Int64) then gX5_sumRounded_62 us n (x4 + (-1))
    else x4
def gX5_sumRounded_113 (us : Nat → Int64) : Nat → Int64 → Int32 → Int32 → Int64 × Int32 × Int32
  | 0, x5, x7, x8 => (x5, x7, x8)
  | n + 1, x5, x7, x8 =>
  if x8 < 0 then (x5, x7, x8)
  else if (61 : Int32) < (x7 + (16 : Int32)) then (x5, x7, x8)
    else gX5_sumRounded_113 us n ((jl_shl x5 (16 : Int32)) ||| (us x8.toNatClampNeg)) (fX5_bitsOf ((jl_shl x5 (16 : Int32)) ||| (us x8.toNatClampNeg))) (x8 + (-1))
def gX5_sumRounded_243 (us : Nat → Int64) (x8 : Int32) : Nat → Int32 → Int32 → Int32 × Int32
  | 0, x10, x11 => (x10, x11)
  | n + 1, x10, x11 =>
  if x8 < x11 then (x10, x11)
  else if x10 = 0 then if (us x11.toNatClampNeg) = (0 : Int64) then gX5_sumRounded_243 us x8 n (0 : Int32) (x11 + 1)
      else gX5_sumRounded_243 us x8 n (1 : Int32) (x11 + 1)
    else gX5_sumRounded_243 us x8 n (1 : Int32) (x11 + 1)
def fX5_sumRounded_280 (us : Nat → Int64) (x2 : Int32) (x3 : Int32) (x5 : Int64) (x9 : Int32) (x10 : Int32) : Int64 × (Nat → Int64) :=
  ((fX5_rounded x3 x5 (x9 - (2200 : Int32)) x10 x2), us)
def fX5_sumRounded_240 (us : Nat → Int64) (x2 : Int32) (x3 : Int32) (x5 : Int64) (x8 : Int32) (x9 : Int32) (x10 : Int32) : Int64 × (Nat → Int64) :=
  fX5_sumRounded_280 us x2 x3 x5 x9 ((gX5_sumRounded_243 us x8 (Nat.succ ((Int32.toInt x8 + 1 - Int32.toInt (0 : Int32)).toNat)) x10 (0 : Int32)).1)
def fX5_sumRounded_228 (us : Nat → Int64) (x2 : Int32) (x3 : Int32) (x5 : Int64) (x8 : Int32) (x9 : Int32) (x11 : Int32) (s0 : Int32) : Int64 × (Nat → Int64) :=
  fX5_sumRounded_240 us x2 x3 x5 (x8 + (-1)) (x9 - x11) s0
def fX5_sumRounded_156 (us : Nat → Int64) (x2 : Int32) (x3 : Int32) (x5 : Int64) (x7 : Int32) (x8 : Int32) : Int64 × (Nat → Int64) :=
  if x8 < 0 then fX5_sumRounded_240 us x2 x3 x5 x8 ((16 : Int32) * (x8 + (1 : Int32))) (0 : Int32)
  else if ((us x8.toNatClampNeg) &&& ((jl_shl (1 : Int64) ((16 : Int32) - ((61 : Int32) - x7))) - (1 : Int64))) = (0 : Int64) then fX5_sumRounded_228 us x2 x3 ((jl_shl x5 ((61 : Int32) - x7)) ||| (jl_ushr (us x8.toNatClampNeg) ((16 : Int32) - ((61 : Int32) - x7)))) x8 ((16 : Int32) * (x8 + (1 : Int32))) ((61 : Int32) - x7) (0 : Int32)
    else fX5_sumRounded_228 us x2 x3 ((jl_shl x5 ((61 : Int32) - x7)) ||| (jl_ushr (us x8.toNatClampNeg) ((16 : Int32) - ((61 : Int32) - x7)))) x8 ((16 : Int32) * (x8 + (1 : Int32))) ((61 : Int32) - x7) (1 : Int32)
def fX5_sumRounded_85 (us : Nat → Int64) (x1 : Int32) (x2 : Int32) (x3 : Int32) (x4 : Int32) : Int64 × (Nat → Int64) :=
  if 0 ≤ x4 then fX5_sumRounded_156 us x2 x3 ((gX5_sumRounded_113 us (Nat.succ ((Int32.toInt x4 + 1).toNat)) (0 : Int64) (0 : Int32) x4).1) ((gX5_sumRounded_113 us (Nat.succ ((Int32.toInt x4 + 1).toNat)) (0 : Int64) (0 : Int32) x4).2.1) ((gX5_sumRounded_113 us (Nat.succ ((Int32.toInt x4 + 1).toNat)) (0 : Int64) (0 : Int32) x4).2.2)
  else if x1 = 0 then ((0 : Int64), us)
    else ((fX5_signBit x2), us)
def fX5_sumRounded_57 (us : Nat → Int64) (x1 : Int32) (x2 : Int32) (x3 : Int32) : Int64 × (Nat → Int64) :=
  fX5_sumRounded_85 us x1 x2 x3 (gX5_sumRounded_62 us (Nat.succ ((Int32.toInt (289 : Int32) + 1).toNat)) (289 : Int32))
def gX5_sumRounded_22 : Nat → (Nat → Int64) → Int32 → (Nat → Int64) × Int32
  | 0, us, x4 => (us, x4)
  | n + 1, us, x4 =>
  if (290 : Int32) ≤ x4 then (us, x4)
  else gX5_sumRounded_22 n (vp_updL us x4.toNatClampNeg (-(us x4.toNatClampNeg))) (x4 + 1)
def fX5_sumRounded_51 (us : Nat → Int64) (x1 : Int32) (x2 : Int32) (x3 : Int32) : Int64 × (Nat → Int64) :=
  fX5_sumRounded_57 ((fX5_carry us).2) x1 x2 x3
def fX5_sumRounded_14 (us : Nat → Int64) (x1 : Int32) (x2 : Int32) (s0 : Int32) : Int64 × (Nat → Int64) :=
  if s0 = 0 then fX5_sumRounded_57 us x1 x2 s0
  else fX5_sumRounded_51 ((gX5_sumRounded_22 (Nat.succ ((Int32.toInt (290) - Int32.toInt (0 : Int32)).toNat)) us (0 : Int32)).1) x1 x2 s0
def fX5_sumRounded (us : Nat → Int64) (x1 : Int32) (x2 : Int32) : Int64 × (Nat → Int64) :=
  if (0 : Int64) ≤ (fX5_carry us).1 then fX5_sumRounded_14 ((fX5_carry us).2) x1 x2 (0 : Int32)
  else fX5_sumRounded_14 ((fX5_carry us).2) x1 x2 (1 : Int32)
abbrev rmX5_sumRounded : Room := { frames := 3, cells := 0, slots := 0, locals := 80 }
theorem mbX5_sumRounded : mb_V RX5 yX5_sumRounded cX5_sumRounded 12 (some .long) 2 := ⟨⟨tw_instanceMethod_yX5_sumRounded, tw_selects_RX5_yX5_sumRounded_yX5_sumRounded, tw_initialized_RX5, tw_code_yX5_sumRounded⟩, rfl, by decide +kernel, by decide +kernel, by decide +kernel⟩
set_option maxRecDepth 20000 in
theorem lX5_sumRounded_62 (us : Nat → Int64) (x1 : Int32) (x2 : Int32) (x3 : Int32) {p : Program} {l : Launch} {e : Env} {s : State} {m : MethodId} {args : Array Value} {below : List Frame} {meth : Method} {c : Code} {dC : Nat → ClassId} {dI : Nat → Nat → Nat} {r : Nat → Nat} {cA : Nat → ClassId} {Rg : Nat → Prop} {uf : Nat → Int32} {ua : Nat → Nat → Int32} {h0 : Nat} {Q : State → Prop} (C : bx_C p s m args meth c cX5_sumRounded 12 (some .long) RX5) (post : (Int32) → Prop) (kx : ∀ (o4 : Int32) (ls : Array Slot) (H : Heap) (locs : List Loc), (Int32.toInt o4 < 290) → lv_has ls 12 [(0, .ref h0), (1, .int x1), (2, .int x2), (3, .int x3), (4, .int o4)] → hW (dC, dI) (md_T cA) Rg s H locs (md_W h0 r cA uf ua us) → post o4 → W p l e rmX5_sumRounded s m args below meth c H locs 0 0 Q (F0 m 85 ls [])) :
    ∀ (n : Nat) (x4 : Int32) (ls : Array Slot) (H : Heap) (locs : List Loc), (Int32.toInt x4 + 1).toNat < n → (Int32.toInt x4 < 290) → lv_has ls 12 [(0, .ref h0), (1, .int x1), (2, .int x2), (3, .int x3), (4, .int x4)] → hW (dC, dI) (md_T cA) Rg s H locs (md_W h0 r cA uf ua us) → post (gX5_sumRounded_62 us n x4) → W p l e rmX5_sumRounded s m args below meth c H locs 0 0 Q (F0 m 62 ls []) := by
  obtain ⟨hx, hb, hml, hr, hlocks, hown, hts⟩ := id C
  intro n
  induction n with
  | zero =>
    intro x4 ls H locs hm
    exact absurd hm (Nat.not_lt_zero _)
  | succ n ih =>
    intro x4 ls H locs hm hi hl hw hq
    rw [gX5_sumRounded_62] at hq
    refine lv_iload hx hb dX5_sumRounded_62 (lv_at hl 4 rfl) ?_
    refine lv_if_lt (tgt := 85) hx hb dX5_sumRounded_64 (by decide) (fun c3 => ?_) (fun c3 => ?_)
    · rw [if_pos c3] at hq
      exact kx x4 _ _ _ hi (lv_sub hl [0, 1, 2, 3, 4] rfl) hw hq
    · rw [if_neg c3] at hq
      refine lv_aload_n hx hb dX5_sumRounded_67 rfl (lv_at hl 0 rfl) ?_
      refine hx_get (v := .ref (r 9)) hx hb hts inX5 hown hw.1 hw.2.2.2.1 0 rfl rfl 9 (by decide) tw_fieldLink_RX5_32_GlulxFloatsModel_sum_J rfl rfl dX5_sumRounded_68 ?_
      refine lv_iload hx hb dX5_sumRounded_71 (lv_at hl 4 rfl) ?_
      refine hx_lald hx hb hw.1 hw.2.2.2.1 7 6 rfl rfl (sd_in hi (by assumption)) dX5_sumRounded_73 ?_
      refine lv_lconst (v := 0) hx hb dX5_sumRounded_74 (by decide) ?_
      refine bx_lc_ne (tgt := 85) hx hb dX5_sumRounded_75 dX5_sumRounded_76 (by decide) (fun c4 => ?_) (fun c4 => ?_)
      · rw [if_neg c4] at hq
        exact kx x4 _ _ _ hi (lv_sub hl [0, 1, 2, 3, 4] rfl) hw hq
      · rw [if_pos c4] at hq
        refine lv_iinc (v := (x4 + (-1))) (lv' := [(4, .int (x4 + (-1))), (0, .ref h0), (1, .int x1), (2, .int x2), (3, .int x3)]) hx hb dX5_sumRounded_79 hl (k := 4) rfl rfl (by decide) rfl (fun ls hl => ?_)
        refine lv_goto (tgt := 62) hx hb dX5_sumRounded_82 (by decide) ?_
        exact ih (x4 + (-1)) _ _ _ (lp_dn2 (by assumption) hm) (sd_dec hi (by assumption)) (lv_sub hl [1, 2, 3, 4, 0] rfl) hw hq
set_option maxRecDepth 20000 in
theorem lX5_sumRounded_113 (us : Nat → Int64) (x2 : Int32) (x3 : Int32) {p : Program} {l : Launch} {e : Env} {s : State} {m : MethodId} {args : Array Value} {below : List Frame} {meth : Method} {c : Code} {dC : Nat → ClassId} {dI : Nat → Nat → Nat} {r : Nat → Nat} {cA : Nat → ClassId} {Rg : Nat → Prop} {uf : Nat → Int32} {ua : Nat → Nat → Int32} {h0 : Nat} {Q : State → Prop} (C : bx_C p s m args meth c cX5_sumRounded 12 (some .long) RX5) (post : (Int64 × Int32 × Int32) → Prop) (kx : ∀ (o5 : Int64) (o7 : Int32) (o8 : Int32) (ls : Array Slot) (H : Heap) (locs : List Loc), (Int32.toInt o8 < 290) → lv_has ls 12 [(0, .ref h0), (2, .int x2), (3, .int x3), (5, .long o5), (7, .int o7), (8, .int o8)] → hW (dC, dI) (md_T cA) Rg s H locs (md_W h0 r cA uf ua us) → post (o5, o7, o8) → W p l e rmX5_sumRounded s m args below meth c H locs 0 0 Q (F0 m 156 ls [])) :
    ∀ (n : Nat) (x5 : Int64) (x7 : Int32) (x8 : Int32) (ls : Array Slot) (H : Heap) (locs : List Loc), (Int32.toInt x8 + 1).toNat < n → (Int32.toInt x8 < 290) → lv_has ls 12 [(0, .ref h0), (2, .int x2), (3, .int x3), (5, .long x5), (7, .int x7), (8, .int x8)] → hW (dC, dI) (md_T cA) Rg s H locs (md_W h0 r cA uf ua us) → post (gX5_sumRounded_113 us n x5 x7 x8) → W p l e rmX5_sumRounded s m args below meth c H locs 0 0 Q (F0 m 113 ls []) := by
  obtain ⟨hx, hb, hml, hr, hlocks, hown, hts⟩ := id C
  intro n
  induction n with
  | zero =>
    intro x5 x7 x8 ls H locs hm
    exact absurd hm (Nat.not_lt_zero _)
  | succ n ih =>
    intro x5 x7 x8 ls H locs hm hi hl hw hq
    rw [gX5_sumRounded_113] at hq
    refine lv_iload hx hb dX5_sumRounded_113 (lv_at hl 5 rfl) ?_
    refine lv_if_lt (tgt := 156) hx hb dX5_sumRounded_115 (by decide) (fun c6 => ?_) (fun c6 => ?_)
    · rw [if_pos c6] at hq
      exact kx x5 x7 x8 _ _ _ hi (lv_sub hl [0, 1, 2, 3, 4, 5] rfl) hw hq
    · rw [if_neg c6] at hq
      refine lv_iload hx hb dX5_sumRounded_118 (lv_at hl 4 rfl) ?_
      refine lv_bipush (v := 16) hx hb dX5_sumRounded_120 (by decide) ?_
      refine lv_iadd hx hb dX5_sumRounded_122 ?_
      refine lv_bipush (v := 61) hx hb dX5_sumRounded_123 (by decide) ?_
      refine lv_icmp_gt (tgt := 156) hx hb dX5_sumRounded_125 (by decide) (fun c7 => ?_) (fun c7 => ?_)
      · rw [if_pos c7] at hq
        exact kx x5 x7 x8 _ _ _ hi (lv_sub hl [0, 1, 2, 3, 4, 5] rfl) hw hq
      · rw [if_neg c7] at hq
        refine lv_lload hx hb dX5_sumRounded_128 (lv_at hl 3 rfl) ?_
        refine lv_bipush (v := 16) hx hb dX5_sumRounded_130 (by decide) ?_
        refine bx_lshl hx hb dX5_sumRounded_132 ?_
        refine lv_aload_n hx hb dX5_sumRounded_133 rfl (lv_at hl 0 rfl) ?_
        refine hx_get (v := .ref (r 9)) hx hb hts inX5 hown hw.1 hw.2.2.2.1 0 rfl rfl 9 (by decide) tw_fieldLink_RX5_32_GlulxFloatsModel_sum_J rfl rfl dX5_sumRounded_134 ?_
        refine lv_iload hx hb dX5_sumRounded_137 (lv_at hl 5 rfl) ?_
        refine hx_lald hx hb hw.1 hw.2.2.2.1 7 6 rfl rfl (sd_in hi (by assumption)) dX5_sumRounded_139 ?_
        refine lv_lor hx hb dX5_sumRounded_140 ?_
        refine lv_lstore (lv' := [(5, .long ((jl_shl x5 (16 : Int32)) ||| (us x8.toNatClampNeg))), (0, .ref h0), (2, .int x2), (3, .int x3), (7, .int x7), (8, .int x8)]) hx hb dX5_sumRounded_141 hl (by decide) rfl (fun ls hl => ?_)
        refine lv_lload hx hb dX5_sumRounded_143 (lv_at hl 0 rfl) ?_
        refine bx_si C (kX5_bitsOf l ((jl_shl x5 (16 : Int32)) ||| (us x8.toNatClampNeg))) bx_B_true (fun _ _ _ => trivial) tw_methodLink_RX5_82_yX5_bitsOf mbX5_bitsOf rfl ⟨rfl, rfl⟩ ⟨Nat.le_of_ble_eq_true rfl, Nat.le_of_ble_eq_true rfl⟩ ⟨Nat.zero_le _, Nat.zero_le _⟩ hl.1 rfl (Nat.le_of_ble_eq_true rfl) dX5_sumRounded_145 ?_
        refine lv_istore (lv' := [(7, .int (fX5_bitsOf ((jl_shl x5 (16 : Int32)) ||| (us x8.toNatClampNeg)))), (5, .long ((jl_shl x5 (16 : Int32)) ||| (us x8.toNatClampNeg))), (0, .ref h0), (2, .int x2), (3, .int x3), (8, .int x8)]) hx hb dX5_sumRounded_148 hl (by decide) rfl (fun ls hl => ?_)
        refine lv_iinc (v := (x8 + (-1))) (lv' := [(8, .int (x8 + (-1))), (7, .int (fX5_bitsOf ((jl_shl x5 (16 : Int32)) ||| (us x8.toNatClampNeg)))), (5, .long ((jl_shl x5 (16 : Int32)) ||| (us x8.toNatClampNeg))), (0, .ref h0), (2, .int x2), (3, .int x3)]) hx hb dX5_sumRounded_150 hl (k := 5) rfl rfl (by decide) rfl (fun ls hl => ?_)
        refine lv_goto (tgt := 113) hx hb dX5_sumRounded_153 (by decide) ?_
        exact ih ((jl_shl x5 (16 : Int32)) ||| (us x8.toNatClampNeg)) (fX5_bitsOf ((jl_shl x5 (16 : Int32)) ||| (us x8.toNatClampNeg))) (x8 + (-1)) _ _ _ (lp_dn2 (by assumption) hm) (sd_dec hi (by assumption)) (lv_sub hl [3, 4, 5, 2, 1, 0] rfl) hw hq
set_option maxRecDepth 20000 in
theorem lX5_sumRounded_243 (us : Nat → Int64) (x8 : Int32) (x2 : Int32) (x3 : Int32) (x5 : Int64) (x9 : Int32) {p : Program} {l : Launch} {e : Env} {s : State} {m : MethodId} {args : Array Value} {below : List Frame} {meth : Method} {c : Code} {dC : Nat → ClassId} {dI : Nat → Nat → Nat} {r : Nat → Nat} {cA : Nat → ClassId} {Rg : Nat → Prop} {uf : Nat → Int32} {ua : Nat → Nat → Int32} {h0 : Nat} {Q : State → Prop} (C : bx_C p s m args meth c cX5_sumRounded 12 (some .long) RX5) (h8 : Int32.toInt x8 < 290) (post : (Int32 × Int32) → Prop) (kx : ∀ (o10 : Int32) (o11 : Int32) (ls : Array Slot) (H : Heap) (locs : List Loc), (0 ≤ Int32.toInt o11) → lv_has ls 12 [(2, .int x2), (3, .int x3), (5, .long x5), (9, .int x9), (10, .int o10), (11, .int o11)] → hW (dC, dI) (md_T cA) Rg s H locs (md_W h0 r cA uf ua us) → post (o10, o11) → W p l e rmX5_sumRounded s m args below meth c H locs 0 0 Q (F0 m 280 ls [])) :
    ∀ (n : Nat) (x10 : Int32) (x11 : Int32) (ls : Array Slot) (H : Heap) (locs : List Loc), (Int32.toInt x8 + 1 - Int32.toInt x11).toNat < n → (0 ≤ Int32.toInt x11) → lv_has ls 12 [(0, .ref h0), (2, .int x2), (3, .int x3), (5, .long x5), (8, .int x8), (9, .int x9), (10, .int x10), (11, .int x11)] → hW (dC, dI) (md_T cA) Rg s H locs (md_W h0 r cA uf ua us) → post (gX5_sumRounded_243 us x8 n x10 x11) → W p l e rmX5_sumRounded s m args below meth c H locs 0 0 Q (F0 m 243 ls []) := by
  obtain ⟨hx, hb, hml, hr, hlocks, hown, hts⟩ := id C
  intro n
  induction n with
  | zero =>
    intro x10 x11 ls H locs hm
    exact absurd hm (Nat.not_lt_zero _)
  | succ n ih =>
    intro x10 x11 ls H locs hm hi hl hw hq
    rw [gX5_sumRounded_243] at hq
    refine lv_iload hx hb dX5_sumRounded_243 (lv_at hl 7 rfl) ?_
    refine lv_iload hx hb dX5_sumRounded_245 (lv_at hl 4 rfl) ?_
    refine lv_icmp_gt (tgt := 280) hx hb dX5_sumRounded_247 (by decide) (fun c9 => ?_) (fun c9 => ?_)
    · rw [if_pos c9] at hq
      exact kx x10 x11 _ _ _ hi (lv_sub hl [1, 2, 3, 5, 6, 7] rfl) hw hq
    · rw [if_neg c9] at hq
      refine lv_iload hx hb dX5_sumRounded_250 (lv_at hl 6 rfl) ?_
      refine lv_if_ne (tgt := 267) hx hb dX5_sumRounded_252 (by decide) (fun c10 => ?_) (fun c10 => ?_)
      · rw [if_neg c10] at hq
        refine lv_iconst (v := 1) hx hb dX5_sumRounded_267 (by decide) ?_
        refine lv_goto (tgt := 272) hx hb dX5_sumRounded_268 (by decide) ?_
        refine lv_istore (lv' := [(10, .int (1 : Int32)), (0, .ref h0), (2, .int x2), (3, .int x3), (5, .long x5), (8, .int x8), (9, .int x9), (11, .int x11)]) hx hb dX5_sumRounded_272 hl (by decide) rfl (fun ls hl => ?_)
        refine lv_iinc (v := (x11 + 1)) (lv' := [(11, .int (x11 + 1)), (10, .int (1 : Int32)), (0, .ref h0), (2, .int x2), (3, .int x3), (5, .long x5), (8, .int x8), (9, .int x9)]) hx hb dX5_sumRounded_274 hl (k := 7) rfl rfl (by decide) rfl (fun ls hl => ?_)
        refine lv_goto (tgt := 243) hx hb dX5_sumRounded_277 (by decide) ?_
        exact ih (1 : Int32) (x11 + 1) _ _ _ (lp_le (by assumption) h8 hm) (sd_inc (by assumption) h8 hi) (lv_sub hl [2, 3, 4, 5, 6, 7, 1, 0] rfl) hw hq
      · rw [if_pos c10] at hq
        refine lv_aload_n hx hb dX5_sumRounded_255 rfl (lv_at hl 0 rfl) ?_
        refine hx_get (v := .ref (r 9)) hx hb hts inX5 hown hw.1 hw.2.2.2.1 0 rfl rfl 9 (by decide) tw_fieldLink_RX5_32_GlulxFloatsModel_sum_J rfl rfl dX5_sumRounded_256 ?_
        refine lv_iload hx hb dX5_sumRounded_259 (lv_at hl 7 rfl) ?_
        refine hx_lald hx hb hw.1 hw.2.2.2.1 7 6 rfl rfl (sd_in2 hi h8 (by assumption)) dX5_sumRounded_261 ?_
        refine lv_lconst (v := 0) hx hb dX5_sumRounded_262 (by decide) ?_
        refine bx_lc_eq (tgt := 271) hx hb dX5_sumRounded_263 dX5_sumRounded_264 (by decide) (fun c11 => ?_) (fun c11 => ?_)
        · rw [if_pos c11] at hq
          refine lv_iconst (v := 0) hx hb dX5_sumRounded_271 (by decide) ?_
          refine lv_istore (lv' := [(10, .int (0 : Int32)), (0, .ref h0), (2, .int x2), (3, .int x3), (5, .long x5), (8, .int x8), (9, .int x9), (11, .int x11)]) hx hb dX5_sumRounded_272 hl (by decide) rfl (fun ls hl => ?_)
          refine lv_iinc (v := (x11 + 1)) (lv' := [(11, .int (x11 + 1)), (10, .int (0 : Int32)), (0, .ref h0), (2, .int x2), (3, .int x3), (5, .long x5), (8, .int x8), (9, .int x9)]) hx hb dX5_sumRounded_274 hl (k := 7) rfl rfl (by decide) rfl (fun ls hl => ?_)
          refine lv_goto (tgt := 243) hx hb dX5_sumRounded_277 (by decide) ?_
          exact ih (0 : Int32) (x11 + 1) _ _ _ (lp_le (by assumption) h8 hm) (sd_inc (by assumption) h8 hi) (lv_sub hl [2, 3, 4, 5, 6, 7, 1, 0] rfl) hw hq
        · rw [if_neg c11] at hq
          refine lv_iconst (v := 1) hx hb dX5_sumRounded_267 (by decide) ?_
          refine lv_goto (tgt := 272) hx hb dX5_sumRounded_268 (by decide) ?_
          refine lv_istore (lv' := [(10, .int (1 : Int32)), (0, .ref h0), (2, .int x2), (3, .int x3), (5, .long x5), (8, .int x8), (9, .int x9), (11, .int x11)]) hx hb dX5_sumRounded_272 hl (by decide) rfl (fun ls hl => ?_)
          refine lv_iinc (v := (x11 + 1)) (lv' := [(11, .int (x11 + 1)), (10, .int (1 : Int32)), (0, .ref h0), (2, .int x2), (3, .int x3), (5, .long x5), (8, .int x8), (9, .int x9)]) hx hb dX5_sumRounded_274 hl (k := 7) rfl rfl (by decide) rfl (fun ls hl => ?_)
          refine lv_goto (tgt := 243) hx hb dX5_sumRounded_277 (by decide) ?_
          exact ih (1 : Int32) (x11 + 1) _ _ _ (lp_le (by assumption) h8 hm) (sd_inc (by assumption) h8 hi) (lv_sub hl [2, 3, 4, 5, 6, 7, 1, 0] rfl) hw hq
set_option maxRecDepth 20000 in
theorem bX5_sumRounded_280 (us : Nat → Int64) (x2 : Int32) (x3 : Int32) (x5 : Int64) (x9 : Int32) (x10 : Int32) {p : Program} {l : Launch} {e : Env} {s : State} {m : MethodId} {args : Array Value} {below : List Frame} {meth : Method} {c : Code} {dC : Nat → ClassId} {dI : Nat → Nat → Nat} {r : Nat → Nat} {cA : Nat → ClassId} {Rg : Nat → Prop} {H : Heap} {locs : List Loc} {uf : Nat → Int32} {ua : Nat → Nat → Int32} {h0 : Nat} {ls : Array Slot} (C : bx_C p s m args meth c cX5_sumRounded 12 (some .long) RX5) (hl : lv_has ls 12 [(2, .int x2), (3, .int x3), (5, .long x5), (9, .int x9), (10, .int x10)]) (hw : hW (dC, dI) (md_T cA) Rg s H locs (md_W h0 r cA uf ua us)) (post : (Int64 × (Nat → Int64)) → Prop) (hq : post (fX5_sumRounded_280 us x2 x3 x5 x9 x10)) : W p l e rmX5_sumRounded s m args below meth c H locs 0 0 (MQ below (va_Ql (fun r u => post (r, u)) (hBk (dC, dI) (md_T cA) Rg (fun u => md_W h0 r cA uf ua u)) Rg) args s 0 0 Rg) (F0 m 280 ls []) := by
  obtain ⟨hx, hb, hml, hr, hlocks, hown, hts⟩ := id C
  unfold fX5_sumRounded_280 at hq
  refine lv_iload_n hx hb dX5_sumRounded_280 rfl (lv_at hl 1 rfl) ?_
  refine lv_lload hx hb dX5_sumRounded_281 (lv_at hl 2 rfl) ?_
  refine lv_iload hx hb dX5_sumRounded_283 (lv_at hl 3 rfl) ?_
  refine lv_sipush (v := 2200) hx hb dX5_sumRounded_285 (by decide) ?_
  refine lv_isub hx hb dX5_sumRounded_288 ?_
  refine lv_iload hx hb dX5_sumRounded_289 (lv_at hl 4 rfl) ?_
  refine lv_iload_n hx hb dX5_sumRounded_291 rfl (lv_at hl 0 rfl) ?_
  refine bx_sl C (kX5_rounded l x3 x5 (x9 - (2200 : Int32)) x10 x2) bx_B_true (fun _ _ _ => trivial) tw_methodLink_RX5_98_yX5_rounded mbX5_rounded rfl ⟨rfl, rfl⟩ ⟨Nat.le_of_ble_eq_true rfl, Nat.le_of_ble_eq_true rfl⟩ ⟨Nat.zero_le _, Nat.zero_le _⟩ hl.1 rfl (Nat.le_of_ble_eq_true rfl) dX5_sumRounded_292 ?_
  exact hx_lret (Wf := (fun u => md_W h0 r cA uf ua u)) (post := post) (v := (fX5_rounded x3 x5 (x9 - (2200 : Int32)) x10 x2)) (u := us) hx hb hr hlocks hw hq dX5_sumRounded_295
set_option maxRecDepth 20000 in
theorem bX5_sumRounded_240 (us : Nat → Int64) (x2 : Int32) (x3 : Int32) (x5 : Int64) (x8 : Int32) (x9 : Int32) (x10 : Int32) {p : Program} {l : Launch} {e : Env} {s : State} {m : MethodId} {args : Array Value} {below : List Frame} {meth : Method} {c : Code} {dC : Nat → ClassId} {dI : Nat → Nat → Nat} {r : Nat → Nat} {cA : Nat → ClassId} {Rg : Nat → Prop} {H : Heap} {locs : List Loc} {uf : Nat → Int32} {ua : Nat → Nat → Int32} {h0 : Nat} {ls : Array Slot} (C : bx_C p s m args meth c cX5_sumRounded 12 (some .long) RX5) (hl : lv_has ls 12 [(0, .ref h0), (2, .int x2), (3, .int x3), (5, .long x5), (8, .int x8), (9, .int x9), (10, .int x10)]) (hw : hW (dC, dI) (md_T cA) Rg s H locs (md_W h0 r cA uf ua us)) (h8 : Int32.toInt x8 < 290) (post : (Int64 × (Nat → Int64)) → Prop) (hq : post (fX5_sumRounded_240 us x2 x3 x5 x8 x9 x10)) : W p l e rmX5_sumRounded s m args below meth c H locs 0 0 (MQ below (va_Ql (fun r u => post (r, u)) (hBk (dC, dI) (md_T cA) Rg (fun u => md_W h0 r cA uf ua u)) Rg) args s 0 0 Rg) (F0 m 240 ls []) := by
  obtain ⟨hx, hb, hml, hr, hlocks, hown, hts⟩ := id C
  unfold fX5_sumRounded_240 at hq
  refine lv_iconst (v := 0) hx hb dX5_sumRounded_240 (by decide) ?_
  refine lv_istore (lv' := [(11, .int (0 : Int32)), (0, .ref h0), (2, .int x2), (3, .int x3), (5, .long x5), (8, .int x8), (9, .int x9), (10, .int x10)]) hx hb dX5_sumRounded_241 hl (by decide) rfl (fun ls hl => ?_)
  exact lX5_sumRounded_243 us x8 x2 x3 x5 x9 C h8 (fun t => post (fX5_sumRounded_280 us x2 x3 x5 x9 t.1)) (fun o10 o11 ls H locs hi hl hw hq => bX5_sumRounded_280 us x2 x3 x5 x9 o10 C (lv_sub hl [0, 1, 2, 3, 4] rfl) hw post hq) (Nat.succ ((Int32.toInt x8 + 1 - Int32.toInt (0 : Int32)).toNat)) x10 (0 : Int32) _ _ _ (Nat.lt_succ_self _) (by decide) (lv_sub hl [1, 2, 3, 4, 5, 6, 7, 0] rfl) hw hq
set_option maxRecDepth 20000 in
theorem bX5_sumRounded_228 (us : Nat → Int64) (x2 : Int32) (x3 : Int32) (x5 : Int64) (x8 : Int32) (x9 : Int32) (x11 : Int32) (s0 : Int32) {p : Program} {l : Launch} {e : Env} {s : State} {m : MethodId} {args : Array Value} {below : List Frame} {meth : Method} {c : Code} {dC : Nat → ClassId} {dI : Nat → Nat → Nat} {r : Nat → Nat} {cA : Nat → ClassId} {Rg : Nat → Prop} {H : Heap} {locs : List Loc} {uf : Nat → Int32} {ua : Nat → Nat → Int32} {h0 : Nat} {ls : Array Slot} (C : bx_C p s m args meth c cX5_sumRounded 12 (some .long) RX5) (hl : lv_has ls 12 [(0, .ref h0), (2, .int x2), (3, .int x3), (5, .long x5), (8, .int x8), (9, .int x9), (11, .int x11)]) (hw : hW (dC, dI) (md_T cA) Rg s H locs (md_W h0 r cA uf ua us)) (h8 : Int32.toInt x8 < 290) (c8 : ¬ x8 < 0) (post : (Int64 × (Nat → Int64)) → Prop) (hq : post (fX5_sumRounded_228 us x2 x3 x5 x8 x9 x11 s0)) : W p l e rmX5_sumRounded s m args below meth c H locs 0 0 (MQ below (va_Ql (fun r u => post (r, u)) (hBk (dC, dI) (md_T cA) Rg (fun u => md_W h0 r cA uf ua u)) Rg) args s 0 0 Rg) (F0 m 228 ls [.int s0]) := by
  obtain ⟨hx, hb, hml, hr, hlocks, hown, hts⟩ := id C
  unfold fX5_sumRounded_228 at hq
  refine lv_istore (lv' := [(10, .int s0), (0, .ref h0), (2, .int x2), (3, .int x3), (5, .long x5), (8, .int x8), (9, .int x9), (11, .int x11)]) hx hb dX5_sumRounded_228 hl (by decide) rfl (fun ls hl => ?_)
  refine lv_iload hx hb dX5_sumRounded_230 (lv_at hl 6 rfl) ?_
  refine lv_iload hx hb dX5_sumRounded_232 (lv_at hl 7 rfl) ?_
  refine lv_isub hx hb dX5_sumRounded_234 ?_
  refine lv_istore (lv' := [(9, .int (x9 - x11)), (10, .int s0), (0, .ref h0), (2, .int x2), (3, .int x3), (5, .long x5), (8, .int x8), (11, .int x11)]) hx hb dX5_sumRounded_235 hl (by decide) rfl (fun ls hl => ?_)
  refine lv_iinc (v := (x8 + (-1))) (lv' := [(8, .int (x8 + (-1))), (9, .int (x9 - x11)), (10, .int s0), (0, .ref h0), (2, .int x2), (3, .int x3), (5, .long x5), (11, .int x11)]) hx hb dX5_sumRounded_237 hl (k := 6) rfl rfl (by decide) rfl (fun ls hl => ?_)
  exact bX5_sumRounded_240 us x2 x3 x5 (x8 + (-1)) (x9 - x11) s0 C (lv_sub hl [3, 4, 5, 6, 0, 1, 2] rfl) hw (by first | with_reducible exact h8 | exact sd_dec h8 (by assumption)) post hq
set_option maxRecDepth 20000 in
theorem bX5_sumRounded_156 (us : Nat → Int64) (x2 : Int32) (x3 : Int32) (x5 : Int64) (x7 : Int32) (x8 : Int32) {p : Program} {l : Launch} {e : Env} {s : State} {m : MethodId} {args : Array Value} {below : List Frame} {meth : Method} {c : Code} {dC : Nat → ClassId} {dI : Nat → Nat → Nat} {r : Nat → Nat} {cA : Nat → ClassId} {Rg : Nat → Prop} {H : Heap} {locs : List Loc} {uf : Nat → Int32} {ua : Nat → Nat → Int32} {h0 : Nat} {ls : Array Slot} (C : bx_C p s m args meth c cX5_sumRounded 12 (some .long) RX5) (hl : lv_has ls 12 [(0, .ref h0), (2, .int x2), (3, .int x3), (5, .long x5), (7, .int x7), (8, .int x8)]) (hw : hW (dC, dI) (md_T cA) Rg s H locs (md_W h0 r cA uf ua us)) (h8 : Int32.toInt x8 < 290) (post : (Int64 × (Nat → Int64)) → Prop) (hq : post (fX5_sumRounded_156 us x2 x3 x5 x7 x8)) : W p l e rmX5_sumRounded s m args below meth c H locs 0 0 (MQ below (va_Ql (fun r u => post (r, u)) (hBk (dC, dI) (md_T cA) Rg (fun u => md_W h0 r cA uf ua u)) Rg) args s 0 0 Rg) (F0 m 156 ls []) := by
  obtain ⟨hx, hb, hml, hr, hlocks, hown, hts⟩ := id C
  unfold fX5_sumRounded_156 at hq
  refine lv_bipush (v := 16) hx hb dX5_sumRounded_156 (by decide) ?_
  refine lv_iload hx hb dX5_sumRounded_158 (lv_at hl 5 rfl) ?_
  refine lv_iconst (v := 1) hx hb dX5_sumRounded_160 (by decide) ?_
  refine lv_iadd hx hb dX5_sumRounded_161 ?_
  refine lv_imul hx hb dX5_sumRounded_162 ?_
  refine lv_istore (lv' := [(9, .int ((16 : Int32) * (x8 + (1 : Int32)))), (0, .ref h0), (2, .int x2), (3, .int x3), (5, .long x5), (7, .int x7), (8, .int x8)]) hx hb dX5_sumRounded_163 hl (by decide) rfl (fun ls hl => ?_)
  refine lv_iconst (v := 0) hx hb dX5_sumRounded_165 (by decide) ?_
  refine lv_istore (lv' := [(10, .int (0 : Int32)), (9, .int ((16 : Int32) * (x8 + (1 : Int32)))), (0, .ref h0), (2, .int x2), (3, .int x3), (5, .long x5), (7, .int x7), (8, .int x8)]) hx hb dX5_sumRounded_166 hl (by decide) rfl (fun ls hl => ?_)
  refine lv_iload hx hb dX5_sumRounded_168 (lv_at hl 7 rfl) ?_
  refine lv_if_lt (tgt := 240) hx hb dX5_sumRounded_170 (by decide) (fun c8 => ?_) (fun c8 => ?_)
  · rw [if_pos c8] at hq
    exact bX5_sumRounded_240 us x2 x3 x5 x8 ((16 : Int32) * (x8 + (1 : Int32))) (0 : Int32) C (lv_sub hl [2, 3, 4, 5, 7, 1, 0] rfl) hw (by first | with_reducible exact h8 | exact sd_dec h8 (by assumption)) post hq
  · rw [if_neg c8] at hq
    refine lv_bipush (v := 61) hx hb dX5_sumRounded_173 (by decide) ?_
    refine lv_iload hx hb dX5_sumRounded_175 (lv_at hl 6 rfl) ?_
    refine lv_isub hx hb dX5_sumRounded_177 ?_
    refine lv_istore (lv' := [(11, .int ((61 : Int32) - x7)), (10, .int (0 : Int32)), (9, .int ((16 : Int32) * (x8 + (1 : Int32)))), (0, .ref h0), (2, .int x2), (3, .int x3), (5, .long x5), (7, .int x7), (8, .int x8)]) hx hb dX5_sumRounded_178 hl (by decide) rfl (fun ls hl => ?_)
    refine lv_lload hx hb dX5_sumRounded_180 (lv_at hl 6 rfl) ?_
    refine lv_iload hx hb dX5_sumRounded_182 (lv_at hl 0 rfl) ?_
    refine bx_lshl hx hb dX5_sumRounded_184 ?_
    refine lv_aload_n hx hb dX5_sumRounded_185 rfl (lv_at hl 3 rfl) ?_
    refine hx_get (v := .ref (r 9)) hx hb hts inX5 hown hw.1 hw.2.2.2.1 0 rfl rfl 9 (by decide) tw_fieldLink_RX5_32_GlulxFloatsModel_sum_J rfl rfl dX5_sumRounded_186 ?_
    refine lv_iload hx hb dX5_sumRounded_189 (lv_at hl 8 rfl) ?_
    refine hx_lald hx hb hw.1 hw.2.2.2.1 7 6 rfl rfl (sd_in h8 (by assumption)) dX5_sumRounded_191 ?_
    refine lv_bipush (v := 16) hx hb dX5_sumRounded_192 (by decide) ?_
    refine lv_iload hx hb dX5_sumRounded_194 (lv_at hl 0 rfl) ?_
    refine lv_isub hx hb dX5_sumRounded_196 ?_
    refine bx_lushr hx hb dX5_sumRounded_197 ?_
    refine lv_lor hx hb dX5_sumRounded_198 ?_
    refine lv_lstore (lv' := [(5, .long ((jl_shl x5 ((61 : Int32) - x7)) ||| (jl_ushr (us x8.toNatClampNeg) ((16 : Int32) - ((61 : Int32) - x7))))), (11, .int ((61 : Int32) - x7)), (10, .int (0 : Int32)), (9, .int ((16 : Int32) * (x8 + (1 : Int32)))), (0, .ref h0), (2, .int x2), (3, .int x3), (7, .int x7), (8, .int x8)]) hx hb dX5_sumRounded_199 hl (by decide) rfl (fun ls hl => ?_)
    refine lv_aload_n hx hb dX5_sumRounded_201 rfl (lv_at hl 4 rfl) ?_
    refine hx_get (v := .ref (r 9)) hx hb hts inX5 hown hw.1 hw.2.2.2.1 0 rfl rfl 9 (by decide) tw_fieldLink_RX5_32_GlulxFloatsModel_sum_J rfl rfl dX5_sumRounded_202 ?_
    refine lv_iload hx hb dX5_sumRounded_205 (lv_at hl 8 rfl) ?_
    refine hx_lald hx hb hw.1 hw.2.2.2.1 7 6 rfl rfl (sd_in h8 (by assumption)) dX5_sumRounded_207 ?_
    refine lv_lconst (v := 1) hx hb dX5_sumRounded_208 (by decide) ?_
    refine lv_bipush (v := 16) hx hb dX5_sumRounded_209 (by decide) ?_
    refine lv_iload hx hb dX5_sumRounded_211 (lv_at hl 1 rfl) ?_
    refine lv_isub hx hb dX5_sumRounded_213 ?_
    refine bx_lshl hx hb dX5_sumRounded_214 ?_
    refine lv_lconst (v := 1) hx hb dX5_sumRounded_215 (by decide) ?_
    refine lv_lsub hx hb dX5_sumRounded_216 ?_
    refine lv_land hx hb dX5_sumRounded_217 ?_
    refine lv_lconst (v := 0) hx hb dX5_sumRounded_218 (by decide) ?_
    refine bx_lc_eq (tgt := 227) hx hb dX5_sumRounded_219 dX5_sumRounded_220 (by decide) (fun c12 => ?_) (fun c12 => ?_)
    · rw [if_pos c12] at hq
      refine lv_iconst (v := 0) hx hb dX5_sumRounded_227 (by decide) ?_
      exact bX5_sumRounded_228 us x2 x3 ((jl_shl x5 ((61 : Int32) - x7)) ||| (jl_ushr (us x8.toNatClampNeg) ((16 : Int32) - ((61 : Int32) - x7)))) x8 ((16 : Int32) * (x8 + (1 : Int32))) ((61 : Int32) - x7) (0 : Int32) C (lv_sub hl [4, 5, 6, 0, 8, 3, 1] rfl) hw h8 (by assumption) post hq
    · rw [if_neg c12] at hq
      refine lv_iconst (v := 1) hx hb dX5_sumRounded_223 (by decide) ?_
      refine lv_goto (tgt := 228) hx hb dX5_sumRounded_224 (by decide) ?_
      exact bX5_sumRounded_228 us x2 x3 ((jl_shl x5 ((61 : Int32) - x7)) ||| (jl_ushr (us x8.toNatClampNeg) ((16 : Int32) - ((61 : Int32) - x7)))) x8 ((16 : Int32) * (x8 + (1 : Int32))) ((61 : Int32) - x7) (1 : Int32) C (lv_sub hl [4, 5, 6, 0, 8, 3, 1] rfl) hw h8 (by assumption) post hq
set_option maxRecDepth 20000 in
theorem bX5_sumRounded_85 (us : Nat → Int64) (x1 : Int32) (x2 : Int32) (x3 : Int32) (x4 : Int32) {p : Program} {l : Launch} {e : Env} {s : State} {m : MethodId} {args : Array Value} {below : List Frame} {meth : Method} {c : Code} {dC : Nat → ClassId} {dI : Nat → Nat → Nat} {r : Nat → Nat} {cA : Nat → ClassId} {Rg : Nat → Prop} {H : Heap} {locs : List Loc} {uf : Nat → Int32} {ua : Nat → Nat → Int32} {h0 : Nat} {ls : Array Slot} (C : bx_C p s m args meth c cX5_sumRounded 12 (some .long) RX5) (hl : lv_has ls 12 [(0, .ref h0), (1, .int x1), (2, .int x2), (3, .int x3), (4, .int x4)]) (hw : hW (dC, dI) (md_T cA) Rg s H locs (md_W h0 r cA uf ua us)) (h4 : Int32.toInt x4 < 290) (post : (Int64 × (Nat → Int64)) → Prop) (hq : post (fX5_sumRounded_85 us x1 x2 x3 x4)) : W p l e rmX5_sumRounded s m args below meth c H locs 0 0 (MQ below (va_Ql (fun r u => post (r, u)) (hBk (dC, dI) (md_T cA) Rg (fun u => md_W h0 r cA uf ua u)) Rg) args s 0 0 Rg) (F0 m 85 ls []) := by
  obtain ⟨hx, hb, hml, hr, hlocks, hown, hts⟩ := id C
  unfold fX5_sumRounded_85 at hq
  refine lv_iload hx hb dX5_sumRounded_85 (lv_at hl 4 rfl) ?_
  refine lv_if_ge (tgt := 103) hx hb dX5_sumRounded_87 (by decide) (fun c5 => ?_) (fun c5 => ?_)
  · rw [if_pos c5] at hq
    refine lv_lconst (v := 0) hx hb dX5_sumRounded_103 (by decide) ?_
    refine lv_lstore (lv' := [(5, .long (0 : Int64)), (0, .ref h0), (1, .int x1), (2, .int x2), (3, .int x3), (4, .int x4)]) hx hb dX5_sumRounded_104 hl (by decide) rfl (fun ls hl => ?_)
    refine lv_iconst (v := 0) hx hb dX5_sumRounded_106 (by decide) ?_
    refine lv_istore (lv' := [(7, .int (0 : Int32)), (5, .long (0 : Int64)), (0, .ref h0), (1, .int x1), (2, .int x2), (3, .int x3), (4, .int x4)]) hx hb dX5_sumRounded_107 hl (by decide) rfl (fun ls hl => ?_)
    refine lv_iload hx hb dX5_sumRounded_109 (lv_at hl 6 rfl) ?_
    refine lv_istore (lv' := [(8, .int x4), (7, .int (0 : Int32)), (5, .long (0 : Int64)), (0, .ref h0), (1, .int x1), (2, .int x2), (3, .int x3), (4, .int x4)]) hx hb dX5_sumRounded_111 hl (by decide) rfl (fun ls hl => ?_)
    exact lX5_sumRounded_113 us x2 x3 C (fun t => post (fX5_sumRounded_156 us x2 x3 t.1 t.2.1 t.2.2)) (fun o5 o7 o8 ls H locs hi hl hw hq => bX5_sumRounded_156 us x2 x3 o5 o7 o8 C (lv_sub hl [0, 1, 2, 3, 4, 5] rfl) hw hi post hq) (Nat.succ ((Int32.toInt x4 + 1).toNat)) (0 : Int64) (0 : Int32) x4 _ _ _ (Nat.lt_succ_self _) h4 (lv_sub hl [3, 5, 6, 2, 1, 0] rfl) hw hq
  · rw [if_neg c5] at hq
    refine lv_iload_n hx hb dX5_sumRounded_90 rfl (lv_at hl 1 rfl) ?_
    refine lv_if_eq (tgt := 101) hx hb dX5_sumRounded_91 (by decide) (fun c13 => ?_) (fun c13 => ?_)
    · rw [if_pos c13] at hq
      refine lv_lconst (v := 0) hx hb dX5_sumRounded_101 (by decide) ?_
      exact hx_lret (Wf := (fun u => md_W h0 r cA uf ua u)) (post := post) (v := (0 : Int64)) (u := us) hx hb hr hlocks hw hq dX5_sumRounded_102
    · rw [if_neg c13] at hq
      refine lv_iload_n hx hb dX5_sumRounded_94 rfl (lv_at hl 2 rfl) ?_
      refine bx_sl C (kX5_signBit l x2) bx_B_true (fun _ _ _ => trivial) tw_methodLink_RX5_61_yX5_signBit mbX5_signBit rfl ⟨rfl, rfl⟩ ⟨Nat.le_of_ble_eq_true rfl, Nat.le_of_ble_eq_true rfl⟩ ⟨Nat.zero_le _, Nat.zero_le _⟩ hl.1 rfl (Nat.le_of_ble_eq_true rfl) dX5_sumRounded_95 ?_
      refine lv_goto (tgt := 102) hx hb dX5_sumRounded_98 (by decide) ?_
      exact hx_lret (Wf := (fun u => md_W h0 r cA uf ua u)) (post := post) (v := (fX5_signBit x2)) (u := us) hx hb hr hlocks hw hq dX5_sumRounded_102
set_option maxRecDepth 20000 in
theorem bX5_sumRounded_57 (us : Nat → Int64) (x1 : Int32) (x2 : Int32) (x3 : Int32) {p : Program} {l : Launch} {e : Env} {s : State} {m : MethodId} {args : Array Value} {below : List Frame} {meth : Method} {c : Code} {dC : Nat → ClassId} {dI : Nat → Nat → Nat} {r : Nat → Nat} {cA : Nat → ClassId} {Rg : Nat → Prop} {H : Heap} {locs : List Loc} {uf : Nat → Int32} {ua : Nat → Nat → Int32} {h0 : Nat} {ls : Array Slot} (C : bx_C p s m args meth c cX5_sumRounded 12 (some .long) RX5) (hl : lv_has ls 12 [(0, .ref h0), (1, .int x1), (2, .int x2), (3, .int x3)]) (hw : hW (dC, dI) (md_T cA) Rg s H locs (md_W h0 r cA uf ua us)) (post : (Int64 × (Nat → Int64)) → Prop) (hq : post (fX5_sumRounded_57 us x1 x2 x3)) : W p l e rmX5_sumRounded s m args below meth c H locs 0 0 (MQ below (va_Ql (fun r u => post (r, u)) (hBk (dC, dI) (md_T cA) Rg (fun u => md_W h0 r cA uf ua u)) Rg) args s 0 0 Rg) (F0 m 57 ls []) := by
  obtain ⟨hx, hb, hml, hr, hlocks, hown, hts⟩ := id C
  unfold fX5_sumRounded_57 at hq
  refine lv_sipush (v := 289) hx hb dX5_sumRounded_57 (by decide) ?_
  refine lv_istore (lv' := [(4, .int (289 : Int32)), (0, .ref h0), (1, .int x1), (2, .int x2), (3, .int x3)]) hx hb dX5_sumRounded_60 hl (by decide) rfl (fun ls hl => ?_)
  exact lX5_sumRounded_62 us x1 x2 x3 C (fun t => post (fX5_sumRounded_85 us x1 x2 x3 t)) (fun o4 ls H locs hi hl hw hq => bX5_sumRounded_85 us x1 x2 x3 o4 C (lv_sub hl [0, 1, 2, 3, 4] rfl) hw hi post hq) (Nat.succ ((Int32.toInt (289 : Int32) + 1).toNat)) (289 : Int32) _ _ _ (Nat.lt_succ_self _) (by decide) (lv_sub hl [1, 2, 3, 4, 0] rfl) hw hq
set_option maxRecDepth 20000 in
theorem lX5_sumRounded_22 (x1 : Int32) (x2 : Int32) (x3 : Int32) {p : Program} {l : Launch} {e : Env} {s : State} {m : MethodId} {args : Array Value} {below : List Frame} {meth : Method} {c : Code} {dC : Nat → ClassId} {dI : Nat → Nat → Nat} {r : Nat → Nat} {cA : Nat → ClassId} {Rg : Nat → Prop} {uf : Nat → Int32} {ua : Nat → Nat → Int32} {h0 : Nat} {Q : State → Prop} (C : bx_C p s m args meth c cX5_sumRounded 12 (some .long) RX5) (post : ((Nat → Int64) × Int32) → Prop) (kx : ∀ (ous : Nat → Int64) (o4 : Int32) (ls : Array Slot) (H : Heap) (locs : List Loc), (0 ≤ Int32.toInt o4) → lv_has ls 12 [(0, .ref h0), (1, .int x1), (2, .int x2), (3, .int x3), (4, .int o4)] → hW (dC, dI) (md_T cA) Rg s H locs (md_W h0 r cA uf ua ous) → post (ous, o4) → W p l e rmX5_sumRounded s m args below meth c H locs 0 0 Q (F0 m 51 ls [])) :
    ∀ (n : Nat) (us : Nat → Int64) (x4 : Int32) (ls : Array Slot) (H : Heap) (locs : List Loc), (Int32.toInt (290) - Int32.toInt x4).toNat < n → (0 ≤ Int32.toInt x4) → lv_has ls 12 [(0, .ref h0), (1, .int x1), (2, .int x2), (3, .int x3), (4, .int x4)] → hW (dC, dI) (md_T cA) Rg s H locs (md_W h0 r cA uf ua us) → post (gX5_sumRounded_22 n us x4) → W p l e rmX5_sumRounded s m args below meth c H locs 0 0 Q (F0 m 22 ls []) := by
  obtain ⟨hx, hb, hml, hr, hlocks, hown, hts⟩ := id C
  intro n
  induction n with
  | zero =>
    intro us x4 ls H locs hm
    exact absurd hm (Nat.not_lt_zero _)
  | succ n ih =>
    intro us x4 ls H locs hm hi hl hw hq
    rw [gX5_sumRounded_22] at hq
    refine lv_iload hx hb dX5_sumRounded_22 (lv_at hl 4 rfl) ?_
    refine lv_sipush (v := 290) hx hb dX5_sumRounded_24 (by decide) ?_
    refine lv_icmp_ge (tgt := 51) hx hb dX5_sumRounded_27 (by decide) (fun c14 => ?_) (fun c14 => ?_)
    · rw [if_pos c14] at hq
      exact kx us x4 _ _ _ hi (lv_sub hl [0, 1, 2, 3, 4] rfl) hw hq
    · rw [if_neg c14] at hq
      refine lv_aload_n hx hb dX5_sumRounded_30 rfl (lv_at hl 0 rfl) ?_
      refine hx_get (v := .ref (r 9)) hx hb hts inX5 hown hw.1 hw.2.2.2.1 0 rfl rfl 9 (by decide) tw_fieldLink_RX5_32_GlulxFloatsModel_sum_J rfl rfl dX5_sumRounded_31 ?_
      refine lv_iload hx hb dX5_sumRounded_34 (lv_at hl 4 rfl) ?_
      refine lv_aload_n hx hb dX5_sumRounded_36 rfl (lv_at hl 0 rfl) ?_
      refine hx_get (v := .ref (r 9)) hx hb hts inX5 hown hw.1 hw.2.2.2.1 0 rfl rfl 9 (by decide) tw_fieldLink_RX5_32_GlulxFloatsModel_sum_J rfl rfl dX5_sumRounded_37 ?_
      refine lv_iload hx hb dX5_sumRounded_40 (lv_at hl 4 rfl) ?_
      refine hx_lald hx hb hw.1 hw.2.2.2.1 7 6 rfl rfl (by first | assumption | exact vi_lt hi (by assumption) (by decide)) dX5_sumRounded_42 ?_
      refine lv_lneg hx hb dX5_sumRounded_43 ?_
      refine hx_last (ws' := (md_W h0 r cA uf ua (vp_updL us x4.toNatClampNeg (-(us x4.toNatClampNeg))))) hx hb hw 7 6 rfl rfl (by first | assumption | exact vi_lt hi (by assumption) (by decide)) dX5_sumRounded_44 rfl (fun H locs hw => ?_)
      refine lv_iinc (v := (x4 + 1)) (lv' := [(4, .int (x4 + 1)), (0, .ref h0), (1, .int x1), (2, .int x2), (3, .int x3)]) hx hb dX5_sumRounded_45 hl (k := 4) rfl rfl (by decide) rfl (fun ls hl => ?_)
      refine lv_goto (tgt := 22) hx hb dX5_sumRounded_48 (by decide) ?_
      exact ih (vp_updL us x4.toNatClampNeg (-(us x4.toNatClampNeg))) (x4 + 1) _ _ _ (lp_up (by assumption) hm) (li_up (by assumption) hi) (lv_sub hl [1, 2, 3, 4, 0] rfl) hw hq
set_option maxRecDepth 20000 in
theorem bX5_sumRounded_51 (us : Nat → Int64) (x1 : Int32) (x2 : Int32) (x3 : Int32) {p : Program} {l : Launch} {e : Env} {s : State} {m : MethodId} {args : Array Value} {below : List Frame} {meth : Method} {c : Code} {dC : Nat → ClassId} {dI : Nat → Nat → Nat} {r : Nat → Nat} {cA : Nat → ClassId} {Rg : Nat → Prop} {H : Heap} {locs : List Loc} {uf : Nat → Int32} {ua : Nat → Nat → Int32} {h0 : Nat} {ls : Array Slot} (C : bx_C p s m args meth c cX5_sumRounded 12 (some .long) RX5) (hl : lv_has ls 12 [(0, .ref h0), (1, .int x1), (2, .int x2), (3, .int x3)]) (hw : hW (dC, dI) (md_T cA) Rg s H locs (md_W h0 r cA uf ua us)) (post : (Int64 × (Nat → Int64)) → Prop) (hq : post (fX5_sumRounded_51 us x1 x2 x3)) : W p l e rmX5_sumRounded s m args below meth c H locs 0 0 (MQ below (va_Ql (fun r u => post (r, u)) (hBk (dC, dI) (md_T cA) Rg (fun u => md_W h0 r cA uf ua u)) Rg) args s 0 0 Rg) (F0 m 51 ls []) := by
  obtain ⟨hx, hb, hml, hr, hlocks, hown, hts⟩ := id C
  unfold fX5_sumRounded_51 at hq
  refine lv_aload_n hx hb dX5_sumRounded_51 rfl (lv_at hl 0 rfl) ?_
  refine hx_cl (Wf := (fun u => md_W h0 r cA uf ua u)) (u0 := us) (F := (fX5_carry us)) C (fun sz => kX5_carry l dC dI h0 r cA sz uf ua us) (fun _ => bx_B_true) (fun _ _ _ => trivial) hw rfl rfl tw_methodLink_RX5_94_yX5_carry mbX5_carry rfl ⟨rfl, rfl⟩ ⟨Nat.le_of_ble_eq_true rfl, Nat.le_of_ble_eq_true rfl⟩ ⟨Nat.zero_le _, Nat.zero_le _⟩ hl.1 rfl (Nat.le_of_ble_eq_true rfl) dX5_sumRounded_52 (fun H locs hw => ?_)
  have hw : hW (dC, dI) (md_T cA) Rg s H locs (md_W h0 r cA uf ua ((fX5_carry us).2)) := hw
  refine lv_lstore (lv' := [(4, .long ((fX5_carry us).1)), (0, .ref h0), (1, .int x1), (2, .int x2), (3, .int x3)]) hx hb dX5_sumRounded_55 hl (by decide) rfl (fun ls hl => ?_)
  exact bX5_sumRounded_57 ((fX5_carry us).2) x1 x2 x3 C (lv_sub hl [1, 2, 3, 4] rfl) hw post hq
set_option maxRecDepth 20000 in
theorem bX5_sumRounded_14 (us : Nat → Int64) (x1 : Int32) (x2 : Int32) (s0 : Int32) {p : Program} {l : Launch} {e : Env} {s : State} {m : MethodId} {args : Array Value} {below : List Frame} {meth : Method} {c : Code} {dC : Nat → ClassId} {dI : Nat → Nat → Nat} {r : Nat → Nat} {cA : Nat → ClassId} {Rg : Nat → Prop} {H : Heap} {locs : List Loc} {uf : Nat → Int32} {ua : Nat → Nat → Int32} {h0 : Nat} {ls : Array Slot} (C : bx_C p s m args meth c cX5_sumRounded 12 (some .long) RX5) (hl : lv_has ls 12 [(0, .ref h0), (1, .int x1), (2, .int x2)]) (hw : hW (dC, dI) (md_T cA) Rg s H locs (md_W h0 r cA uf ua us)) (post : (Int64 × (Nat → Int64)) → Prop) (hq : post (fX5_sumRounded_14 us x1 x2 s0)) : W p l e rmX5_sumRounded s m args below meth c H locs 0 0 (MQ below (va_Ql (fun r u => post (r, u)) (hBk (dC, dI) (md_T cA) Rg (fun u => md_W h0 r cA uf ua u)) Rg) args s 0 0 Rg) (F0 m 14 ls [.int s0]) := by
  obtain ⟨hx, hb, hml, hr, hlocks, hown, hts⟩ := id C
  unfold fX5_sumRounded_14 at hq
  refine lv_istore_n (lv' := [(3, .int s0), (0, .ref h0), (1, .int x1), (2, .int x2)]) hx hb dX5_sumRounded_14 rfl hl (by decide) rfl (fun ls hl => ?_)
  refine lv_iload_n hx hb dX5_sumRounded_15 rfl (lv_at hl 0 rfl) ?_
  refine lv_if_eq (tgt := 57) hx hb dX5_sumRounded_16 (by decide) (fun c2 => ?_) (fun c2 => ?_)
  · rw [if_pos c2] at hq
    exact bX5_sumRounded_57 us x1 x2 s0 C (lv_sub hl [1, 2, 3, 0] rfl) hw post hq
  · rw [if_neg c2] at hq
    refine lv_iconst (v := 0) hx hb dX5_sumRounded_19 (by decide) ?_
    refine lv_istore (lv' := [(4, .int (0 : Int32)), (3, .int s0), (0, .ref h0), (1, .int x1), (2, .int x2)]) hx hb dX5_sumRounded_20 hl (by decide) rfl (fun ls hl => ?_)
    exact lX5_sumRounded_22 x1 x2 s0 C (fun t => post (fX5_sumRounded_51 t.1 x1 x2 s0)) (fun ous o4 ls H locs hi hl hw hq => bX5_sumRounded_51 ous x1 x2 s0 C (lv_sub hl [0, 1, 2, 3] rfl) hw post hq) (Nat.succ ((Int32.toInt (290) - Int32.toInt (0 : Int32)).toNat)) us (0 : Int32) _ _ _ (Nat.lt_succ_self _) (by decide) (lv_sub hl [2, 3, 4, 1, 0] rfl) hw hq
set_option maxRecDepth 20000 in
theorem bX5_sumRounded_0 (us : Nat → Int64) (x1 : Int32) (x2 : Int32) {p : Program} {l : Launch} {e : Env} {s : State} {m : MethodId} {args : Array Value} {below : List Frame} {meth : Method} {c : Code} {dC : Nat → ClassId} {dI : Nat → Nat → Nat} {r : Nat → Nat} {cA : Nat → ClassId} {Rg : Nat → Prop} {H : Heap} {locs : List Loc} {uf : Nat → Int32} {ua : Nat → Nat → Int32} {h0 : Nat} {ls : Array Slot} (C : bx_C p s m args meth c cX5_sumRounded 12 (some .long) RX5) (hl : lv_has ls 12 [(0, .ref h0), (1, .int x1), (2, .int x2)]) (hw : hW (dC, dI) (md_T cA) Rg s H locs (md_W h0 r cA uf ua us)) (post : (Int64 × (Nat → Int64)) → Prop) (hq : post (fX5_sumRounded us x1 x2)) : W p l e rmX5_sumRounded s m args below meth c H locs 0 0 (MQ below (va_Ql (fun r u => post (r, u)) (hBk (dC, dI) (md_T cA) Rg (fun u => md_W h0 r cA uf ua u)) Rg) args s 0 0 Rg) (F0 m 0 ls []) := by
  obtain ⟨hx, hb, hml, hr, hlocks, hown, hts⟩ := id C
  unfold fX5_sumRounded at hq
  refine lv_aload_n hx hb dX5_sumRounded_0 rfl (lv_at hl 0 rfl) ?_
  refine hx_cl (Wf := (fun u => md_W h0 r cA uf ua u)) (u0 := us) (F := (fX5_carry us)) C (fun sz => kX5_carry l dC dI h0 r cA sz uf ua us) (fun _ => bx_B_true) (fun _ _ _ => trivial) hw rfl rfl tw_methodLink_RX5_94_yX5_carry mbX5_carry rfl ⟨rfl, rfl⟩ ⟨Nat.le_of_ble_eq_true rfl, Nat.le_of_ble_eq_true rfl⟩ ⟨Nat.zero_le _, Nat.zero_le _⟩ hl.1 rfl (Nat.le_of_ble_eq_true rfl) dX5_sumRounded_1 (fun H locs hw => ?_)
  have hw : hW (dC, dI) (md_T cA) Rg s H locs (md_W h0 r cA uf ua ((fX5_carry us).2)) := hw
  refine lv_lconst (v := 0) hx hb dX5_sumRounded_4 (by decide) ?_
  refine bx_lc_ge (tgt := 13) hx hb dX5_sumRounded_5 dX5_sumRounded_6 (by decide) (fun c1 => ?_) (fun c1 => ?_)
  · rw [if_pos c1] at hq
    refine lv_iconst (v := 0) hx hb dX5_sumRounded_13 (by decide) ?_
    exact bX5_sumRounded_14 ((fX5_carry us).2) x1 x2 (0 : Int32) C (lv_sub hl [0, 1, 2] rfl) hw post hq
  · rw [if_neg c1] at hq
    refine lv_iconst (v := 1) hx hb dX5_sumRounded_9 (by decide) ?_
    refine lv_goto (tgt := 14) hx hb dX5_sumRounded_10 (by decide) ?_
    exact bX5_sumRounded_14 ((fX5_carry us).2) x1 x2 (1 : Int32) C (lv_sub hl [0, 1, 2] rfl) hw post hq
theorem kX5_sumRounded (l : Launch) (dC : Nat → ClassId) (dI : Nat → Nat → Nat) (h0 : Nat) (r : Nat → Nat) (cA : Nat → ClassId) (sz : Nat) (uf : Nat → Int32) (ua : Nat → Nat → Int32) (us : Nat → Int64) (x1 : Int32) (x2 : Int32) : Met l yX5_sumRounded (Cond.code yX5_sumRounded cX5_sumRounded 12 (some .long) :: bw) rmX5_sumRounded (hPc [.ref h0, .int x1, .int x2] (dC, dI) (md_T cA) (md_W h0 r cA uf ua us) sz (fun _ => True)) (va_Ql (fun r u => (r, u) = fX5_sumRounded us x1 x2) (hBk (dC, dI) (md_T cA) (va_A (md_W h0 r cA uf ua us) sz) (fun u => md_W h0 r cA uf ua u)) (va_A (md_W h0 r cA uf ua us) sz)) 0 0 (va_A (md_W h0 r cA uf ua us) sz) := by
  refine hx_ent (by decide) _ _ (Nat.le_of_ble_eq_true rfl) rfl ?_
  intro p e s m below meth c ls C hl hw hsz _
  exact bX5_sumRounded_0 us x1 x2 C hl hw (fun q => q = fX5_sumRounded us x1 x2) rfl
def fX5_add_18 (us : Nat → Int64) (x5 : Int32) : Int64 × (Nat → Int64) :=
  ((fX5_nan x5), us)
def fX5_add_95 (us : Nat → Int64) (x1 : Int64) (x3 : Int64) (x5 : Int32) : Int64 × (Nat → Int64) :=
  if (fX5_isInfinite x1 x5) = 0 then (x3, us)
  else (x1, us)
def fX5_add_64 (us : Nat → Int64) (x1 : Int64) (x3 : Int64) (x5 : Int32) (x6 : Int32) : Int64 × (Nat → Int64) :=
  if (fX5_isInfinite x1 x5) = 0 then fX5_add_95 us x1 x3 x5
  else if (fX5_isInfinite x3 x5) = 0 then fX5_add_95 us x1 x3 x5
    else if x6 = 0 then fX5_add_95 us x1 x3 x5
      else ((fX5_nan x5), us)
def fX5_add_182 (us : Nat → Int64) (x5 : Int32) (s1 : Int32) : Int64 × (Nat → Int64) :=
  ((fX5_sumRounded us s1 x5).1, (fX5_sumRounded us s1 x5).2)
def fX5_add_181 (us : Nat → Int64) (x5 : Int32) : Int64 × (Nat → Int64) :=
  fX5_add_182 us x5 (0 : Int32)
def fX5_add_44 (us : Nat → Int64) (x1 : Int64) (x3 : Int64) (x5 : Int32) (s0 : Int32) : Int64 × (Nat → Int64) :=
  if (fX5_isInfinite x1 x5) = 0 then if (fX5_isInfinite x3 x5) = 0 then if (fX5_isNegative x1 x5) = 0 then fX5_add_181 (fX5_addTo (fX5_addTo (fX5_clearSum us) (fX5_isNegative x1 x5) (fX5_digitsOf x1 x5) (fX5_exponentOf x1 x5)) (fX5_isNegative x3 x5) (fX5_digitsOf x3 x5) (fX5_exponentOf x3 x5)) x5
      else if (fX5_isNegative x3 x5) = 0 then fX5_add_181 (fX5_addTo (fX5_addTo (fX5_clearSum us) (fX5_isNegative x1 x5) (fX5_digitsOf x1 x5) (fX5_exponentOf x1 x5)) (fX5_isNegative x3 x5) (fX5_digitsOf x3 x5) (fX5_exponentOf x3 x5)) x5
        else fX5_add_182 (fX5_addTo (fX5_addTo (fX5_clearSum us) (fX5_isNegative x1 x5) (fX5_digitsOf x1 x5) (fX5_exponentOf x1 x5)) (fX5_isNegative x3 x5) (fX5_digitsOf x3 x5) (fX5_exponentOf x3 x5)) x5 (1 : Int32)
    else fX5_add_64 us x1 x3 x5 s0
  else fX5_add_64 us x1 x3 x5 s0
def fX5_add (us : Nat → Int64) (x1 : Int64) (x3 : Int64) (x5 : Int32) : Int64 × (Nat → Int64) :=
  if (fX5_isNan x1 x5) = 0 then if (fX5_isNan x3 x5) = 0 then if (fX5_isNegative x1 x5) = (fX5_isNegative x3 x5) then fX5_add_44 us x1 x3 x5 (0 : Int32)
      else fX5_add_44 us x1 x3 x5 (1 : Int32)
    else fX5_add_18 us x5
  else fX5_add_18 us x5
abbrev rmX5_add : Room := { frames := 4, cells := 0, slots := 0, locals := 111 }
theorem mbX5_add : mb_V RX5 yX5_add cX5_add 7 (some .long) 3 := ⟨⟨tw_instanceMethod_yX5_add, tw_selects_RX5_yX5_add_yX5_add, tw_initialized_RX5, tw_code_yX5_add⟩, rfl, by decide +kernel, by decide +kernel, by decide +kernel⟩
set_option maxRecDepth 20000 in
theorem bX5_add_18 (us : Nat → Int64) (x5 : Int32) {p : Program} {l : Launch} {e : Env} {s : State} {m : MethodId} {args : Array Value} {below : List Frame} {meth : Method} {c : Code} {dC : Nat → ClassId} {dI : Nat → Nat → Nat} {r : Nat → Nat} {cA : Nat → ClassId} {Rg : Nat → Prop} {H : Heap} {locs : List Loc} {uf : Nat → Int32} {ua : Nat → Nat → Int32} {h0 : Nat} {ls : Array Slot} (C : bx_C p s m args meth c cX5_add 7 (some .long) RX5) (hl : lv_has ls 7 [(5, .int x5)]) (hw : hW (dC, dI) (md_T cA) Rg s H locs (md_W h0 r cA uf ua us)) (post : (Int64 × (Nat → Int64)) → Prop) (hq : post (fX5_add_18 us x5)) : W p l e rmX5_add s m args below meth c H locs 0 0 (MQ below (va_Ql (fun r u => post (r, u)) (hBk (dC, dI) (md_T cA) Rg (fun u => md_W h0 r cA uf ua u)) Rg) args s 0 0 Rg) (F0 m 18 ls []) := by
  obtain ⟨hx, hb, hml, hr, hlocks, hown, hts⟩ := id C
  unfold fX5_add_18 at hq
  refine lv_iload hx hb dX5_add_18 (lv_at hl 0 rfl) ?_
  refine bx_sl C (kX5_nan l x5) bx_B_true (fun _ _ _ => trivial) tw_methodLink_RX5_106_yX5_nan mbX5_nan rfl ⟨rfl, rfl⟩ ⟨Nat.le_of_ble_eq_true rfl, Nat.le_of_ble_eq_true rfl⟩ ⟨Nat.zero_le _, Nat.zero_le _⟩ hl.1 rfl (Nat.le_of_ble_eq_true rfl) dX5_add_20 ?_
  exact hx_lret (Wf := (fun u => md_W h0 r cA uf ua u)) (post := post) (v := (fX5_nan x5)) (u := us) hx hb hr hlocks hw hq dX5_add_23
set_option maxRecDepth 20000 in
theorem bX5_add_95 (us : Nat → Int64) (x1 : Int64) (x3 : Int64) (x5 : Int32) {p : Program} {l : Launch} {e : Env} {s : State} {m : MethodId} {args : Array Value} {below : List Frame} {meth : Method} {c : Code} {dC : Nat → ClassId} {dI : Nat → Nat → Nat} {r : Nat → Nat} {cA : Nat → ClassId} {Rg : Nat → Prop} {H : Heap} {locs : List Loc} {uf : Nat → Int32} {ua : Nat → Nat → Int32} {h0 : Nat} {ls : Array Slot} (C : bx_C p s m args meth c cX5_add 7 (some .long) RX5) (hl : lv_has ls 7 [(1, .long x1), (3, .long x3), (5, .int x5)]) (hw : hW (dC, dI) (md_T cA) Rg s H locs (md_W h0 r cA uf ua us)) (post : (Int64 × (Nat → Int64)) → Prop) (hq : post (fX5_add_95 us x1 x3 x5)) : W p l e rmX5_add s m args below meth c H locs 0 0 (MQ below (va_Ql (fun r u => post (r, u)) (hBk (dC, dI) (md_T cA) Rg (fun u => md_W h0 r cA uf ua u)) Rg) args s 0 0 Rg) (F0 m 95 ls []) := by
  obtain ⟨hx, hb, hml, hr, hlocks, hown, hts⟩ := id C
  unfold fX5_add_95 at hq
  refine lv_lload_n hx hb dX5_add_95 rfl (lv_at hl 0 rfl) ?_
  refine lv_iload hx hb dX5_add_96 (lv_at hl 2 rfl) ?_
  refine bx_si C (kX5_isInfinite l x1 x5) bx_B_true (fun _ _ _ => trivial) tw_methodLink_RX5_112_yX5_isInfinite mbX5_isInfinite rfl ⟨rfl, rfl⟩ ⟨Nat.le_of_ble_eq_true rfl, Nat.le_of_ble_eq_true rfl⟩ ⟨Nat.zero_le _, Nat.zero_le _⟩ hl.1 rfl (Nat.le_of_ble_eq_true rfl) dX5_add_98 ?_
  refine lv_if_eq (tgt := 108) hx hb dX5_add_101 (by decide) (fun c6 => ?_) (fun c6 => ?_)
  · rw [if_pos c6] at hq
    refine lv_lload_n hx hb dX5_add_108 rfl (lv_at hl 1 rfl) ?_
    exact hx_lret (Wf := (fun u => md_W h0 r cA uf ua u)) (post := post) (v := x3) (u := us) hx hb hr hlocks hw hq dX5_add_109
  · rw [if_neg c6] at hq
    refine lv_lload_n hx hb dX5_add_104 rfl (lv_at hl 0 rfl) ?_
    refine lv_goto (tgt := 109) hx hb dX5_add_105 (by decide) ?_
    exact hx_lret (Wf := (fun u => md_W h0 r cA uf ua u)) (post := post) (v := x1) (u := us) hx hb hr hlocks hw hq dX5_add_109
set_option maxRecDepth 20000 in
theorem bX5_add_64 (us : Nat → Int64) (x1 : Int64) (x3 : Int64) (x5 : Int32) (x6 : Int32) {p : Program} {l : Launch} {e : Env} {s : State} {m : MethodId} {args : Array Value} {below : List Frame} {meth : Method} {c : Code} {dC : Nat → ClassId} {dI : Nat → Nat → Nat} {r : Nat → Nat} {cA : Nat → ClassId} {Rg : Nat → Prop} {H : Heap} {locs : List Loc} {uf : Nat → Int32} {ua : Nat → Nat → Int32} {h0 : Nat} {ls : Array Slot} (C : bx_C p s m args meth c cX5_add 7 (some .long) RX5) (hl : lv_has ls 7 [(1, .long x1), (3, .long x3), (5, .int x5), (6, .int x6)]) (hw : hW (dC, dI) (md_T cA) Rg s H locs (md_W h0 r cA uf ua us)) (post : (Int64 × (Nat → Int64)) → Prop) (hq : post (fX5_add_64 us x1 x3 x5 x6)) : W p l e rmX5_add s m args below meth c H locs 0 0 (MQ below (va_Ql (fun r u => post (r, u)) (hBk (dC, dI) (md_T cA) Rg (fun u => md_W h0 r cA uf ua u)) Rg) args s 0 0 Rg) (F0 m 64 ls []) := by
  obtain ⟨hx, hb, hml, hr, hlocks, hown, hts⟩ := id C
  unfold fX5_add_64 at hq
  refine lv_lload_n hx hb dX5_add_64 rfl (lv_at hl 0 rfl) ?_
  refine lv_iload hx hb dX5_add_65 (lv_at hl 2 rfl) ?_
  refine bx_si C (kX5_isInfinite l x1 x5) bx_B_true (fun _ _ _ => trivial) tw_methodLink_RX5_112_yX5_isInfinite mbX5_isInfinite rfl ⟨rfl, rfl⟩ ⟨Nat.le_of_ble_eq_true rfl, Nat.le_of_ble_eq_true rfl⟩ ⟨Nat.zero_le _, Nat.zero_le _⟩ hl.1 rfl (Nat.le_of_ble_eq_true rfl) dX5_add_67 ?_
  refine lv_if_eq (tgt := 95) hx hb dX5_add_70 (by decide) (fun c5 => ?_) (fun c5 => ?_)
  · rw [if_pos c5] at hq
    exact bX5_add_95 us x1 x3 x5 C (lv_sub hl [0, 1, 2] rfl) hw post hq
  · rw [if_neg c5] at hq
    refine lv_lload_n hx hb dX5_add_73 rfl (lv_at hl 1 rfl) ?_
    refine lv_iload hx hb dX5_add_74 (lv_at hl 2 rfl) ?_
    refine bx_si C (kX5_isInfinite l x3 x5) bx_B_true (fun _ _ _ => trivial) tw_methodLink_RX5_112_yX5_isInfinite mbX5_isInfinite rfl ⟨rfl, rfl⟩ ⟨Nat.le_of_ble_eq_true rfl, Nat.le_of_ble_eq_true rfl⟩ ⟨Nat.zero_le _, Nat.zero_le _⟩ hl.1 rfl (Nat.le_of_ble_eq_true rfl) dX5_add_76 ?_
    refine lv_if_eq (tgt := 95) hx hb dX5_add_79 (by decide) (fun c7 => ?_) (fun c7 => ?_)
    · rw [if_pos c7] at hq
      exact bX5_add_95 us x1 x3 x5 C (lv_sub hl [0, 1, 2] rfl) hw post hq
    · rw [if_neg c7] at hq
      refine lv_iload hx hb dX5_add_82 (lv_at hl 3 rfl) ?_
      refine lv_if_eq (tgt := 95) hx hb dX5_add_84 (by decide) (fun c8 => ?_) (fun c8 => ?_)
      · rw [if_pos c8] at hq
        exact bX5_add_95 us x1 x3 x5 C (lv_sub hl [0, 1, 2] rfl) hw post hq
      · rw [if_neg c8] at hq
        refine lv_iload hx hb dX5_add_87 (lv_at hl 2 rfl) ?_
        refine bx_sl C (kX5_nan l x5) bx_B_true (fun _ _ _ => trivial) tw_methodLink_RX5_106_yX5_nan mbX5_nan rfl ⟨rfl, rfl⟩ ⟨Nat.le_of_ble_eq_true rfl, Nat.le_of_ble_eq_true rfl⟩ ⟨Nat.zero_le _, Nat.zero_le _⟩ hl.1 rfl (Nat.le_of_ble_eq_true rfl) dX5_add_89 ?_
        refine lv_goto (tgt := 109) hx hb dX5_add_92 (by decide) ?_
        exact hx_lret (Wf := (fun u => md_W h0 r cA uf ua u)) (post := post) (v := (fX5_nan x5)) (u := us) hx hb hr hlocks hw hq dX5_add_109
set_option maxRecDepth 20000 in
theorem bX5_add_182 (us : Nat → Int64) (x5 : Int32) (s1 : Int32) {p : Program} {l : Launch} {e : Env} {s : State} {m : MethodId} {args : Array Value} {below : List Frame} {meth : Method} {c : Code} {dC : Nat → ClassId} {dI : Nat → Nat → Nat} {r : Nat → Nat} {cA : Nat → ClassId} {Rg : Nat → Prop} {H : Heap} {locs : List Loc} {uf : Nat → Int32} {ua : Nat → Nat → Int32} {h0 : Nat} {ls : Array Slot} (C : bx_C p s m args meth c cX5_add 7 (some .long) RX5) (hl : lv_has ls 7 [(5, .int x5)]) (hw : hW (dC, dI) (md_T cA) Rg s H locs (md_W h0 r cA uf ua us)) (post : (Int64 × (Nat → Int64)) → Prop) (hq : post (fX5_add_182 us x5 s1)) : W p l e rmX5_add s m args below meth c H locs 0 0 (MQ below (va_Ql (fun r u => post (r, u)) (hBk (dC, dI) (md_T cA) Rg (fun u => md_W h0 r cA uf ua u)) Rg) args s 0 0 Rg) (F0 m 182 ls [.int s1, .ref h0]) := by
  obtain ⟨hx, hb, hml, hr, hlocks, hown, hts⟩ := id C
  unfold fX5_add_182 at hq
  refine lv_iload hx hb dX5_add_182 (lv_at hl 0 rfl) ?_
  refine hx_cl (Wf := (fun u => md_W h0 r cA uf ua u)) (u0 := us) (F := (fX5_sumRounded us s1 x5)) C (fun sz => kX5_sumRounded l dC dI h0 r cA sz uf ua us s1 x5) (fun _ => bx_B_true) (fun _ _ _ => trivial) hw rfl rfl tw_methodLink_RX5_124_yX5_sumRounded mbX5_sumRounded rfl ⟨rfl, rfl⟩ ⟨Nat.le_of_ble_eq_true rfl, Nat.le_of_ble_eq_true rfl⟩ ⟨Nat.zero_le _, Nat.zero_le _⟩ hl.1 rfl (Nat.le_of_ble_eq_true rfl) dX5_add_184 (fun H locs hw => ?_)
  have hw : hW (dC, dI) (md_T cA) Rg s H locs (md_W h0 r cA uf ua ((fX5_sumRounded us s1 x5).2)) := hw
  exact hx_lret (Wf := (fun u => md_W h0 r cA uf ua u)) (post := post) (v := (fX5_sumRounded us s1 x5).1) (u := (fX5_sumRounded us s1 x5).2) hx hb hr hlocks hw hq dX5_add_187
set_option maxRecDepth 20000 in
theorem bX5_add_181 (us : Nat → Int64) (x5 : Int32) {p : Program} {l : Launch} {e : Env} {s : State} {m : MethodId} {args : Array Value} {below : List Frame} {meth : Method} {c : Code} {dC : Nat → ClassId} {dI : Nat → Nat → Nat} {r : Nat → Nat} {cA : Nat → ClassId} {Rg : Nat → Prop} {H : Heap} {locs : List Loc} {uf : Nat → Int32} {ua : Nat → Nat → Int32} {h0 : Nat} {ls : Array Slot} (C : bx_C p s m args meth c cX5_add 7 (some .long) RX5) (hl : lv_has ls 7 [(5, .int x5)]) (hw : hW (dC, dI) (md_T cA) Rg s H locs (md_W h0 r cA uf ua us)) (post : (Int64 × (Nat → Int64)) → Prop) (hq : post (fX5_add_181 us x5)) : W p l e rmX5_add s m args below meth c H locs 0 0 (MQ below (va_Ql (fun r u => post (r, u)) (hBk (dC, dI) (md_T cA) Rg (fun u => md_W h0 r cA uf ua u)) Rg) args s 0 0 Rg) (F0 m 181 ls [.ref h0]) := by
  obtain ⟨hx, hb, hml, hr, hlocks, hown, hts⟩ := id C
  unfold fX5_add_181 at hq
  refine lv_iconst (v := 0) hx hb dX5_add_181 (by decide) ?_
  exact bX5_add_182 us x5 (0 : Int32) C (lv_sub hl [0] rfl) hw post hq
set_option maxRecDepth 20000 in
theorem bX5_add_44 (us : Nat → Int64) (x1 : Int64) (x3 : Int64) (x5 : Int32) (s0 : Int32) {p : Program} {l : Launch} {e : Env} {s : State} {m : MethodId} {args : Array Value} {below : List Frame} {meth : Method} {c : Code} {dC : Nat → ClassId} {dI : Nat → Nat → Nat} {r : Nat → Nat} {cA : Nat → ClassId} {Rg : Nat → Prop} {H : Heap} {locs : List Loc} {uf : Nat → Int32} {ua : Nat → Nat → Int32} {h0 : Nat} {ls : Array Slot} (C : bx_C p s m args meth c cX5_add 7 (some .long) RX5) (hl : lv_has ls 7 [(0, .ref h0), (1, .long x1), (3, .long x3), (5, .int x5)]) (hw : hW (dC, dI) (md_T cA) Rg s H locs (md_W h0 r cA uf ua us)) (e1 : okE x1 x5) (e3 : okE x3 x5) (post : (Int64 × (Nat → Int64)) → Prop) (hq : post (fX5_add_44 us x1 x3 x5 s0)) : W p l e rmX5_add s m args below meth c H locs 0 0 (MQ below (va_Ql (fun r u => post (r, u)) (hBk (dC, dI) (md_T cA) Rg (fun u => md_W h0 r cA uf ua u)) Rg) args s 0 0 Rg) (F0 m 44 ls [.int s0]) := by
  obtain ⟨hx, hb, hml, hr, hlocks, hown, hts⟩ := id C
  unfold fX5_add_44 at hq
  refine lv_istore (lv' := [(6, .int s0), (0, .ref h0), (1, .long x1), (3, .long x3), (5, .int x5)]) hx hb dX5_add_44 hl (by decide) rfl (fun ls hl => ?_)
  refine lv_lload_n hx hb dX5_add_46 rfl (lv_at hl 2 rfl) ?_
  refine lv_iload hx hb dX5_add_47 (lv_at hl 4 rfl) ?_
  refine bx_si C (kX5_isInfinite l x1 x5) bx_B_true (fun _ _ _ => trivial) tw_methodLink_RX5_112_yX5_isInfinite mbX5_isInfinite rfl ⟨rfl, rfl⟩ ⟨Nat.le_of_ble_eq_true rfl, Nat.le_of_ble_eq_true rfl⟩ ⟨Nat.zero_le _, Nat.zero_le _⟩ hl.1 rfl (Nat.le_of_ble_eq_true rfl) dX5_add_49 ?_
  refine lv_if_ne (tgt := 64) hx hb dX5_add_52 (by decide) (fun c4 => ?_) (fun c4 => ?_)
  · rw [if_neg c4] at hq
    exact bX5_add_64 us x1 x3 x5 s0 C (lv_sub hl [2, 3, 4, 0] rfl) hw post hq
  · rw [if_pos c4] at hq
    refine lv_lload_n hx hb dX5_add_55 rfl (lv_at hl 3 rfl) ?_
    refine lv_iload hx hb dX5_add_56 (lv_at hl 4 rfl) ?_
    refine bx_si C (kX5_isInfinite l x3 x5) bx_B_true (fun _ _ _ => trivial) tw_methodLink_RX5_112_yX5_isInfinite mbX5_isInfinite rfl ⟨rfl, rfl⟩ ⟨Nat.le_of_ble_eq_true rfl, Nat.le_of_ble_eq_true rfl⟩ ⟨Nat.zero_le _, Nat.zero_le _⟩ hl.1 rfl (Nat.le_of_ble_eq_true rfl) dX5_add_58 ?_
    refine lv_if_eq (tgt := 110) hx hb dX5_add_61 (by decide) (fun c9 => ?_) (fun c9 => ?_)
    · rw [if_pos c9] at hq
      refine lv_aload_n hx hb dX5_add_110 rfl (lv_at hl 1 rfl) ?_
      refine hx_cv (Wf := (fun u => md_W h0 r cA uf ua u)) (u0 := us) (F := (fX5_clearSum us)) C (fun sz => kX5_clearSum l dC dI h0 r cA sz uf ua us) (fun _ => bx_B_true) (fun _ _ _ => trivial) hw rfl rfl tw_methodLink_RX5_115_yX5_clearSum mbX5_clearSum rfl ⟨rfl, rfl⟩ ⟨Nat.le_of_ble_eq_true rfl, Nat.le_of_ble_eq_true rfl⟩ ⟨Nat.zero_le _, Nat.zero_le _⟩ hl.1 rfl (Nat.le_of_ble_eq_true rfl) dX5_add_111 (fun H locs hw => ?_)
      have hw : hW (dC, dI) (md_T cA) Rg s H locs (md_W h0 r cA uf ua (fX5_clearSum us)) := hw
      refine lv_aload_n hx hb dX5_add_114 rfl (lv_at hl 1 rfl) ?_
      refine lv_lload_n hx hb dX5_add_115 rfl (lv_at hl 2 rfl) ?_
      refine lv_iload hx hb dX5_add_116 (lv_at hl 4 rfl) ?_
      refine bx_si C (kX5_isNegative l x1 x5) bx_B_true (fun _ _ _ => trivial) tw_methodLink_RX5_109_yX5_isNegative mbX5_isNegative rfl ⟨rfl, rfl⟩ ⟨Nat.le_of_ble_eq_true rfl, Nat.le_of_ble_eq_true rfl⟩ ⟨Nat.zero_le _, Nat.zero_le _⟩ hl.1 rfl (Nat.le_of_ble_eq_true rfl) dX5_add_118 ?_
      refine lv_lload_n hx hb dX5_add_121 rfl (lv_at hl 2 rfl) ?_
      refine lv_iload hx hb dX5_add_122 (lv_at hl 4 rfl) ?_
      refine bx_sl C (kX5_digitsOf l x1 x5) bx_B_true (fun _ _ _ => trivial) tw_methodLink_RX5_118_yX5_digitsOf mbX5_digitsOf rfl ⟨rfl, rfl⟩ ⟨Nat.le_of_ble_eq_true rfl, Nat.le_of_ble_eq_true rfl⟩ ⟨Nat.zero_le _, Nat.zero_le _⟩ hl.1 rfl (Nat.le_of_ble_eq_true rfl) dX5_add_124 ?_
      refine lv_lload_n hx hb dX5_add_127 rfl (lv_at hl 2 rfl) ?_
      refine lv_iload hx hb dX5_add_128 (lv_at hl 4 rfl) ?_
      refine bx_si C (kX5_exponentOf l x1 x5) bx_B_true (fun _ _ _ => trivial) tw_methodLink_RX5_121_yX5_exponentOf mbX5_exponentOf rfl ⟨rfl, rfl⟩ ⟨Nat.le_of_ble_eq_true rfl, Nat.le_of_ble_eq_true rfl⟩ ⟨Nat.zero_le _, Nat.zero_le _⟩ hl.1 rfl (Nat.le_of_ble_eq_true rfl) dX5_add_130 ?_
      refine hx_cv (Wf := (fun u => md_W h0 r cA uf ua u)) (u0 := (fX5_clearSum us)) (F := (fX5_addTo (fX5_clearSum us) (fX5_isNegative x1 x5) (fX5_digitsOf x1 x5) (fX5_exponentOf x1 x5))) C (fun sz => kX5_addTo l dC dI h0 r cA sz uf ua (fX5_clearSum us) (fX5_isNegative x1 x5) (fX5_digitsOf x1 x5) (fX5_exponentOf x1 x5) (sd_he e1)) (fun _ => bx_B_true) (fun _ _ _ => trivial) hw rfl rfl tw_methodLink_RX5_90_yX5_addTo mbX5_addTo rfl ⟨rfl, rfl⟩ ⟨Nat.le_of_ble_eq_true rfl, Nat.le_of_ble_eq_true rfl⟩ ⟨Nat.zero_le _, Nat.zero_le _⟩ hl.1 rfl (Nat.le_of_ble_eq_true rfl) dX5_add_133 (fun H locs hw => ?_)
      have hw : hW (dC, dI) (md_T cA) Rg s H locs (md_W h0 r cA uf ua (fX5_addTo (fX5_clearSum us) (fX5_isNegative x1 x5) (fX5_digitsOf x1 x5) (fX5_exponentOf x1 x5))) := hw
      refine lv_aload_n hx hb dX5_add_136 rfl (lv_at hl 1 rfl) ?_
      refine lv_lload_n hx hb dX5_add_137 rfl (lv_at hl 3 rfl) ?_
      refine lv_iload hx hb dX5_add_138 (lv_at hl 4 rfl) ?_
      refine bx_si C (kX5_isNegative l x3 x5) bx_B_true (fun _ _ _ => trivial) tw_methodLink_RX5_109_yX5_isNegative mbX5_isNegative rfl ⟨rfl, rfl⟩ ⟨Nat.le_of_ble_eq_true rfl, Nat.le_of_ble_eq_true rfl⟩ ⟨Nat.zero_le _, Nat.zero_le _⟩ hl.1 rfl (Nat.le_of_ble_eq_true rfl) dX5_add_140 ?_
      refine lv_lload_n hx hb dX5_add_143 rfl (lv_at hl 3 rfl) ?_
      refine lv_iload hx hb dX5_add_144 (lv_at hl 4 rfl) ?_
      refine bx_sl C (kX5_digitsOf l x3 x5) bx_B_true (fun _ _ _ => trivial) tw_methodLink_RX5_118_yX5_digitsOf mbX5_digitsOf rfl ⟨rfl, rfl⟩ ⟨Nat.le_of_ble_eq_true rfl, Nat.le_of_ble_eq_true rfl⟩ ⟨Nat.zero_le _, Nat.zero_le _⟩ hl.1 rfl (Nat.le_of_ble_eq_true rfl) dX5_add_146 ?_
      refine lv_lload_n hx hb dX5_add_149 rfl (lv_at hl 3 rfl) ?_
      refine lv_iload hx hb dX5_add_150 (lv_at hl 4 rfl) ?_
      refine bx_si C (kX5_exponentOf l x3 x5) bx_B_true (fun _ _ _ => trivial) tw_methodLink_RX5_121_yX5_exponentOf mbX5_exponentOf rfl ⟨rfl, rfl⟩ ⟨Nat.le_of_ble_eq_true rfl, Nat.le_of_ble_eq_true rfl⟩ ⟨Nat.zero_le _, Nat.zero_le _⟩ hl.1 rfl (Nat.le_of_ble_eq_true rfl) dX5_add_152 ?_
      refine hx_cv (Wf := (fun u => md_W h0 r cA uf ua u)) (u0 := (fX5_addTo (fX5_clearSum us) (fX5_isNegative x1 x5) (fX5_digitsOf x1 x5) (fX5_exponentOf x1 x5))) (F := (fX5_addTo (fX5_addTo (fX5_clearSum us) (fX5_isNegative x1 x5) (fX5_digitsOf x1 x5) (fX5_exponentOf x1 x5)) (fX5_isNegative x3 x5) (fX5_digitsOf x3 x5) (fX5_exponentOf x3 x5))) C (fun sz => kX5_addTo l dC dI h0 r cA sz uf ua (fX5_addTo (fX5_clearSum us) (fX5_isNegative x1 x5) (fX5_digitsOf x1 x5) (fX5_exponentOf x1 x5)) (fX5_isNegative x3 x5) (fX5_digitsOf x3 x5) (fX5_exponentOf x3 x5) (sd_he e3)) (fun _ => bx_B_true) (fun _ _ _ => trivial) hw rfl rfl tw_methodLink_RX5_90_yX5_addTo mbX5_addTo rfl ⟨rfl, rfl⟩ ⟨Nat.le_of_ble_eq_true rfl, Nat.le_of_ble_eq_true rfl⟩ ⟨Nat.zero_le _, Nat.zero_le _⟩ hl.1 rfl (Nat.le_of_ble_eq_true rfl) dX5_add_155 (fun H locs hw => ?_)
      have hw : hW (dC, dI) (md_T cA) Rg s H locs (md_W h0 r cA uf ua (fX5_addTo (fX5_addTo (fX5_clearSum us) (fX5_isNegative x1 x5) (fX5_digitsOf x1 x5) (fX5_exponentOf x1 x5)) (fX5_isNegative x3 x5) (fX5_digitsOf x3 x5) (fX5_exponentOf x3 x5))) := hw
      refine lv_aload_n hx hb dX5_add_158 rfl (lv_at hl 1 rfl) ?_
      refine lv_lload_n hx hb dX5_add_159 rfl (lv_at hl 2 rfl) ?_
      refine lv_iload hx hb dX5_add_160 (lv_at hl 4 rfl) ?_
      refine bx_si C (kX5_isNegative l x1 x5) bx_B_true (fun _ _ _ => trivial) tw_methodLink_RX5_109_yX5_isNegative mbX5_isNegative rfl ⟨rfl, rfl⟩ ⟨Nat.le_of_ble_eq_true rfl, Nat.le_of_ble_eq_true rfl⟩ ⟨Nat.zero_le _, Nat.zero_le _⟩ hl.1 rfl (Nat.le_of_ble_eq_true rfl) dX5_add_162 ?_
      refine lv_if_eq (tgt := 181) hx hb dX5_add_165 (by decide) (fun c10 => ?_) (fun c10 => ?_)
      · rw [if_pos c10] at hq
        exact bX5_add_181 (fX5_addTo (fX5_addTo (fX5_clearSum us) (fX5_isNegative x1 x5) (fX5_digitsOf x1 x5) (fX5_exponentOf x1 x5)) (fX5_isNegative x3 x5) (fX5_digitsOf x3 x5) (fX5_exponentOf x3 x5)) x5 C (lv_sub hl [4] rfl) hw post hq
      · rw [if_neg c10] at hq
        refine lv_lload_n hx hb dX5_add_168 rfl (lv_at hl 3 rfl) ?_
        refine lv_iload hx hb dX5_add_169 (lv_at hl 4 rfl) ?_
        refine bx_si C (kX5_isNegative l x3 x5) bx_B_true (fun _ _ _ => trivial) tw_methodLink_RX5_109_yX5_isNegative mbX5_isNegative rfl ⟨rfl, rfl⟩ ⟨Nat.le_of_ble_eq_true rfl, Nat.le_of_ble_eq_true rfl⟩ ⟨Nat.zero_le _, Nat.zero_le _⟩ hl.1 rfl (Nat.le_of_ble_eq_true rfl) dX5_add_171 ?_
        refine lv_if_eq (tgt := 181) hx hb dX5_add_174 (by decide) (fun c11 => ?_) (fun c11 => ?_)
        · rw [if_pos c11] at hq
          exact bX5_add_181 (fX5_addTo (fX5_addTo (fX5_clearSum us) (fX5_isNegative x1 x5) (fX5_digitsOf x1 x5) (fX5_exponentOf x1 x5)) (fX5_isNegative x3 x5) (fX5_digitsOf x3 x5) (fX5_exponentOf x3 x5)) x5 C (lv_sub hl [4] rfl) hw post hq
        · rw [if_neg c11] at hq
          refine lv_iconst (v := 1) hx hb dX5_add_177 (by decide) ?_
          refine lv_goto (tgt := 182) hx hb dX5_add_178 (by decide) ?_
          exact bX5_add_182 (fX5_addTo (fX5_addTo (fX5_clearSum us) (fX5_isNegative x1 x5) (fX5_digitsOf x1 x5) (fX5_exponentOf x1 x5)) (fX5_isNegative x3 x5) (fX5_digitsOf x3 x5) (fX5_exponentOf x3 x5)) x5 (1 : Int32) C (lv_sub hl [4] rfl) hw post hq
    · rw [if_neg c9] at hq
      exact bX5_add_64 us x1 x3 x5 s0 C (lv_sub hl [2, 3, 4, 0] rfl) hw post hq
set_option maxRecDepth 20000 in
theorem bX5_add_0 (us : Nat → Int64) (x1 : Int64) (x3 : Int64) (x5 : Int32) {p : Program} {l : Launch} {e : Env} {s : State} {m : MethodId} {args : Array Value} {below : List Frame} {meth : Method} {c : Code} {dC : Nat → ClassId} {dI : Nat → Nat → Nat} {r : Nat → Nat} {cA : Nat → ClassId} {Rg : Nat → Prop} {H : Heap} {locs : List Loc} {uf : Nat → Int32} {ua : Nat → Nat → Int32} {h0 : Nat} {ls : Array Slot} (C : bx_C p s m args meth c cX5_add 7 (some .long) RX5) (hl : lv_has ls 7 [(0, .ref h0), (1, .long x1), (3, .long x3), (5, .int x5)]) (hw : hW (dC, dI) (md_T cA) Rg s H locs (md_W h0 r cA uf ua us)) (h1 : x5 = 0 → 0 ≤ x1.toInt) (h3 : x5 = 0 → 0 ≤ x3.toInt) (post : (Int64 × (Nat → Int64)) → Prop) (hq : post (fX5_add us x1 x3 x5)) : W p l e rmX5_add s m args below meth c H locs 0 0 (MQ below (va_Ql (fun r u => post (r, u)) (hBk (dC, dI) (md_T cA) Rg (fun u => md_W h0 r cA uf ua u)) Rg) args s 0 0 Rg) (F0 m 0 ls []) := by
  obtain ⟨hx, hb, hml, hr, hlocks, hown, hts⟩ := id C
  unfold fX5_add at hq
  refine lv_lload_n hx hb dX5_add_0 rfl (lv_at hl 1 rfl) ?_
  refine lv_iload hx hb dX5_add_1 (lv_at hl 3 rfl) ?_
  refine bx_si C (kX5_isNan l x1 x5) bx_B_true (fun _ _ _ => trivial) tw_methodLink_RX5_102_yX5_isNan mbX5_isNan rfl ⟨rfl, rfl⟩ ⟨Nat.le_of_ble_eq_true rfl, Nat.le_of_ble_eq_true rfl⟩ ⟨Nat.zero_le _, Nat.zero_le _⟩ hl.1 rfl (Nat.le_of_ble_eq_true rfl) dX5_add_3 ?_
  refine lv_if_ne (tgt := 18) hx hb dX5_add_6 (by decide) (fun c1 => ?_) (fun c1 => ?_)
  · rw [if_neg c1] at hq
    exact bX5_add_18 us x5 C (lv_sub hl [3] rfl) hw post hq
  · rw [if_pos c1] at hq
    refine lv_lload_n hx hb dX5_add_9 rfl (lv_at hl 2 rfl) ?_
    refine lv_iload hx hb dX5_add_10 (lv_at hl 3 rfl) ?_
    refine bx_si C (kX5_isNan l x3 x5) bx_B_true (fun _ _ _ => trivial) tw_methodLink_RX5_102_yX5_isNan mbX5_isNan rfl ⟨rfl, rfl⟩ ⟨Nat.le_of_ble_eq_true rfl, Nat.le_of_ble_eq_true rfl⟩ ⟨Nat.zero_le _, Nat.zero_le _⟩ hl.1 rfl (Nat.le_of_ble_eq_true rfl) dX5_add_12 ?_
    refine lv_if_eq (tgt := 24) hx hb dX5_add_15 (by decide) (fun c2 => ?_) (fun c2 => ?_)
    · rw [if_pos c2] at hq
      refine lv_lload_n hx hb dX5_add_24 rfl (lv_at hl 1 rfl) ?_
      refine lv_iload hx hb dX5_add_25 (lv_at hl 3 rfl) ?_
      refine bx_si C (kX5_isNegative l x1 x5) bx_B_true (fun _ _ _ => trivial) tw_methodLink_RX5_109_yX5_isNegative mbX5_isNegative rfl ⟨rfl, rfl⟩ ⟨Nat.le_of_ble_eq_true rfl, Nat.le_of_ble_eq_true rfl⟩ ⟨Nat.zero_le _, Nat.zero_le _⟩ hl.1 rfl (Nat.le_of_ble_eq_true rfl) dX5_add_27 ?_
      refine lv_lload_n hx hb dX5_add_30 rfl (lv_at hl 2 rfl) ?_
      refine lv_iload hx hb dX5_add_31 (lv_at hl 3 rfl) ?_
      refine bx_si C (kX5_isNegative l x3 x5) bx_B_true (fun _ _ _ => trivial) tw_methodLink_RX5_109_yX5_isNegative mbX5_isNegative rfl ⟨rfl, rfl⟩ ⟨Nat.le_of_ble_eq_true rfl, Nat.le_of_ble_eq_true rfl⟩ ⟨Nat.zero_le _, Nat.zero_le _⟩ hl.1 rfl (Nat.le_of_ble_eq_true rfl) dX5_add_33 ?_
      refine lv_icmp_eq (tgt := 43) hx hb dX5_add_36 (by decide) (fun c3 => ?_) (fun c3 => ?_)
      · rw [if_pos c3] at hq
        refine lv_iconst (v := 0) hx hb dX5_add_43 (by decide) ?_
        exact bX5_add_44 us x1 x3 x5 (0 : Int32) C (lv_sub hl [0, 1, 2, 3] rfl) hw (sd_okE h1 (by assumption)) (sd_okE h3 (by assumption)) post hq
      · rw [if_neg c3] at hq
        refine lv_iconst (v := 1) hx hb dX5_add_39 (by decide) ?_
        refine lv_goto (tgt := 44) hx hb dX5_add_40 (by decide) ?_
        exact bX5_add_44 us x1 x3 x5 (1 : Int32) C (lv_sub hl [0, 1, 2, 3] rfl) hw (sd_okE h1 (by assumption)) (sd_okE h3 (by assumption)) post hq
    · rw [if_neg c2] at hq
      exact bX5_add_18 us x5 C (lv_sub hl [3] rfl) hw post hq
theorem kX5_add (l : Launch) (dC : Nat → ClassId) (dI : Nat → Nat → Nat) (h0 : Nat) (r : Nat → Nat) (cA : Nat → ClassId) (sz : Nat) (uf : Nat → Int32) (ua : Nat → Nat → Int32) (us : Nat → Int64) (x1 : Int64) (x3 : Int64) (x5 : Int32) (h1 : x5 = 0 → 0 ≤ x1.toInt) (h3 : x5 = 0 → 0 ≤ x3.toInt) : Met l yX5_add (Cond.code yX5_add cX5_add 7 (some .long) :: bw) rmX5_add (hPc [.ref h0, .long x1, .long x3, .int x5] (dC, dI) (md_T cA) (md_W h0 r cA uf ua us) sz (fun _ => True)) (va_Ql (fun r u => (r, u) = fX5_add us x1 x3 x5) (hBk (dC, dI) (md_T cA) (va_A (md_W h0 r cA uf ua us) sz) (fun u => md_W h0 r cA uf ua u)) (va_A (md_W h0 r cA uf ua us) sz)) 0 0 (va_A (md_W h0 r cA uf ua us) sz) := by
  refine hx_ent (by decide) _ _ (Nat.le_of_ble_eq_true rfl) rfl ?_
  intro p e s m below meth c ls C hl hw hsz _
  exact bX5_add_0 us x1 x3 x5 C hl hw h1 h3 (fun q => q = fX5_add us x1 x3 x5) rfl
def fX5_fused_33 (us : Nat → Int64) (x8 : Int32) : Int64 × (Nat → Int64) :=
  ((fX5_nan x8), us)
def fX5_fused_129 (us : Nat → Int64) (x8 : Int32) (x9 : Int32) (s0 : Int32) : Int64 × (Nat → Int64) :=
  if s0 = 0 then ((fX5_infinite x9 x8), us)
  else ((fX5_nan x8), us)
def fX5_fused_124 (us : Nat → Int64) (x8 : Int32) (x9 : Int32) : Int64 × (Nat → Int64) :=
  fX5_fused_129 us x8 x9 (1 : Int32)
def fX5_fused_128 (us : Nat → Int64) (x8 : Int32) (x9 : Int32) : Int64 × (Nat → Int64) :=
  fX5_fused_129 us x8 x9 (0 : Int32)
def fX5_fused_79 (us : Nat → Int64) (x1 : Int64) (x3 : Int64) (x5 : Int64) (x7 : Int32) (x8 : Int32) (x9 : Int32) : Int64 × (Nat → Int64) :=
  if (fX5_isZero x1 x8) = 0 then if (fX5_isZero x3 x8) = 0 then if x7 = 0 then fX5_fused_128 us x8 x9
      else if (fX5_isInfinite x5 x8) = 0 then fX5_fused_128 us x8 x9
        else if (fX5_isNegative x5 x8) = x9 then fX5_fused_128 us x8 x9
          else fX5_fused_124 us x8 x9
    else fX5_fused_124 us x8 x9
  else fX5_fused_124 us x8 x9
def fX5_fused_301 (us : Nat → Int64) (x8 : Int32) (x10 : Int32) : Int64 × (Nat → Int64) :=
  ((fX5_sumRounded us x10 x8).1, (fX5_sumRounded us x10 x8).2)
def fX5_fused_299 (us : Nat → Int64) (x8 : Int32) (s0 : Int32) : Int64 × (Nat → Int64) :=
  fX5_fused_301 us x8 s0
def fX5_fused_298 (us : Nat → Int64) (x8 : Int32) : Int64 × (Nat → Int64) :=
  fX5_fused_299 us x8 (0 : Int32)
def fX5_fused_272 (us : Nat → Int64) (x5 : Int64) (x8 : Int32) (x9 : Int32) (s0 : Int32) : Int64 × (Nat → Int64) :=
  if s0 = 0 then fX5_fused_298 us x8
  else if x9 = 0 then fX5_fused_298 us x8
    else if (fX5_isNegative x5 x8) = 0 then fX5_fused_298 us x8
      else fX5_fused_299 us x8 (1 : Int32)
def fX5_fused_271 (us : Nat → Int64) (x5 : Int64) (x8 : Int32) (x9 : Int32) : Int64 × (Nat → Int64) :=
  fX5_fused_272 us x5 x8 x9 (0 : Int32)
def fX5_fused_267 (us : Nat → Int64) (x5 : Int64) (x8 : Int32) (x9 : Int32) : Int64 × (Nat → Int64) :=
  fX5_fused_272 us x5 x8 x9 (1 : Int32)
def fX5_fused_170 (us : Nat → Int64) (x1 : Int64) (x3 : Int64) (x5 : Int64) (x7 : Int32) (x8 : Int32) (x9 : Int32) : Int64 × (Nat → Int64) :=
  if x7 = 0 then fX5_fused_301 (fX5_addProduct (fX5_clearSum us) x9 (fX5_digitsOf x1 x8) (fX5_digitsOf x3 x8) ((fX5_exponentOf x1 x8) + (fX5_exponentOf x3 x8))) x8 x9
  else if (fX5_isZero x5 x8) = 0 then fX5_fused_271 (fX5_addTo (fX5_addProduct (fX5_clearSum us) x9 (fX5_digitsOf x1 x8) (fX5_digitsOf x3 x8) ((fX5_exponentOf x1 x8) + (fX5_exponentOf x3 x8))) (fX5_isNegative x5 x8) (fX5_digitsOf x5 x8) (fX5_exponentOf x5 x8)) x5 x8 x9
    else if (fX5_isZero x1 x8) = 0 then if (fX5_isZero x3 x8) = 0 then fX5_fused_271 (fX5_addTo (fX5_addProduct (fX5_clearSum us) x9 (fX5_digitsOf x1 x8) (fX5_digitsOf x3 x8) ((fX5_exponentOf x1 x8) + (fX5_exponentOf x3 x8))) (fX5_isNegative x5 x8) (fX5_digitsOf x5 x8) (fX5_exponentOf x5 x8)) x5 x8 x9
        else fX5_fused_267 (fX5_addTo (fX5_addProduct (fX5_clearSum us) x9 (fX5_digitsOf x1 x8) (fX5_digitsOf x3 x8) ((fX5_exponentOf x1 x8) + (fX5_exponentOf x3 x8))) (fX5_isNegative x5 x8) (fX5_digitsOf x5 x8) (fX5_exponentOf x5 x8)) x5 x8 x9
      else fX5_fused_267 (fX5_addTo (fX5_addProduct (fX5_clearSum us) x9 (fX5_digitsOf x1 x8) (fX5_digitsOf x3 x8) ((fX5_exponentOf x1 x8) + (fX5_exponentOf x3 x8))) (fX5_isNegative x5 x8) (fX5_digitsOf x5 x8) (fX5_exponentOf x5 x8)) x5 x8 x9
def fX5_fused_59 (us : Nat → Int64) (x1 : Int64) (x3 : Int64) (x5 : Int64) (x7 : Int32) (x8 : Int32) (s0 : Int32) : Int64 × (Nat → Int64) :=
  if (fX5_isInfinite x1 x8) = 0 then if (fX5_isInfinite x3 x8) = 0 then if x7 = 0 then fX5_fused_170 us x1 x3 x5 x7 x8 s0
      else if (fX5_isInfinite x5 x8) = 0 then fX5_fused_170 us x1 x3 x5 x7 x8 s0
        else (x5, us)
    else fX5_fused_79 us x1 x3 x5 x7 x8 s0
  else fX5_fused_79 us x1 x3 x5 x7 x8 s0
def fX5_fused_39 (us : Nat → Int64) (x1 : Int64) (x3 : Int64) (x5 : Int64) (x7 : Int32) (x8 : Int32) : Int64 × (Nat → Int64) :=
  if (fX5_isNegative x1 x8) = (fX5_isNegative x3 x8) then fX5_fused_59 us x1 x3 x5 x7 x8 (0 : Int32)
  else fX5_fused_59 us x1 x3 x5 x7 x8 (1 : Int32)
def fX5_fused (us : Nat → Int64) (x1 : Int64) (x3 : Int64) (x5 : Int64) (x7 : Int32) (x8 : Int32) : Int64 × (Nat → Int64) :=
  if (fX5_isNan x1 x8) = 0 then if (fX5_isNan x3 x8) = 0 then if x7 = 0 then fX5_fused_39 us x1 x3 x5 x7 x8
      else if (fX5_isNan x5 x8) = 0 then fX5_fused_39 us x1 x3 x5 x7 x8
        else fX5_fused_33 us x8
    else fX5_fused_33 us x8
  else fX5_fused_33 us x8
abbrev rmX5_fused : Room := { frames := 4, cells := 0, slots := 0, locals := 111 }
theorem mbX5_fused : mb_V RX5 yX5_fused cX5_fused 12 (some .long) 5 := ⟨⟨tw_instanceMethod_yX5_fused, tw_selects_RX5_yX5_fused_yX5_fused, tw_initialized_RX5, tw_code_yX5_fused⟩, rfl, by decide +kernel, by decide +kernel, by decide +kernel⟩
set_option maxRecDepth 20000 in
theorem bX5_fused_33 (us : Nat → Int64) (x8 : Int32) {p : Program} {l : Launch} {e : Env} {s : State} {m : MethodId} {args : Array Value} {below : List Frame} {meth : Method} {c : Code} {dC : Nat → ClassId} {dI : Nat → Nat → Nat} {r : Nat → Nat} {cA : Nat → ClassId} {Rg : Nat → Prop} {H : Heap} {locs : List Loc} {uf : Nat → Int32} {ua : Nat → Nat → Int32} {h0 : Nat} {ls : Array Slot} (C : bx_C p s m args meth c cX5_fused 12 (some .long) RX5) (hl : lv_has ls 12 [(8, .int x8)]) (hw : hW (dC, dI) (md_T cA) Rg s H locs (md_W h0 r cA uf ua us)) (post : (Int64 × (Nat → Int64)) → Prop) (hq : post (fX5_fused_33 us x8)) : W p l e rmX5_fused s m args below meth c H locs 0 0 (MQ below (va_Ql (fun r u => post (r, u)) (hBk (dC, dI) (md_T cA) Rg (fun u => md_W h0 r cA uf ua u)) Rg) args s 0 0 Rg) (F0 m 33 ls []) := by
  obtain ⟨hx, hb, hml, hr, hlocks, hown, hts⟩ := id C
  unfold fX5_fused_33 at hq
  refine lv_iload hx hb dX5_fused_33 (lv_at hl 0 rfl) ?_
  refine bx_sl C (kX5_nan l x8) bx_B_true (fun _ _ _ => trivial) tw_methodLink_RX5_106_yX5_nan mbX5_nan rfl ⟨rfl, rfl⟩ ⟨Nat.le_of_ble_eq_true rfl, Nat.le_of_ble_eq_true rfl⟩ ⟨Nat.zero_le _, Nat.zero_le _⟩ hl.1 rfl (Nat.le_of_ble_eq_true rfl) dX5_fused_35 ?_
  exact hx_lret (Wf := (fun u => md_W h0 r cA uf ua u)) (post := post) (v := (fX5_nan x8)) (u := us) hx hb hr hlocks hw hq dX5_fused_38
set_option maxRecDepth 20000 in
theorem bX5_fused_129 (us : Nat → Int64) (x8 : Int32) (x9 : Int32) (s0 : Int32) {p : Program} {l : Launch} {e : Env} {s : State} {m : MethodId} {args : Array Value} {below : List Frame} {meth : Method} {c : Code} {dC : Nat → ClassId} {dI : Nat → Nat → Nat} {r : Nat → Nat} {cA : Nat → ClassId} {Rg : Nat → Prop} {H : Heap} {locs : List Loc} {uf : Nat → Int32} {ua : Nat → Nat → Int32} {h0 : Nat} {ls : Array Slot} (C : bx_C p s m args meth c cX5_fused 12 (some .long) RX5) (hl : lv_has ls 12 [(8, .int x8), (9, .int x9)]) (hw : hW (dC, dI) (md_T cA) Rg s H locs (md_W h0 r cA uf ua us)) (post : (Int64 × (Nat → Int64)) → Prop) (hq : post (fX5_fused_129 us x8 x9 s0)) : W p l e rmX5_fused s m args below meth c H locs 0 0 (MQ below (va_Ql (fun r u => post (r, u)) (hBk (dC, dI) (md_T cA) Rg (fun u => md_W h0 r cA uf ua u)) Rg) args s 0 0 Rg) (F0 m 129 ls [.int s0]) := by
  obtain ⟨hx, hb, hml, hr, hlocks, hown, hts⟩ := id C
  unfold fX5_fused_129 at hq
  refine lv_istore (lv' := [(10, .int s0), (8, .int x8), (9, .int x9)]) hx hb dX5_fused_129 hl (by decide) rfl (fun ls hl => ?_)
  refine lv_iload hx hb dX5_fused_131 (lv_at hl 0 rfl) ?_
  refine lv_if_eq (tgt := 144) hx hb dX5_fused_133 (by decide) (fun c7 => ?_) (fun c7 => ?_)
  · rw [if_pos c7] at hq
    refine lv_iload hx hb dX5_fused_144 (lv_at hl 2 rfl) ?_
    refine lv_iload hx hb dX5_fused_146 (lv_at hl 1 rfl) ?_
    refine bx_sl C (kX5_infinite l x9 x8) bx_B_true (fun _ _ _ => trivial) tw_methodLink_RX5_71_yX5_infinite mbX5_infinite rfl ⟨rfl, rfl⟩ ⟨Nat.le_of_ble_eq_true rfl, Nat.le_of_ble_eq_true rfl⟩ ⟨Nat.zero_le _, Nat.zero_le _⟩ hl.1 rfl (Nat.le_of_ble_eq_true rfl) dX5_fused_148 ?_
    exact hx_lret (Wf := (fun u => md_W h0 r cA uf ua u)) (post := post) (v := (fX5_infinite x9 x8)) (u := us) hx hb hr hlocks hw hq dX5_fused_151
  · rw [if_neg c7] at hq
    refine lv_iload hx hb dX5_fused_136 (lv_at hl 1 rfl) ?_
    refine bx_sl C (kX5_nan l x8) bx_B_true (fun _ _ _ => trivial) tw_methodLink_RX5_106_yX5_nan mbX5_nan rfl ⟨rfl, rfl⟩ ⟨Nat.le_of_ble_eq_true rfl, Nat.le_of_ble_eq_true rfl⟩ ⟨Nat.zero_le _, Nat.zero_le _⟩ hl.1 rfl (Nat.le_of_ble_eq_true rfl) dX5_fused_138 ?_
    refine lv_goto (tgt := 151) hx hb dX5_fused_141 (by decide) ?_
    exact hx_lret (Wf := (fun u => md_W h0 r cA uf ua u)) (post := post) (v := (fX5_nan x8)) (u := us) hx hb hr hlocks hw hq dX5_fused_151
set_option maxRecDepth 20000 in
theorem bX5_fused_124 (us : Nat → Int64) (x8 : Int32) (x9 : Int32) {p : Program} {l : Launch} {e : Env} {s : State} {m : MethodId} {args : Array Value} {below : List Frame} {meth : Method} {c : Code} {dC : Nat → ClassId} {dI : Nat → Nat → Nat} {r : Nat → Nat} {cA : Nat → ClassId} {Rg : Nat → Prop} {H : Heap} {locs : List Loc} {uf : Nat → Int32} {ua : Nat → Nat → Int32} {h0 : Nat} {ls : Array Slot} (C : bx_C p s m args meth c cX5_fused 12 (some .long) RX5) (hl : lv_has ls 12 [(8, .int x8), (9, .int x9)]) (hw : hW (dC, dI) (md_T cA) Rg s H locs (md_W h0 r cA uf ua us)) (post : (Int64 × (Nat → Int64)) → Prop) (hq : post (fX5_fused_124 us x8 x9)) : W p l e rmX5_fused s m args below meth c H locs 0 0 (MQ below (va_Ql (fun r u => post (r, u)) (hBk (dC, dI) (md_T cA) Rg (fun u => md_W h0 r cA uf ua u)) Rg) args s 0 0 Rg) (F0 m 124 ls []) := by
  obtain ⟨hx, hb, hml, hr, hlocks, hown, hts⟩ := id C
  unfold fX5_fused_124 at hq
  refine lv_iconst (v := 1) hx hb dX5_fused_124 (by decide) ?_
  refine lv_goto (tgt := 129) hx hb dX5_fused_125 (by decide) ?_
  exact bX5_fused_129 us x8 x9 (1 : Int32) C (lv_sub hl [0, 1] rfl) hw post hq
set_option maxRecDepth 20000 in
theorem bX5_fused_128 (us : Nat → Int64) (x8 : Int32) (x9 : Int32) {p : Program} {l : Launch} {e : Env} {s : State} {m : MethodId} {args : Array Value} {below : List Frame} {meth : Method} {c : Code} {dC : Nat → ClassId} {dI : Nat → Nat → Nat} {r : Nat → Nat} {cA : Nat → ClassId} {Rg : Nat → Prop} {H : Heap} {locs : List Loc} {uf : Nat → Int32} {ua : Nat → Nat → Int32} {h0 : Nat} {ls : Array Slot} (C : bx_C p s m args meth c cX5_fused 12 (some .long) RX5) (hl : lv_has ls 12 [(8, .int x8), (9, .int x9)]) (hw : hW (dC, dI) (md_T cA) Rg s H locs (md_W h0 r cA uf ua us)) (post : (Int64 × (Nat → Int64)) → Prop) (hq : post (fX5_fused_128 us x8 x9)) : W p l e rmX5_fused s m args below meth c H locs 0 0 (MQ below (va_Ql (fun r u => post (r, u)) (hBk (dC, dI) (md_T cA) Rg (fun u => md_W h0 r cA uf ua u)) Rg) args s 0 0 Rg) (F0 m 128 ls []) := by
  obtain ⟨hx, hb, hml, hr, hlocks, hown, hts⟩ := id C
  unfold fX5_fused_128 at hq
  refine lv_iconst (v := 0) hx hb dX5_fused_128 (by decide) ?_
  exact bX5_fused_129 us x8 x9 (0 : Int32) C (lv_sub hl [0, 1] rfl) hw post hq
set_option maxRecDepth 20000 in
theorem bX5_fused_79 (us : Nat → Int64) (x1 : Int64) (x3 : Int64) (x5 : Int64) (x7 : Int32) (x8 : Int32) (x9 : Int32) {p : Program} {l : Launch} {e : Env} {s : State} {m : MethodId} {args : Array Value} {below : List Frame} {meth : Method} {c : Code} {dC : Nat → ClassId} {dI : Nat → Nat → Nat} {r : Nat → Nat} {cA : Nat → ClassId} {Rg : Nat → Prop} {H : Heap} {locs : List Loc} {uf : Nat → Int32} {ua : Nat → Nat → Int32} {h0 : Nat} {ls : Array Slot} (C : bx_C p s m args meth c cX5_fused 12 (some .long) RX5) (hl : lv_has ls 12 [(1, .long x1), (3, .long x3), (5, .long x5), (7, .int x7), (8, .int x8), (9, .int x9)]) (hw : hW (dC, dI) (md_T cA) Rg s H locs (md_W h0 r cA uf ua us)) (post : (Int64 × (Nat → Int64)) → Prop) (hq : post (fX5_fused_79 us x1 x3 x5 x7 x8 x9)) : W p l e rmX5_fused s m args below meth c H locs 0 0 (MQ below (va_Ql (fun r u => post (r, u)) (hBk (dC, dI) (md_T cA) Rg (fun u => md_W h0 r cA uf ua u)) Rg) args s 0 0 Rg) (F0 m 79 ls []) := by
  obtain ⟨hx, hb, hml, hr, hlocks, hown, hts⟩ := id C
  unfold fX5_fused_79 at hq
  refine lv_lload_n hx hb dX5_fused_79 rfl (lv_at hl 0 rfl) ?_
  refine lv_iload hx hb dX5_fused_80 (lv_at hl 4 rfl) ?_
  refine bx_si C (kX5_isZero l x1 x8) bx_B_true (fun _ _ _ => trivial) tw_methodLink_RX5_127_yX5_isZero mbX5_isZero rfl ⟨rfl, rfl⟩ ⟨Nat.le_of_ble_eq_true rfl, Nat.le_of_ble_eq_true rfl⟩ ⟨Nat.zero_le _, Nat.zero_le _⟩ hl.1 rfl (Nat.le_of_ble_eq_true rfl) dX5_fused_82 ?_
  refine lv_if_ne (tgt := 124) hx hb dX5_fused_85 (by decide) (fun c6 => ?_) (fun c6 => ?_)
  · rw [if_neg c6] at hq
    exact bX5_fused_124 us x8 x9 C (lv_sub hl [4, 5] rfl) hw post hq
  · rw [if_pos c6] at hq
    refine lv_lload_n hx hb dX5_fused_88 rfl (lv_at hl 1 rfl) ?_
    refine lv_iload hx hb dX5_fused_89 (lv_at hl 4 rfl) ?_
    refine bx_si C (kX5_isZero l x3 x8) bx_B_true (fun _ _ _ => trivial) tw_methodLink_RX5_127_yX5_isZero mbX5_isZero rfl ⟨rfl, rfl⟩ ⟨Nat.le_of_ble_eq_true rfl, Nat.le_of_ble_eq_true rfl⟩ ⟨Nat.zero_le _, Nat.zero_le _⟩ hl.1 rfl (Nat.le_of_ble_eq_true rfl) dX5_fused_91 ?_
    refine lv_if_ne (tgt := 124) hx hb dX5_fused_94 (by decide) (fun c8 => ?_) (fun c8 => ?_)
    · rw [if_neg c8] at hq
      exact bX5_fused_124 us x8 x9 C (lv_sub hl [4, 5] rfl) hw post hq
    · rw [if_pos c8] at hq
      refine lv_iload hx hb dX5_fused_97 (lv_at hl 3 rfl) ?_
      refine lv_if_eq (tgt := 128) hx hb dX5_fused_99 (by decide) (fun c9 => ?_) (fun c9 => ?_)
      · rw [if_pos c9] at hq
        exact bX5_fused_128 us x8 x9 C (lv_sub hl [4, 5] rfl) hw post hq
      · rw [if_neg c9] at hq
        refine lv_lload hx hb dX5_fused_102 (lv_at hl 2 rfl) ?_
        refine lv_iload hx hb dX5_fused_104 (lv_at hl 4 rfl) ?_
        refine bx_si C (kX5_isInfinite l x5 x8) bx_B_true (fun _ _ _ => trivial) tw_methodLink_RX5_112_yX5_isInfinite mbX5_isInfinite rfl ⟨rfl, rfl⟩ ⟨Nat.le_of_ble_eq_true rfl, Nat.le_of_ble_eq_true rfl⟩ ⟨Nat.zero_le _, Nat.zero_le _⟩ hl.1 rfl (Nat.le_of_ble_eq_true rfl) dX5_fused_106 ?_
        refine lv_if_eq (tgt := 128) hx hb dX5_fused_109 (by decide) (fun c10 => ?_) (fun c10 => ?_)
        · rw [if_pos c10] at hq
          exact bX5_fused_128 us x8 x9 C (lv_sub hl [4, 5] rfl) hw post hq
        · rw [if_neg c10] at hq
          refine lv_lload hx hb dX5_fused_112 (lv_at hl 2 rfl) ?_
          refine lv_iload hx hb dX5_fused_114 (lv_at hl 4 rfl) ?_
          refine bx_si C (kX5_isNegative l x5 x8) bx_B_true (fun _ _ _ => trivial) tw_methodLink_RX5_109_yX5_isNegative mbX5_isNegative rfl ⟨rfl, rfl⟩ ⟨Nat.le_of_ble_eq_true rfl, Nat.le_of_ble_eq_true rfl⟩ ⟨Nat.zero_le _, Nat.zero_le _⟩ hl.1 rfl (Nat.le_of_ble_eq_true rfl) dX5_fused_116 ?_
          refine lv_iload hx hb dX5_fused_119 (lv_at hl 5 rfl) ?_
          refine lv_icmp_eq (tgt := 128) hx hb dX5_fused_121 (by decide) (fun c11 => ?_) (fun c11 => ?_)
          · rw [if_pos c11] at hq
            exact bX5_fused_128 us x8 x9 C (lv_sub hl [4, 5] rfl) hw post hq
          · rw [if_neg c11] at hq
            exact bX5_fused_124 us x8 x9 C (lv_sub hl [4, 5] rfl) hw post hq
set_option maxRecDepth 20000 in
theorem bX5_fused_301 (us : Nat → Int64) (x8 : Int32) (x10 : Int32) {p : Program} {l : Launch} {e : Env} {s : State} {m : MethodId} {args : Array Value} {below : List Frame} {meth : Method} {c : Code} {dC : Nat → ClassId} {dI : Nat → Nat → Nat} {r : Nat → Nat} {cA : Nat → ClassId} {Rg : Nat → Prop} {H : Heap} {locs : List Loc} {uf : Nat → Int32} {ua : Nat → Nat → Int32} {h0 : Nat} {ls : Array Slot} (C : bx_C p s m args meth c cX5_fused 12 (some .long) RX5) (hl : lv_has ls 12 [(0, .ref h0), (8, .int x8), (10, .int x10)]) (hw : hW (dC, dI) (md_T cA) Rg s H locs (md_W h0 r cA uf ua us)) (post : (Int64 × (Nat → Int64)) → Prop) (hq : post (fX5_fused_301 us x8 x10)) : W p l e rmX5_fused s m args below meth c H locs 0 0 (MQ below (va_Ql (fun r u => post (r, u)) (hBk (dC, dI) (md_T cA) Rg (fun u => md_W h0 r cA uf ua u)) Rg) args s 0 0 Rg) (F0 m 301 ls []) := by
  obtain ⟨hx, hb, hml, hr, hlocks, hown, hts⟩ := id C
  unfold fX5_fused_301 at hq
  refine lv_aload_n hx hb dX5_fused_301 rfl (lv_at hl 0 rfl) ?_
  refine lv_iload hx hb dX5_fused_302 (lv_at hl 2 rfl) ?_
  refine lv_iload hx hb dX5_fused_304 (lv_at hl 1 rfl) ?_
  refine hx_cl (Wf := (fun u => md_W h0 r cA uf ua u)) (u0 := us) (F := (fX5_sumRounded us x10 x8)) C (fun sz => kX5_sumRounded l dC dI h0 r cA sz uf ua us x10 x8) (fun _ => bx_B_true) (fun _ _ _ => trivial) hw rfl rfl tw_methodLink_RX5_124_yX5_sumRounded mbX5_sumRounded rfl ⟨rfl, rfl⟩ ⟨Nat.le_of_ble_eq_true rfl, Nat.le_of_ble_eq_true rfl⟩ ⟨Nat.zero_le _, Nat.zero_le _⟩ hl.1 rfl (Nat.le_of_ble_eq_true rfl) dX5_fused_306 (fun H locs hw => ?_)
  have hw : hW (dC, dI) (md_T cA) Rg s H locs (md_W h0 r cA uf ua ((fX5_sumRounded us x10 x8).2)) := hw
  exact hx_lret (Wf := (fun u => md_W h0 r cA uf ua u)) (post := post) (v := (fX5_sumRounded us x10 x8).1) (u := (fX5_sumRounded us x10 x8).2) hx hb hr hlocks hw hq dX5_fused_309
set_option maxRecDepth 20000 in
theorem bX5_fused_299 (us : Nat → Int64) (x8 : Int32) (s0 : Int32) {p : Program} {l : Launch} {e : Env} {s : State} {m : MethodId} {args : Array Value} {below : List Frame} {meth : Method} {c : Code} {dC : Nat → ClassId} {dI : Nat → Nat → Nat} {r : Nat → Nat} {cA : Nat → ClassId} {Rg : Nat → Prop} {H : Heap} {locs : List Loc} {uf : Nat → Int32} {ua : Nat → Nat → Int32} {h0 : Nat} {ls : Array Slot} (C : bx_C p s m args meth c cX5_fused 12 (some .long) RX5) (hl : lv_has ls 12 [(0, .ref h0), (8, .int x8)]) (hw : hW (dC, dI) (md_T cA) Rg s H locs (md_W h0 r cA uf ua us)) (post : (Int64 × (Nat → Int64)) → Prop) (hq : post (fX5_fused_299 us x8 s0)) : W p l e rmX5_fused s m args below meth c H locs 0 0 (MQ below (va_Ql (fun r u => post (r, u)) (hBk (dC, dI) (md_T cA) Rg (fun u => md_W h0 r cA uf ua u)) Rg) args s 0 0 Rg) (F0 m 299 ls [.int s0]) := by
  obtain ⟨hx, hb, hml, hr, hlocks, hown, hts⟩ := id C
  unfold fX5_fused_299 at hq
  refine lv_istore (lv' := [(10, .int s0), (0, .ref h0), (8, .int x8)]) hx hb dX5_fused_299 hl (by decide) rfl (fun ls hl => ?_)
  exact bX5_fused_301 us x8 s0 C (lv_sub hl [1, 2, 0] rfl) hw post hq
set_option maxRecDepth 20000 in
theorem bX5_fused_298 (us : Nat → Int64) (x8 : Int32) {p : Program} {l : Launch} {e : Env} {s : State} {m : MethodId} {args : Array Value} {below : List Frame} {meth : Method} {c : Code} {dC : Nat → ClassId} {dI : Nat → Nat → Nat} {r : Nat → Nat} {cA : Nat → ClassId} {Rg : Nat → Prop} {H : Heap} {locs : List Loc} {uf : Nat → Int32} {ua : Nat → Nat → Int32} {h0 : Nat} {ls : Array Slot} (C : bx_C p s m args meth c cX5_fused 12 (some .long) RX5) (hl : lv_has ls 12 [(0, .ref h0), (8, .int x8)]) (hw : hW (dC, dI) (md_T cA) Rg s H locs (md_W h0 r cA uf ua us)) (post : (Int64 × (Nat → Int64)) → Prop) (hq : post (fX5_fused_298 us x8)) : W p l e rmX5_fused s m args below meth c H locs 0 0 (MQ below (va_Ql (fun r u => post (r, u)) (hBk (dC, dI) (md_T cA) Rg (fun u => md_W h0 r cA uf ua u)) Rg) args s 0 0 Rg) (F0 m 298 ls []) := by
  obtain ⟨hx, hb, hml, hr, hlocks, hown, hts⟩ := id C
  unfold fX5_fused_298 at hq
  refine lv_iconst (v := 0) hx hb dX5_fused_298 (by decide) ?_
  exact bX5_fused_299 us x8 (0 : Int32) C (lv_sub hl [0, 1] rfl) hw post hq
set_option maxRecDepth 20000 in
theorem bX5_fused_272 (us : Nat → Int64) (x5 : Int64) (x8 : Int32) (x9 : Int32) (s0 : Int32) {p : Program} {l : Launch} {e : Env} {s : State} {m : MethodId} {args : Array Value} {below : List Frame} {meth : Method} {c : Code} {dC : Nat → ClassId} {dI : Nat → Nat → Nat} {r : Nat → Nat} {cA : Nat → ClassId} {Rg : Nat → Prop} {H : Heap} {locs : List Loc} {uf : Nat → Int32} {ua : Nat → Nat → Int32} {h0 : Nat} {ls : Array Slot} (C : bx_C p s m args meth c cX5_fused 12 (some .long) RX5) (hl : lv_has ls 12 [(0, .ref h0), (5, .long x5), (8, .int x8), (9, .int x9)]) (hw : hW (dC, dI) (md_T cA) Rg s H locs (md_W h0 r cA uf ua us)) (post : (Int64 × (Nat → Int64)) → Prop) (hq : post (fX5_fused_272 us x5 x8 x9 s0)) : W p l e rmX5_fused s m args below meth c H locs 0 0 (MQ below (va_Ql (fun r u => post (r, u)) (hBk (dC, dI) (md_T cA) Rg (fun u => md_W h0 r cA uf ua u)) Rg) args s 0 0 Rg) (F0 m 272 ls [.int s0]) := by
  obtain ⟨hx, hb, hml, hr, hlocks, hown, hts⟩ := id C
  unfold fX5_fused_272 at hq
  refine lv_istore (lv' := [(11, .int s0), (0, .ref h0), (5, .long x5), (8, .int x8), (9, .int x9)]) hx hb dX5_fused_272 hl (by decide) rfl (fun ls hl => ?_)
  refine lv_iload hx hb dX5_fused_274 (lv_at hl 0 rfl) ?_
  refine lv_if_eq (tgt := 298) hx hb dX5_fused_276 (by decide) (fun c16 => ?_) (fun c16 => ?_)
  · rw [if_pos c16] at hq
    exact bX5_fused_298 us x8 C (lv_sub hl [1, 3] rfl) hw post hq
  · rw [if_neg c16] at hq
    refine lv_iload hx hb dX5_fused_279 (lv_at hl 4 rfl) ?_
    refine lv_if_eq (tgt := 298) hx hb dX5_fused_281 (by decide) (fun c17 => ?_) (fun c17 => ?_)
    · rw [if_pos c17] at hq
      exact bX5_fused_298 us x8 C (lv_sub hl [1, 3] rfl) hw post hq
    · rw [if_neg c17] at hq
      refine lv_lload hx hb dX5_fused_284 (lv_at hl 2 rfl) ?_
      refine lv_iload hx hb dX5_fused_286 (lv_at hl 3 rfl) ?_
      refine bx_si C (kX5_isNegative l x5 x8) bx_B_true (fun _ _ _ => trivial) tw_methodLink_RX5_109_yX5_isNegative mbX5_isNegative rfl ⟨rfl, rfl⟩ ⟨Nat.le_of_ble_eq_true rfl, Nat.le_of_ble_eq_true rfl⟩ ⟨Nat.zero_le _, Nat.zero_le _⟩ hl.1 rfl (Nat.le_of_ble_eq_true rfl) dX5_fused_288 ?_
      refine lv_if_eq (tgt := 298) hx hb dX5_fused_291 (by decide) (fun c18 => ?_) (fun c18 => ?_)
      · rw [if_pos c18] at hq
        exact bX5_fused_298 us x8 C (lv_sub hl [1, 3] rfl) hw post hq
      · rw [if_neg c18] at hq
        refine lv_iconst (v := 1) hx hb dX5_fused_294 (by decide) ?_
        refine lv_goto (tgt := 299) hx hb dX5_fused_295 (by decide) ?_
        exact bX5_fused_299 us x8 (1 : Int32) C (lv_sub hl [1, 3] rfl) hw post hq
set_option maxRecDepth 20000 in
theorem bX5_fused_271 (us : Nat → Int64) (x5 : Int64) (x8 : Int32) (x9 : Int32) {p : Program} {l : Launch} {e : Env} {s : State} {m : MethodId} {args : Array Value} {below : List Frame} {meth : Method} {c : Code} {dC : Nat → ClassId} {dI : Nat → Nat → Nat} {r : Nat → Nat} {cA : Nat → ClassId} {Rg : Nat → Prop} {H : Heap} {locs : List Loc} {uf : Nat → Int32} {ua : Nat → Nat → Int32} {h0 : Nat} {ls : Array Slot} (C : bx_C p s m args meth c cX5_fused 12 (some .long) RX5) (hl : lv_has ls 12 [(0, .ref h0), (5, .long x5), (8, .int x8), (9, .int x9)]) (hw : hW (dC, dI) (md_T cA) Rg s H locs (md_W h0 r cA uf ua us)) (post : (Int64 × (Nat → Int64)) → Prop) (hq : post (fX5_fused_271 us x5 x8 x9)) : W p l e rmX5_fused s m args below meth c H locs 0 0 (MQ below (va_Ql (fun r u => post (r, u)) (hBk (dC, dI) (md_T cA) Rg (fun u => md_W h0 r cA uf ua u)) Rg) args s 0 0 Rg) (F0 m 271 ls []) := by
  obtain ⟨hx, hb, hml, hr, hlocks, hown, hts⟩ := id C
  unfold fX5_fused_271 at hq
  refine lv_iconst (v := 0) hx hb dX5_fused_271 (by decide) ?_
  exact bX5_fused_272 us x5 x8 x9 (0 : Int32) C (lv_sub hl [0, 1, 2, 3] rfl) hw post hq
set_option maxRecDepth 20000 in
theorem bX5_fused_267 (us : Nat → Int64) (x5 : Int64) (x8 : Int32) (x9 : Int32) {p : Program} {l : Launch} {e : Env} {s : State} {m : MethodId} {args : Array Value} {below : List Frame} {meth : Method} {c : Code} {dC : Nat → ClassId} {dI : Nat → Nat → Nat} {r : Nat → Nat} {cA : Nat → ClassId} {Rg : Nat → Prop} {H : Heap} {locs : List Loc} {uf : Nat → Int32} {ua : Nat → Nat → Int32} {h0 : Nat} {ls : Array Slot} (C : bx_C p s m args meth c cX5_fused 12 (some .long) RX5) (hl : lv_has ls 12 [(0, .ref h0), (5, .long x5), (8, .int x8), (9, .int x9)]) (hw : hW (dC, dI) (md_T cA) Rg s H locs (md_W h0 r cA uf ua us)) (post : (Int64 × (Nat → Int64)) → Prop) (hq : post (fX5_fused_267 us x5 x8 x9)) : W p l e rmX5_fused s m args below meth c H locs 0 0 (MQ below (va_Ql (fun r u => post (r, u)) (hBk (dC, dI) (md_T cA) Rg (fun u => md_W h0 r cA uf ua u)) Rg) args s 0 0 Rg) (F0 m 267 ls []) := by
  obtain ⟨hx, hb, hml, hr, hlocks, hown, hts⟩ := id C
  unfold fX5_fused_267 at hq
  refine lv_iconst (v := 1) hx hb dX5_fused_267 (by decide) ?_
  refine lv_goto (tgt := 272) hx hb dX5_fused_268 (by decide) ?_
  exact bX5_fused_272 us x5 x8 x9 (1 : Int32) C (lv_sub hl [0, 1, 2, 3] rfl) hw post hq
set_option maxRecDepth 20000 in
theorem bX5_fused_170 (us : Nat → Int64) (x1 : Int64) (x3 : Int64) (x5 : Int64) (x7 : Int32) (x8 : Int32) (x9 : Int32) {p : Program} {l : Launch} {e : Env} {s : State} {m : MethodId} {args : Array Value} {below : List Frame} {meth : Method} {c : Code} {dC : Nat → ClassId} {dI : Nat → Nat → Nat} {r : Nat → Nat} {cA : Nat → ClassId} {Rg : Nat → Prop} {H : Heap} {locs : List Loc} {uf : Nat → Int32} {ua : Nat → Nat → Int32} {h0 : Nat} {ls : Array Slot} (C : bx_C p s m args meth c cX5_fused 12 (some .long) RX5) (hl : lv_has ls 12 [(0, .ref h0), (1, .long x1), (3, .long x3), (5, .long x5), (7, .int x7), (8, .int x8), (9, .int x9)]) (hw : hW (dC, dI) (md_T cA) Rg s H locs (md_W h0 r cA uf ua us)) (e1 : okE x1 x8) (e3 : okE x3 x8) (e5 : x7 = 0 ∨ okE x5 x8) (post : (Int64 × (Nat → Int64)) → Prop) (hq : post (fX5_fused_170 us x1 x3 x5 x7 x8 x9)) : W p l e rmX5_fused s m args below meth c H locs 0 0 (MQ below (va_Ql (fun r u => post (r, u)) (hBk (dC, dI) (md_T cA) Rg (fun u => md_W h0 r cA uf ua u)) Rg) args s 0 0 Rg) (F0 m 170 ls []) := by
  obtain ⟨hx, hb, hml, hr, hlocks, hown, hts⟩ := id C
  unfold fX5_fused_170 at hq
  refine lv_aload_n hx hb dX5_fused_170 rfl (lv_at hl 0 rfl) ?_
  refine hx_cv (Wf := (fun u => md_W h0 r cA uf ua u)) (u0 := us) (F := (fX5_clearSum us)) C (fun sz => kX5_clearSum l dC dI h0 r cA sz uf ua us) (fun _ => bx_B_true) (fun _ _ _ => trivial) hw rfl rfl tw_methodLink_RX5_115_yX5_clearSum mbX5_clearSum rfl ⟨rfl, rfl⟩ ⟨Nat.le_of_ble_eq_true rfl, Nat.le_of_ble_eq_true rfl⟩ ⟨Nat.zero_le _, Nat.zero_le _⟩ hl.1 rfl (Nat.le_of_ble_eq_true rfl) dX5_fused_171 (fun H locs hw => ?_)
  have hw : hW (dC, dI) (md_T cA) Rg s H locs (md_W h0 r cA uf ua (fX5_clearSum us)) := hw
  refine lv_aload_n hx hb dX5_fused_174 rfl (lv_at hl 0 rfl) ?_
  refine lv_iload hx hb dX5_fused_175 (lv_at hl 6 rfl) ?_
  refine lv_lload_n hx hb dX5_fused_177 rfl (lv_at hl 1 rfl) ?_
  refine lv_iload hx hb dX5_fused_178 (lv_at hl 5 rfl) ?_
  refine bx_sl C (kX5_digitsOf l x1 x8) bx_B_true (fun _ _ _ => trivial) tw_methodLink_RX5_118_yX5_digitsOf mbX5_digitsOf rfl ⟨rfl, rfl⟩ ⟨Nat.le_of_ble_eq_true rfl, Nat.le_of_ble_eq_true rfl⟩ ⟨Nat.zero_le _, Nat.zero_le _⟩ hl.1 rfl (Nat.le_of_ble_eq_true rfl) dX5_fused_180 ?_
  refine lv_lload_n hx hb dX5_fused_183 rfl (lv_at hl 2 rfl) ?_
  refine lv_iload hx hb dX5_fused_184 (lv_at hl 5 rfl) ?_
  refine bx_sl C (kX5_digitsOf l x3 x8) bx_B_true (fun _ _ _ => trivial) tw_methodLink_RX5_118_yX5_digitsOf mbX5_digitsOf rfl ⟨rfl, rfl⟩ ⟨Nat.le_of_ble_eq_true rfl, Nat.le_of_ble_eq_true rfl⟩ ⟨Nat.zero_le _, Nat.zero_le _⟩ hl.1 rfl (Nat.le_of_ble_eq_true rfl) dX5_fused_186 ?_
  refine lv_lload_n hx hb dX5_fused_189 rfl (lv_at hl 1 rfl) ?_
  refine lv_iload hx hb dX5_fused_190 (lv_at hl 5 rfl) ?_
  refine bx_si C (kX5_exponentOf l x1 x8) bx_B_true (fun _ _ _ => trivial) tw_methodLink_RX5_121_yX5_exponentOf mbX5_exponentOf rfl ⟨rfl, rfl⟩ ⟨Nat.le_of_ble_eq_true rfl, Nat.le_of_ble_eq_true rfl⟩ ⟨Nat.zero_le _, Nat.zero_le _⟩ hl.1 rfl (Nat.le_of_ble_eq_true rfl) dX5_fused_192 ?_
  refine lv_lload_n hx hb dX5_fused_195 rfl (lv_at hl 2 rfl) ?_
  refine lv_iload hx hb dX5_fused_196 (lv_at hl 5 rfl) ?_
  refine bx_si C (kX5_exponentOf l x3 x8) bx_B_true (fun _ _ _ => trivial) tw_methodLink_RX5_121_yX5_exponentOf mbX5_exponentOf rfl ⟨rfl, rfl⟩ ⟨Nat.le_of_ble_eq_true rfl, Nat.le_of_ble_eq_true rfl⟩ ⟨Nat.zero_le _, Nat.zero_le _⟩ hl.1 rfl (Nat.le_of_ble_eq_true rfl) dX5_fused_198 ?_
  refine lv_iadd hx hb dX5_fused_201 ?_
  refine hx_cv (Wf := (fun u => md_W h0 r cA uf ua u)) (u0 := (fX5_clearSum us)) (F := (fX5_addProduct (fX5_clearSum us) x9 (fX5_digitsOf x1 x8) (fX5_digitsOf x3 x8) ((fX5_exponentOf x1 x8) + (fX5_exponentOf x3 x8)))) C (fun sz => kX5_addProduct l dC dI h0 r cA sz uf ua (fX5_clearSum us) x9 (fX5_digitsOf x1 x8) (fX5_digitsOf x3 x8) ((fX5_exponentOf x1 x8) + (fX5_exponentOf x3 x8)) (sd_ap0 e1 e3)) (fun _ => bx_B_true) (fun _ _ _ => trivial) hw rfl rfl tw_methodLink_RX5_130_yX5_addProduct mbX5_addProduct rfl ⟨rfl, rfl⟩ ⟨Nat.le_of_ble_eq_true rfl, Nat.le_of_ble_eq_true rfl⟩ ⟨Nat.zero_le _, Nat.zero_le _⟩ hl.1 rfl (Nat.le_of_ble_eq_true rfl) dX5_fused_202 (fun H locs hw => ?_)
  have hw : hW (dC, dI) (md_T cA) Rg s H locs (md_W h0 r cA uf ua (fX5_addProduct (fX5_clearSum us) x9 (fX5_digitsOf x1 x8) (fX5_digitsOf x3 x8) ((fX5_exponentOf x1 x8) + (fX5_exponentOf x3 x8)))) := hw
  refine lv_iload hx hb dX5_fused_205 (lv_at hl 6 rfl) ?_
  refine lv_istore (lv' := [(10, .int x9), (0, .ref h0), (1, .long x1), (3, .long x3), (5, .long x5), (7, .int x7), (8, .int x8), (9, .int x9)]) hx hb dX5_fused_207 hl (by decide) rfl (fun ls hl => ?_)
  refine lv_iload hx hb dX5_fused_209 (lv_at hl 5 rfl) ?_
  refine lv_if_eq (tgt := 301) hx hb dX5_fused_211 (by decide) (fun c14 => ?_) (fun c14 => ?_)
  · rw [if_pos c14] at hq
    exact bX5_fused_301 (fX5_addProduct (fX5_clearSum us) x9 (fX5_digitsOf x1 x8) (fX5_digitsOf x3 x8) ((fX5_exponentOf x1 x8) + (fX5_exponentOf x3 x8))) x8 x9 C (lv_sub hl [1, 6, 0] rfl) hw post hq
  · rw [if_neg c14] at hq
    refine lv_aload_n hx hb dX5_fused_214 rfl (lv_at hl 1 rfl) ?_
    refine lv_lload hx hb dX5_fused_215 (lv_at hl 4 rfl) ?_
    refine lv_iload hx hb dX5_fused_217 (lv_at hl 6 rfl) ?_
    refine bx_si C (kX5_isNegative l x5 x8) bx_B_true (fun _ _ _ => trivial) tw_methodLink_RX5_109_yX5_isNegative mbX5_isNegative rfl ⟨rfl, rfl⟩ ⟨Nat.le_of_ble_eq_true rfl, Nat.le_of_ble_eq_true rfl⟩ ⟨Nat.zero_le _, Nat.zero_le _⟩ hl.1 rfl (Nat.le_of_ble_eq_true rfl) dX5_fused_219 ?_
    refine lv_lload hx hb dX5_fused_222 (lv_at hl 4 rfl) ?_
    refine lv_iload hx hb dX5_fused_224 (lv_at hl 6 rfl) ?_
    refine bx_sl C (kX5_digitsOf l x5 x8) bx_B_true (fun _ _ _ => trivial) tw_methodLink_RX5_118_yX5_digitsOf mbX5_digitsOf rfl ⟨rfl, rfl⟩ ⟨Nat.le_of_ble_eq_true rfl, Nat.le_of_ble_eq_true rfl⟩ ⟨Nat.zero_le _, Nat.zero_le _⟩ hl.1 rfl (Nat.le_of_ble_eq_true rfl) dX5_fused_226 ?_
    refine lv_lload hx hb dX5_fused_229 (lv_at hl 4 rfl) ?_
    refine lv_iload hx hb dX5_fused_231 (lv_at hl 6 rfl) ?_
    refine bx_si C (kX5_exponentOf l x5 x8) bx_B_true (fun _ _ _ => trivial) tw_methodLink_RX5_121_yX5_exponentOf mbX5_exponentOf rfl ⟨rfl, rfl⟩ ⟨Nat.le_of_ble_eq_true rfl, Nat.le_of_ble_eq_true rfl⟩ ⟨Nat.zero_le _, Nat.zero_le _⟩ hl.1 rfl (Nat.le_of_ble_eq_true rfl) dX5_fused_233 ?_
    refine hx_cv (Wf := (fun u => md_W h0 r cA uf ua u)) (u0 := (fX5_addProduct (fX5_clearSum us) x9 (fX5_digitsOf x1 x8) (fX5_digitsOf x3 x8) ((fX5_exponentOf x1 x8) + (fX5_exponentOf x3 x8)))) (F := (fX5_addTo (fX5_addProduct (fX5_clearSum us) x9 (fX5_digitsOf x1 x8) (fX5_digitsOf x3 x8) ((fX5_exponentOf x1 x8) + (fX5_exponentOf x3 x8))) (fX5_isNegative x5 x8) (fX5_digitsOf x5 x8) (fX5_exponentOf x5 x8))) C (fun sz => kX5_addTo l dC dI h0 r cA sz uf ua (fX5_addProduct (fX5_clearSum us) x9 (fX5_digitsOf x1 x8) (fX5_digitsOf x3 x8) ((fX5_exponentOf x1 x8) + (fX5_exponentOf x3 x8))) (fX5_isNegative x5 x8) (fX5_digitsOf x5 x8) (fX5_exponentOf x5 x8) (sd_he (e5.resolve_left (by assumption)))) (fun _ => bx_B_true) (fun _ _ _ => trivial) hw rfl rfl tw_methodLink_RX5_90_yX5_addTo mbX5_addTo rfl ⟨rfl, rfl⟩ ⟨Nat.le_of_ble_eq_true rfl, Nat.le_of_ble_eq_true rfl⟩ ⟨Nat.zero_le _, Nat.zero_le _⟩ hl.1 rfl (Nat.le_of_ble_eq_true rfl) dX5_fused_236 (fun H locs hw => ?_)
    have hw : hW (dC, dI) (md_T cA) Rg s H locs (md_W h0 r cA uf ua (fX5_addTo (fX5_addProduct (fX5_clearSum us) x9 (fX5_digitsOf x1 x8) (fX5_digitsOf x3 x8) ((fX5_exponentOf x1 x8) + (fX5_exponentOf x3 x8))) (fX5_isNegative x5 x8) (fX5_digitsOf x5 x8) (fX5_exponentOf x5 x8))) := hw
    refine lv_lload hx hb dX5_fused_239 (lv_at hl 4 rfl) ?_
    refine lv_iload hx hb dX5_fused_241 (lv_at hl 6 rfl) ?_
    refine bx_si C (kX5_isZero l x5 x8) bx_B_true (fun _ _ _ => trivial) tw_methodLink_RX5_127_yX5_isZero mbX5_isZero rfl ⟨rfl, rfl⟩ ⟨Nat.le_of_ble_eq_true rfl, Nat.le_of_ble_eq_true rfl⟩ ⟨Nat.zero_le _, Nat.zero_le _⟩ hl.1 rfl (Nat.le_of_ble_eq_true rfl) dX5_fused_243 ?_
    refine lv_if_eq (tgt := 271) hx hb dX5_fused_246 (by decide) (fun c15 => ?_) (fun c15 => ?_)
    · rw [if_pos c15] at hq
      exact bX5_fused_271 (fX5_addTo (fX5_addProduct (fX5_clearSum us) x9 (fX5_digitsOf x1 x8) (fX5_digitsOf x3 x8) ((fX5_exponentOf x1 x8) + (fX5_exponentOf x3 x8))) (fX5_isNegative x5 x8) (fX5_digitsOf x5 x8) (fX5_exponentOf x5 x8)) x5 x8 x9 C (lv_sub hl [1, 4, 6, 7] rfl) hw post hq
    · rw [if_neg c15] at hq
      refine lv_lload_n hx hb dX5_fused_249 rfl (lv_at hl 2 rfl) ?_
      refine lv_iload hx hb dX5_fused_250 (lv_at hl 6 rfl) ?_
      refine bx_si C (kX5_isZero l x1 x8) bx_B_true (fun _ _ _ => trivial) tw_methodLink_RX5_127_yX5_isZero mbX5_isZero rfl ⟨rfl, rfl⟩ ⟨Nat.le_of_ble_eq_true rfl, Nat.le_of_ble_eq_true rfl⟩ ⟨Nat.zero_le _, Nat.zero_le _⟩ hl.1 rfl (Nat.le_of_ble_eq_true rfl) dX5_fused_252 ?_
      refine lv_if_ne (tgt := 267) hx hb dX5_fused_255 (by decide) (fun c19 => ?_) (fun c19 => ?_)
      · rw [if_neg c19] at hq
        exact bX5_fused_267 (fX5_addTo (fX5_addProduct (fX5_clearSum us) x9 (fX5_digitsOf x1 x8) (fX5_digitsOf x3 x8) ((fX5_exponentOf x1 x8) + (fX5_exponentOf x3 x8))) (fX5_isNegative x5 x8) (fX5_digitsOf x5 x8) (fX5_exponentOf x5 x8)) x5 x8 x9 C (lv_sub hl [1, 4, 6, 7] rfl) hw post hq
      · rw [if_pos c19] at hq
        refine lv_lload_n hx hb dX5_fused_258 rfl (lv_at hl 3 rfl) ?_
        refine lv_iload hx hb dX5_fused_259 (lv_at hl 6 rfl) ?_
        refine bx_si C (kX5_isZero l x3 x8) bx_B_true (fun _ _ _ => trivial) tw_methodLink_RX5_127_yX5_isZero mbX5_isZero rfl ⟨rfl, rfl⟩ ⟨Nat.le_of_ble_eq_true rfl, Nat.le_of_ble_eq_true rfl⟩ ⟨Nat.zero_le _, Nat.zero_le _⟩ hl.1 rfl (Nat.le_of_ble_eq_true rfl) dX5_fused_261 ?_
        refine lv_if_eq (tgt := 271) hx hb dX5_fused_264 (by decide) (fun c20 => ?_) (fun c20 => ?_)
        · rw [if_pos c20] at hq
          exact bX5_fused_271 (fX5_addTo (fX5_addProduct (fX5_clearSum us) x9 (fX5_digitsOf x1 x8) (fX5_digitsOf x3 x8) ((fX5_exponentOf x1 x8) + (fX5_exponentOf x3 x8))) (fX5_isNegative x5 x8) (fX5_digitsOf x5 x8) (fX5_exponentOf x5 x8)) x5 x8 x9 C (lv_sub hl [1, 4, 6, 7] rfl) hw post hq
        · rw [if_neg c20] at hq
          exact bX5_fused_267 (fX5_addTo (fX5_addProduct (fX5_clearSum us) x9 (fX5_digitsOf x1 x8) (fX5_digitsOf x3 x8) ((fX5_exponentOf x1 x8) + (fX5_exponentOf x3 x8))) (fX5_isNegative x5 x8) (fX5_digitsOf x5 x8) (fX5_exponentOf x5 x8)) x5 x8 x9 C (lv_sub hl [1, 4, 6, 7] rfl) hw post hq
set_option maxRecDepth 20000 in
theorem bX5_fused_59 (us : Nat → Int64) (x1 : Int64) (x3 : Int64) (x5 : Int64) (x7 : Int32) (x8 : Int32) (s0 : Int32) {p : Program} {l : Launch} {e : Env} {s : State} {m : MethodId} {args : Array Value} {below : List Frame} {meth : Method} {c : Code} {dC : Nat → ClassId} {dI : Nat → Nat → Nat} {r : Nat → Nat} {cA : Nat → ClassId} {Rg : Nat → Prop} {H : Heap} {locs : List Loc} {uf : Nat → Int32} {ua : Nat → Nat → Int32} {h0 : Nat} {ls : Array Slot} (C : bx_C p s m args meth c cX5_fused 12 (some .long) RX5) (hl : lv_has ls 12 [(0, .ref h0), (1, .long x1), (3, .long x3), (5, .long x5), (7, .int x7), (8, .int x8)]) (hw : hW (dC, dI) (md_T cA) Rg s H locs (md_W h0 r cA uf ua us)) (e1 : okE x1 x8) (e3 : okE x3 x8) (e5 : x7 = 0 ∨ okE x5 x8) (post : (Int64 × (Nat → Int64)) → Prop) (hq : post (fX5_fused_59 us x1 x3 x5 x7 x8 s0)) : W p l e rmX5_fused s m args below meth c H locs 0 0 (MQ below (va_Ql (fun r u => post (r, u)) (hBk (dC, dI) (md_T cA) Rg (fun u => md_W h0 r cA uf ua u)) Rg) args s 0 0 Rg) (F0 m 59 ls [.int s0]) := by
  obtain ⟨hx, hb, hml, hr, hlocks, hown, hts⟩ := id C
  unfold fX5_fused_59 at hq
  refine lv_istore (lv' := [(9, .int s0), (0, .ref h0), (1, .long x1), (3, .long x3), (5, .long x5), (7, .int x7), (8, .int x8)]) hx hb dX5_fused_59 hl (by decide) rfl (fun ls hl => ?_)
  refine lv_lload_n hx hb dX5_fused_61 rfl (lv_at hl 2 rfl) ?_
  refine lv_iload hx hb dX5_fused_62 (lv_at hl 6 rfl) ?_
  refine bx_si C (kX5_isInfinite l x1 x8) bx_B_true (fun _ _ _ => trivial) tw_methodLink_RX5_112_yX5_isInfinite mbX5_isInfinite rfl ⟨rfl, rfl⟩ ⟨Nat.le_of_ble_eq_true rfl, Nat.le_of_ble_eq_true rfl⟩ ⟨Nat.zero_le _, Nat.zero_le _⟩ hl.1 rfl (Nat.le_of_ble_eq_true rfl) dX5_fused_64 ?_
  refine lv_if_ne (tgt := 79) hx hb dX5_fused_67 (by decide) (fun c5 => ?_) (fun c5 => ?_)
  · rw [if_neg c5] at hq
    exact bX5_fused_79 us x1 x3 x5 x7 x8 s0 C (lv_sub hl [2, 3, 4, 5, 6, 0] rfl) hw post hq
  · rw [if_pos c5] at hq
    refine lv_lload_n hx hb dX5_fused_70 rfl (lv_at hl 3 rfl) ?_
    refine lv_iload hx hb dX5_fused_71 (lv_at hl 6 rfl) ?_
    refine bx_si C (kX5_isInfinite l x3 x8) bx_B_true (fun _ _ _ => trivial) tw_methodLink_RX5_112_yX5_isInfinite mbX5_isInfinite rfl ⟨rfl, rfl⟩ ⟨Nat.le_of_ble_eq_true rfl, Nat.le_of_ble_eq_true rfl⟩ ⟨Nat.zero_le _, Nat.zero_le _⟩ hl.1 rfl (Nat.le_of_ble_eq_true rfl) dX5_fused_73 ?_
    refine lv_if_eq (tgt := 152) hx hb dX5_fused_76 (by decide) (fun c12 => ?_) (fun c12 => ?_)
    · rw [if_pos c12] at hq
      refine lv_iload hx hb dX5_fused_152 (lv_at hl 5 rfl) ?_
      refine lv_if_eq (tgt := 170) hx hb dX5_fused_154 (by decide) (fun c13 => ?_) (fun c13 => ?_)
      · rw [if_pos c13] at hq
        exact bX5_fused_170 us x1 x3 x5 x7 x8 s0 C (lv_sub hl [1, 2, 3, 4, 5, 6, 0] rfl) hw e1 e3 e5 post hq
      · rw [if_neg c13] at hq
        refine lv_lload hx hb dX5_fused_157 (lv_at hl 4 rfl) ?_
        refine lv_iload hx hb dX5_fused_159 (lv_at hl 6 rfl) ?_
        refine bx_si C (kX5_isInfinite l x5 x8) bx_B_true (fun _ _ _ => trivial) tw_methodLink_RX5_112_yX5_isInfinite mbX5_isInfinite rfl ⟨rfl, rfl⟩ ⟨Nat.le_of_ble_eq_true rfl, Nat.le_of_ble_eq_true rfl⟩ ⟨Nat.zero_le _, Nat.zero_le _⟩ hl.1 rfl (Nat.le_of_ble_eq_true rfl) dX5_fused_161 ?_
        refine lv_if_eq (tgt := 170) hx hb dX5_fused_164 (by decide) (fun c21 => ?_) (fun c21 => ?_)
        · rw [if_pos c21] at hq
          exact bX5_fused_170 us x1 x3 x5 x7 x8 s0 C (lv_sub hl [1, 2, 3, 4, 5, 6, 0] rfl) hw e1 e3 e5 post hq
        · rw [if_neg c21] at hq
          refine lv_lload hx hb dX5_fused_167 (lv_at hl 4 rfl) ?_
          exact hx_lret (Wf := (fun u => md_W h0 r cA uf ua u)) (post := post) (v := x5) (u := us) hx hb hr hlocks hw hq dX5_fused_169
    · rw [if_neg c12] at hq
      exact bX5_fused_79 us x1 x3 x5 x7 x8 s0 C (lv_sub hl [2, 3, 4, 5, 6, 0] rfl) hw post hq
set_option maxRecDepth 20000 in
theorem bX5_fused_39 (us : Nat → Int64) (x1 : Int64) (x3 : Int64) (x5 : Int64) (x7 : Int32) (x8 : Int32) {p : Program} {l : Launch} {e : Env} {s : State} {m : MethodId} {args : Array Value} {below : List Frame} {meth : Method} {c : Code} {dC : Nat → ClassId} {dI : Nat → Nat → Nat} {r : Nat → Nat} {cA : Nat → ClassId} {Rg : Nat → Prop} {H : Heap} {locs : List Loc} {uf : Nat → Int32} {ua : Nat → Nat → Int32} {h0 : Nat} {ls : Array Slot} (C : bx_C p s m args meth c cX5_fused 12 (some .long) RX5) (hl : lv_has ls 12 [(0, .ref h0), (1, .long x1), (3, .long x3), (5, .long x5), (7, .int x7), (8, .int x8)]) (hw : hW (dC, dI) (md_T cA) Rg s H locs (md_W h0 r cA uf ua us)) (e1 : okE x1 x8) (e3 : okE x3 x8) (e5 : x7 = 0 ∨ okE x5 x8) (post : (Int64 × (Nat → Int64)) → Prop) (hq : post (fX5_fused_39 us x1 x3 x5 x7 x8)) : W p l e rmX5_fused s m args below meth c H locs 0 0 (MQ below (va_Ql (fun r u => post (r, u)) (hBk (dC, dI) (md_T cA) Rg (fun u => md_W h0 r cA uf ua u)) Rg) args s 0 0 Rg) (F0 m 39 ls []) := by
  obtain ⟨hx, hb, hml, hr, hlocks, hown, hts⟩ := id C
  unfold fX5_fused_39 at hq
  refine lv_lload_n hx hb dX5_fused_39 rfl (lv_at hl 1 rfl) ?_
  refine lv_iload hx hb dX5_fused_40 (lv_at hl 5 rfl) ?_
  refine bx_si C (kX5_isNegative l x1 x8) bx_B_true (fun _ _ _ => trivial) tw_methodLink_RX5_109_yX5_isNegative mbX5_isNegative rfl ⟨rfl, rfl⟩ ⟨Nat.le_of_ble_eq_true rfl, Nat.le_of_ble_eq_true rfl⟩ ⟨Nat.zero_le _, Nat.zero_le _⟩ hl.1 rfl (Nat.le_of_ble_eq_true rfl) dX5_fused_42 ?_
  refine lv_lload_n hx hb dX5_fused_45 rfl (lv_at hl 2 rfl) ?_
  refine lv_iload hx hb dX5_fused_46 (lv_at hl 5 rfl) ?_
  refine bx_si C (kX5_isNegative l x3 x8) bx_B_true (fun _ _ _ => trivial) tw_methodLink_RX5_109_yX5_isNegative mbX5_isNegative rfl ⟨rfl, rfl⟩ ⟨Nat.le_of_ble_eq_true rfl, Nat.le_of_ble_eq_true rfl⟩ ⟨Nat.zero_le _, Nat.zero_le _⟩ hl.1 rfl (Nat.le_of_ble_eq_true rfl) dX5_fused_48 ?_
  refine lv_icmp_eq (tgt := 58) hx hb dX5_fused_51 (by decide) (fun c4 => ?_) (fun c4 => ?_)
  · rw [if_pos c4] at hq
    refine lv_iconst (v := 0) hx hb dX5_fused_58 (by decide) ?_
    exact bX5_fused_59 us x1 x3 x5 x7 x8 (0 : Int32) C (lv_sub hl [0, 1, 2, 3, 4, 5] rfl) hw e1 e3 e5 post hq
  · rw [if_neg c4] at hq
    refine lv_iconst (v := 1) hx hb dX5_fused_54 (by decide) ?_
    refine lv_goto (tgt := 59) hx hb dX5_fused_55 (by decide) ?_
    exact bX5_fused_59 us x1 x3 x5 x7 x8 (1 : Int32) C (lv_sub hl [0, 1, 2, 3, 4, 5] rfl) hw e1 e3 e5 post hq
set_option maxRecDepth 20000 in
theorem bX5_fused_0 (us : Nat → Int64) (x1 : Int64) (x3 : Int64) (x5 : Int64) (x7 : Int32) (x8 : Int32) {p : Program} {l : Launch} {e : Env} {s : State} {m : MethodId} {args : Array Value} {below : List Frame} {meth : Method} {c : Code} {dC : Nat → ClassId} {dI : Nat → Nat → Nat} {r : Nat → Nat} {cA : Nat → ClassId} {Rg : Nat → Prop} {H : Heap} {locs : List Loc} {uf : Nat → Int32} {ua : Nat → Nat → Int32} {h0 : Nat} {ls : Array Slot} (C : bx_C p s m args meth c cX5_fused 12 (some .long) RX5) (hl : lv_has ls 12 [(0, .ref h0), (1, .long x1), (3, .long x3), (5, .long x5), (7, .int x7), (8, .int x8)]) (hw : hW (dC, dI) (md_T cA) Rg s H locs (md_W h0 r cA uf ua us)) (h1 : x8 = 0 → 0 ≤ x1.toInt) (h3 : x8 = 0 → 0 ≤ x3.toInt) (h5 : x8 = 0 → 0 ≤ x5.toInt) (post : (Int64 × (Nat → Int64)) → Prop) (hq : post (fX5_fused us x1 x3 x5 x7 x8)) : W p l e rmX5_fused s m args below meth c H locs 0 0 (MQ below (va_Ql (fun r u => post (r, u)) (hBk (dC, dI) (md_T cA) Rg (fun u => md_W h0 r cA uf ua u)) Rg) args s 0 0 Rg) (F0 m 0 ls []) := by
  obtain ⟨hx, hb, hml, hr, hlocks, hown, hts⟩ := id C
  unfold fX5_fused at hq
  refine lv_lload_n hx hb dX5_fused_0 rfl (lv_at hl 1 rfl) ?_
  refine lv_iload hx hb dX5_fused_1 (lv_at hl 5 rfl) ?_
  refine bx_si C (kX5_isNan l x1 x8) bx_B_true (fun _ _ _ => trivial) tw_methodLink_RX5_102_yX5_isNan mbX5_isNan rfl ⟨rfl, rfl⟩ ⟨Nat.le_of_ble_eq_true rfl, Nat.le_of_ble_eq_true rfl⟩ ⟨Nat.zero_le _, Nat.zero_le _⟩ hl.1 rfl (Nat.le_of_ble_eq_true rfl) dX5_fused_3 ?_
  refine lv_if_ne (tgt := 33) hx hb dX5_fused_6 (by decide) (fun c1 => ?_) (fun c1 => ?_)
  · rw [if_neg c1] at hq
    exact bX5_fused_33 us x8 C (lv_sub hl [5] rfl) hw post hq
  · rw [if_pos c1] at hq
    refine lv_lload_n hx hb dX5_fused_9 rfl (lv_at hl 2 rfl) ?_
    refine lv_iload hx hb dX5_fused_10 (lv_at hl 5 rfl) ?_
    refine bx_si C (kX5_isNan l x3 x8) bx_B_true (fun _ _ _ => trivial) tw_methodLink_RX5_102_yX5_isNan mbX5_isNan rfl ⟨rfl, rfl⟩ ⟨Nat.le_of_ble_eq_true rfl, Nat.le_of_ble_eq_true rfl⟩ ⟨Nat.zero_le _, Nat.zero_le _⟩ hl.1 rfl (Nat.le_of_ble_eq_true rfl) dX5_fused_12 ?_
    refine lv_if_ne (tgt := 33) hx hb dX5_fused_15 (by decide) (fun c2 => ?_) (fun c2 => ?_)
    · rw [if_neg c2] at hq
      exact bX5_fused_33 us x8 C (lv_sub hl [5] rfl) hw post hq
    · rw [if_pos c2] at hq
      refine lv_iload hx hb dX5_fused_18 (lv_at hl 4 rfl) ?_
      refine lv_if_eq (tgt := 39) hx hb dX5_fused_20 (by decide) (fun c3 => ?_) (fun c3 => ?_)
      · rw [if_pos c3] at hq
        exact bX5_fused_39 us x1 x3 x5 x7 x8 C (lv_sub hl [0, 1, 2, 3, 4, 5] rfl) hw (sd_okE h1 (by assumption)) (sd_okE h3 (by assumption)) (by first | exact Or.inl (by assumption) | exact Or.inr (sd_okE h5 (by assumption))) post hq
      · rw [if_neg c3] at hq
        refine lv_lload hx hb dX5_fused_23 (lv_at hl 3 rfl) ?_
        refine lv_iload hx hb dX5_fused_25 (lv_at hl 5 rfl) ?_
        refine bx_si C (kX5_isNan l x5 x8) bx_B_true (fun _ _ _ => trivial) tw_methodLink_RX5_102_yX5_isNan mbX5_isNan rfl ⟨rfl, rfl⟩ ⟨Nat.le_of_ble_eq_true rfl, Nat.le_of_ble_eq_true rfl⟩ ⟨Nat.zero_le _, Nat.zero_le _⟩ hl.1 rfl (Nat.le_of_ble_eq_true rfl) dX5_fused_27 ?_
        refine lv_if_eq (tgt := 39) hx hb dX5_fused_30 (by decide) (fun c22 => ?_) (fun c22 => ?_)
        · rw [if_pos c22] at hq
          exact bX5_fused_39 us x1 x3 x5 x7 x8 C (lv_sub hl [0, 1, 2, 3, 4, 5] rfl) hw (sd_okE h1 (by assumption)) (sd_okE h3 (by assumption)) (by first | exact Or.inl (by assumption) | exact Or.inr (sd_okE h5 (by assumption))) post hq
        · rw [if_neg c22] at hq
          exact bX5_fused_33 us x8 C (lv_sub hl [5] rfl) hw post hq
theorem kX5_fused (l : Launch) (dC : Nat → ClassId) (dI : Nat → Nat → Nat) (h0 : Nat) (r : Nat → Nat) (cA : Nat → ClassId) (sz : Nat) (uf : Nat → Int32) (ua : Nat → Nat → Int32) (us : Nat → Int64) (x1 : Int64) (x3 : Int64) (x5 : Int64) (x7 : Int32) (x8 : Int32) (h1 : x8 = 0 → 0 ≤ x1.toInt) (h3 : x8 = 0 → 0 ≤ x3.toInt) (h5 : x8 = 0 → 0 ≤ x5.toInt) : Met l yX5_fused (Cond.code yX5_fused cX5_fused 12 (some .long) :: bw) rmX5_fused (hPc [.ref h0, .long x1, .long x3, .long x5, .int x7, .int x8] (dC, dI) (md_T cA) (md_W h0 r cA uf ua us) sz (fun _ => True)) (va_Ql (fun r u => (r, u) = fX5_fused us x1 x3 x5 x7 x8) (hBk (dC, dI) (md_T cA) (va_A (md_W h0 r cA uf ua us) sz) (fun u => md_W h0 r cA uf ua u)) (va_A (md_W h0 r cA uf ua us) sz)) 0 0 (va_A (md_W h0 r cA uf ua us) sz) := by
  refine hx_ent (by decide) _ _ (Nat.le_of_ble_eq_true rfl) rfl ?_
  intro p e s m below meth c ls C hl hw hsz _
  exact bX5_fused_0 us x1 x3 x5 x7 x8 C hl hw h1 h3 h5 (fun q => q = fX5_fused us x1 x3 x5 x7 x8) rfl
def fX5_multiply (us : Nat → Int64) (x1 : Int64) (x3 : Int64) (x5 : Int32) : Int64 × (Nat → Int64) :=
  ((fX5_fused us x1 x3 (0 : Int64) (0 : Int32) x5).1, (fX5_fused us x1 x3 (0 : Int64) (0 : Int32) x5).2)
abbrev rmX5_multiply : Room := { frames := 5, cells := 0, slots := 0, locals := 142 }
theorem mbX5_multiply : mb_V RX5 yX5_multiply cX5_multiply 6 (some .long) 3 := ⟨⟨tw_instanceMethod_yX5_multiply, tw_selects_RX5_yX5_multiply_yX5_multiply, tw_initialized_RX5, tw_code_yX5_multiply⟩, rfl, by decide +kernel, by decide +kernel, by decide +kernel⟩
set_option maxRecDepth 20000 in
theorem bX5_multiply_0 (us : Nat → Int64) (x1 : Int64) (x3 : Int64) (x5 : Int32) {p : Program} {l : Launch} {e : Env} {s : State} {m : MethodId} {args : Array Value} {below : List Frame} {meth : Method} {c : Code} {dC : Nat → ClassId} {dI : Nat → Nat → Nat} {r : Nat → Nat} {cA : Nat → ClassId} {Rg : Nat → Prop} {H : Heap} {locs : List Loc} {uf : Nat → Int32} {ua : Nat → Nat → Int32} {h0 : Nat} {ls : Array Slot} (C : bx_C p s m args meth c cX5_multiply 6 (some .long) RX5) (hl : lv_has ls 6 [(0, .ref h0), (1, .long x1), (3, .long x3), (5, .int x5)]) (hw : hW (dC, dI) (md_T cA) Rg s H locs (md_W h0 r cA uf ua us)) (h1 : x5 = 0 → 0 ≤ x1.toInt) (h3 : x5 = 0 → 0 ≤ x3.toInt) (post : (Int64 × (Nat → Int64)) → Prop) (hq : post (fX5_multiply us x1 x3 x5)) : W p l e rmX5_multiply s m args below meth c H locs 0 0 (MQ below (va_Ql (fun r u => post (r, u)) (hBk (dC, dI) (md_T cA) Rg (fun u => md_W h0 r cA uf ua u)) Rg) args s 0 0 Rg) (F0 m 0 ls []) := by
  obtain ⟨hx, hb, hml, hr, hlocks, hown, hts⟩ := id C
  unfold fX5_multiply at hq
  refine lv_aload_n hx hb dX5_multiply_0 rfl (lv_at hl 0 rfl) ?_
  refine lv_lload_n hx hb dX5_multiply_1 rfl (lv_at hl 1 rfl) ?_
  refine lv_lload_n hx hb dX5_multiply_2 rfl (lv_at hl 2 rfl) ?_
  refine lv_lconst (v := 0) hx hb dX5_multiply_3 (by decide) ?_
  refine lv_iconst (v := 0) hx hb dX5_multiply_4 (by decide) ?_
  refine lv_iload hx hb dX5_multiply_5 (lv_at hl 3 rfl) ?_
  refine hx_cl (Wf := (fun u => md_W h0 r cA uf ua u)) (u0 := us) (F := (fX5_fused us x1 x3 (0 : Int64) (0 : Int32) x5)) C (fun sz => kX5_fused l dC dI h0 r cA sz uf ua us x1 x3 (0 : Int64) (0 : Int32) x5 h1 h3 (fun _ => by decide)) (fun _ => bx_B_true) (fun _ _ _ => trivial) hw rfl rfl tw_methodLink_RX5_134_yX5_fused mbX5_fused rfl ⟨rfl, rfl⟩ ⟨Nat.le_of_ble_eq_true rfl, Nat.le_of_ble_eq_true rfl⟩ ⟨Nat.zero_le _, Nat.zero_le _⟩ hl.1 rfl (Nat.le_of_ble_eq_true rfl) dX5_multiply_7 (fun H locs hw => ?_)
  have hw : hW (dC, dI) (md_T cA) Rg s H locs (md_W h0 r cA uf ua ((fX5_fused us x1 x3 (0 : Int64) (0 : Int32) x5).2)) := hw
  exact hx_lret (Wf := (fun u => md_W h0 r cA uf ua u)) (post := post) (v := (fX5_fused us x1 x3 (0 : Int64) (0 : Int32) x5).1) (u := (fX5_fused us x1 x3 (0 : Int64) (0 : Int32) x5).2) hx hb hr hlocks hw hq dX5_multiply_10
theorem kX5_multiply (l : Launch) (dC : Nat → ClassId) (dI : Nat → Nat → Nat) (h0 : Nat) (r : Nat → Nat) (cA : Nat → ClassId) (sz : Nat) (uf : Nat → Int32) (ua : Nat → Nat → Int32) (us : Nat → Int64) (x1 : Int64) (x3 : Int64) (x5 : Int32) (h1 : x5 = 0 → 0 ≤ x1.toInt) (h3 : x5 = 0 → 0 ≤ x3.toInt) : Met l yX5_multiply (Cond.code yX5_multiply cX5_multiply 6 (some .long) :: bw) rmX5_multiply (hPc [.ref h0, .long x1, .long x3, .int x5] (dC, dI) (md_T cA) (md_W h0 r cA uf ua us) sz (fun _ => True)) (va_Ql (fun r u => (r, u) = fX5_multiply us x1 x3 x5) (hBk (dC, dI) (md_T cA) (va_A (md_W h0 r cA uf ua us) sz) (fun u => md_W h0 r cA uf ua u)) (va_A (md_W h0 r cA uf ua us) sz)) 0 0 (va_A (md_W h0 r cA uf ua us) sz) := by
  refine hx_ent (by decide) _ _ (Nat.le_of_ble_eq_true rfl) rfl ?_
  intro p e s m below meth c ls C hl hw hsz _
  exact bX5_multiply_0 us x1 x3 x5 C hl hw h1 h3 (fun q => q = fX5_multiply us x1 x3 x5) rfl
