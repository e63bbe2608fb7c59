def fX5_thrown0 (uf : Nat → Int32) (x1 : Int32) : Int32 × (Nat → Int32) :=
  if x1 = 0 then ((0 : Int32), (va_up uf 8 (0 : Int32)))
  else ((1 : Int32), (va_up uf 8 (1 : Int32)))
abbrev rmX5_thrown0 : Room := { frames := 0, cells := 0, slots := 0, locals := 0 }
theorem mbX5_thrown0 : mb_V RX5 yX5_thrown0 cX5_thrown0 2 (some .int) 1 := ⟨⟨tw_instanceMethod_yX5_thrown0, tw_selects_RX5_yX5_thrown0_yX5_thrown0, tw_initialized_RX5, tw_code_yX5_thrown0⟩, rfl, by decide +kernel, by decide +kernel, by decide +kernel⟩
set_option maxRecDepth 20000 in
theorem bX5_thrown0_0 (uf : Nat → Int32) (x1 : Int32) {p : Program} {l : Launch} {e : Env} {s : State} {m : MethodId} {args : Array Value} {below : List Frame} {meth : Method} {c : Code} {dC : Nat → ClassId} {dI : Nat → Nat → Nat} {r : Nat → Nat} {cA : Nat → ClassId} {Rg : Nat → Prop} {H : Heap} {locs : List Loc} {ua : Nat → Nat → Int32} {us : Nat → Int64} {h0 : Nat} {ls : Array Slot} (C : bx_C p s m args meth c cX5_thrown0 2 (some .int) RX5) (hl : lv_has ls 2 [(0, .ref h0), (1, .int x1)]) (hw : hW (dC, dI) (md_T cA) Rg s H locs (md_W h0 r cA uf ua us)) (post : (Int32 × (Nat → Int32)) → Prop) (hq : post (fX5_thrown0 uf x1)) : W p l e rmX5_thrown0 s m args below meth c H locs 0 0 (MQ below (va_Qi (fun r u => post (r, u)) (hBk (dC, dI) (md_T cA) Rg (fun u => md_W h0 r cA u ua us)) Rg) args s 0 0 Rg) (F0 m 0 ls []) := by
  obtain ⟨hx, hb, hml, hr, hlocks, hown, hts⟩ := id C
  unfold fX5_thrown0 at hq
  refine lv_aload_n hx hb dX5_thrown0_0 rfl (lv_at hl 0 rfl) ?_
  refine lv_iload_n hx hb dX5_thrown0_1 rfl (lv_at hl 1 rfl) ?_
  refine lv_if_eq (tgt := 9) hx hb dX5_thrown0_2 (by decide) (fun c1 => ?_) (fun c1 => ?_)
  · rw [if_pos c1] at hq
    refine lv_iconst (v := 0) hx hb dX5_thrown0_9 (by decide) ?_
    refine hx_put (ws' := (md_W h0 r cA (va_up uf 8 (0 : Int32)) ua us)) hx hb hts inX5 tyX5 tyX5_ok nmX5 hown hw 0 rfl rfl 8 (by decide) tw_fieldLink_RX5_212_GlulxFloatsModel_thrownNow_I rfl rfl (by decide +kernel) (Nat.le_of_ble_eq_true rfl) dX5_thrown0_10 rfl (fun H locs hw => ?_)
    refine lv_aload_n hx hb dX5_thrown0_13 rfl (lv_at hl 0 rfl) ?_
    refine hx_get (v := .int (0 : Int32)) hx hb hts inX5 hown hw.1 hw.2.2.2.1 0 rfl rfl 8 (by decide) tw_fieldLink_RX5_212_GlulxFloatsModel_thrownNow_I rfl rfl dX5_thrown0_14 ?_
    exact hx_iret (Wf := (fun u => md_W h0 r cA u ua us)) (post := post) (v := (0 : Int32)) (u := (va_up uf 8 (0 : Int32))) hx hb hr hlocks hw hq dX5_thrown0_17
  · rw [if_neg c1] at hq
    refine lv_iconst (v := 1) hx hb dX5_thrown0_5 (by decide) ?_
    refine lv_goto (tgt := 10) hx hb dX5_thrown0_6 (by decide) ?_
    refine hx_put (ws' := (md_W h0 r cA (va_up uf 8 (1 : Int32)) ua us)) hx hb hts inX5 tyX5 tyX5_ok nmX5 hown hw 0 rfl rfl 8 (by decide) tw_fieldLink_RX5_212_GlulxFloatsModel_thrownNow_I rfl rfl (by decide +kernel) (Nat.le_of_ble_eq_true rfl) dX5_thrown0_10 rfl (fun H locs hw => ?_)
    refine lv_aload_n hx hb dX5_thrown0_13 rfl (lv_at hl 0 rfl) ?_
    refine hx_get (v := .int (1 : Int32)) hx hb hts inX5 hown hw.1 hw.2.2.2.1 0 rfl rfl 8 (by decide) tw_fieldLink_RX5_212_GlulxFloatsModel_thrownNow_I rfl rfl dX5_thrown0_14 ?_
    exact hx_iret (Wf := (fun u => md_W h0 r cA u ua us)) (post := post) (v := (1 : Int32)) (u := (va_up uf 8 (1 : Int32))) hx hb hr hlocks hw hq dX5_thrown0_17
theorem kX5_thrown0 (l : Launch) (dC : Nat → ClassId) (dI : Nat → Nat → Nat) (h0 : Nat) (r : Nat → Nat) (cA : Nat → ClassId) (sz : Nat) (uf : Nat → Int32) (ua : Nat → Nat → Int32) (us : Nat → Int64) (x1 : Int32) : Met l yX5_thrown0 (Cond.code yX5_thrown0 cX5_thrown0 2 (some .int) :: bw) rmX5_thrown0 (hPc [.ref h0, .int x1] (dC, dI) (md_T cA) (md_W h0 r cA uf ua us) sz (fun _ => True)) (va_Qi (fun r u => (r, u) = fX5_thrown0 uf x1) (hBk (dC, dI) (md_T cA) (va_A (md_W h0 r cA uf ua us) sz) (fun u => md_W h0 r cA u ua us)) (va_A (md_W h0 r cA uf ua us) sz)) 0 0 (va_A (md_W h0 r cA uf ua us) sz) := by
  refine hx_ent (by decide) _ _ (Nat.le_of_ble_eq_true rfl) rfl ?_
  intro p e s m below meth c ls C hl hw hsz _
  exact bX5_thrown0_0 uf x1 C hl hw (fun q => q = fX5_thrown0 uf x1) rfl
def fX5_thrown (uf : Nat → Int32) : Int32 :=
  (uf 8)
abbrev rmX5_thrown : Room := { frames := 0, cells := 0, slots := 0, locals := 0 }
theorem mbX5_thrown : mb_V RX5 yX5_thrown cX5_thrown 1 (some .int) 0 := ⟨⟨tw_instanceMethod_yX5_thrown, tw_selects_RX5_yX5_thrown_yX5_thrown, tw_initialized_RX5, tw_code_yX5_thrown⟩, rfl, by decide +kernel, by decide +kernel, by decide +kernel⟩
set_option maxRecDepth 20000 in
theorem bX5_thrown_0 (uf : Nat → Int32) {p : Program} {l : Launch} {e : Env} {s : State} {m : MethodId} {args : Array Value} {below : List Frame} {meth : Method} {c : Code} {dC : Nat → ClassId} {dI : Nat → Nat → Nat} {r : Nat → Nat} {cA : Nat → ClassId} {ua : Nat → Nat → Int32} {us : Nat → Int64} {h0 : Nat} {ls : Array Slot} (C : bx_C p s m args meth c cX5_thrown 1 (some .int) RX5) (hK0 : rd_K (dC, dI) (md_T cA) (md_W h0 r cA uf ua us) s) (hl : lv_has ls 1 [(0, .ref h0)]) (post : (Int32) → Prop) (hq : post (fX5_thrown uf)) : W p l e rmX5_thrown s m args below meth c s.heap [] 0 0 (MQ below (vp_Si post) args s 0 0 (fun _ => False)) (F0 m 0 ls []) := by
  obtain ⟨hx, hb, hml, hr, hlocks, hown, hts⟩ := id C
  unfold fX5_thrown at hq
  refine lv_aload_n hx hb dX5_thrown_0 rfl (lv_at hl 0 rfl) ?_
  refine hx_get (v := .int (uf 8)) hx hb hts inX5 hown hK0.1 hK0.2 0 rfl rfl 8 (by decide) tw_fieldLink_RX5_212_GlulxFloatsModel_thrownNow_I rfl rfl dX5_thrown_1 ?_
  exact W.iret (v := (uf 8)) hx hb hr (fun t ht hW => ⟨_, rfl, hq, ht⟩) (fun _ h => absurd h List.not_mem_nil) dX5_thrown_4
theorem kX5_thrown (l : Launch) (dC : Nat → ClassId) (dI : Nat → Nat → Nat) (h0 : Nat) (r : Nat → Nat) (cA : Nat → ClassId) (uf : Nat → Int32) (ua : Nat → Nat → Int32) (us : Nat → Int64) : Met l yX5_thrown (Cond.code yX5_thrown cX5_thrown 1 (some .int) :: bw) rmX5_thrown (va_Pc [.ref h0] (rd_K (dC, dI) (md_T cA) (md_W h0 r cA uf ua us))) (vp_Si (fun r => r = fX5_thrown uf)) 0 0 (fun _ => False) := by
  refine bx_ent (by decide) _ _ (Nat.le_of_ble_eq_true rfl) rfl ?_
  intro p e s m below meth c ls C hl hK0
  exact bX5_thrown_0 uf C hK0 hl _ rfl
def gX5_clearSum_2 : Nat → (Nat → Int64) → Int32 → (Nat → Int64) × Int32
  | 0, us, x1 => (us, x1)
  | n + 1, us, x1 =>
  if (290 : Int32) ≤ x1 then (us, x1)
  else gX5_clearSum_2 n (vp_updL us x1.toNatClampNeg (0 : Int64)) (x1 + 1)
def fX5_clearSum_22 (us : Nat → Int64) : Nat → Int64 :=
  us
def fX5_clearSum (us : Nat → Int64) : Nat → Int64 :=
  fX5_clearSum_22 ((gX5_clearSum_2 (Nat.succ ((Int32.toInt (290) - Int32.toInt (0 : Int32)).toNat)) us (0 : Int32)).1)
abbrev rmX5_clearSum : Room := { frames := 0, cells := 0, slots := 0, locals := 0 }
theorem mbX5_clearSum : mb_V RX5 yX5_clearSum cX5_clearSum 2 none 0 := ⟨⟨tw_instanceMethod_yX5_clearSum, tw_selects_RX5_yX5_clearSum_yX5_clearSum, tw_initialized_RX5, tw_code_yX5_clearSum⟩, rfl, by decide +kernel, by decide +kernel, by decide +kernel⟩
set_option maxRecDepth 20000 in
theorem lX5_clearSum_2 {p : Program} {l : Launch} {e : Env} {s : State} {m : MethodId} {args : Array Value} {below : List Frame} {meth : Method} {c : Code} {dC : Nat → ClassId} {dI : Nat → Nat → Nat} {r : Nat → Nat} {cA : Nat → ClassId} {Rg : Nat → Prop} {uf : Nat → Int32} {ua : Nat → Nat → Int32} {h0 : Nat} {Q : State → Prop} (C : bx_C p s m args meth c cX5_clearSum 2 none RX5) (post : ((Nat → Int64) × Int32) → Prop) (kx : ∀ (ous : Nat → Int64) (o1 : Int32) (ls : Array Slot) (H : Heap) (locs : List Loc), (0 ≤ Int32.toInt o1) → lv_has ls 2 [(1, .int o1)] → hW (dC, dI) (md_T cA) Rg s H locs (md_W h0 r cA uf ua ous) → post (ous, o1) → W p l e rmX5_clearSum s m args below meth c H locs 0 0 Q (F0 m 22 ls [])) :
    ∀ (n : Nat) (us : Nat → Int64) (x1 : Int32) (ls : Array Slot) (H : Heap) (locs : List Loc), (Int32.toInt (290) - Int32.toInt x1).toNat < n → (0 ≤ Int32.toInt x1) → lv_has ls 2 [(0, .ref h0), (1, .int x1)] → hW (dC, dI) (md_T cA) Rg s H locs (md_W h0 r cA uf ua us) → post (gX5_clearSum_2 n us x1) → W p l e rmX5_clearSum s m args below meth c H locs 0 0 Q (F0 m 2 ls []) := by
  obtain ⟨hx, hb, hml, hr, hlocks, hown, hts⟩ := id C
  intro n
  induction n with
  | zero =>
    intro us x1 ls H locs hm
    exact absurd hm (Nat.not_lt_zero _)
  | succ n ih =>
    intro us x1 ls H locs hm hi hl hw hq
    rw [gX5_clearSum_2] at hq
    refine lv_iload_n hx hb dX5_clearSum_2 rfl (lv_at hl 1 rfl) ?_
    refine lv_sipush (v := 290) hx hb dX5_clearSum_3 (by decide) ?_
    refine lv_icmp_ge (tgt := 22) hx hb dX5_clearSum_6 (by decide) (fun c1 => ?_) (fun c1 => ?_)
    · rw [if_pos c1] at hq
      exact kx us x1 _ _ _ hi (lv_sub hl [1] rfl) hw hq
    · rw [if_neg c1] at hq
      refine lv_aload_n hx hb dX5_clearSum_9 rfl (lv_at hl 0 rfl) ?_
      refine hx_get (v := .ref (r 9)) hx hb hts inX5 hown hw.1 hw.2.2.2.1 0 rfl rfl 9 (by decide) tw_fieldLink_RX5_32_GlulxFloatsModel_sum_J rfl rfl dX5_clearSum_10 ?_
      refine lv_iload_n hx hb dX5_clearSum_13 rfl (lv_at hl 1 rfl) ?_
      refine lv_lconst (v := 0) hx hb dX5_clearSum_14 (by decide) ?_
      refine hx_last (ws' := (md_W h0 r cA uf ua (vp_updL us x1.toNatClampNeg (0 : Int64)))) hx hb hw 7 6 rfl rfl (by first | assumption | exact vi_lt hi (by assumption) (by decide)) dX5_clearSum_15 rfl (fun H locs hw => ?_)
      refine lv_iinc (v := (x1 + 1)) (lv' := [(1, .int (x1 + 1)), (0, .ref h0)]) hx hb dX5_clearSum_16 hl (k := 1) rfl rfl (by decide) rfl (fun ls hl => ?_)
      refine lv_goto (tgt := 2) hx hb dX5_clearSum_19 (by decide) ?_
      exact ih (vp_updL us x1.toNatClampNeg (0 : Int64)) (x1 + 1) _ _ _ (lp_up (by assumption) hm) (li_up (by assumption) hi) (lv_sub hl [1, 0] rfl) hw hq
set_option maxRecDepth 20000 in
theorem bX5_clearSum_22 (us : Nat → Int64) {p : Program} {l : Launch} {e : Env} {s : State} {m : MethodId} {args : Array Value} {below : List Frame} {meth : Method} {c : Code} {dC : Nat → ClassId} {dI : Nat → Nat → Nat} {r : Nat → Nat} {cA : Nat → ClassId} {Rg : Nat → Prop} {H : Heap} {locs : List Loc} {uf : Nat → Int32} {ua : Nat → Nat → Int32} {h0 : Nat} {ls : Array Slot} (C : bx_C p s m args meth c cX5_clearSum 2 none RX5) (hl : lv_has ls 2 []) (hw : hW (dC, dI) (md_T cA) Rg s H locs (md_W h0 r cA uf ua us)) (post : (Nat → Int64) → Prop) (hq : post (fX5_clearSum_22 us)) : W p l e rmX5_clearSum s m args below meth c H locs 0 0 (MQ below (va_Qv post (hBk (dC, dI) (md_T cA) Rg (fun u => md_W h0 r cA uf ua u)) Rg) args s 0 0 Rg) (F0 m 22 ls []) := by
  obtain ⟨hx, hb, hml, hr, hlocks, hown, hts⟩ := id C
  unfold fX5_clearSum_22 at hq
  exact hx_vret (Wf := (fun u => md_W h0 r cA uf ua u)) (u := us) hx hb hr hlocks hw hq dX5_clearSum_22
set_option maxRecDepth 20000 in
theorem bX5_clearSum_0 (us : Nat → Int64) {p : Program} {l : Launch} {e : Env} {s : State} {m : MethodId} {args : Array Value} {below : List Frame} {meth : Method} {c : Code} {dC : Nat → ClassId} {dI : Nat → Nat → Nat} {r : Nat → Nat} {cA : Nat → ClassId} {Rg : Nat → Prop} {H : Heap} {locs : List Loc} {uf : Nat → Int32} {ua : Nat → Nat → Int32} {h0 : Nat} {ls : Array Slot} (C : bx_C p s m args meth c cX5_clearSum 2 none RX5) (hl : lv_has ls 2 [(0, .ref h0)]) (hw : hW (dC, dI) (md_T cA) Rg s H locs (md_W h0 r cA uf ua us)) (post : (Nat → Int64) → Prop) (hq : post (fX5_clearSum us)) : W p l e rmX5_clearSum s m args below meth c H locs 0 0 (MQ below (va_Qv post (hBk (dC, dI) (md_T cA) Rg (fun u => md_W h0 r cA uf ua u)) Rg) args s 0 0 Rg) (F0 m 0 ls []) := by
  obtain ⟨hx, hb, hml, hr, hlocks, hown, hts⟩ := id C
  unfold fX5_clearSum at hq
  refine lv_iconst (v := 0) hx hb dX5_clearSum_0 (by decide) ?_
  refine lv_istore_n (lv' := [(1, .int (0 : Int32)), (0, .ref h0)]) hx hb dX5_clearSum_1 rfl hl (by decide) rfl (fun ls hl => ?_)
  exact lX5_clearSum_2 C (fun t => post (fX5_clearSum_22 t.1)) (fun ous o1 ls H locs hi hl hw hq => bX5_clearSum_22 ous C (lv_sub hl [] rfl) hw post hq) (Nat.succ ((Int32.toInt (290) - Int32.toInt (0 : Int32)).toNat)) us (0 : Int32) _ _ _ (Nat.lt_succ_self _) (by decide) (lv_sub hl [1, 0] rfl) hw hq
theorem kX5_clearSum (l : Launch) (dC : Nat → ClassId) (dI : Nat → Nat → Nat) (h0 : Nat) (r : Nat → Nat) (cA : Nat → ClassId) (sz : Nat) (uf : Nat → Int32) (ua : Nat → Nat → Int32) (us : Nat → Int64) : Met l yX5_clearSum (Cond.code yX5_clearSum cX5_clearSum 2 none :: bw) rmX5_clearSum (hPc [.ref h0] (dC, dI) (md_T cA) (md_W h0 r cA uf ua us) sz (fun _ => True)) (va_Qv (fun u => u = fX5_clearSum us) (hBk (dC, dI) (md_T cA) (va_A (md_W h0 r cA uf ua us) sz) (fun u => md_W h0 r cA uf ua u)) (va_A (md_W h0 r cA uf ua us) sz)) 0 0 (va_A (md_W h0 r cA uf ua us) sz) := by
  refine hx_ent (by decide) _ _ (Nat.le_of_ble_eq_true rfl) rfl ?_
  intro p e s m below meth c ls C hl hw hsz _
  exact bX5_clearSum_0 us C hl hw (fun u => u = fX5_clearSum us) rfl
def gX5_carry_4 : Nat → (Nat → Int64) → Int64 → Int32 → (Nat → Int64) × Int64 × Int32
  | 0, us, x1, x3 => (us, x1, x3)
  | n + 1, us, x1, x3 =>
  if (290 : Int32) ≤ x3 then (us, x1, x3)
  else gX5_carry_4 n (vp_updL us x3.toNatClampNeg ((x1 + (us x3.toNatClampNeg)) &&& (65535 : Int64))) (jl_shr (x1 + (us x3.toNatClampNeg)) (16 : Int32)) (x3 + 1)
def fX5_carry_42 (us : Nat → Int64) (x1 : Int64) : Int64 × (Nat → Int64) :=
  (x1, us)
def fX5_carry (us : Nat → Int64) : Int64 × (Nat → Int64) :=
  fX5_carry_42 ((gX5_carry_4 (Nat.succ ((Int32.toInt (290) - Int32.toInt (0 : Int32)).toNat)) us (0 : Int64) (0 : Int32)).1) ((gX5_carry_4 (Nat.succ ((Int32.toInt (290) - Int32.toInt (0 : Int32)).toNat)) us (0 : Int64) (0 : Int32)).2.1)
abbrev rmX5_carry : Room := { frames := 0, cells := 0, slots := 0, locals := 0 }
theorem mbX5_carry : mb_V RX5 yX5_carry cX5_carry 4 (some .long) 0 := ⟨⟨tw_instanceMethod_yX5_carry, tw_selects_RX5_yX5_carry_yX5_carry, tw_initialized_RX5, tw_code_yX5_carry⟩, rfl, by decide +kernel, by decide +kernel, by decide +kernel⟩
set_option maxRecDepth 20000 in
theorem lX5_carry_4 {p : Program} {l : Launch} {e : Env} {s : State} {m : MethodId} {args : Array Value} {below : List Frame} {meth : Method} {c : Code} {dC : Nat → ClassId} {dI : Nat → Nat → Nat} {r : Nat → Nat} {cA : Nat → ClassId} {Rg : Nat → Prop} {uf : Nat → Int32} {ua : Nat → Nat → Int32} {h0 : Nat} {Q : State → Prop} (C : bx_C p s m args meth c cX5_carry 4 (some .long) RX5) (post : ((Nat → Int64) × Int64 × Int32) → Prop) (kx : ∀ (ous : Nat → Int64) (o1 : Int64) (o3 : Int32) (ls : Array Slot) (H : Heap) (locs : List Loc), (0 ≤ Int32.toInt o3) → lv_has ls 4 [(1, .long o1), (3, .int o3)] → hW (dC, dI) (md_T cA) Rg s H locs (md_W h0 r cA uf ua ous) → post (ous, o1, o3) → W p l e rmX5_carry s m args below meth c H locs 0 0 Q (F0 m 42 ls [])) :
    ∀ (n : Nat) (us : Nat → Int64) (x1 : Int64) (x3 : Int32) (ls : Array Slot) (H : Heap) (locs : List Loc), (Int32.toInt (290) - Int32.toInt x3).toNat < n → (0 ≤ Int32.toInt x3) → lv_has ls 4 [(0, .ref h0), (1, .long x1), (3, .int x3)] → hW (dC, dI) (md_T cA) Rg s H locs (md_W h0 r cA uf ua us) → post (gX5_carry_4 n us x1 x3) → W p l e rmX5_carry s m args below meth c H locs 0 0 Q (F0 m 4 ls []) := by
  obtain ⟨hx, hb, hml, hr, hlocks, hown, hts⟩ := id C
  intro n
  induction n with
  | zero =>
    intro us x1 x3 ls H locs hm
    exact absurd hm (Nat.not_lt_zero _)
  | succ n ih =>
    intro us x1 x3 ls H locs hm hi hl hw hq
    rw [gX5_carry_4] at hq
    refine lv_iload_n hx hb dX5_carry_4 rfl (lv_at hl 2 rfl) ?_
    refine lv_sipush (v := 290) hx hb dX5_carry_5 (by decide) ?_
    refine lv_icmp_ge (tgt := 42) hx hb dX5_carry_8 (by decide) (fun c1 => ?_) (fun c1 => ?_)
    · rw [if_pos c1] at hq
      exact kx us x1 x3 _ _ _ hi (lv_sub hl [1, 2] rfl) hw hq
    · rw [if_neg c1] at hq
      refine lv_lload_n hx hb dX5_carry_11 rfl (lv_at hl 1 rfl) ?_
      refine lv_aload_n hx hb dX5_carry_12 rfl (lv_at hl 0 rfl) ?_
      refine hx_get (v := .ref (r 9)) hx hb hts inX5 hown hw.1 hw.2.2.2.1 0 rfl rfl 9 (by decide) tw_fieldLink_RX5_32_GlulxFloatsModel_sum_J rfl rfl dX5_carry_13 ?_
      refine lv_iload_n hx hb dX5_carry_16 rfl (lv_at hl 2 rfl) ?_
      refine hx_lald hx hb hw.1 hw.2.2.2.1 7 6 rfl rfl (by first | assumption | exact vi_lt hi (by assumption) (by decide)) dX5_carry_17 ?_
      refine lv_ladd hx hb dX5_carry_18 ?_
      refine lv_lstore_n (lv' := [(1, .long (x1 + (us x3.toNatClampNeg))), (0, .ref h0), (3, .int x3)]) hx hb dX5_carry_19 rfl hl (by decide) rfl (fun ls hl => ?_)
      refine lv_aload_n hx hb dX5_carry_20 rfl (lv_at hl 1 rfl) ?_
      refine hx_get (v := .ref (r 9)) hx hb hts inX5 hown hw.1 hw.2.2.2.1 0 rfl rfl 9 (by decide) tw_fieldLink_RX5_32_GlulxFloatsModel_sum_J rfl rfl dX5_carry_21 ?_
      refine lv_iload_n hx hb dX5_carry_24 rfl (lv_at hl 2 rfl) ?_
      refine lv_lload_n hx hb dX5_carry_25 rfl (lv_at hl 0 rfl) ?_
      refine lv_ldc2 (v := 65535) hx hb hown (hts _ tw_constantLong_RX5_86_65535) dX5_carry_26 ?_
      refine lv_land hx hb dX5_carry_29 ?_
      refine hx_last (ws' := (md_W h0 r cA uf ua (vp_updL us x3.toNatClampNeg ((x1 + (us x3.toNatClampNeg)) &&& (65535 : Int64))))) hx hb hw 7 6 rfl rfl (by first | assumption | exact vi_lt hi (by assumption) (by decide)) dX5_carry_30 rfl (fun H locs hw => ?_)
      refine lv_lload_n hx hb dX5_carry_31 rfl (lv_at hl 0 rfl) ?_
      refine lv_bipush (v := 16) hx hb dX5_carry_32 (by decide) ?_
      refine bx_lshr hx hb dX5_carry_34 ?_
      refine lv_lstore_n (lv' := [(1, .long (jl_shr (x1 + (us x3.toNatClampNeg)) (16 : Int32))), (0, .ref h0), (3, .int x3)]) hx hb dX5_carry_35 rfl hl (by decide) rfl (fun ls hl => ?_)
      refine lv_iinc (v := (x3 + 1)) (lv' := [(3, .int (x3 + 1)), (1, .long (jl_shr (x1 + (us x3.toNatClampNeg)) (16 : Int32))), (0, .ref h0)]) hx hb dX5_carry_36 hl (k := 2) rfl rfl (by decide) rfl (fun ls hl => ?_)
      refine lv_goto (tgt := 4) hx hb dX5_carry_39 (by decide) ?_
      exact ih (vp_updL us x3.toNatClampNeg ((x1 + (us x3.toNatClampNeg)) &&& (65535 : Int64))) (jl_shr (x1 + (us x3.toNatClampNeg)) (16 : Int32)) (x3 + 1) _ _ _ (lp_up (by assumption) hm) (li_up (by assumption) hi) (lv_sub hl [2, 1, 0] rfl) hw hq
set_option maxRecDepth 20000 in
theorem bX5_carry_42 (us : Nat → Int64) (x1 : Int64) {p : Program} {l : Launch} {e : Env} {s : State} {m : MethodId} {args : Array Value} {below : List Frame} {meth : Method} {c : Code} {dC : Nat → ClassId} {dI : Nat → Nat → Nat} {r : Nat → Nat} {cA : Nat → ClassId} {Rg : Nat → Prop} {H : Heap} {locs : List Loc} {uf : Nat → Int32} {ua : Nat → Nat → Int32} {h0 : Nat} {ls : Array Slot} (C : bx_C p s m args meth c cX5_carry 4 (some .long) RX5) (hl : lv_has ls 4 [(1, .long x1)]) (hw : hW (dC, dI) (md_T cA) Rg s H locs (md_W h0 r cA uf ua us)) (post : (Int64 × (Nat → Int64)) → Prop) (hq : post (fX5_carry_42 us x1)) : W p l e rmX5_carry s m args below meth c H locs 0 0 (MQ below (va_Ql (fun r u => post (r, u)) (hBk (dC, dI) (md_T cA) Rg (fun u => md_W h0 r cA uf ua u)) Rg) args s 0 0 Rg) (F0 m 42 ls []) := by
  obtain ⟨hx, hb, hml, hr, hlocks, hown, hts⟩ := id C
  unfold fX5_carry_42 at hq
  refine lv_lload_n hx hb dX5_carry_42 rfl (lv_at hl 0 rfl) ?_
  exact hx_lret (Wf := (fun u => md_W h0 r cA uf ua u)) (post := post) (v := x1) (u := us) hx hb hr hlocks hw hq dX5_carry_43
set_option maxRecDepth 20000 in
theorem bX5_carry_0 (us : Nat → Int64) {p : Program} {l : Launch} {e : Env} {s : State} {m : MethodId} {args : Array Value} {below : List Frame} {meth : Method} {c : Code} {dC : Nat → ClassId} {dI : Nat → Nat → Nat} {r : Nat → Nat} {cA : Nat → ClassId} {Rg : Nat → Prop} {H : Heap} {locs : List Loc} {uf : Nat → Int32} {ua : Nat → Nat → Int32} {h0 : Nat} {ls : Array Slot} (C : bx_C p s m args meth c cX5_carry 4 (some .long) RX5) (hl : lv_has ls 4 [(0, .ref h0)]) (hw : hW (dC, dI) (md_T cA) Rg s H locs (md_W h0 r cA uf ua us)) (post : (Int64 × (Nat → Int64)) → Prop) (hq : post (fX5_carry us)) : W p l e rmX5_carry s m args below meth c H locs 0 0 (MQ below (va_Ql (fun r u => post (r, u)) (hBk (dC, dI) (md_T cA) Rg (fun u => md_W h0 r cA uf ua u)) Rg) args s 0 0 Rg) (F0 m 0 ls []) := by
  obtain ⟨hx, hb, hml, hr, hlocks, hown, hts⟩ := id C
  unfold fX5_carry at hq
  refine lv_lconst (v := 0) hx hb dX5_carry_0 (by decide) ?_
  refine lv_lstore_n (lv' := [(1, .long (0 : Int64)), (0, .ref h0)]) hx hb dX5_carry_1 rfl hl (by decide) rfl (fun ls hl => ?_)
  refine lv_iconst (v := 0) hx hb dX5_carry_2 (by decide) ?_
  refine lv_istore_n (lv' := [(3, .int (0 : Int32)), (1, .long (0 : Int64)), (0, .ref h0)]) hx hb dX5_carry_3 rfl hl (by decide) rfl (fun ls hl => ?_)
  exact lX5_carry_4 C (fun t => post (fX5_carry_42 t.1 t.2.1)) (fun ous o1 o3 ls H locs hi hl hw hq => bX5_carry_42 ous o1 C (lv_sub hl [0] rfl) hw post hq) (Nat.succ ((Int32.toInt (290) - Int32.toInt (0 : Int32)).toNat)) us (0 : Int64) (0 : Int32) _ _ _ (Nat.lt_succ_self _) (by decide) (lv_sub hl [2, 1, 0] rfl) hw hq
theorem kX5_carry (l : Launch) (dC : Nat → ClassId) (dI : Nat → Nat → Nat) (h0 : Nat) (r : Nat → Nat) (cA : Nat → ClassId) (sz : Nat) (uf : Nat → Int32) (ua : Nat → Nat → Int32) (us : Nat → Int64) : Met l yX5_carry (Cond.code yX5_carry cX5_carry 4 (some .long) :: bw) rmX5_carry (hPc [.ref h0] (dC, dI) (md_T cA) (md_W h0 r cA uf ua us) sz (fun _ => True)) (va_Ql (fun r u => (r, u) = fX5_carry us) (hBk (dC, dI) (md_T cA) (va_A (md_W h0 r cA uf ua us) sz) (fun u => md_W h0 r cA uf ua u)) (va_A (md_W h0 r cA uf ua us) sz)) 0 0 (va_A (md_W h0 r cA uf ua us) sz) := by
  refine hx_ent (by decide) _ _ (Nat.le_of_ble_eq_true rfl) rfl ?_
  intro p e s m below meth c ls C hl hw hsz _
  exact bX5_carry_0 us C hl hw (fun q => q = fX5_carry us) rfl
def gX5_addTo_25 (x1 : Int32) (x2 : Int64) (x6 : Int32) (x7 : Int32) : Nat → (Nat → Int64) → Int32 → (Nat → Int64) × Int32
  | 0, us, x8 => (us, x8)
  | n + 1, us, x8 =>
  if (4 : Int32) ≤ x8 then (us, x8)
  else if x1 = 0 then if x1 = 0 then gX5_addTo_25 x1 x2 x6 x7 n (vp_updL (vp_updL us (x7 + x8).toNatClampNeg ((us (x7 + x8).toNatClampNeg) + ((jl_shl ((jl_ushr x2 ((16 : Int32) * x8)) &&& (65535 : Int64)) x6) &&& (65535 : Int64)))) ((x7 + x8) + (1 : Int32)).toNatClampNeg (((vp_updL us (x7 + x8).toNatClampNeg ((us (x7 + x8).toNatClampNeg) + ((jl_shl ((jl_ushr x2 ((16 : Int32) * x8)) &&& (65535 : Int64)) x6) &&& (65535 : Int64)))) ((x7 + x8) + (1 : Int32)).toNatClampNeg) + (jl_ushr (jl_shl ((jl_ushr x2 ((16 : Int32) * x8)) &&& (65535 : Int64)) x6) (16 : Int32)))) (x8 + 1)
      else gX5_addTo_25 x1 x2 x6 x7 n (vp_updL (vp_updL us (x7 + x8).toNatClampNeg ((us (x7 + x8).toNatClampNeg) + ((jl_shl ((jl_ushr x2 ((16 : Int32) * x8)) &&& (65535 : Int64)) x6) &&& (65535 : Int64)))) ((x7 + x8) + (1 : Int32)).toNatClampNeg (((vp_updL us (x7 + x8).toNatClampNeg ((us (x7 + x8).toNatClampNeg) + ((jl_shl ((jl_ushr x2 ((16 : Int32) * x8)) &&& (65535 : Int64)) x6) &&& (65535 : Int64)))) ((x7 + x8) + (1 : Int32)).toNatClampNeg) + (-(jl_ushr (jl_shl ((jl_ushr x2 ((16 : Int32) * x8)) &&& (65535 : Int64)) x6) (16 : Int32))))) (x8 + 1)
    else if x1 = 0 then gX5_addTo_25 x1 x2 x6 x7 n (vp_updL (vp_updL us (x7 + x8).toNatClampNeg ((us (x7 + x8).toNatClampNeg) + (-((jl_shl ((jl_ushr x2 ((16 : Int32) * x8)) &&& (65535 : Int64)) x6) &&& (65535 : Int64))))) ((x7 + x8) + (1 : Int32)).toNatClampNeg (((vp_updL us (x7 + x8).toNatClampNeg ((us (x7 + x8).toNatClampNeg) + (-((jl_shl ((jl_ushr x2 ((16 : Int32) * x8)) &&& (65535 : Int64)) x6) &&& (65535 : Int64))))) ((x7 + x8) + (1 : Int32)).toNatClampNeg) + (jl_ushr (jl_shl ((jl_ushr x2 ((16 : Int32) * x8)) &&& (65535 : Int64)) x6) (16 : Int32)))) (x8 + 1)
      else gX5_addTo_25 x1 x2 x6 x7 n (vp_updL (vp_updL us (x7 + x8).toNatClampNeg ((us (x7 + x8).toNatClampNeg) + (-((jl_shl ((jl_ushr x2 ((16 : Int32) * x8)) &&& (65535 : Int64)) x6) &&& (65535 : Int64))))) ((x7 + x8) + (1 : Int32)).toNatClampNeg (((vp_updL us (x7 + x8).toNatClampNeg ((us (x7 + x8).toNatClampNeg) + (-((jl_shl ((jl_ushr x2 ((16 : Int32) * x8)) &&& (65535 : Int64)) x6) &&& (65535 : Int64))))) ((x7 + x8) + (1 : Int32)).toNatClampNeg) + (-(jl_ushr (jl_shl ((jl_ushr x2 ((16 : Int32) * x8)) &&& (65535 : Int64)) x6) (16 : Int32))))) (x8 + 1)
def fX5_addTo_120 (us : Nat → Int64) : Nat → Int64 :=
  us
def fX5_addTo (us : Nat → Int64) (x1 : Int32) (x2 : Int64) (x4 : Int32) : Nat → Int64 :=
  fX5_addTo_120 ((gX5_addTo_25 x1 x2 (ji_rem (x4 + (2200 : Int32)) (16 : Int32)) ((x4 + (2200 : Int32)) / (16 : Int32)) (Nat.succ ((Int32.toInt (4) - Int32.toInt (0 : Int32)).toNat)) us (0 : Int32)).1)
abbrev rmX5_addTo : Room := { frames := 0, cells := 0, slots := 0, locals := 0 }
theorem mbX5_addTo : mb_V RX5 yX5_addTo cX5_addTo 15 none 3 := ⟨⟨tw_instanceMethod_yX5_addTo, tw_selects_RX5_yX5_addTo_yX5_addTo, tw_initialized_RX5, tw_code_yX5_addTo⟩, rfl, by decide +kernel, by decide +kernel, by decide +kernel⟩
set_option maxRecDepth 20000 in
theorem lX5_addTo_25 (x1 : Int32) (x2 : Int64) (x6 : Int32) (x7 : Int32) {p : Program} {l : Launch} {e : Env} {s : State} {m : MethodId} {args : Array Value} {below : List Frame} {meth : Method} {c : Code} {dC : Nat → ClassId} {dI : Nat → Nat → Nat} {r : Nat → Nat} {cA : Nat → ClassId} {Rg : Nat → Prop} {uf : Nat → Int32} {ua : Nat → Nat → Int32} {h0 : Nat} {Q : State → Prop} (C : bx_C p s m args meth c cX5_addTo 15 none RX5) (h7 : 0 ≤ x7.toInt ∧ x7.toInt ≤ 285) (post : ((Nat → Int64) × Int32) → Prop) (kx : ∀ (ous : Nat → Int64) (o8 : Int32) (ls : Array Slot) (H : Heap) (locs : List Loc), (0 ≤ Int32.toInt o8) → lv_has ls 15 [(8, .int o8)] → hW (dC, dI) (md_T cA) Rg s H locs (md_W h0 r cA uf ua ous) → post (ous, o8) → W p l e rmX5_addTo s m args below meth c H locs 0 0 Q (F0 m 120 ls [])) :
    ∀ (n : Nat) (us : Nat → Int64) (x8 : Int32) (ls : Array Slot) (H : Heap) (locs : List Loc), (Int32.toInt (4) - Int32.toInt x8).toNat < n → (0 ≤ Int32.toInt x8) → lv_has ls 15 [(0, .ref h0), (1, .int x1), (2, .long x2), (6, .int x6), (7, .int x7), (8, .int x8)] → hW (dC, dI) (md_T cA) Rg s H locs (md_W h0 r cA uf ua us) → post (gX5_addTo_25 x1 x2 x6 x7 n us x8) → W p l e rmX5_addTo s m args below meth c H locs 0 0 Q (F0 m 25 ls []) := by
  obtain ⟨hx, hb, hml, hr, hlocks, hown, hts⟩ := id C
  intro n
  induction n with
  | zero =>
    intro us x8 ls H locs hm
    exact absurd hm (Nat.not_lt_zero _)
  | succ n ih =>
    intro us x8 ls H locs hm hi hl hw hq
    rw [gX5_addTo_25] at hq
    refine lv_iload hx hb dX5_addTo_25 (lv_at hl 5 rfl) ?_
    refine lv_iconst (v := 4) hx hb dX5_addTo_27 (by decide) ?_
    refine lv_icmp_ge (tgt := 120) hx hb dX5_addTo_28 (by decide) (fun c1 => ?_) (fun c1 => ?_)
    · rw [if_pos c1] at hq
      exact kx us x8 _ _ _ hi (lv_sub hl [5] rfl) hw hq
    · rw [if_neg c1] at hq
      refine lv_lload_n hx hb dX5_addTo_31 rfl (lv_at hl 2 rfl) ?_
      refine lv_bipush (v := 16) hx hb dX5_addTo_32 (by decide) ?_
      refine lv_iload hx hb dX5_addTo_34 (lv_at hl 5 rfl) ?_
      refine lv_imul hx hb dX5_addTo_36 ?_
      refine bx_lushr hx hb dX5_addTo_37 ?_
      refine lv_ldc2 (v := 65535) hx hb hown (hts _ tw_constantLong_RX5_86_65535) dX5_addTo_38 ?_
      refine lv_land hx hb dX5_addTo_41 ?_
      refine lv_iload hx hb dX5_addTo_42 (lv_at hl 3 rfl) ?_
      refine bx_lshl hx hb dX5_addTo_44 ?_
      refine lv_lstore (lv' := [(9, .long (jl_shl ((jl_ushr x2 ((16 : Int32) * x8)) &&& (65535 : Int64)) x6)), (0, .ref h0), (1, .int x1), (2, .long x2), (6, .int x6), (7, .int x7), (8, .int x8)]) hx hb dX5_addTo_45 hl (by decide) rfl (fun ls hl => ?_)
      refine lv_lload hx hb dX5_addTo_47 (lv_at hl 0 rfl) ?_
      refine lv_ldc2 (v := 65535) hx hb hown (hts _ tw_constantLong_RX5_86_65535) dX5_addTo_49 ?_
      refine lv_land hx hb dX5_addTo_52 ?_
      refine lv_lstore (lv' := [(11, .long ((jl_shl ((jl_ushr x2 ((16 : Int32) * x8)) &&& (65535 : Int64)) x6) &&& (65535 : Int64))), (9, .long (jl_shl ((jl_ushr x2 ((16 : Int32) * x8)) &&& (65535 : Int64)) x6)), (0, .ref h0), (1, .int x1), (2, .long x2), (6, .int x6), (7, .int x7), (8, .int x8)]) hx hb dX5_addTo_53 hl (by decide) rfl (fun ls hl => ?_)
      refine lv_lload hx hb dX5_addTo_55 (lv_at hl 1 rfl) ?_
      refine lv_bipush (v := 16) hx hb dX5_addTo_57 (by decide) ?_
      refine bx_lushr hx hb dX5_addTo_59 ?_
      refine lv_lstore (lv' := [(13, .long (jl_ushr (jl_shl ((jl_ushr x2 ((16 : Int32) * x8)) &&& (65535 : Int64)) x6) (16 : Int32))), (11, .long ((jl_shl ((jl_ushr x2 ((16 : Int32) * x8)) &&& (65535 : Int64)) x6) &&& (65535 : Int64))), (9, .long (jl_shl ((jl_ushr x2 ((16 : Int32) * x8)) &&& (65535 : Int64)) x6)), (0, .ref h0), (1, .int x1), (2, .long x2), (6, .int x6), (7, .int x7), (8, .int x8)]) hx hb dX5_addTo_60 hl (by decide) rfl (fun ls hl => ?_)
      refine lv_aload_n hx hb dX5_addTo_62 rfl (lv_at hl 3 rfl) ?_
      refine hx_get (v := .ref (r 9)) hx hb hts inX5 hown hw.1 hw.2.2.2.1 0 rfl rfl 9 (by decide) tw_fieldLink_RX5_32_GlulxFloatsModel_sum_J rfl rfl dX5_addTo_63 ?_
      refine lv_iload hx hb dX5_addTo_66 (lv_at hl 7 rfl) ?_
      refine lv_iload hx hb dX5_addTo_68 (lv_at hl 8 rfl) ?_
      refine lv_iadd hx hb dX5_addTo_70 ?_
      refine lv_dup2_11 hx hb dX5_addTo_71 rfl rfl ?_
      refine hx_lald hx hb hw.1 hw.2.2.2.1 7 6 rfl rfl (sd_at0 h7 hi (by assumption)) dX5_addTo_72 ?_
      refine lv_iload_n hx hb dX5_addTo_73 rfl (lv_at hl 4 rfl) ?_
      refine lv_if_eq (tgt := 83) hx hb dX5_addTo_74 (by decide) (fun c2 => ?_) (fun c2 => ?_)
      · rw [if_pos c2] at hq
        refine lv_lload hx hb dX5_addTo_83 (lv_at hl 1 rfl) ?_
        refine lv_ladd hx hb dX5_addTo_85 ?_
        refine hx_last (ws' := (md_W h0 r cA uf ua (vp_updL us (x7 + x8).toNatClampNeg ((us (x7 + x8).toNatClampNeg) + ((jl_shl ((jl_ushr x2 ((16 : Int32) * x8)) &&& (65535 : Int64)) x6) &&& (65535 : Int64)))))) hx hb hw 7 6 rfl rfl (sd_at0 h7 hi (by assumption)) dX5_addTo_86 rfl (fun H locs hw => ?_)
        refine lv_aload_n hx hb dX5_addTo_87 rfl (lv_at hl 3 rfl) ?_
        refine hx_get (v := .ref (r 9)) hx hb hts inX5 hown hw.1 hw.2.2.2.1 0 rfl rfl 9 (by decide) tw_fieldLink_RX5_32_GlulxFloatsModel_sum_J rfl rfl dX5_addTo_88 ?_
        refine lv_iload hx hb dX5_addTo_91 (lv_at hl 7 rfl) ?_
        refine lv_iload hx hb dX5_addTo_93 (lv_at hl 8 rfl) ?_
        refine lv_iadd hx hb dX5_addTo_95 ?_
        refine lv_iconst (v := 1) hx hb dX5_addTo_96 (by decide) ?_
        refine lv_iadd hx hb dX5_addTo_97 ?_
        refine lv_dup2_11 hx hb dX5_addTo_98 rfl rfl ?_
        refine hx_lald hx hb hw.1 hw.2.2.2.1 7 6 rfl rfl (sd_at1 h7 hi (by assumption)) dX5_addTo_99 ?_
        refine lv_iload_n hx hb dX5_addTo_100 rfl (lv_at hl 4 rfl) ?_
        refine lv_if_eq (tgt := 110) hx hb dX5_addTo_101 (by decide) (fun c3 => ?_) (fun c3 => ?_)
        · rw [if_pos c3] at hq
          refine lv_lload hx hb dX5_addTo_110 (lv_at hl 0 rfl) ?_
          refine lv_ladd hx hb dX5_addTo_112 ?_
          refine hx_last (ws' := (md_W h0 r cA uf ua (vp_updL (vp_updL us (x7 + x8).toNatClampNeg ((us (x7 + x8).toNatClampNeg) + ((jl_shl ((jl_ushr x2 ((16 : Int32) * x8)) &&& (65535 : Int64)) x6) &&& (65535 : Int64)))) ((x7 + x8) + (1 : Int32)).toNatClampNeg (((vp_updL us (x7 + x8).toNatClampNeg ((us (x7 + x8).toNatClampNeg) + ((jl_shl ((jl_ushr x2 ((16 : Int32) * x8)) &&& (65535 : Int64)) x6) &&& (65535 : Int64)))) ((x7 + x8) + (1 : Int32)).toNatClampNeg) + (jl_ushr (jl_shl ((jl_ushr x2 ((16 : Int32) * x8)) &&& (65535 : Int64)) x6) (16 : Int32)))))) hx hb hw 7 6 rfl rfl (sd_at1 h7 hi (by assumption)) dX5_addTo_113 rfl (fun H locs hw => ?_)
          refine lv_iinc (v := (x8 + 1)) (lv' := [(8, .int (x8 + 1)), (13, .long (jl_ushr (jl_shl ((jl_ushr x2 ((16 : Int32) * x8)) &&& (65535 : Int64)) x6) (16 : Int32))), (11, .long ((jl_shl ((jl_ushr x2 ((16 : Int32) * x8)) &&& (65535 : Int64)) x6) &&& (65535 : Int64))), (9, .long (jl_shl ((jl_ushr x2 ((16 : Int32) * x8)) &&& (65535 : Int64)) x6)), (0, .ref h0), (1, .int x1), (2, .long x2), (6, .int x6), (7, .int x7)]) hx hb dX5_addTo_114 hl (k := 8) rfl rfl (by decide) rfl (fun ls hl => ?_)
          refine lv_goto (tgt := 25) hx hb dX5_addTo_117 (by decide) ?_
          exact ih (vp_updL (vp_updL us (x7 + x8).toNatClampNeg ((us (x7 + x8).toNatClampNeg) + ((jl_shl ((jl_ushr x2 ((16 : Int32) * x8)) &&& (65535 : Int64)) x6) &&& (65535 : Int64)))) ((x7 + x8) + (1 : Int32)).toNatClampNeg (((vp_updL us (x7 + x8).toNatClampNeg ((us (x7 + x8).toNatClampNeg) + ((jl_shl ((jl_ushr x2 ((16 : Int32) * x8)) &&& (65535 : Int64)) x6) &&& (65535 : Int64)))) ((x7 + x8) + (1 : Int32)).toNatClampNeg) + (jl_ushr (jl_shl ((jl_ushr x2 ((16 : Int32) * x8)) &&& (65535 : Int64)) x6) (16 : Int32)))) (x8 + 1) _ _ _ (lp_up (by assumption) hm) (li_up (by assumption) hi) (lv_sub hl [4, 5, 6, 7, 8, 0] rfl) hw hq
        · rw [if_neg c3] at hq
          refine lv_lload hx hb dX5_addTo_104 (lv_at hl 0 rfl) ?_
          refine lv_lneg hx hb dX5_addTo_106 ?_
          refine lv_goto (tgt := 112) hx hb dX5_addTo_107 (by decide) ?_
          refine lv_ladd hx hb dX5_addTo_112 ?_
          refine hx_last (ws' := (md_W h0 r cA uf ua (vp_updL (vp_updL us (x7 + x8).toNatClampNeg ((us (x7 + x8).toNatClampNeg) + ((jl_shl ((jl_ushr x2 ((16 : Int32) * x8)) &&& (65535 : Int64)) x6) &&& (65535 : Int64)))) ((x7 + x8) + (1 : Int32)).toNatClampNeg (((vp_updL us (x7 + x8).toNatClampNeg ((us (x7 + x8).toNatClampNeg) + ((jl_shl ((jl_ushr x2 ((16 : Int32) * x8)) &&& (65535 : Int64)) x6) &&& (65535 : Int64)))) ((x7 + x8) + (1 : Int32)).toNatClampNeg) + (-(jl_ushr (jl_shl ((jl_ushr x2 ((16 : Int32) * x8)) &&& (65535 : Int64)) x6) (16 : Int32))))))) hx hb hw 7 6 rfl rfl (sd_at1 h7 hi (by assumption)) dX5_addTo_113 rfl (fun H locs hw => ?_)
          refine lv_iinc (v := (x8 + 1)) (lv' := [(8, .int (x8 + 1)), (13, .long (jl_ushr (jl_shl ((jl_ushr x2 ((16 : Int32) * x8)) &&& (65535 : Int64)) x6) (16 : Int32))), (11, .long ((jl_shl ((jl_ushr x2 ((16 : Int32) * x8)) &&& (65535 : Int64)) x6) &&& (65535 : Int64))), (9, .long (jl_shl ((jl_ushr x2 ((16 : Int32) * x8)) &&& (65535 : Int64)) x6)), (0, .ref h0), (1, .int x1), (2, .long x2), (6, .int x6), (7, .int x7)]) hx hb dX5_addTo_114 hl (k := 8) rfl rfl (by decide) rfl (fun ls hl => ?_)
          refine lv_goto (tgt := 25) hx hb dX5_addTo_117 (by decide) ?_
          exact ih (vp_updL (vp_updL us (x7 + x8).toNatClampNeg ((us (x7 + x8).toNatClampNeg) + ((jl_shl ((jl_ushr x2 ((16 : Int32) * x8)) &&& (65535 : Int64)) x6) &&& (65535 : Int64)))) ((x7 + x8) + (1 : Int32)).toNatClampNeg (((vp_updL us (x7 + x8).toNatClampNeg ((us (x7 + x8).toNatClampNeg) + ((jl_shl ((jl_ushr x2 ((16 : Int32) * x8)) &&& (65535 : Int64)) x6) &&& (65535 : Int64)))) ((x7 + x8) + (1 : Int32)).toNatClampNeg) + (-(jl_ushr (jl_shl ((jl_ushr x2 ((16 : Int32) * x8)) &&& (65535 : Int64)) x6) (16 : Int32))))) (x8 + 1) _ _ _ (lp_up (by assumption) hm) (li_up (by assumption) hi) (lv_sub hl [4, 5, 6, 7, 8, 0] rfl) hw hq
      · rw [if_neg c2] at hq
        refine lv_lload hx hb dX5_addTo_77 (lv_at hl 1 rfl) ?_
        refine lv_lneg hx hb dX5_addTo_79 ?_
        refine lv_goto (tgt := 85) hx hb dX5_addTo_80 (by decide) ?_
        refine lv_ladd hx hb dX5_addTo_85 ?_
        refine hx_last (ws' := (md_W h0 r cA uf ua (vp_updL us (x7 + x8).toNatClampNeg ((us (x7 + x8).toNatClampNeg) + (-((jl_shl ((jl_ushr x2 ((16 : Int32) * x8)) &&& (65535 : Int64)) x6) &&& (65535 : Int64))))))) hx hb hw 7 6 rfl rfl (sd_at0 h7 hi (by assumption)) dX5_addTo_86 rfl (fun H locs hw => ?_)
        refine lv_aload_n hx hb dX5_addTo_87 rfl (lv_at hl 3 rfl) ?_
        refine hx_get (v := .ref (r 9)) hx hb hts inX5 hown hw.1 hw.2.2.2.1 0 rfl rfl 9 (by decide) tw_fieldLink_RX5_32_GlulxFloatsModel_sum_J rfl rfl dX5_addTo_88 ?_
        refine lv_iload hx hb dX5_addTo_91 (lv_at hl 7 rfl) ?_
        refine lv_iload hx hb dX5_addTo_93 (lv_at hl 8 rfl) ?_
        refine lv_iadd hx hb dX5_addTo_95 ?_
        refine lv_iconst (v := 1) hx hb dX5_addTo_96 (by decide) ?_
        refine lv_iadd hx hb dX5_addTo_97 ?_
        refine lv_dup2_11 hx hb dX5_addTo_98 rfl rfl ?_
        refine hx_lald hx hb hw.1 hw.2.2.2.1 7 6 rfl rfl (sd_at1 h7 hi (by assumption)) dX5_addTo_99 ?_
        refine lv_iload_n hx hb dX5_addTo_100 rfl (lv_at hl 4 rfl) ?_
        refine lv_if_eq (tgt := 110) hx hb dX5_addTo_101 (by decide) (fun c4 => ?_) (fun c4 => ?_)
        · rw [if_pos c4] at hq
          refine lv_lload hx hb dX5_addTo_110 (lv_at hl 0 rfl) ?_
          refine lv_ladd hx hb dX5_addTo_112 ?_
          refine hx_last (ws' := (md_W h0 r cA uf ua (vp_updL (vp_updL us (x7 + x8).toNatClampNeg ((us (x7 + x8).toNatClampNeg) + (-((jl_shl ((jl_ushr x2 ((16 : Int32) * x8)) &&& (65535 : Int64)) x6) &&& (65535 : Int64))))) ((x7 + x8) + (1 : Int32)).toNatClampNeg (((vp_updL us (x7 + x8).toNatClampNeg ((us (x7 + x8).toNatClampNeg) + (-((jl_shl ((jl_ushr x2 ((16 : Int32) * x8)) &&& (65535 : Int64)) x6) &&& (65535 : Int64))))) ((x7 + x8) + (1 : Int32)).toNatClampNeg) + (jl_ushr (jl_shl ((jl_ushr x2 ((16 : Int32) * x8)) &&& (65535 : Int64)) x6) (16 : Int32)))))) hx hb hw 7 6 rfl rfl (sd_at1 h7 hi (by assumption)) dX5_addTo_113 rfl (fun H locs hw => ?_)
          refine lv_iinc (v := (x8 + 1)) (lv' := [(8, .int (x8 + 1)), (13, .long (jl_ushr (jl_shl ((jl_ushr x2 ((16 : Int32) * x8)) &&& (65535 : Int64)) x6) (16 : Int32))), (11, .long ((jl_shl ((jl_ushr x2 ((16 : Int32) * x8)) &&& (65535 : Int64)) x6) &&& (65535 : Int64))), (9, .long (jl_shl ((jl_ushr x2 ((16 : Int32) * x8)) &&& (65535 : Int64)) x6)), (0, .ref h0), (1, .int x1), (2, .long x2), (6, .int x6), (7, .int x7)]) hx hb dX5_addTo_114 hl (k := 8) rfl rfl (by decide) rfl (fun ls hl => ?_)
          refine lv_goto (tgt := 25) hx hb dX5_addTo_117 (by decide) ?_
          exact ih (vp_updL (vp_updL us (x7 + x8).toNatClampNeg ((us (x7 + x8).toNatClampNeg) + (-((jl_shl ((jl_ushr x2 ((16 : Int32) * x8)) &&& (65535 : Int64)) x6) &&& (65535 : Int64))))) ((x7 + x8) + (1 : Int32)).toNatClampNeg (((vp_updL us (x7 + x8).toNatClampNeg ((us (x7 + x8).toNatClampNeg) + (-((jl_shl ((jl_ushr x2 ((16 : Int32) * x8)) &&& (65535 : Int64)) x6) &&& (65535 : Int64))))) ((x7 + x8) + (1 : Int32)).toNatClampNeg) + (jl_ushr (jl_shl ((jl_ushr x2 ((16 : Int32) * x8)) &&& (65535 : Int64)) x6) (16 : Int32)))) (x8 + 1) _ _ _ (lp_up (by assumption) hm) (li_up (by assumption) hi) (lv_sub hl [4, 5, 6, 7, 8, 0] rfl) hw hq
        · rw [if_neg c4] at hq
          refine lv_lload hx hb dX5_addTo_104 (lv_at hl 0 rfl) ?_
          refine lv_lneg hx hb dX5_addTo_106 ?_
          refine lv_goto (tgt := 112) hx hb dX5_addTo_107 (by decide) ?_
          refine lv_ladd hx hb dX5_addTo_112 ?_
          refine hx_last (ws' := (md_W h0 r cA uf ua (vp_updL (vp_updL us (x7 + x8).toNatClampNeg ((us (x7 + x8).toNatClampNeg) + (-((jl_shl ((jl_ushr x2 ((16 : Int32) * x8)) &&& (65535 : Int64)) x6) &&& (65535 : Int64))))) ((x7 + x8) + (1 : Int32)).toNatClampNeg (((vp_updL us (x7 + x8).toNatClampNeg ((us (x7 + x8).toNatClampNeg) + (-((jl_shl ((jl_ushr x2 ((16 : Int32) * x8)) &&& (65535 : Int64)) x6) &&& (65535 : Int64))))) ((x7 + x8) + (1 : Int32)).toNatClampNeg) + (-(jl_ushr (jl_shl ((jl_ushr x2 ((16 : Int32) * x8)) &&& (65535 : Int64)) x6) (16 : Int32))))))) hx hb hw 7 6 rfl rfl (sd_at1 h7 hi (by assumption)) dX5_addTo_113 rfl (fun H locs hw => ?_)
          refine lv_iinc (v := (x8 + 1)) (lv' := [(8, .int (x8 + 1)), (13, .long (jl_ushr (jl_shl ((jl_ushr x2 ((16 : Int32) * x8)) &&& (65535 : Int64)) x6) (16 : Int32))), (11, .long ((jl_shl ((jl_ushr x2 ((16 : Int32) * x8)) &&& (65535 : Int64)) x6) &&& (65535 : Int64))), (9, .long (jl_shl ((jl_ushr x2 ((16 : Int32) * x8)) &&& (65535 : Int64)) x6)), (0, .ref h0), (1, .int x1), (2, .long x2), (6, .int x6), (7, .int x7)]) hx hb dX5_addTo_114 hl (k := 8) rfl rfl (by decide) rfl (fun ls hl => ?_)
          refine lv_goto (tgt := 25) hx hb dX5_addTo_117 (by decide) ?_
          exact ih (vp_updL (vp_updL us (x7 + x8).toNatClampNeg ((us (x7 + x8).toNatClampNeg) + (-((jl_shl ((jl_ushr x2 ((16 : Int32) * x8)) &&& (65535 : Int64)) x6) &&& (65535 : Int64))))) ((x7 + x8) + (1 : Int32)).toNatClampNeg (((vp_updL us (x7 + x8).toNatClampNeg ((us (x7 + x8).toNatClampNeg) + (-((jl_shl ((jl_ushr x2 ((16 : Int32) * x8)) &&& (65535 : Int64)) x6) &&& (65535 : Int64))))) ((x7 + x8) + (1 : Int32)).toNatClampNeg) + (-(jl_ushr (jl_shl ((jl_ushr x2 ((16 : Int32) * x8)) &&& (65535 : Int64)) x6) (16 : Int32))))) (x8 + 1) _ _ _ (lp_up (by assumption) hm) (li_up (by assumption) hi) (lv_sub hl [4, 5, 6, 7, 8, 0] rfl) hw hq
set_option maxRecDepth 20000 in
theorem bX5_addTo_120 (us : Nat → Int64) {p : Program} {l : Launch} {e : Env} {s : State} {m : MethodId} {args : Array Value} {below : List Frame} {meth : Method} {c : Code} {dC : Nat → ClassId} {dI : Nat → Nat → Nat} {r : Nat → Nat} {cA : Nat → ClassId} {Rg : Nat → Prop} {H : Heap} {locs : List Loc} {uf : Nat → Int32} {ua : Nat → Nat → Int32} {h0 : Nat} {ls : Array Slot} (C : bx_C p s m args meth c cX5_addTo 15 none RX5) (hl : lv_has ls 15 []) (hw : hW (dC, dI) (md_T cA) Rg s H locs (md_W h0 r cA uf ua us)) (post : (Nat → Int64) → Prop) (hq : post (fX5_addTo_120 us)) : W p l e rmX5_addTo s m args below meth c H locs 0 0 (MQ below (va_Qv post (hBk (dC, dI) (md_T cA) Rg (fun u => md_W h0 r cA uf ua u)) Rg) args s 0 0 Rg) (F0 m 120 ls []) := by
  obtain ⟨hx, hb, hml, hr, hlocks, hown, hts⟩ := id C
  unfold fX5_addTo_120 at hq
  exact hx_vret (Wf := (fun u => md_W h0 r cA uf ua u)) (u := us) hx hb hr hlocks hw hq dX5_addTo_120
set_option maxRecDepth 20000 in
theorem bX5_addTo_0 (us : Nat → Int64) (x1 : Int32) (x2 : Int64) (x4 : Int32) {p : Program} {l : Launch} {e : Env} {s : State} {m : MethodId} {args : Array Value} {below : List Frame} {meth : Method} {c : Code} {dC : Nat → ClassId} {dI : Nat → Nat → Nat} {r : Nat → Nat} {cA : Nat → ClassId} {Rg : Nat → Prop} {H : Heap} {locs : List Loc} {uf : Nat → Int32} {ua : Nat → Nat → Int32} {h0 : Nat} {ls : Array Slot} (C : bx_C p s m args meth c cX5_addTo 15 none RX5) (hl : lv_has ls 15 [(0, .ref h0), (1, .int x1), (2, .long x2), (4, .int x4)]) (hw : hW (dC, dI) (md_T cA) Rg s H locs (md_W h0 r cA uf ua us)) (he : 0 ≤ (x4 + (2200 : Int32)).toInt ∧ (x4 + (2200 : Int32)).toInt ≤ 4560) (post : (Nat → Int64) → Prop) (hq : post (fX5_addTo us x1 x2 x4)) : W p l e rmX5_addTo s m args below meth c H locs 0 0 (MQ below (va_Qv post (hBk (dC, dI) (md_T cA) Rg (fun u => md_W h0 r cA uf ua u)) Rg) args s 0 0 Rg) (F0 m 0 ls []) := by
  obtain ⟨hx, hb, hml, hr, hlocks, hown, hts⟩ := id C
  unfold fX5_addTo at hq
  refine lv_iload hx hb dX5_addTo_0 (lv_at hl 3 rfl) ?_
  refine lv_sipush (v := 2200) hx hb dX5_addTo_2 (by decide) ?_
  refine lv_iadd hx hb dX5_addTo_5 ?_
  refine lv_istore (lv' := [(5, .int (x4 + (2200 : Int32))), (0, .ref h0), (1, .int x1), (2, .long x2), (4, .int x4)]) hx hb dX5_addTo_6 hl (by decide) rfl (fun ls hl => ?_)
  refine lv_iload hx hb dX5_addTo_8 (lv_at hl 0 rfl) ?_
  refine lv_bipush (v := 16) hx hb dX5_addTo_10 (by decide) ?_
  refine bx_irem hx hb dX5_addTo_12 (by first | assumption | decide) ?_
  refine lv_istore (lv' := [(6, .int (ji_rem (x4 + (2200 : Int32)) (16 : Int32))), (5, .int (x4 + (2200 : Int32))), (0, .ref h0), (1, .int x1), (2, .long x2), (4, .int x4)]) hx hb dX5_addTo_13 hl (by decide) rfl (fun ls hl => ?_)
  refine lv_iload hx hb dX5_addTo_15 (lv_at hl 1 rfl) ?_
  refine lv_bipush (v := 16) hx hb dX5_addTo_17 (by decide) ?_
  refine lv_idiv hx hb dX5_addTo_19 (by first | assumption | decide) ?_
  refine lv_istore (lv' := [(7, .int ((x4 + (2200 : Int32)) / (16 : Int32))), (6, .int (ji_rem (x4 + (2200 : Int32)) (16 : Int32))), (5, .int (x4 + (2200 : Int32))), (0, .ref h0), (1, .int x1), (2, .long x2), (4, .int x4)]) hx hb dX5_addTo_20 hl (by decide) rfl (fun ls hl => ?_)
  refine lv_iconst (v := 0) hx hb dX5_addTo_22 (by decide) ?_
  refine lv_istore (lv' := [(8, .int (0 : Int32)), (7, .int ((x4 + (2200 : Int32)) / (16 : Int32))), (6, .int (ji_rem (x4 + (2200 : Int32)) (16 : Int32))), (5, .int (x4 + (2200 : Int32))), (0, .ref h0), (1, .int x1), (2, .long x2), (4, .int x4)]) hx hb dX5_addTo_23 hl (by decide) rfl (fun ls hl => ?_)
  exact lX5_addTo_25 x1 x2 (ji_rem (x4 + (2200 : Int32)) (16 : Int32)) ((x4 + (2200 : Int32)) / (16 : Int32)) C (sd_at he) (fun t => post (fX5_addTo_120 t.1)) (fun ous o8 ls H locs hi hl hw hq => bX5_addTo_120 ous C (lv_sub hl [] rfl) hw post hq) (Nat.succ ((Int32.toInt (4) - Int32.toInt (0 : Int32)).toNat)) us (0 : Int32) _ _ _ (Nat.lt_succ_self _) (by decide) (lv_sub hl [4, 5, 6, 2, 1, 0] rfl) hw hq
theorem kX5_addTo (l : Launch) (dC : Nat → ClassId) (dI : Nat → Nat → Nat) (h0 : Nat) (r : Nat → Nat) (cA : Nat → ClassId) (sz : Nat) (uf : Nat → Int32) (ua : Nat → Nat → Int32) (us : Nat → Int64) (x1 : Int32) (x2 : Int64) (x4 : Int32) (he : 0 ≤ (x4 + (2200 : Int32)).toInt ∧ (x4 + (2200 : Int32)).toInt ≤ 4560) : Met l yX5_addTo (Cond.code yX5_addTo cX5_addTo 15 none :: bw) rmX5_addTo (hPc [.ref h0, .int x1, .long x2, .int x4] (dC, dI) (md_T cA) (md_W h0 r cA uf ua us) sz (fun _ => True)) (va_Qv (fun u => u = fX5_addTo us x1 x2 x4) (hBk (dC, dI) (md_T cA) (va_A (md_W h0 r cA uf ua us) sz) (fun u => md_W h0 r cA uf ua u)) (va_A (md_W h0 r cA uf ua us) sz)) 0 0 (va_A (md_W h0 r cA uf ua us) sz) := by
  refine hx_ent (by decide) _ _ (Nat.le_of_ble_eq_true rfl) rfl ?_
  intro p e s m below meth c ls C hl hw hsz _
  exact bX5_addTo_0 us x1 x2 x4 C hl hw he (fun u => u = fX5_addTo us x1 x2 x4) rfl
def gX5_addProduct_3 (x1 : Int32) (x2 : Int64) (x4 : Int64) (x6 : Int32) : Nat → (Nat → Int64) → Int32 → (Nat → Int64) × Int32
  | 0, us, x7 => (us, x7)
  | n + 1, us, x7 =>
  if (7 : Int32) ≤ x7 then (us, x7)
  else gX5_addProduct_3 x1 x2 x4 x6 n (fX5_addTo us x1 (((jl_ushr x2 ((8 : Int32) * x7)) &&& (255 : Int64)) * x4) (x6 + ((8 : Int32) * x7))) (x7 + 1)
def fX5_addProduct_43 (us : Nat → Int64) : Nat → Int64 :=
  us
def fX5_addProduct (us : Nat → Int64) (x1 : Int32) (x2 : Int64) (x4 : Int64) (x6 : Int32) : Nat → Int64 :=
  fX5_addProduct_43 ((gX5_addProduct_3 x1 x2 x4 x6 (Nat.succ ((Int32.toInt (7) - Int32.toInt (0 : Int32)).toNat)) us (0 : Int32)).1)
abbrev rmX5_addProduct : Room := { frames := 1, cells := 0, slots := 0, locals := 34 }
theorem mbX5_addProduct : mb_V RX5 yX5_addProduct cX5_addProduct 8 none 4 := ⟨⟨tw_instanceMethod_yX5_addProduct, tw_selects_RX5_yX5_addProduct_yX5_addProduct, tw_initialized_RX5, tw_code_yX5_addProduct⟩, rfl, by decide +kernel, by decide +kernel, by decide +kernel⟩
set_option maxRecDepth 20000 in
theorem lX5_addProduct_3 (x1 : Int32) (x2 : Int64) (x4 : Int64) (x6 : Int32) {p : Program} {l : Launch} {e : Env} {s : State} {m : MethodId} {args : Array Value} {below : List Frame} {meth : Method} {c : Code} {dC : Nat → ClassId} {dI : Nat → Nat → Nat} {r : Nat → Nat} {cA : Nat → ClassId} {Rg : Nat → Prop} {uf : Nat → Int32} {ua : Nat → Nat → Int32} {h0 : Nat} {Q : State → Prop} (C : bx_C p s m args meth c cX5_addProduct 8 none RX5) (he : 0 ≤ (x6 + (2200 : Int32)).toInt ∧ (x6 + (2200 : Int32)).toInt ≤ 4500) (post : ((Nat → Int64) × Int32) → Prop) (kx : ∀ (ous : Nat → Int64) (o7 : Int32) (ls : Array Slot) (H : Heap) (locs : List Loc), (0 ≤ Int32.toInt o7) → lv_has ls 8 [(7, .int o7)] → hW (dC, dI) (md_T cA) Rg s H locs (md_W h0 r cA uf ua ous) → post (ous, o7) → W p l e rmX5_addProduct s m args below meth c H locs 0 0 Q (F0 m 43 ls [])) :
    ∀ (n : Nat) (us : Nat → Int64) (x7 : Int32) (ls : Array Slot) (H : Heap) (locs : List Loc), (Int32.toInt (7) - Int32.toInt x7).toNat < n → (0 ≤ Int32.toInt x7) → lv_has ls 8 [(0, .ref h0), (1, .int x1), (2, .long x2), (4, .long x4), (6, .int x6), (7, .int x7)] → hW (dC, dI) (md_T cA) Rg s H locs (md_W h0 r cA uf ua us) → post (gX5_addProduct_3 x1 x2 x4 x6 n us x7) → W p l e rmX5_addProduct s m args below meth c H locs 0 0 Q (F0 m 3 ls []) := by
  obtain ⟨hx, hb, hml, hr, hlocks, hown, hts⟩ := id C
  intro n
  induction n with
  | zero =>
    intro us x7 ls H locs hm
    exact absurd hm (Nat.not_lt_zero _)
  | succ n ih =>
    intro us x7 ls H locs hm hi hl hw hq
    rw [gX5_addProduct_3] at hq
    refine lv_iload hx hb dX5_addProduct_3 (lv_at hl 5 rfl) ?_
    refine lv_bipush (v := 7) hx hb dX5_addProduct_5 (by decide) ?_
    refine lv_icmp_ge (tgt := 43) hx hb dX5_addProduct_7 (by decide) (fun c1 => ?_) (fun c1 => ?_)
    · rw [if_pos c1] at hq
      exact kx us x7 _ _ _ hi (lv_sub hl [5] rfl) hw hq
    · rw [if_neg c1] at hq
      refine lv_aload_n hx hb dX5_addProduct_10 rfl (lv_at hl 0 rfl) ?_
      refine lv_iload_n hx hb dX5_addProduct_11 rfl (lv_at hl 1 rfl) ?_
      refine lv_lload_n hx hb dX5_addProduct_12 rfl (lv_at hl 2 rfl) ?_
      refine lv_bipush (v := 8) hx hb dX5_addProduct_13 (by decide) ?_
      refine lv_iload hx hb dX5_addProduct_15 (lv_at hl 5 rfl) ?_
      refine lv_imul hx hb dX5_addProduct_17 ?_
      refine bx_lushr hx hb dX5_addProduct_18 ?_
      refine lv_ldc2 (v := 255) hx hb hown (hts _ tw_constantLong_RX5_88_255) dX5_addProduct_19 ?_
      refine lv_land hx hb dX5_addProduct_22 ?_
      refine lv_lload hx hb dX5_addProduct_23 (lv_at hl 3 rfl) ?_
      refine lv_lmul hx hb dX5_addProduct_25 ?_
      refine lv_iload hx hb dX5_addProduct_26 (lv_at hl 4 rfl) ?_
      refine lv_bipush (v := 8) hx hb dX5_addProduct_28 (by decide) ?_
      refine lv_iload hx hb dX5_addProduct_30 (lv_at hl 5 rfl) ?_
      refine lv_imul hx hb dX5_addProduct_32 ?_
      refine lv_iadd hx hb dX5_addProduct_33 ?_
      refine hx_cv (Wf := (fun u => md_W h0 r cA uf ua u)) (u0 := us) (F := (fX5_addTo us x1 (((jl_ushr x2 ((8 : Int32) * x7)) &&& (255 : Int64)) * x4) (x6 + ((8 : Int32) * x7)))) C (fun sz => kX5_addTo l dC dI h0 r cA sz uf ua us x1 (((jl_ushr x2 ((8 : Int32) * x7)) &&& (255 : Int64)) * x4) (x6 + ((8 : Int32) * x7)) (sd_ap he hi (by assumption))) (fun _ => bx_B_true) (fun _ _ _ => trivial) hw rfl rfl tw_methodLink_RX5_90_yX5_addTo mbX5_addTo rfl ⟨rfl, rfl⟩ ⟨Nat.le_of_ble_eq_true rfl, Nat.le_of_ble_eq_true rfl⟩ ⟨Nat.zero_le _, Nat.zero_le _⟩ hl.1 rfl (Nat.le_of_ble_eq_true rfl) dX5_addProduct_34 (fun H locs hw => ?_)
      have hw : hW (dC, dI) (md_T cA) Rg s H locs (md_W h0 r cA uf ua (fX5_addTo us x1 (((jl_ushr x2 ((8 : Int32) * x7)) &&& (255 : Int64)) * x4) (x6 + ((8 : Int32) * x7)))) := hw
      refine lv_iinc (v := (x7 + 1)) (lv' := [(7, .int (x7 + 1)), (0, .ref h0), (1, .int x1), (2, .long x2), (4, .long x4), (6, .int x6)]) hx hb dX5_addProduct_37 hl (k := 5) rfl rfl (by decide) rfl (fun ls hl => ?_)
      refine lv_goto (tgt := 3) hx hb dX5_addProduct_40 (by decide) ?_
      exact ih (fX5_addTo us x1 (((jl_ushr x2 ((8 : Int32) * x7)) &&& (255 : Int64)) * x4) (x6 + ((8 : Int32) * x7))) (x7 + 1) _ _ _ (lp_up (by assumption) hm) (li_up (by assumption) hi) (lv_sub hl [1, 2, 3, 4, 5, 0] rfl) hw hq
set_option maxRecDepth 20000 in
theorem bX5_addProduct_43 (us : Nat → Int64) {p : Program} {l : Launch} {e : Env} {s : State} {m : MethodId} {args : Array Value} {below : List Frame} {meth : Method} {c : Code} {dC : Nat → ClassId} {dI : Nat → Nat → Nat} {r : Nat → Nat} {cA : Nat → ClassId} {Rg : Nat → Prop} {H : Heap} {locs : List Loc} {uf : Nat → Int32} {ua : Nat → Nat → Int32} {h0 : Nat} {ls : Array Slot} (C : bx_C p s m args meth c cX5_addProduct 8 none RX5) (hl : lv_has ls 8 []) (hw : hW (dC, dI) (md_T cA) Rg s H locs (md_W h0 r cA uf ua us)) (post : (Nat → Int64) → Prop) (hq : post (fX5_addProduct_43 us)) : W p l e rmX5_addProduct s m args below meth c H locs 0 0 (MQ below (va_Qv post (hBk (dC, dI) (md_T cA) Rg (fun u => md_W h0 r cA uf ua u)) Rg) args s 0 0 Rg) (F0 m 43 ls []) := by
  obtain ⟨hx, hb, hml, hr, hlocks, hown, hts⟩ := id C
  unfold fX5_addProduct_43 at hq
  exact hx_vret (Wf := (fun u => md_W h0 r cA uf ua u)) (u := us) hx hb hr hlocks hw hq dX5_addProduct_43
set_option maxRecDepth 20000 in
theorem bX5_addProduct_0 (us : Nat → Int64) (x1 : Int32) (x2 : Int64) (x4 : Int64) (x6 : Int32) {p : Program} {l : Launch} {e : Env} {s : State} {m : MethodId} {args : Array Value} {below : List Frame} {meth : Method} {c : Code} {dC : Nat → ClassId} {dI : Nat → Nat → Nat} {r : Nat → Nat} {cA : Nat → ClassId} {Rg : Nat → Prop} {H : Heap} {locs : List Loc} {uf : Nat → Int32} {ua : Nat → Nat → Int32} {h0 : Nat} {ls : Array Slot} (C : bx_C p s m args meth c cX5_addProduct 8 none RX5) (hl : lv_has ls 8 [(0, .ref h0), (1, .int x1), (2, .long x2), (4, .long x4), (6, .int x6)]) (hw : hW (dC, dI) (md_T cA) Rg s H locs (md_W h0 r cA uf ua us)) (he : 0 ≤ (x6 + (2200 : Int32)).toInt ∧ (x6 + (2200 : Int32)).toInt ≤ 4500) (post : (Nat → Int64) → Prop) (hq : post (fX5_addProduct us x1 x2 x4 x6)) : W p l e rmX5_addProduct s m args below meth c H locs 0 0 (MQ below (va_Qv post (hBk (dC, dI) (md_T cA) Rg (fun u => md_W h0 r cA uf ua u)) Rg) args s 0 0 Rg) (F0 m 0 ls []) := by
  obtain ⟨hx, hb, hml, hr, hlocks, hown, hts⟩ := id C
  unfold fX5_addProduct at hq
  refine lv_iconst (v := 0) hx hb dX5_addProduct_0 (by decide) ?_
  refine lv_istore (lv' := [(7, .int (0 : Int32)), (0, .ref h0), (1, .int x1), (2, .long x2), (4, .long x4), (6, .int x6)]) hx hb dX5_addProduct_1 hl (by decide) rfl (fun ls hl => ?_)
  exact lX5_addProduct_3 x1 x2 x4 x6 C he (fun t => post (fX5_addProduct_43 t.1)) (fun ous o7 ls H locs hi hl hw hq => bX5_addProduct_43 ous C (lv_sub hl [] rfl) hw post hq) (Nat.succ ((Int32.toInt (7) - Int32.toInt (0 : Int32)).toNat)) us (0 : Int32) _ _ _ (Nat.lt_succ_self _) (by decide) (lv_sub hl [1, 2, 3, 4, 5, 0] rfl) hw hq
theorem kX5_addProduct (l : Launch) (dC : Nat → ClassId) (dI : Nat → Nat → Nat) (h0 : Nat) (r : Nat → Nat) (cA : Nat → ClassId) (sz : Nat) (uf : Nat → Int32) (ua : Nat → Nat → Int32) (us : Nat → Int64) (x1 : Int32) (x2 : Int64) (x4 : Int64) (x6 : Int32) (he : 0 ≤ (x6 + (2200 : Int32)).toInt ∧ (x6 + (2200 : Int32)).toInt ≤ 4500) : Met l yX5_addProduct (Cond.code yX5_addProduct cX5_addProduct 8 none :: bw) rmX5_addProduct (hPc [.ref h0, .int x1, .long x2, .long x4, .int x6] (dC, dI) (md_T cA) (md_W h0 r cA uf ua us) sz (fun _ => True)) (va_Qv (fun u => u = fX5_addProduct us x1 x2 x4 x6) (hBk (dC, dI) (md_T cA) (va_A (md_W h0 r cA uf ua us) sz) (fun u => md_W h0 r cA uf ua u)) (va_A (md_W h0 r cA uf ua us) sz)) 0 0 (va_A (md_W h0 r cA uf ua us) sz) := by
  refine hx_ent (by decide) _ _ (Nat.le_of_ble_eq_true rfl) rfl ?_
  intro p e s m below meth c ls C hl hw hsz _
  exact bX5_addProduct_0 us x1 x2 x4 x6 C hl hw he (fun u => u = fX5_addProduct us x1 x2 x4 x6) rfl
