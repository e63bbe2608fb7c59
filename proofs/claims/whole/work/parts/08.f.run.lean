def gX5_run_42 (uf : Nat → Int32) (x2 : Int32) : Nat → (Nat → Nat → Int32) → (Nat → Int64) → Int32 → Int32 → (Nat → Nat → Int32) × (Nat → Int64) × Int32 × Int32
  | 0, ua, us, x3, x4 => (ua, us, x3, x4)
  | n + 1, ua, us, x3, x4 =>
  if x3 < 0 then (ua, us, x3, x4)
  else if x2 ≤ x4 then (ua, us, x3, x4)
    else if (fX5_done ua us x3).1 < (uf 1) then gX5_run_42 uf x2 n ((fX5_done ua us x3).2.1) ((fX5_done ua us x3).2.2) ((fX5_done ua us x3).1) (x4 + 1)
      else gX5_run_42 uf x2 n ((fX5_done ua us x3).2.1) ((fX5_done ua us x3).2.2) (-109 : Int32) (x4 + 1)
def fX5_run_79 (uf : Nat → Int32) (ua : Nat → Nat → Int32) (us : Nat → Int64) (x3 : Int32) (x4 : Int32) : Int32 × ((Nat → Int32) × (Nat → Nat → Int32) × (Nat → Int64)) :=
  (x4, ((va_up uf 7 x3), ua, us))
def fX5_run_38 (uf : Nat → Int32) (ua : Nat → Nat → Int32) (us : Nat → Int64) (x2 : Int32) (s0 : Int32) : Int32 × ((Nat → Int32) × (Nat → Nat → Int32) × (Nat → Int64)) :=
  fX5_run_79 uf ((gX5_run_42 uf x2 (Nat.succ ((Int32.toInt (x2) - Int32.toInt (0 : Int32)).toNat)) ua us s0 (0 : Int32)).1) ((gX5_run_42 uf x2 (Nat.succ ((Int32.toInt (x2) - Int32.toInt (0 : Int32)).toNat)) ua us s0 (0 : Int32)).2.1) ((gX5_run_42 uf x2 (Nat.succ ((Int32.toInt (x2) - Int32.toInt (0 : Int32)).toNat)) ua us s0 (0 : Int32)).2.2.1) ((gX5_run_42 uf x2 (Nat.succ ((Int32.toInt (x2) - Int32.toInt (0 : Int32)).toNat)) ua us s0 (0 : Int32)).2.2.2)
def fX5_run (uf : Nat → Int32) (ua : Nat → Nat → Int32) (us : Nat → Int64) (x1 : Int32) (x2 : Int32) : Int32 × ((Nat → Int32) × (Nat → Nat → Int32) × (Nat → Int64)) :=
  if (fX5_in x1 (0 : Int32) (39 : Int32)) = 0 then ((-102 : Int32), (uf, ua, us))
  else if (fX5_in x2 (1 : Int32) (2000 : Int32)) = 0 then ((-102 : Int32), (uf, ua, us))
    else if (uf 1) ≤ x1 then fX5_run_38 uf ua us x2 (-109 : Int32)
      else fX5_run_38 uf ua us x2 x1
abbrev rmX5_run : Room := { frames := 10, cells := 0, slots := 0, locals := 275 }
theorem mbX5_run : mb_V RX5 yX5_run cX5_run 5 (some .int) 2 := ⟨⟨tw_instanceMethod_yX5_run, tw_selects_RX5_yX5_run_yX5_run, tw_initialized_RX5, tw_code_yX5_run⟩, rfl, by decide +kernel, by decide +kernel, by decide +kernel⟩
set_option maxRecDepth 20000 in
theorem lX5_run_42 (uf : Nat → Int32) (x2 : Int32) {p : Program} {l : Launch} {e : Env} {s : State} {m : MethodId} {args : Array Value} {below : List Frame} {meth : Method} {c : Code} {dC : Nat → ClassId} {dI : Nat → Nat → Nat} {r : Nat → Nat} {cA : Nat → ClassId} {Rg : Nat → Prop} {h0 : Nat} {Q : State → Prop} (C : bx_C p s m args meth c cX5_run 5 (some .int) RX5) (post : ((Nat → Nat → Int32) × (Nat → Int64) × Int32 × Int32) → Prop) (kx : ∀ (oua : Nat → Nat → Int32) (ous : Nat → Int64) (o3 : Int32) (o4 : Int32) (ls : Array Slot) (H : Heap) (locs : List Loc), (ms_ok (uf 1) oua ∧ (¬ o3 < 0 → Int32.toInt o3 < (uf 1).toInt)) → lv_has ls 5 [(0, .ref h0), (3, .int o3), (4, .int o4)] → hW (dC, dI) (md_T cA) Rg s H locs (md_W h0 r cA uf oua ous) → post (oua, ous, o3, o4) → W p l e rmX5_run s m args below meth c H locs 0 0 Q (F0 m 79 ls [])) :
    ∀ (n : Nat) (ua : Nat → Nat → Int32) (us : Nat → Int64) (x3 : Int32) (x4 : Int32) (ls : Array Slot) (H : Heap) (locs : List Loc), (Int32.toInt (x2) - Int32.toInt x4).toNat < n → (ms_ok (uf 1) ua ∧ (¬ x3 < 0 → Int32.toInt x3 < (uf 1).toInt)) → lv_has ls 5 [(0, .ref h0), (2, .int x2), (3, .int x3), (4, .int x4)] → hW (dC, dI) (md_T cA) Rg s H locs (md_W h0 r cA uf ua us) → post (gX5_run_42 uf x2 n ua us x3 x4) → W p l e rmX5_run s m args below meth c H locs 0 0 Q (F0 m 42 ls []) := by
  obtain ⟨hx, hb, hml, hr, hlocks, hown, hts⟩ := id C
  intro n
  induction n with
  | zero =>
    intro ua us x3 x4 ls H locs hm
    exact absurd hm (Nat.not_lt_zero _)
  | succ n ih =>
    intro ua us x3 x4 ls H locs hm hi hl hw hq
    rw [gX5_run_42] at hq
    refine lv_iload_n hx hb dX5_run_42 rfl (lv_at hl 2 rfl) ?_
    refine lv_if_lt (tgt := 79) hx hb dX5_run_43 (by decide) (fun c4 => ?_) (fun c4 => ?_)
    · rw [if_pos c4] at hq
      exact kx ua us x3 x4 _ _ _ hi (lv_sub hl [0, 2, 3] rfl) hw hq
    · rw [if_neg c4] at hq
      refine lv_iload hx hb dX5_run_46 (lv_at hl 3 rfl) ?_
      refine lv_iload_n hx hb dX5_run_48 rfl (lv_at hl 1 rfl) ?_
      refine lv_icmp_ge (tgt := 79) hx hb dX5_run_49 (by decide) (fun c5 => ?_) (fun c5 => ?_)
      · rw [if_pos c5] at hq
        exact kx ua us x3 x4 _ _ _ hi (lv_sub hl [0, 2, 3] rfl) hw hq
      · rw [if_neg c5] at hq
        refine lv_aload_n hx hb dX5_run_52 rfl (lv_at hl 0 rfl) ?_
        refine lv_iload_n hx hb dX5_run_53 rfl (lv_at hl 2 rfl) ?_
        refine hx_ci (Wf := (fun u => md_W h0 r cA uf u.1 u.2)) (u0 := (ua, us)) (F := (fX5_done ua us x3)) C (fun sz => kX5_done l dC dI h0 r cA sz uf ua us x3 (md_s hi (by assumption)) (md_k hi (by assumption))) (fun _ => bx_B_true) (fun _ _ _ => trivial) hw rfl rfl tw_methodLink_RX5_277_yX5_done mbX5_done rfl ⟨rfl, rfl⟩ ⟨Nat.le_of_ble_eq_true rfl, Nat.le_of_ble_eq_true rfl⟩ ⟨Nat.zero_le _, Nat.zero_le _⟩ hl.1 rfl (Nat.le_of_ble_eq_true rfl) dX5_run_54 (fun H locs hw => ?_)
        have hw : hW (dC, dI) (md_T cA) Rg s H locs (md_W h0 r cA uf ((fX5_done ua us x3).2.1) ((fX5_done ua us x3).2.2)) := hw
        refine lv_istore_n (lv' := [(3, .int ((fX5_done ua us x3).1)), (0, .ref h0), (2, .int x2), (4, .int x4)]) hx hb dX5_run_57 rfl hl (by decide) rfl (fun ls hl => ?_)
        refine lv_iload_n hx hb dX5_run_58 rfl (lv_at hl 0 rfl) ?_
        refine lv_aload_n hx hb dX5_run_59 rfl (lv_at hl 1 rfl) ?_
        refine hx_get (v := .int (uf 1)) hx hb hts inX5 hown hw.1 hw.2.2.2.1 0 rfl rfl 1 (by decide) tw_fieldLink_RX5_274_GlulxFloatsModel_steps_I rfl rfl dX5_run_60 ?_
        refine lv_icmp_lt (tgt := 71) hx hb dX5_run_63 (by decide) (fun c6 => ?_) (fun c6 => ?_)
        · rw [if_pos c6] at hq
          refine lv_iload_n hx hb dX5_run_71 rfl (lv_at hl 0 rfl) ?_
          refine lv_istore_n (lv' := [(3, .int ((fX5_done ua us x3).1)), (0, .ref h0), (2, .int x2), (4, .int x4)]) hx hb dX5_run_72 rfl hl (by decide) rfl (fun ls hl => ?_)
          refine lv_iinc (v := (x4 + 1)) (lv' := [(4, .int (x4 + 1)), (3, .int ((fX5_done ua us x3).1)), (0, .ref h0), (2, .int x2)]) hx hb dX5_run_73 hl (k := 3) rfl rfl (by decide) rfl (fun ls hl => ?_)
          refine lv_goto (tgt := 42) hx hb dX5_run_76 (by decide) ?_
          exact ih ((fX5_done ua us x3).2.1) ((fX5_done ua us x3).2.2) ((fX5_done ua us x3).1) (x4 + 1) _ _ _ (lp_up (by assumption) hm) ⟨md_keep hi.1, by first | exact fun h => absurd (by decide) h | exact fun _ => sd_ltI (by assumption)⟩ (lv_sub hl [2, 3, 1, 0] rfl) hw hq
        · rw [if_neg c6] at hq
          refine lv_bipush (v := -109) hx hb dX5_run_66 (by decide) ?_
          refine lv_goto (tgt := 72) hx hb dX5_run_68 (by decide) ?_
          refine lv_istore_n (lv' := [(3, .int (-109 : Int32)), (0, .ref h0), (2, .int x2), (4, .int x4)]) hx hb dX5_run_72 rfl hl (by decide) rfl (fun ls hl => ?_)
          refine lv_iinc (v := (x4 + 1)) (lv' := [(4, .int (x4 + 1)), (3, .int (-109 : Int32)), (0, .ref h0), (2, .int x2)]) hx hb dX5_run_73 hl (k := 3) rfl rfl (by decide) rfl (fun ls hl => ?_)
          refine lv_goto (tgt := 42) hx hb dX5_run_76 (by decide) ?_
          exact ih ((fX5_done ua us x3).2.1) ((fX5_done ua us x3).2.2) (-109 : Int32) (x4 + 1) _ _ _ (lp_up (by assumption) hm) ⟨md_keep hi.1, by first | exact fun h => absurd (by decide) h | exact fun _ => sd_ltI (by assumption)⟩ (lv_sub hl [2, 3, 1, 0] rfl) hw hq
set_option maxRecDepth 20000 in
theorem bX5_run_79 (uf : Nat → Int32) (ua : Nat → Nat → Int32) (us : Nat → Int64) (x3 : Int32) (x4 : Int32) {p : Program} {l : Launch} {e : Env} {s : State} {m : MethodId} {args : Array Value} {below : List Frame} {meth : Method} {c : Code} {dC : Nat → ClassId} {dI : Nat → Nat → Nat} {r : Nat → Nat} {cA : Nat → ClassId} {Rg : Nat → Prop} {H : Heap} {locs : List Loc} {h0 : Nat} {ls : Array Slot} (C : bx_C p s m args meth c cX5_run 5 (some .int) RX5) (hl : lv_has ls 5 [(0, .ref h0), (3, .int x3), (4, .int x4)]) (hw : hW (dC, dI) (md_T cA) Rg s H locs (md_W h0 r cA uf ua us)) (post : (Int32 × ((Nat → Int32) × (Nat → Nat → Int32) × (Nat → Int64))) → Prop) (hq : post (fX5_run_79 uf ua us x3 x4)) : W p l e rmX5_run s m args below meth c H locs 0 0 (MQ below (va_Qi (fun r u => post (r, u)) (hBk (dC, dI) (md_T cA) Rg (fun u => md_W h0 r cA u.1 u.2.1 u.2.2)) Rg) args s 0 0 Rg) (F0 m 79 ls []) := by
  obtain ⟨hx, hb, hml, hr, hlocks, hown, hts⟩ := id C
  unfold fX5_run_79 at hq
  refine lv_aload_n hx hb dX5_run_79 rfl (lv_at hl 0 rfl) ?_
  refine lv_iload_n hx hb dX5_run_80 rfl (lv_at hl 1 rfl) ?_
  refine hx_put (ws' := (md_W h0 r cA (va_up uf 7 x3) ua us)) hx hb hts inX5 tyX5 tyX5_ok nmX5 hown hw 0 rfl rfl 7 (by decide) tw_fieldLink_RX5_28_GlulxFloatsModel_nextStep_I rfl rfl (by decide +kernel) (Nat.le_of_ble_eq_true rfl) dX5_run_81 rfl (fun H locs hw => ?_)
  refine lv_iload hx hb dX5_run_84 (lv_at hl 2 rfl) ?_
  exact hx_iret (Wf := (fun u => md_W h0 r cA u.1 u.2.1 u.2.2)) (post := post) (v := x4) (u := ((va_up uf 7 x3), ua, us)) hx hb hr hlocks hw hq dX5_run_86
set_option maxRecDepth 20000 in
theorem bX5_run_38 (uf : Nat → Int32) (ua : Nat → Nat → Int32) (us : Nat → Int64) (x2 : Int32) (s0 : Int32) {p : Program} {l : Launch} {e : Env} {s : State} {m : MethodId} {args : Array Value} {below : List Frame} {meth : Method} {c : Code} {dC : Nat → ClassId} {dI : Nat → Nat → Nat} {r : Nat → Nat} {cA : Nat → ClassId} {Rg : Nat → Prop} {H : Heap} {locs : List Loc} {h0 : Nat} {ls : Array Slot} (C : bx_C p s m args meth c cX5_run 5 (some .int) RX5) (hl : lv_has ls 5 [(0, .ref h0), (2, .int x2)]) (hw : hW (dC, dI) (md_T cA) Rg s H locs (md_W h0 r cA uf ua us)) (hk : ms_ok (uf 1) ua) (hj : ¬ s0 < 0 → s0.toInt < (uf 1).toInt) (post : (Int32 × ((Nat → Int32) × (Nat → Nat → Int32) × (Nat → Int64))) → Prop) (hq : post (fX5_run_38 uf ua us x2 s0)) : W p l e rmX5_run s m args below meth c H locs 0 0 (MQ below (va_Qi (fun r u => post (r, u)) (hBk (dC, dI) (md_T cA) Rg (fun u => md_W h0 r cA u.1 u.2.1 u.2.2)) Rg) args s 0 0 Rg) (F0 m 38 ls [.int s0]) := by
  obtain ⟨hx, hb, hml, hr, hlocks, hown, hts⟩ := id C
  unfold fX5_run_38 at hq
  refine lv_istore_n (lv' := [(3, .int s0), (0, .ref h0), (2, .int x2)]) hx hb dX5_run_38 rfl hl (by decide) rfl (fun ls hl => ?_)
  refine lv_iconst (v := 0) hx hb dX5_run_39 (by decide) ?_
  refine lv_istore (lv' := [(4, .int (0 : Int32)), (3, .int s0), (0, .ref h0), (2, .int x2)]) hx hb dX5_run_40 hl (by decide) rfl (fun ls hl => ?_)
  exact lX5_run_42 uf x2 C (fun t => post (fX5_run_79 uf t.1 t.2.1 t.2.2.1 t.2.2.2)) (fun oua ous o3 o4 ls H locs hi hl hw hq => bX5_run_79 uf oua ous o3 o4 C (lv_sub hl [0, 1, 2] rfl) hw post hq) (Nat.succ ((Int32.toInt (x2) - Int32.toInt (0 : Int32)).toNat)) ua us s0 (0 : Int32) _ _ _ (Nat.lt_succ_self _) ⟨hk, hj⟩ (lv_sub hl [2, 3, 1, 0] rfl) hw hq
set_option maxRecDepth 20000 in
theorem bX5_run_0 (uf : Nat → Int32) (ua : Nat → Nat → Int32) (us : Nat → Int64) (x1 : Int32) (x2 : Int32) {p : Program} {l : Launch} {e : Env} {s : State} {m : MethodId} {args : Array Value} {below : List Frame} {meth : Method} {c : Code} {dC : Nat → ClassId} {dI : Nat → Nat → Nat} {r : Nat → Nat} {cA : Nat → ClassId} {Rg : Nat → Prop} {H : Heap} {locs : List Loc} {h0 : Nat} {ls : Array Slot} (C : bx_C p s m args meth c cX5_run 5 (some .int) RX5) (hl : lv_has ls 5 [(0, .ref h0), (1, .int x1), (2, .int x2)]) (hw : hW (dC, dI) (md_T cA) Rg s H locs (md_W h0 r cA uf ua us)) (hk : ms_ok (uf 1) ua) (post : (Int32 × ((Nat → Int32) × (Nat → Nat → Int32) × (Nat → Int64))) → Prop) (hq : post (fX5_run uf ua us x1 x2)) : W p l e rmX5_run s m args below meth c H locs 0 0 (MQ below (va_Qi (fun r u => post (r, u)) (hBk (dC, dI) (md_T cA) Rg (fun u => md_W h0 r cA u.1 u.2.1 u.2.2)) Rg) args s 0 0 Rg) (F0 m 0 ls []) := by
  obtain ⟨hx, hb, hml, hr, hlocks, hown, hts⟩ := id C
  unfold fX5_run at hq
  refine lv_iload_n hx hb dX5_run_0 rfl (lv_at hl 1 rfl) ?_
  refine lv_iconst (v := 0) hx hb dX5_run_1 (by decide) ?_
  refine lv_bipush (v := 39) hx hb dX5_run_2 (by decide) ?_
  refine bx_si C (kX5_in l x1 (0 : Int32) (39 : Int32)) bx_B_true (fun _ _ _ => trivial) tw_methodLink_RX5_225_yX5_in mbX5_in rfl ⟨rfl, rfl⟩ ⟨Nat.le_of_ble_eq_true rfl, Nat.le_of_ble_eq_true rfl⟩ ⟨Nat.zero_le _, Nat.zero_le _⟩ hl.1 rfl (Nat.le_of_ble_eq_true rfl) dX5_run_4 ?_
  refine lv_if_eq (tgt := 21) hx hb dX5_run_7 (by decide) (fun c1 => ?_) (fun c1 => ?_)
  · rw [if_pos c1] at hq
    refine lv_bipush (v := -102) hx hb dX5_run_21 (by decide) ?_
    exact hx_iret (Wf := (fun u => md_W h0 r cA u.1 u.2.1 u.2.2)) (post := post) (v := (-102 : Int32)) (u := (uf, ua, us)) hx hb hr hlocks hw hq dX5_run_23
  · rw [if_neg c1] at hq
    refine lv_iload_n hx hb dX5_run_10 rfl (lv_at hl 2 rfl) ?_
    refine lv_iconst (v := 1) hx hb dX5_run_11 (by decide) ?_
    refine lv_sipush (v := 2000) hx hb dX5_run_12 (by decide) ?_
    refine bx_si C (kX5_in l x2 (1 : Int32) (2000 : Int32)) bx_B_true (fun _ _ _ => trivial) tw_methodLink_RX5_225_yX5_in mbX5_in rfl ⟨rfl, rfl⟩ ⟨Nat.le_of_ble_eq_true rfl, Nat.le_of_ble_eq_true rfl⟩ ⟨Nat.zero_le _, Nat.zero_le _⟩ hl.1 rfl (Nat.le_of_ble_eq_true rfl) dX5_run_15 ?_
    refine lv_if_ne (tgt := 24) hx hb dX5_run_18 (by decide) (fun c2 => ?_) (fun c2 => ?_)
    · rw [if_neg c2] at hq
      refine lv_iload_n hx hb dX5_run_24 rfl (lv_at hl 1 rfl) ?_
      refine lv_aload_n hx hb dX5_run_25 rfl (lv_at hl 0 rfl) ?_
      refine hx_get (v := .int (uf 1)) hx hb hts inX5 hown hw.1 hw.2.2.2.1 0 rfl rfl 1 (by decide) tw_fieldLink_RX5_274_GlulxFloatsModel_steps_I rfl rfl dX5_run_26 ?_
      refine lv_icmp_ge (tgt := 36) hx hb dX5_run_29 (by decide) (fun c3 => ?_) (fun c3 => ?_)
      · rw [if_pos c3] at hq
        refine lv_bipush (v := -109) hx hb dX5_run_36 (by decide) ?_
        exact bX5_run_38 uf ua us x2 (-109 : Int32) C (lv_sub hl [0, 2] rfl) hw hk (by first | exact fun h => absurd (by decide) h | exact fun _ => sd_lt (by assumption)) post hq
      · rw [if_neg c3] at hq
        refine lv_iload_n hx hb dX5_run_32 rfl (lv_at hl 1 rfl) ?_
        refine lv_goto (tgt := 38) hx hb dX5_run_33 (by decide) ?_
        exact bX5_run_38 uf ua us x2 x1 C (lv_sub hl [0, 2] rfl) hw hk (by first | exact fun h => absurd (by decide) h | exact fun _ => sd_lt (by assumption)) post hq
    · rw [if_pos c2] at hq
      refine lv_bipush (v := -102) hx hb dX5_run_21 (by decide) ?_
      exact hx_iret (Wf := (fun u => md_W h0 r cA u.1 u.2.1 u.2.2)) (post := post) (v := (-102 : Int32)) (u := (uf, ua, us)) hx hb hr hlocks hw hq dX5_run_23
theorem kX5_run (l : Launch) (dC : Nat → ClassId) (dI : Nat → Nat → Nat) (h0 : Nat) (r : Nat → Nat) (cA : Nat → ClassId) (sz : Nat) (uf : Nat → Int32) (ua : Nat → Nat → Int32) (us : Nat → Int64) (x1 : Int32) (x2 : Int32) (hk : ms_ok (uf 1) ua) : Met l yX5_run (Cond.code yX5_run cX5_run 5 (some .int) :: bw) rmX5_run (hPc [.ref h0, .int x1, .int x2] (dC, dI) (md_T cA) (md_W h0 r cA uf ua us) sz (fun _ => True)) (va_Qi (fun r u => (r, u) = fX5_run uf ua us x1 x2) (hBk (dC, dI) (md_T cA) (va_A (md_W h0 r cA uf ua us) sz) (fun u => md_W h0 r cA u.1 u.2.1 u.2.2)) (va_A (md_W h0 r cA uf ua us) sz)) 0 0 (va_A (md_W h0 r cA uf ua us) sz) := by
  refine hx_ent (by decide) _ _ (Nat.le_of_ble_eq_true rfl) rfl ?_
  intro p e s m below meth c ls C hl hw hsz _
  exact bX5_run_0 uf ua us x1 x2 C hl hw hk (fun q => q = fX5_run uf ua us x1 x2) rfl
