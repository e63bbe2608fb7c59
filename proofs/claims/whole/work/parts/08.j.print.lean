def gX5_print_124 (x2 : Int32) : Nat → (Nat → Int32) → (Nat → Nat → Int32) → Int32 → (Nat → Int32) × (Nat → Nat → Int32) × Int32
  | 0, uf, ua, x5 => (uf, ua, x5)
  | n + 1, uf, ua, x5 =>
  if x2 ≤ x5 then (uf, ua, x5)
  else gX5_print_124 x2 n ((fX5_put uf ((fX5_nextDigit ua).2) ((48 : Int32) + (fX5_nextDigit ua).1)).1) ((fX5_put uf ((fX5_nextDigit ua).2) ((48 : Int32) + (fX5_nextDigit ua).1)).2) (x5 + 1)
def fX5_print_147 (uf : Nat → Int32) (ua : Nat → Nat → Int32) : Int32 × ((Nat → Int32) × (Nat → Nat → Int32)) :=
  ((uf 11), (uf, ua))
def fX5_print_107 (uf : Nat → Int32) (ua : Nat → Nat → Int32) (x2 : Int32) (x3 : Int64) : Int32 × ((Nat → Int32) × (Nat → Nat → Int32)) :=
  fX5_print_147 ((gX5_print_124 x2 (Nat.succ ((Int32.toInt (x2) - Int32.toInt (0 : Int32)).toNat)) uf (fX5_layBehind ua (fX5_digitsOf x3 (0 : Int32)) (fX5_exponentOf x3 (0 : Int32))) (0 : Int32)).1) ((gX5_print_124 x2 (Nat.succ ((Int32.toInt (x2) - Int32.toInt (0 : Int32)).toNat)) uf (fX5_layBehind ua (fX5_digitsOf x3 (0 : Int32)) (fX5_exponentOf x3 (0 : Int32))) (0 : Int32)).2.1)
def fX5_print_60 (uf : Nat → Int32) (ua : Nat → Nat → Int32) (x2 : Int32) (x3 : Int64) : Int32 × ((Nat → Int32) × (Nat → Nat → Int32)) :=
  if (fX5_isInfinite x3 (0 : Int32)) = 0 then if x2 ≤ 0 then fX5_print_107 ((fX5_putWhole uf ua (fX5_digitsOf x3 (0 : Int32)) (fX5_exponentOf x3 (0 : Int32))).1) ((fX5_putWhole uf ua (fX5_digitsOf x3 (0 : Int32)) (fX5_exponentOf x3 (0 : Int32))).2) x2 x3
    else fX5_print_107 ((fX5_put ((fX5_putWhole uf ua (fX5_digitsOf x3 (0 : Int32)) (fX5_exponentOf x3 (0 : Int32))).1) ((fX5_putWhole uf ua (fX5_digitsOf x3 (0 : Int32)) (fX5_exponentOf x3 (0 : Int32))).2) (46 : Int32)).1) ((fX5_put ((fX5_putWhole uf ua (fX5_digitsOf x3 (0 : Int32)) (fX5_exponentOf x3 (0 : Int32))).1) ((fX5_putWhole uf ua (fX5_digitsOf x3 (0 : Int32)) (fX5_exponentOf x3 (0 : Int32))).2) (46 : Int32)).2) x2 x3
  else ((((fX5_putName uf ua (105 : Int32) (110 : Int32) (102 : Int32)).1) 11), ((fX5_putName uf ua (105 : Int32) (110 : Int32) (102 : Int32)).1, (fX5_putName uf ua (105 : Int32) (110 : Int32) (102 : Int32)).2))
def fX5_print (uf : Nat → Int32) (ua : Nat → Nat → Int32) (x1 : Int32) (x2 : Int32) : Int32 × ((Nat → Int32) × (Nat → Nat → Int32)) :=
  if (fX5_in x2 (0 : Int32) (40 : Int32)) = 0 then ((-102 : Int32), (uf, ua))
  else if (fX5_isNan (fX5_bits x1) (0 : Int32)) = 0 then if (fX5_isNegative (fX5_bits x1) (0 : Int32)) = 0 then fX5_print_60 (va_up uf 11 (0 : Int32)) ua x2 (fX5_bits x1)
      else fX5_print_60 ((fX5_put (va_up uf 11 (0 : Int32)) ua (45 : Int32)).1) ((fX5_put (va_up uf 11 (0 : Int32)) ua (45 : Int32)).2) x2 (fX5_bits x1)
    else ((((fX5_putName (va_up uf 11 (0 : Int32)) ua (110 : Int32) (97 : Int32) (110 : Int32)).1) 11), ((fX5_putName (va_up uf 11 (0 : Int32)) ua (110 : Int32) (97 : Int32) (110 : Int32)).1, (fX5_putName (va_up uf 11 (0 : Int32)) ua (110 : Int32) (97 : Int32) (110 : Int32)).2))
abbrev rmX5_print : Room := { frames := 4, cells := 0, slots := 0, locals := 88 }
theorem mbX5_print : mb_V RX5 yX5_print cX5_print 6 (some .int) 2 := ⟨⟨tw_instanceMethod_yX5_print, tw_selects_RX5_yX5_print_yX5_print, tw_initialized_RX5, tw_code_yX5_print⟩, rfl, by decide +kernel, by decide +kernel, by decide +kernel⟩
set_option maxRecDepth 20000 in
theorem lX5_print_124 (x2 : Int32) {p : Program} {l : Launch} {e : Env} {s : State} {m : MethodId} {args : Array Value} {below : List Frame} {meth : Method} {c : Code} {dC : Nat → ClassId} {dI : Nat → Nat → Nat} {r : Nat → Nat} {cA : Nat → ClassId} {Rg : Nat → Prop} {us : Nat → Int64} {h0 : Nat} {Q : State → Prop} (C : bx_C p s m args meth c cX5_print 6 (some .int) RX5) (h2 : x2.toInt ≤ 40) (post : ((Nat → Int32) × (Nat → Nat → Int32) × Int32) → Prop) (kx : ∀ (ouf : Nat → Int32) (oua : Nat → Nat → Int32) (o5 : Int32) (ls : Array Slot) (H : Heap) (locs : List Loc), ((0 ≤ Int32.toInt o5 ∧ 0 ≤ (ouf 11).toInt) ∧ (ouf 11).toInt ≤ 42 + Int32.toInt o5) → lv_has ls 6 [(0, .ref h0), (5, .int o5)] → hW (dC, dI) (md_T cA) Rg s H locs (md_W h0 r cA ouf oua us) → post (ouf, oua, o5) → W p l e rmX5_print s m args below meth c H locs 0 0 Q (F0 m 147 ls [])) :
    ∀ (n : Nat) (uf : Nat → Int32) (ua : Nat → Nat → Int32) (x5 : Int32) (ls : Array Slot) (H : Heap) (locs : List Loc), (Int32.toInt (x2) - Int32.toInt x5).toNat < n → ((0 ≤ Int32.toInt x5 ∧ 0 ≤ (uf 11).toInt) ∧ (uf 11).toInt ≤ 42 + Int32.toInt x5) → lv_has ls 6 [(0, .ref h0), (2, .int x2), (5, .int x5)] → hW (dC, dI) (md_T cA) Rg s H locs (md_W h0 r cA uf ua us) → post (gX5_print_124 x2 n uf ua x5) → W p l e rmX5_print s m args below meth c H locs 0 0 Q (F0 m 124 ls []) := by
  obtain ⟨hx, hb, hml, hr, hlocks, hown, hts⟩ := id C
  intro n
  induction n with
  | zero =>
    intro uf ua x5 ls H locs hm
    exact absurd hm (Nat.not_lt_zero _)
  | succ n ih =>
    intro uf ua x5 ls H locs hm hi hl hw hq
    rw [gX5_print_124] at hq
    refine lv_iload hx hb dX5_print_124 (lv_at hl 2 rfl) ?_
    refine lv_iload_n hx hb dX5_print_126 rfl (lv_at hl 1 rfl) ?_
    refine lv_icmp_ge (tgt := 147) hx hb dX5_print_127 (by decide) (fun c6 => ?_) (fun c6 => ?_)
    · rw [if_pos c6] at hq
      exact kx uf ua x5 _ _ _ hi (lv_sub hl [0, 2] rfl) hw hq
    · rw [if_neg c6] at hq
      refine lv_aload_n hx hb dX5_print_130 rfl (lv_at hl 0 rfl) ?_
      refine lv_bipush (v := 48) hx hb dX5_print_131 (by decide) ?_
      refine lv_aload_n hx hb dX5_print_133 rfl (lv_at hl 0 rfl) ?_
      refine hx_ci (Wf := (fun u => md_W h0 r cA uf u us)) (u0 := ua) (F := (fX5_nextDigit ua)) C (fun sz => kX5_nextDigit l dC dI h0 r cA sz uf ua us) (fun _ => bx_B_true) (fun _ _ _ => trivial) hw rfl rfl tw_methodLink_RX5_270_yX5_nextDigit mbX5_nextDigit rfl ⟨rfl, rfl⟩ ⟨Nat.le_of_ble_eq_true rfl, Nat.le_of_ble_eq_true rfl⟩ ⟨Nat.zero_le _, Nat.zero_le _⟩ hl.1 rfl (Nat.le_of_ble_eq_true rfl) dX5_print_134 (fun H locs hw => ?_)
      have hw : hW (dC, dI) (md_T cA) Rg s H locs (md_W h0 r cA uf ((fX5_nextDigit ua).2) us) := hw
      refine lv_iadd hx hb dX5_print_137 ?_
      refine hx_cv (Wf := (fun u => md_W h0 r cA u.1 u.2 us)) (u0 := (uf, (fX5_nextDigit ua).2)) (F := (fX5_put uf ((fX5_nextDigit ua).2) ((48 : Int32) + (fX5_nextDigit ua).1))) C (fun sz => kX5_put l dC dI h0 r cA sz uf ((fX5_nextDigit ua).2) us ((48 : Int32) + (fX5_nextDigit ua).1) (pr_p2 hi h2 (by assumption))) (fun _ => bx_B_true) (fun _ _ _ => trivial) hw rfl rfl tw_methodLink_RX5_255_yX5_put mbX5_put rfl ⟨rfl, rfl⟩ ⟨Nat.le_of_ble_eq_true rfl, Nat.le_of_ble_eq_true rfl⟩ ⟨Nat.zero_le _, Nat.zero_le _⟩ hl.1 rfl (Nat.le_of_ble_eq_true rfl) dX5_print_138 (fun H locs hw => ?_)
      have hw : hW (dC, dI) (md_T cA) Rg s H locs (md_W h0 r cA ((fX5_put uf ((fX5_nextDigit ua).2) ((48 : Int32) + (fX5_nextDigit ua).1)).1) ((fX5_put uf ((fX5_nextDigit ua).2) ((48 : Int32) + (fX5_nextDigit ua).1)).2) us) := hw
      refine lv_iinc (v := (x5 + 1)) (lv' := [(5, .int (x5 + 1)), (0, .ref h0), (2, .int x2)]) hx hb dX5_print_141 hl (k := 2) rfl rfl (by decide) rfl (fun ls hl => ?_)
      refine lv_goto (tgt := 124) hx hb dX5_print_144 (by decide) ?_
      exact ih ((fX5_put uf ((fX5_nextDigit ua).2) ((48 : Int32) + (fX5_nextDigit ua).1)).1) ((fX5_put uf ((fX5_nextDigit ua).2) ((48 : Int32) + (fX5_nextDigit ua).1)).2) (x5 + 1) _ _ _ (lp_up (by assumption) hm) (pr_s hi h2 (by assumption)) (lv_sub hl [1, 2, 0] rfl) hw hq
set_option maxRecDepth 20000 in
theorem bX5_print_147 (uf : Nat → Int32) (ua : Nat → Nat → Int32) {p : Program} {l : Launch} {e : Env} {s : State} {m : MethodId} {args : Array Value} {below : List Frame} {meth : Method} {c : Code} {dC : Nat → ClassId} {dI : Nat → Nat → Nat} {r : Nat → Nat} {cA : Nat → ClassId} {Rg : Nat → Prop} {H : Heap} {locs : List Loc} {us : Nat → Int64} {h0 : Nat} {ls : Array Slot} (C : bx_C p s m args meth c cX5_print 6 (some .int) RX5) (hl : lv_has ls 6 [(0, .ref h0)]) (hw : hW (dC, dI) (md_T cA) Rg s H locs (md_W h0 r cA uf ua us)) (post : (Int32 × ((Nat → Int32) × (Nat → Nat → Int32))) → Prop) (hq : post (fX5_print_147 uf ua)) : W p l e rmX5_print s m args below meth c H locs 0 0 (MQ below (va_Qi (fun r u => post (r, u)) (hBk (dC, dI) (md_T cA) Rg (fun u => md_W h0 r cA u.1 u.2 us)) Rg) args s 0 0 Rg) (F0 m 147 ls []) := by
  obtain ⟨hx, hb, hml, hr, hlocks, hown, hts⟩ := id C
  unfold fX5_print_147 at hq
  refine lv_aload_n hx hb dX5_print_147 rfl (lv_at hl 0 rfl) ?_
  refine hx_get (v := .int (uf 11)) hx hb hts inX5 hown hw.1 hw.2.2.2.1 0 rfl rfl 11 (by decide) tw_fieldLink_RX5_245_GlulxFloatsModel_outSize_I rfl rfl dX5_print_148 ?_
  exact hx_iret (Wf := (fun u => md_W h0 r cA u.1 u.2 us)) (post := post) (v := (uf 11)) (u := (uf, ua)) hx hb hr hlocks hw hq dX5_print_151
set_option maxRecDepth 20000 in
theorem bX5_print_107 (uf : Nat → Int32) (ua : Nat → Nat → Int32) (x2 : Int32) (x3 : Int64) {p : Program} {l : Launch} {e : Env} {s : State} {m : MethodId} {args : Array Value} {below : List Frame} {meth : Method} {c : Code} {dC : Nat → ClassId} {dI : Nat → Nat → Nat} {r : Nat → Nat} {cA : Nat → ClassId} {Rg : Nat → Prop} {H : Heap} {locs : List Loc} {us : Nat → Int64} {h0 : Nat} {ls : Array Slot} (C : bx_C p s m args meth c cX5_print 6 (some .int) RX5) (hl : lv_has ls 6 [(0, .ref h0), (2, .int x2), (3, .long x3)]) (hw : hW (dC, dI) (md_T cA) Rg s H locs (md_W h0 r cA uf ua us)) (ho : 0 ≤ (uf 11).toInt ∧ (uf 11).toInt ≤ 42) (h2 : x2.toInt ≤ 40) (he : -160 ≤ (fX5_exponentOf x3 (0 : Int32)).toInt ∧ (fX5_exponentOf x3 (0 : Int32)).toInt ≤ 200) (post : (Int32 × ((Nat → Int32) × (Nat → Nat → Int32))) → Prop) (hq : post (fX5_print_107 uf ua x2 x3)) : W p l e rmX5_print s m args below meth c H locs 0 0 (MQ below (va_Qi (fun r u => post (r, u)) (hBk (dC, dI) (md_T cA) Rg (fun u => md_W h0 r cA u.1 u.2 us)) Rg) args s 0 0 Rg) (F0 m 107 ls []) := by
  obtain ⟨hx, hb, hml, hr, hlocks, hown, hts⟩ := id C
  unfold fX5_print_107 at hq
  refine lv_aload_n hx hb dX5_print_107 rfl (lv_at hl 0 rfl) ?_
  refine lv_lload_n hx hb dX5_print_108 rfl (lv_at hl 2 rfl) ?_
  refine lv_iconst (v := 0) hx hb dX5_print_109 (by decide) ?_
  refine bx_sl C (kX5_digitsOf l x3 (0 : Int32)) bx_B_true (fun _ _ _ => trivial) tw_methodLink_RX5_118_yX5_digitsOf mbX5_digitsOf rfl ⟨rfl, rfl⟩ ⟨Nat.le_of_ble_eq_true rfl, Nat.le_of_ble_eq_true rfl⟩ ⟨Nat.zero_le _, Nat.zero_le _⟩ hl.1 rfl (Nat.le_of_ble_eq_true rfl) dX5_print_110 ?_
  refine lv_lload_n hx hb dX5_print_113 rfl (lv_at hl 2 rfl) ?_
  refine lv_iconst (v := 0) hx hb dX5_print_114 (by decide) ?_
  refine bx_si C (kX5_exponentOf l x3 (0 : Int32)) bx_B_true (fun _ _ _ => trivial) tw_methodLink_RX5_121_yX5_exponentOf mbX5_exponentOf rfl ⟨rfl, rfl⟩ ⟨Nat.le_of_ble_eq_true rfl, Nat.le_of_ble_eq_true rfl⟩ ⟨Nat.zero_le _, Nat.zero_le _⟩ hl.1 rfl (Nat.le_of_ble_eq_true rfl) dX5_print_115 ?_
  refine hx_cv (Wf := (fun u => md_W h0 r cA uf u us)) (u0 := ua) (F := (fX5_layBehind ua (fX5_digitsOf x3 (0 : Int32)) (fX5_exponentOf x3 (0 : Int32)))) C (fun sz => kX5_layBehind l dC dI h0 r cA sz uf ua us (fX5_digitsOf x3 (0 : Int32)) (fX5_exponentOf x3 (0 : Int32)) he) (fun _ => bx_B_true) (fun _ _ _ => trivial) hw rfl rfl tw_methodLink_RX5_267_yX5_layBehind mbX5_layBehind rfl ⟨rfl, rfl⟩ ⟨Nat.le_of_ble_eq_true rfl, Nat.le_of_ble_eq_true rfl⟩ ⟨Nat.zero_le _, Nat.zero_le _⟩ hl.1 rfl (Nat.le_of_ble_eq_true rfl) dX5_print_118 (fun H locs hw => ?_)
  have hw : hW (dC, dI) (md_T cA) Rg s H locs (md_W h0 r cA uf (fX5_layBehind ua (fX5_digitsOf x3 (0 : Int32)) (fX5_exponentOf x3 (0 : Int32))) us) := hw
  refine lv_iconst (v := 0) hx hb dX5_print_121 (by decide) ?_
  refine lv_istore (lv' := [(5, .int (0 : Int32)), (0, .ref h0), (2, .int x2), (3, .long x3)]) hx hb dX5_print_122 hl (by decide) rfl (fun ls hl => ?_)
  exact lX5_print_124 x2 C h2 (fun t => post (fX5_print_147 t.1 t.2.1)) (fun ouf oua o5 ls H locs hi hl hw hq => bX5_print_147 ouf oua C (lv_sub hl [0] rfl) hw post hq) (Nat.succ ((Int32.toInt (x2) - Int32.toInt (0 : Int32)).toNat)) uf (fX5_layBehind ua (fX5_digitsOf x3 (0 : Int32)) (fX5_exponentOf x3 (0 : Int32))) (0 : Int32) _ _ _ (Nat.lt_succ_self _) (pr_z ho) (lv_sub hl [1, 2, 0] rfl) hw hq
set_option maxRecDepth 20000 in
theorem bX5_print_60 (uf : Nat → Int32) (ua : Nat → Nat → Int32) (x2 : Int32) (x3 : Int64) {p : Program} {l : Launch} {e : Env} {s : State} {m : MethodId} {args : Array Value} {below : List Frame} {meth : Method} {c : Code} {dC : Nat → ClassId} {dI : Nat → Nat → Nat} {r : Nat → Nat} {cA : Nat → ClassId} {Rg : Nat → Prop} {H : Heap} {locs : List Loc} {us : Nat → Int64} {h0 : Nat} {ls : Array Slot} (C : bx_C p s m args meth c cX5_print 6 (some .int) RX5) (hl : lv_has ls 6 [(0, .ref h0), (2, .int x2), (3, .long x3)]) (hw : hW (dC, dI) (md_T cA) Rg s H locs (md_W h0 r cA uf ua us)) (ho : 0 ≤ (uf 11).toInt ∧ (uf 11).toInt ≤ 1) (h3 : 0 ≤ x3.toInt) (hn : fX5_isNan x3 (0 : Int32) = 0) (h2 : x2.toInt ≤ 40) (post : (Int32 × ((Nat → Int32) × (Nat → Nat → Int32))) → Prop) (hq : post (fX5_print_60 uf ua x2 x3)) : W p l e rmX5_print s m args below meth c H locs 0 0 (MQ below (va_Qi (fun r u => post (r, u)) (hBk (dC, dI) (md_T cA) Rg (fun u => md_W h0 r cA u.1 u.2 us)) Rg) args s 0 0 Rg) (F0 m 60 ls []) := by
  obtain ⟨hx, hb, hml, hr, hlocks, hown, hts⟩ := id C
  unfold fX5_print_60 at hq
  refine lv_lload_n hx hb dX5_print_60 rfl (lv_at hl 2 rfl) ?_
  refine lv_iconst (v := 0) hx hb dX5_print_61 (by decide) ?_
  refine bx_si C (kX5_isInfinite l x3 (0 : Int32)) bx_B_true (fun _ _ _ => trivial) tw_methodLink_RX5_112_yX5_isInfinite mbX5_isInfinite rfl ⟨rfl, rfl⟩ ⟨Nat.le_of_ble_eq_true rfl, Nat.le_of_ble_eq_true rfl⟩ ⟨Nat.zero_le _, Nat.zero_le _⟩ hl.1 rfl (Nat.le_of_ble_eq_true rfl) dX5_print_62 ?_
  refine lv_if_eq (tgt := 83) hx hb dX5_print_65 (by decide) (fun c4 => ?_) (fun c4 => ?_)
  · rw [if_pos c4] at hq
    refine lv_aload_n hx hb dX5_print_83 rfl (lv_at hl 0 rfl) ?_
    refine lv_lload_n hx hb dX5_print_84 rfl (lv_at hl 2 rfl) ?_
    refine lv_iconst (v := 0) hx hb dX5_print_85 (by decide) ?_
    refine bx_sl C (kX5_digitsOf l x3 (0 : Int32)) bx_B_true (fun _ _ _ => trivial) tw_methodLink_RX5_118_yX5_digitsOf mbX5_digitsOf rfl ⟨rfl, rfl⟩ ⟨Nat.le_of_ble_eq_true rfl, Nat.le_of_ble_eq_true rfl⟩ ⟨Nat.zero_le _, Nat.zero_le _⟩ hl.1 rfl (Nat.le_of_ble_eq_true rfl) dX5_print_86 ?_
    refine lv_lload_n hx hb dX5_print_89 rfl (lv_at hl 2 rfl) ?_
    refine lv_iconst (v := 0) hx hb dX5_print_90 (by decide) ?_
    refine bx_si C (kX5_exponentOf l x3 (0 : Int32)) bx_B_true (fun _ _ _ => trivial) tw_methodLink_RX5_121_yX5_exponentOf mbX5_exponentOf rfl ⟨rfl, rfl⟩ ⟨Nat.le_of_ble_eq_true rfl, Nat.le_of_ble_eq_true rfl⟩ ⟨Nat.zero_le _, Nat.zero_le _⟩ hl.1 rfl (Nat.le_of_ble_eq_true rfl) dX5_print_91 ?_
    refine hx_cv (Wf := (fun u => md_W h0 r cA u.1 u.2 us)) (u0 := (uf, ua)) (F := (fX5_putWhole uf ua (fX5_digitsOf x3 (0 : Int32)) (fX5_exponentOf x3 (0 : Int32)))) C (fun sz => kX5_putWhole l dC dI h0 r cA sz uf ua us (fX5_digitsOf x3 (0 : Int32)) (fX5_exponentOf x3 (0 : Int32)) ho (pr_pw h3 hn (by assumption))) (fun _ => bx_B_true) (fun _ _ _ => trivial) hw rfl rfl tw_methodLink_RX5_263_yX5_putWhole mbX5_putWhole rfl ⟨rfl, rfl⟩ ⟨Nat.le_of_ble_eq_true rfl, Nat.le_of_ble_eq_true rfl⟩ ⟨Nat.zero_le _, Nat.zero_le _⟩ hl.1 rfl (Nat.le_of_ble_eq_true rfl) dX5_print_94 (fun H locs hw => ?_)
    have hw : hW (dC, dI) (md_T cA) Rg s H locs (md_W h0 r cA ((fX5_putWhole uf ua (fX5_digitsOf x3 (0 : Int32)) (fX5_exponentOf x3 (0 : Int32))).1) ((fX5_putWhole uf ua (fX5_digitsOf x3 (0 : Int32)) (fX5_exponentOf x3 (0 : Int32))).2) us) := hw
    refine lv_iload_n hx hb dX5_print_97 rfl (lv_at hl 1 rfl) ?_
    refine lv_if_le (tgt := 107) hx hb dX5_print_98 (by decide) (fun c5 => ?_) (fun c5 => ?_)
    · rw [if_pos c5] at hq
      exact bX5_print_107 ((fX5_putWhole uf ua (fX5_digitsOf x3 (0 : Int32)) (fX5_exponentOf x3 (0 : Int32))).1) ((fX5_putWhole uf ua (fX5_digitsOf x3 (0 : Int32)) (fX5_exponentOf x3 (0 : Int32))).2) x2 x3 C (lv_sub hl [0, 1, 2] rfl) hw (by first | with_reducible exact pr_q0 ho (pr_pw h3 hn (by assumption)) | with_reducible exact pr_q1 ho (pr_pw h3 hn (by assumption))) h2 (pr_e h3 hn) post hq
    · rw [if_neg c5] at hq
      refine lv_aload_n hx hb dX5_print_101 rfl (lv_at hl 0 rfl) ?_
      refine lv_bipush (v := 46) hx hb dX5_print_102 (by decide) ?_
      refine hx_cv (Wf := (fun u => md_W h0 r cA u.1 u.2 us)) (u0 := ((fX5_putWhole uf ua (fX5_digitsOf x3 (0 : Int32)) (fX5_exponentOf x3 (0 : Int32))).1, (fX5_putWhole uf ua (fX5_digitsOf x3 (0 : Int32)) (fX5_exponentOf x3 (0 : Int32))).2)) (F := (fX5_put ((fX5_putWhole uf ua (fX5_digitsOf x3 (0 : Int32)) (fX5_exponentOf x3 (0 : Int32))).1) ((fX5_putWhole uf ua (fX5_digitsOf x3 (0 : Int32)) (fX5_exponentOf x3 (0 : Int32))).2) (46 : Int32))) C (fun sz => kX5_put l dC dI h0 r cA sz ((fX5_putWhole uf ua (fX5_digitsOf x3 (0 : Int32)) (fX5_exponentOf x3 (0 : Int32))).1) ((fX5_putWhole uf ua (fX5_digitsOf x3 (0 : Int32)) (fX5_exponentOf x3 (0 : Int32))).2) us (46 : Int32) (pr_p1 ho (pr_pw h3 hn (by assumption)))) (fun _ => bx_B_true) (fun _ _ _ => trivial) hw rfl rfl tw_methodLink_RX5_255_yX5_put mbX5_put rfl ⟨rfl, rfl⟩ ⟨Nat.le_of_ble_eq_true rfl, Nat.le_of_ble_eq_true rfl⟩ ⟨Nat.zero_le _, Nat.zero_le _⟩ hl.1 rfl (Nat.le_of_ble_eq_true rfl) dX5_print_104 (fun H locs hw => ?_)
      have hw : hW (dC, dI) (md_T cA) Rg s H locs (md_W h0 r cA ((fX5_put ((fX5_putWhole uf ua (fX5_digitsOf x3 (0 : Int32)) (fX5_exponentOf x3 (0 : Int32))).1) ((fX5_putWhole uf ua (fX5_digitsOf x3 (0 : Int32)) (fX5_exponentOf x3 (0 : Int32))).2) (46 : Int32)).1) ((fX5_put ((fX5_putWhole uf ua (fX5_digitsOf x3 (0 : Int32)) (fX5_exponentOf x3 (0 : Int32))).1) ((fX5_putWhole uf ua (fX5_digitsOf x3 (0 : Int32)) (fX5_exponentOf x3 (0 : Int32))).2) (46 : Int32)).2) us) := hw
      exact bX5_print_107 ((fX5_put ((fX5_putWhole uf ua (fX5_digitsOf x3 (0 : Int32)) (fX5_exponentOf x3 (0 : Int32))).1) ((fX5_putWhole uf ua (fX5_digitsOf x3 (0 : Int32)) (fX5_exponentOf x3 (0 : Int32))).2) (46 : Int32)).1) ((fX5_put ((fX5_putWhole uf ua (fX5_digitsOf x3 (0 : Int32)) (fX5_exponentOf x3 (0 : Int32))).1) ((fX5_putWhole uf ua (fX5_digitsOf x3 (0 : Int32)) (fX5_exponentOf x3 (0 : Int32))).2) (46 : Int32)).2) x2 x3 C (lv_sub hl [0, 1, 2] rfl) hw (by first | with_reducible exact pr_q0 ho (pr_pw h3 hn (by assumption)) | with_reducible exact pr_q1 ho (pr_pw h3 hn (by assumption))) h2 (pr_e h3 hn) post hq
  · rw [if_neg c4] at hq
    refine lv_aload_n hx hb dX5_print_68 rfl (lv_at hl 0 rfl) ?_
    refine lv_bipush (v := 105) hx hb dX5_print_69 (by decide) ?_
    refine lv_bipush (v := 110) hx hb dX5_print_71 (by decide) ?_
    refine lv_bipush (v := 102) hx hb dX5_print_73 (by decide) ?_
    refine hx_cv (Wf := (fun u => md_W h0 r cA u.1 u.2 us)) (u0 := (uf, ua)) (F := (fX5_putName uf ua (105 : Int32) (110 : Int32) (102 : Int32))) C (fun sz => kX5_putName l dC dI h0 r cA sz uf ua us (105 : Int32) (110 : Int32) (102 : Int32) (pr_n ho)) (fun _ => bx_B_true) (fun _ _ _ => trivial) hw rfl rfl tw_methodLink_RX5_259_yX5_putName mbX5_putName rfl ⟨rfl, rfl⟩ ⟨Nat.le_of_ble_eq_true rfl, Nat.le_of_ble_eq_true rfl⟩ ⟨Nat.zero_le _, Nat.zero_le _⟩ hl.1 rfl (Nat.le_of_ble_eq_true rfl) dX5_print_75 (fun H locs hw => ?_)
    have hw : hW (dC, dI) (md_T cA) Rg s H locs (md_W h0 r cA ((fX5_putName uf ua (105 : Int32) (110 : Int32) (102 : Int32)).1) ((fX5_putName uf ua (105 : Int32) (110 : Int32) (102 : Int32)).2) us) := hw
    refine lv_aload_n hx hb dX5_print_78 rfl (lv_at hl 0 rfl) ?_
    refine hx_get (v := .int (((fX5_putName uf ua (105 : Int32) (110 : Int32) (102 : Int32)).1) 11)) hx hb hts inX5 hown hw.1 hw.2.2.2.1 0 rfl rfl 11 (by decide) tw_fieldLink_RX5_245_GlulxFloatsModel_outSize_I rfl rfl dX5_print_79 ?_
    exact hx_iret (Wf := (fun u => md_W h0 r cA u.1 u.2 us)) (post := post) (v := (((fX5_putName uf ua (105 : Int32) (110 : Int32) (102 : Int32)).1) 11)) (u := ((fX5_putName uf ua (105 : Int32) (110 : Int32) (102 : Int32)).1, (fX5_putName uf ua (105 : Int32) (110 : Int32) (102 : Int32)).2)) hx hb hr hlocks hw hq dX5_print_82
set_option maxRecDepth 20000 in
theorem bX5_print_0 (uf : Nat → Int32) (ua : Nat → Nat → Int32) (x1 : Int32) (x2 : Int32) {p : Program} {l : Launch} {e : Env} {s : State} {m : MethodId} {args : Array Value} {below : List Frame} {meth : Method} {c : Code} {dC : Nat → ClassId} {dI : Nat → Nat → Nat} {r : Nat → Nat} {cA : Nat → ClassId} {Rg : Nat → Prop} {H : Heap} {locs : List Loc} {us : Nat → Int64} {h0 : Nat} {ls : Array Slot} (C : bx_C p s m args meth c cX5_print 6 (some .int) RX5) (hl : lv_has ls 6 [(0, .ref h0), (1, .int x1), (2, .int x2)]) (hw : hW (dC, dI) (md_T cA) Rg s H locs (md_W h0 r cA uf ua us)) (post : (Int32 × ((Nat → Int32) × (Nat → Nat → Int32))) → Prop) (hq : post (fX5_print uf ua x1 x2)) : W p l e rmX5_print s m args below meth c H locs 0 0 (MQ below (va_Qi (fun r u => post (r, u)) (hBk (dC, dI) (md_T cA) Rg (fun u => md_W h0 r cA u.1 u.2 us)) Rg) args s 0 0 Rg) (F0 m 0 ls []) := by
  obtain ⟨hx, hb, hml, hr, hlocks, hown, hts⟩ := id C
  unfold fX5_print at hq
  refine lv_iload_n hx hb dX5_print_0 rfl (lv_at hl 2 rfl) ?_
  refine lv_iconst (v := 0) hx hb dX5_print_1 (by decide) ?_
  refine lv_bipush (v := 40) hx hb dX5_print_2 (by decide) ?_
  refine bx_si C (kX5_in l x2 (0 : Int32) (40 : Int32)) bx_B_true (fun _ _ _ => trivial) tw_methodLink_RX5_225_yX5_in mbX5_in rfl ⟨rfl, rfl⟩ ⟨Nat.le_of_ble_eq_true rfl, Nat.le_of_ble_eq_true rfl⟩ ⟨Nat.zero_le _, Nat.zero_le _⟩ hl.1 rfl (Nat.le_of_ble_eq_true rfl) dX5_print_4 ?_
  refine lv_if_ne (tgt := 13) hx hb dX5_print_7 (by decide) (fun c1 => ?_) (fun c1 => ?_)
  · rw [if_neg c1] at hq
    refine lv_iload_n hx hb dX5_print_13 rfl (lv_at hl 1 rfl) ?_
    refine bx_sl C (kX5_bits l x1) bx_B_true (fun _ _ _ => trivial) tw_methodLink_RX5_217_yX5_bits mbX5_bits rfl ⟨rfl, rfl⟩ ⟨Nat.le_of_ble_eq_true rfl, Nat.le_of_ble_eq_true rfl⟩ ⟨Nat.zero_le _, Nat.zero_le _⟩ hl.1 rfl (Nat.le_of_ble_eq_true rfl) dX5_print_14 ?_
    refine lv_lstore_n (lv' := [(3, .long (fX5_bits x1)), (0, .ref h0), (1, .int x1), (2, .int x2)]) hx hb dX5_print_17 rfl hl (by decide) rfl (fun ls hl => ?_)
    refine lv_aload_n hx hb dX5_print_18 rfl (lv_at hl 1 rfl) ?_
    refine lv_iconst (v := 0) hx hb dX5_print_19 (by decide) ?_
    refine hx_put (ws' := (md_W h0 r cA (va_up uf 11 (0 : Int32)) ua us)) hx hb hts inX5 tyX5 tyX5_ok nmX5 hown hw 0 rfl rfl 11 (by decide) tw_fieldLink_RX5_245_GlulxFloatsModel_outSize_I rfl rfl (by decide +kernel) (Nat.le_of_ble_eq_true rfl) dX5_print_20 rfl (fun H locs hw => ?_)
    refine lv_lload_n hx hb dX5_print_23 rfl (lv_at hl 0 rfl) ?_
    refine lv_iconst (v := 0) hx hb dX5_print_24 (by decide) ?_
    refine bx_si C (kX5_isNan l (fX5_bits x1) (0 : Int32)) bx_B_true (fun _ _ _ => trivial) tw_methodLink_RX5_102_yX5_isNan mbX5_isNan rfl ⟨rfl, rfl⟩ ⟨Nat.le_of_ble_eq_true rfl, Nat.le_of_ble_eq_true rfl⟩ ⟨Nat.zero_le _, Nat.zero_le _⟩ hl.1 rfl (Nat.le_of_ble_eq_true rfl) dX5_print_25 ?_
    refine lv_if_eq (tgt := 46) hx hb dX5_print_28 (by decide) (fun c2 => ?_) (fun c2 => ?_)
    · rw [if_pos c2] at hq
      refine lv_lload_n hx hb dX5_print_46 rfl (lv_at hl 0 rfl) ?_
      refine lv_iconst (v := 0) hx hb dX5_print_47 (by decide) ?_
      refine bx_si C (kX5_isNegative l (fX5_bits x1) (0 : Int32)) bx_B_true (fun _ _ _ => trivial) tw_methodLink_RX5_109_yX5_isNegative mbX5_isNegative rfl ⟨rfl, rfl⟩ ⟨Nat.le_of_ble_eq_true rfl, Nat.le_of_ble_eq_true rfl⟩ ⟨Nat.zero_le _, Nat.zero_le _⟩ hl.1 rfl (Nat.le_of_ble_eq_true rfl) dX5_print_48 ?_
      refine lv_if_eq (tgt := 60) hx hb dX5_print_51 (by decide) (fun c3 => ?_) (fun c3 => ?_)
      · rw [if_pos c3] at hq
        exact bX5_print_60 (va_up uf 11 (0 : Int32)) ua x2 (fX5_bits x1) C (lv_sub hl [1, 3, 0] rfl) hw (by first | with_reducible exact pr_o0 | with_reducible exact pr_o1) (sd_bits _) (by assumption) (pr_pl (by assumption)) post hq
      · rw [if_neg c3] at hq
        refine lv_aload_n hx hb dX5_print_54 rfl (lv_at hl 1 rfl) ?_
        refine lv_bipush (v := 45) hx hb dX5_print_55 (by decide) ?_
        refine hx_cv (Wf := (fun u => md_W h0 r cA u.1 u.2 us)) (u0 := ((va_up uf 11 (0 : Int32)), ua)) (F := (fX5_put (va_up uf 11 (0 : Int32)) ua (45 : Int32))) C (fun sz => kX5_put l dC dI h0 r cA sz (va_up uf 11 (0 : Int32)) ua us (45 : Int32) pr_p0) (fun _ => bx_B_true) (fun _ _ _ => trivial) hw rfl rfl tw_methodLink_RX5_255_yX5_put mbX5_put rfl ⟨rfl, rfl⟩ ⟨Nat.le_of_ble_eq_true rfl, Nat.le_of_ble_eq_true rfl⟩ ⟨Nat.zero_le _, Nat.zero_le _⟩ hl.1 rfl (Nat.le_of_ble_eq_true rfl) dX5_print_57 (fun H locs hw => ?_)
        have hw : hW (dC, dI) (md_T cA) Rg s H locs (md_W h0 r cA ((fX5_put (va_up uf 11 (0 : Int32)) ua (45 : Int32)).1) ((fX5_put (va_up uf 11 (0 : Int32)) ua (45 : Int32)).2) us) := hw
        exact bX5_print_60 ((fX5_put (va_up uf 11 (0 : Int32)) ua (45 : Int32)).1) ((fX5_put (va_up uf 11 (0 : Int32)) ua (45 : Int32)).2) x2 (fX5_bits x1) C (lv_sub hl [1, 3, 0] rfl) hw (by first | with_reducible exact pr_o0 | with_reducible exact pr_o1) (sd_bits _) (by assumption) (pr_pl (by assumption)) post hq
    · rw [if_neg c2] at hq
      refine lv_aload_n hx hb dX5_print_31 rfl (lv_at hl 1 rfl) ?_
      refine lv_bipush (v := 110) hx hb dX5_print_32 (by decide) ?_
      refine lv_bipush (v := 97) hx hb dX5_print_34 (by decide) ?_
      refine lv_bipush (v := 110) hx hb dX5_print_36 (by decide) ?_
      refine hx_cv (Wf := (fun u => md_W h0 r cA u.1 u.2 us)) (u0 := ((va_up uf 11 (0 : Int32)), ua)) (F := (fX5_putName (va_up uf 11 (0 : Int32)) ua (110 : Int32) (97 : Int32) (110 : Int32))) C (fun sz => kX5_putName l dC dI h0 r cA sz (va_up uf 11 (0 : Int32)) ua us (110 : Int32) (97 : Int32) (110 : Int32) pr_n0) (fun _ => bx_B_true) (fun _ _ _ => trivial) hw rfl rfl tw_methodLink_RX5_259_yX5_putName mbX5_putName rfl ⟨rfl, rfl⟩ ⟨Nat.le_of_ble_eq_true rfl, Nat.le_of_ble_eq_true rfl⟩ ⟨Nat.zero_le _, Nat.zero_le _⟩ hl.1 rfl (Nat.le_of_ble_eq_true rfl) dX5_print_38 (fun H locs hw => ?_)
      have hw : hW (dC, dI) (md_T cA) Rg s H locs (md_W h0 r cA ((fX5_putName (va_up uf 11 (0 : Int32)) ua (110 : Int32) (97 : Int32) (110 : Int32)).1) ((fX5_putName (va_up uf 11 (0 : Int32)) ua (110 : Int32) (97 : Int32) (110 : Int32)).2) us) := hw
      refine lv_aload_n hx hb dX5_print_41 rfl (lv_at hl 1 rfl) ?_
      refine hx_get (v := .int (((fX5_putName (va_up uf 11 (0 : Int32)) ua (110 : Int32) (97 : Int32) (110 : Int32)).1) 11)) hx hb hts inX5 hown hw.1 hw.2.2.2.1 0 rfl rfl 11 (by decide) tw_fieldLink_RX5_245_GlulxFloatsModel_outSize_I rfl rfl dX5_print_42 ?_
      exact hx_iret (Wf := (fun u => md_W h0 r cA u.1 u.2 us)) (post := post) (v := (((fX5_putName (va_up uf 11 (0 : Int32)) ua (110 : Int32) (97 : Int32) (110 : Int32)).1) 11)) (u := ((fX5_putName (va_up uf 11 (0 : Int32)) ua (110 : Int32) (97 : Int32) (110 : Int32)).1, (fX5_putName (va_up uf 11 (0 : Int32)) ua (110 : Int32) (97 : Int32) (110 : Int32)).2)) hx hb hr hlocks hw hq dX5_print_45
  · rw [if_pos c1] at hq
    refine lv_bipush (v := -102) hx hb dX5_print_10 (by decide) ?_
    exact hx_iret (Wf := (fun u => md_W h0 r cA u.1 u.2 us)) (post := post) (v := (-102 : Int32)) (u := (uf, ua)) hx hb hr hlocks hw hq dX5_print_12
theorem kX5_print (l : Launch) (dC : Nat → ClassId) (dI : Nat → Nat → Nat) (h0 : Nat) (r : Nat → Nat) (cA : Nat → ClassId) (sz : Nat) (uf : Nat → Int32) (ua : Nat → Nat → Int32) (us : Nat → Int64) (x1 : Int32) (x2 : Int32) : Met l yX5_print (Cond.code yX5_print cX5_print 6 (some .int) :: bw) rmX5_print (hPc [.ref h0, .int x1, .int x2] (dC, dI) (md_T cA) (md_W h0 r cA uf ua us) sz (fun _ => True)) (va_Qi (fun r u => (r, u) = fX5_print uf ua x1 x2) (hBk (dC, dI) (md_T cA) (va_A (md_W h0 r cA uf ua us) sz) (fun u => md_W h0 r cA u.1 u.2 us)) (va_A (md_W h0 r cA uf ua us) sz)) 0 0 (va_A (md_W h0 r cA uf ua us) sz) := by
  refine hx_ent (by decide) _ _ (Nat.le_of_ble_eq_true rfl) rfl ?_
  intro p e s m below meth c ls C hl hw hsz _
  exact bX5_print_0 uf ua x1 x2 C hl hw (fun q => q = fX5_print uf ua x1 x2) rfl
