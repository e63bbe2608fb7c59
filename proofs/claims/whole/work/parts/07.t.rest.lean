def fX5_rest_36 (x5 : Int32) : Int64 :=
  (fX5_nan x5)
def gX5_rest_139 (x8 : Int64) (x10 : Int32) : Nat → Int64 → Int32 → Int64 × Int32
  | 0, x6, x12 => (x6, x12)
  | n + 1, x6, x12 =>
  if x10 ≤ x12 then (x6, x12)
  else if (jl_shl x6 (1 : Int32)) < x8 then gX5_rest_139 x8 x10 n ((jl_shl x6 (1 : Int32)) - (0 : Int64)) (x12 + 1)
    else gX5_rest_139 x8 x10 n ((jl_shl x6 (1 : Int32)) - x8) (x12 + 1)
def fX5_rest_177 (x1 : Int64) (x5 : Int32) (x6 : Int64) (x11 : Int32) : Int64 :=
  (fX5_rounded (fX5_isNegative x1 x5) x6 x11 (0 : Int32) x5)
def fX5_rest_129 (x1 : Int64) (x5 : Int32) (x6 : Int64) (x8 : Int64) (x10 : Int32) (x11 : Int32) : Int64 :=
  fX5_rest_177 x1 x5 (gX5_rest_139 x8 x10 (Nat.succ ((Int32.toInt (x10) - Int32.toInt (0 : Int32)).toNat)) (jl_rem x6 x8) (0 : Int32)).1 x11
def fX5_rest (x1 : Int64) (x3 : Int64) (x5 : Int32) : Int64 :=
  if (fX5_isNan x1 x5) = 0 then if (fX5_isNan x3 x5) = 0 then if (fX5_isInfinite x1 x5) = 0 then if (fX5_isZero x3 x5) = 0 then if (fX5_isInfinite x3 x5) = 0 then if (fX5_size x3 x5) ≤ (fX5_size x1 x5) then if 0 ≤ ((fX5_exponentOf x1 x5) - (fX5_exponentOf x3 x5)) then fX5_rest_129 x1 x5 (fX5_digitsOf x1 x5) (fX5_digitsOf x3 x5) ((fX5_exponentOf x1 x5) - (fX5_exponentOf x3 x5)) (fX5_exponentOf x3 x5)
              else fX5_rest_129 x1 x5 (fX5_digitsOf x1 x5) (jl_shl (fX5_digitsOf x3 x5) (-((fX5_exponentOf x1 x5) - (fX5_exponentOf x3 x5)))) ((fX5_exponentOf x1 x5) - (fX5_exponentOf x3 x5)) (fX5_exponentOf x1 x5)
            else x1
          else x1
        else fX5_rest_36 x5
      else fX5_rest_36 x5
    else fX5_rest_36 x5
  else fX5_rest_36 x5
abbrev rmX5_rest : Room := { frames := 4, cells := 0, slots := 0, locals := 88 }
theorem mbX5_rest : mb_V RX5 yX5_rest cX5_rest 13 (some .long) 3 := ⟨⟨tw_instanceMethod_yX5_rest, tw_selects_RX5_yX5_rest_yX5_rest, tw_initialized_RX5, tw_code_yX5_rest⟩, rfl, by decide +kernel, by decide +kernel, by decide +kernel⟩
theorem BX5_rest {h0 : Nat} : bx_B (fun U => ob_K RX5 h0 U) := ob_B RX5 h0
set_option maxRecDepth 20000 in
theorem bX5_rest_36 (x5 : Int32) {p : Program} {l : Launch} {e : Env} {s : State} {m : MethodId} {args : Array Value} {below : List Frame} {meth : Method} {c : Code} {h0 : Nat} {ls : Array Slot} (C : bx_C p s m args meth c cX5_rest 13 (some .long) RX5) (hK0 : ob_K RX5 h0 s) (hl : lv_has ls 13 [(5, .int x5)]) (post : Int64 → Prop) (hq : post (fX5_rest_36 x5)) : W p l e rmX5_rest s m args below meth c s.heap [] 0 0 (MQ below (vp_Sl post) args s 0 0 (fun _ => False)) (F0 m 36 ls []) := by
  obtain ⟨hx, hb, hml, hr, hlocks, hown, hts⟩ := id C
  unfold fX5_rest_36 at hq
  refine lv_iload hx hb dX5_rest_36 (lv_at hl 0 rfl) ?_
  refine bx_sl C (kX5_nan l x5) bx_B_true (fun _ _ _ => trivial) tw_methodLink_RX5_106_yX5_nan mbX5_nan rfl ⟨rfl, rfl⟩ ⟨Nat.le_of_ble_eq_true rfl, Nat.le_of_ble_eq_true rfl⟩ ⟨Nat.zero_le _, Nat.zero_le _⟩ hl.1 rfl (Nat.le_of_ble_eq_true rfl) dX5_rest_38 ?_
  exact W.lret (v := (fX5_nan x5)) hx hb hr (fun t ht hW => ⟨_, rfl, hq, ht⟩) (fun _ h => absurd h List.not_mem_nil) dX5_rest_41
set_option maxRecDepth 20000 in
theorem lX5_rest_139 (x8 : Int64) (x10 : Int32) (x1 : Int64) (x5 : Int32) (x11 : Int32) {p : Program} {l : Launch} {e : Env} {s : State} {m : MethodId} {args : Array Value} {below : List Frame} {meth : Method} {c : Code} {h0 : Nat} {Q : State → Prop} (C : bx_C p s m args meth c cX5_rest 13 (some .long) RX5) (hK0 : ob_K RX5 h0 s) (post : Int64 × Int32 → Prop) (kx : ∀ (o6 : Int64) (o12 : Int32) (ls : Array Slot), lv_has ls 13 [(1, .long x1), (5, .int x5), (6, .long o6), (11, .int x11), (12, .int o12)] → post (o6, o12) → W p l e rmX5_rest s m args below meth c s.heap [] 0 0 Q (F0 m 177 ls [])) :
    ∀ (n : Nat) (x6 : Int64) (x12 : Int32) (ls : Array Slot), (Int32.toInt (x10) - Int32.toInt x12).toNat < n → lv_has ls 13 [(1, .long x1), (5, .int x5), (6, .long x6), (8, .long x8), (10, .int x10), (11, .int x11), (12, .int x12)] → post (gX5_rest_139 x8 x10 n x6 x12) → W p l e rmX5_rest s m args below meth c s.heap [] 0 0 Q (F0 m 139 ls []) := by
  obtain ⟨hx, hb, hml, hr, hlocks, hown, hts⟩ := id C
  intro n
  induction n with
  | zero =>
    intro x6 x12 ls hm
    exact absurd hm (Nat.not_lt_zero _)
  | succ n ih =>
    intro x6 x12 ls hm hl hq
    rw [gX5_rest_139] at hq
    refine lv_iload hx hb dX5_rest_139 (lv_at hl 6 rfl) ?_
    refine lv_iload hx hb dX5_rest_141 (lv_at hl 4 rfl) ?_
    refine lv_icmp_ge (tgt := 177) hx hb dX5_rest_143 (by decide) (fun c8 => ?_) (fun c8 => ?_)
    · rw [if_pos c8] at hq
      exact kx x6 x12 _ (lv_sub hl [0, 1, 2, 5, 6] rfl) hq
    · rw [if_neg c8] at hq
      refine lv_lload hx hb dX5_rest_146 (lv_at hl 2 rfl) ?_
      refine lv_iconst (v := 1) hx hb dX5_rest_148 (by decide) ?_
      refine bx_lshl hx hb dX5_rest_149 ?_
      refine lv_lstore (lv' := [(6, .long (jl_shl x6 (1 : Int32))), (1, .long x1), (5, .int x5), (8, .long x8), (10, .int x10), (11, .int x11), (12, .int x12)]) hx hb dX5_rest_150 hl (by decide) rfl (fun ls hl => ?_)
      refine lv_lload hx hb dX5_rest_152 (lv_at hl 0 rfl) ?_
      refine lv_lload hx hb dX5_rest_154 (lv_at hl 0 rfl) ?_
      refine lv_lload hx hb dX5_rest_156 (lv_at hl 3 rfl) ?_
      refine bx_lc_lt (tgt := 167) hx hb dX5_rest_158 dX5_rest_159 (by decide) (fun c9 => ?_) (fun c9 => ?_)
      · rw [if_pos c9] at hq
        refine lv_lconst (v := 0) hx hb dX5_rest_167 (by decide) ?_
        refine lv_lsub hx hb dX5_rest_168 ?_
        refine lv_lstore (lv' := [(6, .long ((jl_shl x6 (1 : Int32)) - (0 : Int64))), (1, .long x1), (5, .int x5), (8, .long x8), (10, .int x10), (11, .int x11), (12, .int x12)]) hx hb dX5_rest_169 hl (by decide) rfl (fun ls hl => ?_)
        refine lv_iinc (v := (x12 + 1)) (lv' := [(12, .int (x12 + 1)), (6, .long ((jl_shl x6 (1 : Int32)) - (0 : Int64))), (1, .long x1), (5, .int x5), (8, .long x8), (10, .int x10), (11, .int x11)]) hx hb dX5_rest_171 hl (k := 6) rfl rfl (by decide) rfl (fun ls hl => ?_)
        refine lv_goto (tgt := 139) hx hb dX5_rest_174 (by decide) ?_
        exact ih ((jl_shl x6 (1 : Int32)) - (0 : Int64)) (x12 + 1) _ (lp_up (by assumption) hm) (lv_sub hl [2, 3, 1, 4, 5, 6, 0] rfl) hq
      · rw [if_neg c9] at hq
        refine lv_lload hx hb dX5_rest_162 (lv_at hl 3 rfl) ?_
        refine lv_goto (tgt := 168) hx hb dX5_rest_164 (by decide) ?_
        refine lv_lsub hx hb dX5_rest_168 ?_
        refine lv_lstore (lv' := [(6, .long ((jl_shl x6 (1 : Int32)) - x8)), (1, .long x1), (5, .int x5), (8, .long x8), (10, .int x10), (11, .int x11), (12, .int x12)]) hx hb dX5_rest_169 hl (by decide) rfl (fun ls hl => ?_)
        refine lv_iinc (v := (x12 + 1)) (lv' := [(12, .int (x12 + 1)), (6, .long ((jl_shl x6 (1 : Int32)) - x8)), (1, .long x1), (5, .int x5), (8, .long x8), (10, .int x10), (11, .int x11)]) hx hb dX5_rest_171 hl (k := 6) rfl rfl (by decide) rfl (fun ls hl => ?_)
        refine lv_goto (tgt := 139) hx hb dX5_rest_174 (by decide) ?_
        exact ih ((jl_shl x6 (1 : Int32)) - x8) (x12 + 1) _ (lp_up (by assumption) hm) (lv_sub hl [2, 3, 1, 4, 5, 6, 0] rfl) hq
set_option maxRecDepth 20000 in
theorem bX5_rest_177 (x1 : Int64) (x5 : Int32) (x6 : Int64) (x11 : Int32) {p : Program} {l : Launch} {e : Env} {s : State} {m : MethodId} {args : Array Value} {below : List Frame} {meth : Method} {c : Code} {h0 : Nat} {ls : Array Slot} (C : bx_C p s m args meth c cX5_rest 13 (some .long) RX5) (hK0 : ob_K RX5 h0 s) (hl : lv_has ls 13 [(1, .long x1), (5, .int x5), (6, .long x6), (11, .int x11)]) (post : Int64 → Prop) (hq : post (fX5_rest_177 x1 x5 x6 x11)) : W p l e rmX5_rest s m args below meth c s.heap [] 0 0 (MQ below (vp_Sl post) args s 0 0 (fun _ => False)) (F0 m 177 ls []) := by
  obtain ⟨hx, hb, hml, hr, hlocks, hown, hts⟩ := id C
  unfold fX5_rest_177 at hq
  refine lv_lload_n hx hb dX5_rest_177 rfl (lv_at hl 0 rfl) ?_
  refine lv_iload hx hb dX5_rest_178 (lv_at hl 1 rfl) ?_
  refine bx_si C (kX5_isNegative l x1 x5) bx_B_true (fun _ _ _ => trivial) tw_methodLink_RX5_109_yX5_isNegative mbX5_isNegative rfl ⟨rfl, rfl⟩ ⟨Nat.le_of_ble_eq_true rfl, Nat.le_of_ble_eq_true rfl⟩ ⟨Nat.zero_le _, Nat.zero_le _⟩ hl.1 rfl (Nat.le_of_ble_eq_true rfl) dX5_rest_180 ?_
  refine lv_lload hx hb dX5_rest_183 (lv_at hl 2 rfl) ?_
  refine lv_iload hx hb dX5_rest_185 (lv_at hl 3 rfl) ?_
  refine lv_iconst (v := 0) hx hb dX5_rest_187 (by decide) ?_
  refine lv_iload hx hb dX5_rest_188 (lv_at hl 1 rfl) ?_
  refine bx_sl C (kX5_rounded l (fX5_isNegative x1 x5) x6 x11 (0 : Int32) x5) bx_B_true (fun _ _ _ => trivial) tw_methodLink_RX5_98_yX5_rounded mbX5_rounded rfl ⟨rfl, rfl⟩ ⟨Nat.le_of_ble_eq_true rfl, Nat.le_of_ble_eq_true rfl⟩ ⟨Nat.zero_le _, Nat.zero_le _⟩ hl.1 rfl (Nat.le_of_ble_eq_true rfl) dX5_rest_190 ?_
  exact W.lret (v := (fX5_rounded (fX5_isNegative x1 x5) x6 x11 (0 : Int32) x5)) hx hb hr (fun t ht hW => ⟨_, rfl, hq, ht⟩) (fun _ h => absurd h List.not_mem_nil) dX5_rest_193
set_option maxRecDepth 20000 in
theorem bX5_rest_129 (x1 : Int64) (x5 : Int32) (x6 : Int64) (x8 : Int64) (x10 : Int32) (x11 : Int32) {p : Program} {l : Launch} {e : Env} {s : State} {m : MethodId} {args : Array Value} {below : List Frame} {meth : Method} {c : Code} {h0 : Nat} {ls : Array Slot} (C : bx_C p s m args meth c cX5_rest 13 (some .long) RX5) (hK0 : ob_K RX5 h0 s) (hl : lv_has ls 13 [(1, .long x1), (5, .int x5), (6, .long x6), (8, .long x8), (10, .int x10), (11, .int x11)]) (h8 : ¬ x8 = (0 : Int64)) (post : Int64 → Prop) (hq : post (fX5_rest_129 x1 x5 x6 x8 x10 x11)) : W p l e rmX5_rest s m args below meth c s.heap [] 0 0 (MQ below (vp_Sl post) args s 0 0 (fun _ => False)) (F0 m 129 ls []) := by
  obtain ⟨hx, hb, hml, hr, hlocks, hown, hts⟩ := id C
  unfold fX5_rest_129 at hq
  refine lv_lload hx hb dX5_rest_129 (lv_at hl 2 rfl) ?_
  refine lv_lload hx hb dX5_rest_131 (lv_at hl 3 rfl) ?_
  refine bx_lrem hx hb dX5_rest_133 (by first | assumption | decide) ?_
  refine lv_lstore (lv' := [(6, .long (jl_rem x6 x8)), (1, .long x1), (5, .int x5), (8, .long x8), (10, .int x10), (11, .int x11)]) hx hb dX5_rest_134 hl (by decide) rfl (fun ls hl => ?_)
  refine lv_iconst (v := 0) hx hb dX5_rest_136 (by decide) ?_
  refine lv_istore (lv' := [(12, .int (0 : Int32)), (6, .long (jl_rem x6 x8)), (1, .long x1), (5, .int x5), (8, .long x8), (10, .int x10), (11, .int x11)]) hx hb dX5_rest_137 hl (by decide) rfl (fun ls hl => ?_)
  exact lX5_rest_139 x8 x10 x1 x5 x11 C hK0 (fun t => post (fX5_rest_177 x1 x5 t.1 x11)) (fun o6 o12 ls hl hq => bX5_rest_177 x1 x5 o6 x11 C hK0 (lv_sub hl [0, 1, 2, 3] rfl) post hq) (Nat.succ ((Int32.toInt (x10) - Int32.toInt (0 : Int32)).toNat)) (jl_rem x6 x8) (0 : Int32) _ (Nat.lt_succ_self _) (lv_sub hl [2, 3, 1, 4, 5, 6, 0] rfl) hq
set_option maxRecDepth 20000 in
theorem bX5_rest_0 (x1 : Int64) (x3 : Int64) (x5 : Int32) {p : Program} {l : Launch} {e : Env} {s : State} {m : MethodId} {args : Array Value} {below : List Frame} {meth : Method} {c : Code} {h0 : Nat} {ls : Array Slot} (C : bx_C p s m args meth c cX5_rest 13 (some .long) RX5) (hK0 : ob_K RX5 h0 s) (hl : lv_has ls 13 [(0, .ref h0), (1, .long x1), (3, .long x3), (5, .int x5)]) (h1 : x5 = 0 → 0 ≤ x1.toInt) (h3 : x5 = 0 → 0 ≤ x3.toInt) (post : Int64 → Prop) (hq : post (fX5_rest x1 x3 x5)) : W p l e rmX5_rest s m args below meth c s.heap [] 0 0 (MQ below (vp_Sl post) args s 0 0 (fun _ => False)) (F0 m 0 ls []) := by
  obtain ⟨hx, hb, hml, hr, hlocks, hown, hts⟩ := id C
  unfold fX5_rest at hq
  refine lv_lload_n hx hb dX5_rest_0 rfl (lv_at hl 1 rfl) ?_
  refine lv_iload hx hb dX5_rest_1 (lv_at hl 3 rfl) ?_
  refine bx_si C (kX5_isNan l x1 x5) bx_B_true (fun _ _ _ => trivial) tw_methodLink_RX5_102_yX5_isNan mbX5_isNan rfl ⟨rfl, rfl⟩ ⟨Nat.le_of_ble_eq_true rfl, Nat.le_of_ble_eq_true rfl⟩ ⟨Nat.zero_le _, Nat.zero_le _⟩ hl.1 rfl (Nat.le_of_ble_eq_true rfl) dX5_rest_3 ?_
  refine lv_if_ne (tgt := 36) hx hb dX5_rest_6 (by decide) (fun c1 => ?_) (fun c1 => ?_)
  · rw [if_neg c1] at hq
    exact bX5_rest_36 x5 C hK0 (lv_sub hl [3] rfl) post hq
  · rw [if_pos c1] at hq
    refine lv_lload_n hx hb dX5_rest_9 rfl (lv_at hl 2 rfl) ?_
    refine lv_iload hx hb dX5_rest_10 (lv_at hl 3 rfl) ?_
    refine bx_si C (kX5_isNan l x3 x5) bx_B_true (fun _ _ _ => trivial) tw_methodLink_RX5_102_yX5_isNan mbX5_isNan rfl ⟨rfl, rfl⟩ ⟨Nat.le_of_ble_eq_true rfl, Nat.le_of_ble_eq_true rfl⟩ ⟨Nat.zero_le _, Nat.zero_le _⟩ hl.1 rfl (Nat.le_of_ble_eq_true rfl) dX5_rest_12 ?_
    refine lv_if_ne (tgt := 36) hx hb dX5_rest_15 (by decide) (fun c2 => ?_) (fun c2 => ?_)
    · rw [if_neg c2] at hq
      exact bX5_rest_36 x5 C hK0 (lv_sub hl [3] rfl) post hq
    · rw [if_pos c2] at hq
      refine lv_lload_n hx hb dX5_rest_18 rfl (lv_at hl 1 rfl) ?_
      refine lv_iload hx hb dX5_rest_19 (lv_at hl 3 rfl) ?_
      refine bx_si C (kX5_isInfinite l x1 x5) bx_B_true (fun _ _ _ => trivial) tw_methodLink_RX5_112_yX5_isInfinite mbX5_isInfinite rfl ⟨rfl, rfl⟩ ⟨Nat.le_of_ble_eq_true rfl, Nat.le_of_ble_eq_true rfl⟩ ⟨Nat.zero_le _, Nat.zero_le _⟩ hl.1 rfl (Nat.le_of_ble_eq_true rfl) dX5_rest_21 ?_
      refine lv_if_ne (tgt := 36) hx hb dX5_rest_24 (by decide) (fun c3 => ?_) (fun c3 => ?_)
      · rw [if_neg c3] at hq
        exact bX5_rest_36 x5 C hK0 (lv_sub hl [3] rfl) post hq
      · rw [if_pos c3] at hq
        refine lv_lload_n hx hb dX5_rest_27 rfl (lv_at hl 2 rfl) ?_
        refine lv_iload hx hb dX5_rest_28 (lv_at hl 3 rfl) ?_
        refine bx_si C (kX5_isZero l x3 x5) bx_B_true (fun _ _ _ => trivial) tw_methodLink_RX5_127_yX5_isZero mbX5_isZero rfl ⟨rfl, rfl⟩ ⟨Nat.le_of_ble_eq_true rfl, Nat.le_of_ble_eq_true rfl⟩ ⟨Nat.zero_le _, Nat.zero_le _⟩ hl.1 rfl (Nat.le_of_ble_eq_true rfl) dX5_rest_30 ?_
        refine lv_if_eq (tgt := 42) hx hb dX5_rest_33 (by decide) (fun c4 => ?_) (fun c4 => ?_)
        · rw [if_pos c4] at hq
          refine lv_lload_n hx hb dX5_rest_42 rfl (lv_at hl 2 rfl) ?_
          refine lv_iload hx hb dX5_rest_43 (lv_at hl 3 rfl) ?_
          refine bx_si C (kX5_isInfinite l x3 x5) bx_B_true (fun _ _ _ => trivial) tw_methodLink_RX5_112_yX5_isInfinite mbX5_isInfinite rfl ⟨rfl, rfl⟩ ⟨Nat.le_of_ble_eq_true rfl, Nat.le_of_ble_eq_true rfl⟩ ⟨Nat.zero_le _, Nat.zero_le _⟩ hl.1 rfl (Nat.le_of_ble_eq_true rfl) dX5_rest_45 ?_
          refine lv_if_ne (tgt := 67) hx hb dX5_rest_48 (by decide) (fun c5 => ?_) (fun c5 => ?_)
          · rw [if_neg c5] at hq
            refine lv_lload_n hx hb dX5_rest_67 rfl (lv_at hl 1 rfl) ?_
            exact W.lret (v := x1) hx hb hr (fun t ht hW => ⟨_, rfl, hq, ht⟩) (fun _ h => absurd h List.not_mem_nil) dX5_rest_68
          · rw [if_pos c5] at hq
            refine lv_lload_n hx hb dX5_rest_51 rfl (lv_at hl 1 rfl) ?_
            refine lv_iload hx hb dX5_rest_52 (lv_at hl 3 rfl) ?_
            refine bx_sl C (kX5_size l x1 x5) bx_B_true (fun _ _ _ => trivial) tw_methodLink_RX5_67_yX5_size mbX5_size rfl ⟨rfl, rfl⟩ ⟨Nat.le_of_ble_eq_true rfl, Nat.le_of_ble_eq_true rfl⟩ ⟨Nat.zero_le _, Nat.zero_le _⟩ hl.1 rfl (Nat.le_of_ble_eq_true rfl) dX5_rest_54 ?_
            refine lv_lload_n hx hb dX5_rest_57 rfl (lv_at hl 2 rfl) ?_
            refine lv_iload hx hb dX5_rest_58 (lv_at hl 3 rfl) ?_
            refine bx_sl C (kX5_size l x3 x5) bx_B_true (fun _ _ _ => trivial) tw_methodLink_RX5_67_yX5_size mbX5_size rfl ⟨rfl, rfl⟩ ⟨Nat.le_of_ble_eq_true rfl, Nat.le_of_ble_eq_true rfl⟩ ⟨Nat.zero_le _, Nat.zero_le _⟩ hl.1 rfl (Nat.le_of_ble_eq_true rfl) dX5_rest_60 ?_
            refine bx_lc_ge (tgt := 69) hx hb dX5_rest_63 dX5_rest_64 (by decide) (fun c6 => ?_) (fun c6 => ?_)
            · rw [if_pos c6] at hq
              refine lv_lload_n hx hb dX5_rest_69 rfl (lv_at hl 1 rfl) ?_
              refine lv_iload hx hb dX5_rest_70 (lv_at hl 3 rfl) ?_
              refine bx_sl C (kX5_digitsOf l x1 x5) bx_B_true (fun _ _ _ => trivial) tw_methodLink_RX5_118_yX5_digitsOf mbX5_digitsOf rfl ⟨rfl, rfl⟩ ⟨Nat.le_of_ble_eq_true rfl, Nat.le_of_ble_eq_true rfl⟩ ⟨Nat.zero_le _, Nat.zero_le _⟩ hl.1 rfl (Nat.le_of_ble_eq_true rfl) dX5_rest_72 ?_
              refine lv_lstore (lv' := [(6, .long (fX5_digitsOf x1 x5)), (0, .ref h0), (1, .long x1), (3, .long x3), (5, .int x5)]) hx hb dX5_rest_75 hl (by decide) rfl (fun ls hl => ?_)
              refine lv_lload_n hx hb dX5_rest_77 rfl (lv_at hl 3 rfl) ?_
              refine lv_iload hx hb dX5_rest_78 (lv_at hl 4 rfl) ?_
              refine bx_sl C (kX5_digitsOf l x3 x5) bx_B_true (fun _ _ _ => trivial) tw_methodLink_RX5_118_yX5_digitsOf mbX5_digitsOf rfl ⟨rfl, rfl⟩ ⟨Nat.le_of_ble_eq_true rfl, Nat.le_of_ble_eq_true rfl⟩ ⟨Nat.zero_le _, Nat.zero_le _⟩ hl.1 rfl (Nat.le_of_ble_eq_true rfl) dX5_rest_80 ?_
              refine lv_lstore (lv' := [(8, .long (fX5_digitsOf x3 x5)), (6, .long (fX5_digitsOf x1 x5)), (0, .ref h0), (1, .long x1), (3, .long x3), (5, .int x5)]) hx hb dX5_rest_83 hl (by decide) rfl (fun ls hl => ?_)
              refine lv_lload_n hx hb dX5_rest_85 rfl (lv_at hl 3 rfl) ?_
              refine lv_iload hx hb dX5_rest_86 (lv_at hl 5 rfl) ?_
              refine bx_si C (kX5_exponentOf l x1 x5) bx_B_true (fun _ _ _ => trivial) tw_methodLink_RX5_121_yX5_exponentOf mbX5_exponentOf rfl ⟨rfl, rfl⟩ ⟨Nat.le_of_ble_eq_true rfl, Nat.le_of_ble_eq_true rfl⟩ ⟨Nat.zero_le _, Nat.zero_le _⟩ hl.1 rfl (Nat.le_of_ble_eq_true rfl) dX5_rest_88 ?_
              refine lv_lload_n hx hb dX5_rest_91 rfl (lv_at hl 4 rfl) ?_
              refine lv_iload hx hb dX5_rest_92 (lv_at hl 5 rfl) ?_
              refine bx_si C (kX5_exponentOf l x3 x5) bx_B_true (fun _ _ _ => trivial) tw_methodLink_RX5_121_yX5_exponentOf mbX5_exponentOf rfl ⟨rfl, rfl⟩ ⟨Nat.le_of_ble_eq_true rfl, Nat.le_of_ble_eq_true rfl⟩ ⟨Nat.zero_le _, Nat.zero_le _⟩ hl.1 rfl (Nat.le_of_ble_eq_true rfl) dX5_rest_94 ?_
              refine lv_isub hx hb dX5_rest_97 ?_
              refine lv_istore (lv' := [(10, .int ((fX5_exponentOf x1 x5) - (fX5_exponentOf x3 x5))), (8, .long (fX5_digitsOf x3 x5)), (6, .long (fX5_digitsOf x1 x5)), (0, .ref h0), (1, .long x1), (3, .long x3), (5, .int x5)]) hx hb dX5_rest_98 hl (by decide) rfl (fun ls hl => ?_)
              refine lv_lload_n hx hb dX5_rest_100 rfl (lv_at hl 5 rfl) ?_
              refine lv_iload hx hb dX5_rest_101 (lv_at hl 6 rfl) ?_
              refine bx_si C (kX5_exponentOf l x3 x5) bx_B_true (fun _ _ _ => trivial) tw_methodLink_RX5_121_yX5_exponentOf mbX5_exponentOf rfl ⟨rfl, rfl⟩ ⟨Nat.le_of_ble_eq_true rfl, Nat.le_of_ble_eq_true rfl⟩ ⟨Nat.zero_le _, Nat.zero_le _⟩ hl.1 rfl (Nat.le_of_ble_eq_true rfl) dX5_rest_103 ?_
              refine lv_istore (lv' := [(11, .int (fX5_exponentOf x3 x5)), (10, .int ((fX5_exponentOf x1 x5) - (fX5_exponentOf x3 x5))), (8, .long (fX5_digitsOf x3 x5)), (6, .long (fX5_digitsOf x1 x5)), (0, .ref h0), (1, .long x1), (3, .long x3), (5, .int x5)]) hx hb dX5_rest_106 hl (by decide) rfl (fun ls hl => ?_)
              refine lv_iload hx hb dX5_rest_108 (lv_at hl 1 rfl) ?_
              refine lv_if_ge (tgt := 129) hx hb dX5_rest_110 (by decide) (fun c7 => ?_) (fun c7 => ?_)
              · rw [if_pos c7] at hq
                exact bX5_rest_129 x1 x5 (fX5_digitsOf x1 x5) (fX5_digitsOf x3 x5) ((fX5_exponentOf x1 x5) - (fX5_exponentOf x3 x5)) (fX5_exponentOf x3 x5) C hK0 (lv_sub hl [5, 7, 3, 2, 1, 0] rfl) (by first | exact sd_rest1 h3 (by assumption) (by assumption) | exact absurd (sd_rest2 h1 h3 (by assumption) (by assumption) (by assumption)) (by assumption)) post hq
              · rw [if_neg c7] at hq
                refine lv_lload hx hb dX5_rest_113 (lv_at hl 2 rfl) ?_
                refine lv_iload hx hb dX5_rest_115 (lv_at hl 1 rfl) ?_
                refine lv_ineg hx hb dX5_rest_117 ?_
                refine bx_lshl hx hb dX5_rest_118 ?_
                refine lv_lstore (lv' := [(8, .long (jl_shl (fX5_digitsOf x3 x5) (-((fX5_exponentOf x1 x5) - (fX5_exponentOf x3 x5))))), (11, .int (fX5_exponentOf x3 x5)), (10, .int ((fX5_exponentOf x1 x5) - (fX5_exponentOf x3 x5))), (6, .long (fX5_digitsOf x1 x5)), (0, .ref h0), (1, .long x1), (3, .long x3), (5, .int x5)]) hx hb dX5_rest_119 hl (by decide) rfl (fun ls hl => ?_)
                refine lv_lload_n hx hb dX5_rest_121 rfl (lv_at hl 5 rfl) ?_
                refine lv_iload hx hb dX5_rest_122 (lv_at hl 7 rfl) ?_
                refine bx_si C (kX5_exponentOf l x1 x5) bx_B_true (fun _ _ _ => trivial) tw_methodLink_RX5_121_yX5_exponentOf mbX5_exponentOf rfl ⟨rfl, rfl⟩ ⟨Nat.le_of_ble_eq_true rfl, Nat.le_of_ble_eq_true rfl⟩ ⟨Nat.zero_le _, Nat.zero_le _⟩ hl.1 rfl (Nat.le_of_ble_eq_true rfl) dX5_rest_124 ?_
                refine lv_istore (lv' := [(11, .int (fX5_exponentOf x1 x5)), (8, .long (jl_shl (fX5_digitsOf x3 x5) (-((fX5_exponentOf x1 x5) - (fX5_exponentOf x3 x5))))), (10, .int ((fX5_exponentOf x1 x5) - (fX5_exponentOf x3 x5))), (6, .long (fX5_digitsOf x1 x5)), (0, .ref h0), (1, .long x1), (3, .long x3), (5, .int x5)]) hx hb dX5_rest_127 hl (by decide) rfl (fun ls hl => ?_)
                exact bX5_rest_129 x1 x5 (fX5_digitsOf x1 x5) (jl_shl (fX5_digitsOf x3 x5) (-((fX5_exponentOf x1 x5) - (fX5_exponentOf x3 x5)))) ((fX5_exponentOf x1 x5) - (fX5_exponentOf x3 x5)) (fX5_exponentOf x1 x5) C hK0 (lv_sub hl [5, 7, 3, 1, 2, 0] rfl) (by first | exact sd_rest1 h3 (by assumption) (by assumption) | exact absurd (sd_rest2 h1 h3 (by assumption) (by assumption) (by assumption)) (by assumption)) post hq
            · rw [if_neg c6] at hq
              refine lv_lload_n hx hb dX5_rest_67 rfl (lv_at hl 1 rfl) ?_
              exact W.lret (v := x1) hx hb hr (fun t ht hW => ⟨_, rfl, hq, ht⟩) (fun _ h => absurd h List.not_mem_nil) dX5_rest_68
        · rw [if_neg c4] at hq
          exact bX5_rest_36 x5 C hK0 (lv_sub hl [3] rfl) post hq
theorem kX5_rest (l : Launch) (h0 : Nat) (x1 : Int64) (x3 : Int64) (x5 : Int32) (h1 : x5 = 0 → 0 ≤ x1.toInt) (h3 : x5 = 0 → 0 ≤ x3.toInt) : Met l yX5_rest (Cond.code yX5_rest cX5_rest 13 (some .long) :: bw) rmX5_rest (va_Pc [.ref h0, .long x1, .long x3, .int x5] (fun U => ob_K RX5 h0 U)) (vp_Sl (fun r => r = fX5_rest x1 x3 x5)) 0 0 (fun _ => False) := by
  refine bx_ent (by decide) _ _ (Nat.le_of_ble_eq_true rfl) rfl ?_
  intro p e s m below meth c ls C hl hK0
  exact bX5_rest_0 x1 x3 x5 C hK0 hl h1 h3 _ rfl
def fX5_restOrNan (x1 : Int64) (x3 : Int64) (x5 : Int32) : Int64 :=
  (fX5_rest x1 x3 x5)
abbrev rmX5_restOrNan : Room := { frames := 5, cells := 0, slots := 0, locals := 120 }
theorem mbX5_restOrNan : mb_V RX5 yX5_restOrNan cX5_restOrNan 6 (some .long) 3 := ⟨⟨tw_instanceMethod_yX5_restOrNan, tw_selects_RX5_yX5_restOrNan_yX5_restOrNan, tw_initialized_RX5, tw_code_yX5_restOrNan⟩, rfl, by decide +kernel, by decide +kernel, by decide +kernel⟩
theorem BX5_restOrNan {h0 : Nat} : bx_B (fun U => ob_K RX5 h0 U) := ob_B RX5 h0
set_option maxRecDepth 20000 in
theorem bX5_restOrNan_0 (x1 : Int64) (x3 : Int64) (x5 : Int32) {p : Program} {l : Launch} {e : Env} {s : State} {m : MethodId} {args : Array Value} {below : List Frame} {meth : Method} {c : Code} {h0 : Nat} {ls : Array Slot} (C : bx_C p s m args meth c cX5_restOrNan 6 (some .long) RX5) (hK0 : ob_K RX5 h0 s) (hl : lv_has ls 6 [(0, .ref h0), (1, .long x1), (3, .long x3), (5, .int x5)]) (h1 : x5 = 0 → 0 ≤ x1.toInt) (h3 : x5 = 0 → 0 ≤ x3.toInt) (post : Int64 → Prop) (hq : post (fX5_restOrNan x1 x3 x5)) : W p l e rmX5_restOrNan s m args below meth c s.heap [] 0 0 (MQ below (vp_Sl post) args s 0 0 (fun _ => False)) (F0 m 0 ls []) := by
  obtain ⟨hx, hb, hml, hr, hlocks, hown, hts⟩ := id C
  unfold fX5_restOrNan at hq
  refine lv_aload_n hx hb dX5_restOrNan_0 rfl (lv_at hl 0 rfl) ?_
  refine lv_lload_n hx hb dX5_restOrNan_1 rfl (lv_at hl 1 rfl) ?_
  refine lv_lload_n hx hb dX5_restOrNan_2 rfl (lv_at hl 2 rfl) ?_
  refine lv_iload hx hb dX5_restOrNan_3 (lv_at hl 3 rfl) ?_
  refine bx_vl C (kX5_rest l h0 x1 x3 x5 h1 h3) BX5_rest (fun U u1 u2 => ob_B RX5 h0 s U u1 u2 hK0) (fun U u1 u2 => ob_B RX5 h0 s U u1 u2 hK0) tw_methodLink_RX5_209_yX5_rest mbX5_rest rfl ⟨rfl, rfl⟩ ⟨Nat.le_of_ble_eq_true rfl, Nat.le_of_ble_eq_true rfl⟩ ⟨Nat.zero_le _, Nat.zero_le _⟩ hl.1 rfl (Nat.le_of_ble_eq_true rfl) dX5_restOrNan_5 ?_
  exact W.lret (v := (fX5_rest x1 x3 x5)) hx hb hr (fun t ht hW => ⟨_, rfl, hq, ht⟩) (fun _ h => absurd h List.not_mem_nil) dX5_restOrNan_8
theorem kX5_restOrNan (l : Launch) (h0 : Nat) (x1 : Int64) (x3 : Int64) (x5 : Int32) (h1 : x5 = 0 → 0 ≤ x1.toInt) (h3 : x5 = 0 → 0 ≤ x3.toInt) : Met l yX5_restOrNan (Cond.code yX5_restOrNan cX5_restOrNan 6 (some .long) :: bw) rmX5_restOrNan (va_Pc [.ref h0, .long x1, .long x3, .int x5] (fun U => ob_K RX5 h0 U)) (vp_Sl (fun r => r = fX5_restOrNan x1 x3 x5)) 0 0 (fun _ => False) := by
  refine bx_ent (by decide) _ _ (Nat.le_of_ble_eq_true rfl) rfl ?_
  intro p e s m below meth c ls C hl hK0
  exact bX5_restOrNan_0 x1 x3 x5 C hK0 hl h1 h3 _ rfl
