abbrev rmX5_root : Room := { frames := 4, cells := 0, slots := 0, locals := 88 }
theorem mbX5_root : mb_V RX5 yX5_root cX5_root 18 (some .long) 2 := ⟨⟨tw_instanceMethod_yX5_root, tw_selects_RX5_yX5_root_yX5_root, tw_initialized_RX5, tw_code_yX5_root⟩, rfl, by decide +kernel, by decide +kernel, by decide +kernel⟩
theorem BX5_root {h0 : Nat} : bx_B (fun U => ob_K RX5 h0 U) := ob_B RX5 h0
set_option maxRecDepth 20000 in
theorem bX5_root_24 (x3 : Int32) {p : Program} {l : Launch} {e : Env} {s : State} {m : MethodId} {args : Array Value} {below : List Frame} {meth : Method} {c : Code} {h0 : Nat} {ls : Array Slot} (C : bx_C p s m args meth c cX5_root 18 (some .long) RX5) (hK0 : ob_K RX5 h0 s) (hl : lv_has ls 18 [(3, .int x3)]) (post : Int64 → Prop) (hq : post (fX5_root_24 x3)) : W p l e rmX5_root s m args below meth c s.heap [] 0 0 (MQ below (vp_Sl post) args s 0 0 (fun _ => False)) (F0 m 24 ls []) := by
  obtain ⟨hx, hb, hml, hr, hlocks, hown, hts⟩ := id C
  unfold fX5_root_24 at hq
  refine lv_iload_n hx hb dX5_root_24 rfl (lv_at hl 0 rfl) ?_
  refine bx_sl C (kX5_nan l x3) bx_B_true (fun _ _ _ => trivial) tw_methodLink_RX5_106_yX5_nan mbX5_nan rfl ⟨rfl, rfl⟩ ⟨Nat.le_of_ble_eq_true rfl, Nat.le_of_ble_eq_true rfl⟩ ⟨Nat.zero_le _, Nat.zero_le _⟩ hl.1 rfl (Nat.le_of_ble_eq_true rfl) dX5_root_25 ?_
  exact W.lret (v := (fX5_nan x3)) hx hb hr (fun t ht hW => ⟨_, rfl, hq, ht⟩) (fun _ h => absurd h List.not_mem_nil) dX5_root_28
set_option maxRecDepth 20000 in
theorem lX5_root_114 (x4 : Int64) (x3 : Int32) (x6 : Int32) {p : Program} {l : Launch} {e : Env} {s : State} {m : MethodId} {args : Array Value} {below : List Frame} {meth : Method} {c : Code} {h0 : Nat} {Q : State → Prop} (C : bx_C p s m args meth c cX5_root 18 (some .long) RX5) (hK0 : ob_K RX5 h0 s) (post : Int64 × Int64 × Int32 → Prop) (kx : ∀ (o8 : Int64) (o10 : Int64) (o12 : Int32) (ls : Array Slot), lv_has ls 18 [(3, .int x3), (6, .int x6), (8, .long o8), (10, .long o10), (12, .int o12)] → post (o8, o10, o12) → W p l e rmX5_root s m args below meth c s.heap [] 0 0 Q (F0 m 200 ls [])) :
    ∀ (n : Nat) (x8 : Int64) (x10 : Int64) (x12 : Int32) (ls : Array Slot), (Int32.toInt (57) - Int32.toInt x12).toNat < n → lv_has ls 18 [(3, .int x3), (4, .long x4), (6, .int x6), (8, .long x8), (10, .long x10), (12, .int x12)] → post (gX5_root_114 x4 n x8 x10 x12) → W p l e rmX5_root s m args below meth c s.heap [] 0 0 Q (F0 m 114 ls []) := by
  obtain ⟨hx, hb, hml, hr, hlocks, hown, hts⟩ := id C
  intro n
  induction n with
  | zero =>
    intro x8 x10 x12 ls hm
    exact absurd hm (Nat.not_lt_zero _)
  | succ n ih =>
    intro x8 x10 x12 ls hm hl hq
    rw [gX5_root_114] at hq
    refine lv_iload hx hb dX5_root_114 (lv_at hl 5 rfl) ?_
    refine lv_bipush (v := 57) hx hb dX5_root_116 (by decide) ?_
    refine lv_icmp_ge (tgt := 200) hx hb dX5_root_118 (by decide) (fun c6 => ?_) (fun c6 => ?_)
    · rw [if_pos c6] at hq
      exact kx x8 x10 x12 _ (lv_sub hl [0, 2, 3, 4, 5] rfl) hq
    · rw [if_neg c6] at hq
      refine lv_bipush (v := 54) hx hb dX5_root_121 (by decide) ?_
      refine lv_iconst (v := 2) hx hb dX5_root_123 (by decide) ?_
      refine lv_iload hx hb dX5_root_124 (lv_at hl 5 rfl) ?_
      refine lv_imul hx hb dX5_root_126 ?_
      refine lv_isub hx hb dX5_root_127 ?_
      refine lv_istore (lv' := [(13, .int ((54 : Int32) - ((2 : Int32) * x12))), (3, .int x3), (4, .long x4), (6, .int x6), (8, .long x8), (10, .long x10), (12, .int x12)]) hx hb dX5_root_128 hl (by decide) rfl (fun ls hl => ?_)
      refine lv_iload hx hb dX5_root_130 (lv_at hl 0 rfl) ?_
      refine lv_if_lt (tgt := 147) hx hb dX5_root_132 (by decide) (fun c7 => ?_) (fun c7 => ?_)
      · rw [if_pos c7] at hq
        refine lv_lconst (v := 0) hx hb dX5_root_147 (by decide) ?_
        refine lv_lstore (lv' := [(14, .long (0 : Int64)), (13, .int ((54 : Int32) - ((2 : Int32) * x12))), (3, .int x3), (4, .long x4), (6, .int x6), (8, .long x8), (10, .long x10), (12, .int x12)]) hx hb dX5_root_148 hl (by decide) rfl (fun ls hl => ?_)
        refine lv_lload hx hb dX5_root_150 (lv_at hl 6 rfl) ?_
        refine lv_iconst (v := 2) hx hb dX5_root_152 (by decide) ?_
        refine bx_lshl hx hb dX5_root_153 ?_
        refine lv_lload hx hb dX5_root_154 (lv_at hl 0 rfl) ?_
        refine lv_lor hx hb dX5_root_156 ?_
        refine lv_lstore (lv' := [(10, .long ((jl_shl x10 (2 : Int32)) ||| (0 : Int64))), (14, .long (0 : Int64)), (13, .int ((54 : Int32) - ((2 : Int32) * x12))), (3, .int x3), (4, .long x4), (6, .int x6), (8, .long x8), (12, .int x12)]) hx hb dX5_root_157 hl (by decide) rfl (fun ls hl => ?_)
        refine lv_lload hx hb dX5_root_159 (lv_at hl 6 rfl) ?_
        refine lv_iconst (v := 2) hx hb dX5_root_161 (by decide) ?_
        refine bx_lshl hx hb dX5_root_162 ?_
        refine lv_lconst (v := 1) hx hb dX5_root_163 (by decide) ?_
        refine lv_lor hx hb dX5_root_164 ?_
        refine lv_lstore (lv' := [(16, .long ((jl_shl x8 (2 : Int32)) ||| (1 : Int64))), (10, .long ((jl_shl x10 (2 : Int32)) ||| (0 : Int64))), (14, .long (0 : Int64)), (13, .int ((54 : Int32) - ((2 : Int32) * x12))), (3, .int x3), (4, .long x4), (6, .int x6), (8, .long x8), (12, .int x12)]) hx hb dX5_root_165 hl (by decide) rfl (fun ls hl => ?_)
        refine lv_lload hx hb dX5_root_167 (lv_at hl 7 rfl) ?_
        refine lv_iconst (v := 1) hx hb dX5_root_169 (by decide) ?_
        refine bx_lshl hx hb dX5_root_170 ?_
        refine lv_lstore (lv' := [(8, .long (jl_shl x8 (1 : Int32))), (16, .long ((jl_shl x8 (2 : Int32)) ||| (1 : Int64))), (10, .long ((jl_shl x10 (2 : Int32)) ||| (0 : Int64))), (14, .long (0 : Int64)), (13, .int ((54 : Int32) - ((2 : Int32) * x12))), (3, .int x3), (4, .long x4), (6, .int x6), (12, .int x12)]) hx hb dX5_root_171 hl (by decide) rfl (fun ls hl => ?_)
        refine lv_lload hx hb dX5_root_173 (lv_at hl 2 rfl) ?_
        refine lv_lload hx hb dX5_root_175 (lv_at hl 1 rfl) ?_
        refine bx_lc_lt (tgt := 194) hx hb dX5_root_177 dX5_root_178 (by decide) (fun c8 => ?_) (fun c8 => ?_)
        · rw [if_pos c8] at hq
          refine lv_iinc (v := (x12 + 1)) (lv' := [(12, .int (x12 + 1)), (8, .long (jl_shl x8 (1 : Int32))), (16, .long ((jl_shl x8 (2 : Int32)) ||| (1 : Int64))), (10, .long ((jl_shl x10 (2 : Int32)) ||| (0 : Int64))), (14, .long (0 : Int64)), (13, .int ((54 : Int32) - ((2 : Int32) * x12))), (3, .int x3), (4, .long x4), (6, .int x6)]) hx hb dX5_root_194 hl (k := 8) rfl rfl (by decide) rfl (fun ls hl => ?_)
          refine lv_goto (tgt := 114) hx hb dX5_root_197 (by decide) ?_
          exact ih (jl_shl x8 (1 : Int32)) ((jl_shl x10 (2 : Int32)) ||| (0 : Int64)) (x12 + 1) _ (lp_up (by assumption) hm) (lv_sub hl [6, 7, 8, 1, 3, 0] rfl) hq
        · rw [if_neg c8] at hq
          refine lv_lload hx hb dX5_root_181 (lv_at hl 2 rfl) ?_
          refine lv_lload hx hb dX5_root_183 (lv_at hl 1 rfl) ?_
          refine lv_lsub hx hb dX5_root_185 ?_
          refine lv_lstore (lv' := [(10, .long (((jl_shl x10 (2 : Int32)) ||| (0 : Int64)) - ((jl_shl x8 (2 : Int32)) ||| (1 : Int64)))), (8, .long (jl_shl x8 (1 : Int32))), (16, .long ((jl_shl x8 (2 : Int32)) ||| (1 : Int64))), (14, .long (0 : Int64)), (13, .int ((54 : Int32) - ((2 : Int32) * x12))), (3, .int x3), (4, .long x4), (6, .int x6), (12, .int x12)]) hx hb dX5_root_186 hl (by decide) rfl (fun ls hl => ?_)
          refine lv_lload hx hb dX5_root_188 (lv_at hl 1 rfl) ?_
          refine lv_lconst (v := 1) hx hb dX5_root_190 (by decide) ?_
          refine lv_ladd hx hb dX5_root_191 ?_
          refine lv_lstore (lv' := [(8, .long ((jl_shl x8 (1 : Int32)) + (1 : Int64))), (10, .long (((jl_shl x10 (2 : Int32)) ||| (0 : Int64)) - ((jl_shl x8 (2 : Int32)) ||| (1 : Int64)))), (16, .long ((jl_shl x8 (2 : Int32)) ||| (1 : Int64))), (14, .long (0 : Int64)), (13, .int ((54 : Int32) - ((2 : Int32) * x12))), (3, .int x3), (4, .long x4), (6, .int x6), (12, .int x12)]) hx hb dX5_root_192 hl (by decide) rfl (fun ls hl => ?_)
          refine lv_iinc (v := (x12 + 1)) (lv' := [(12, .int (x12 + 1)), (8, .long ((jl_shl x8 (1 : Int32)) + (1 : Int64))), (10, .long (((jl_shl x10 (2 : Int32)) ||| (0 : Int64)) - ((jl_shl x8 (2 : Int32)) ||| (1 : Int64)))), (16, .long ((jl_shl x8 (2 : Int32)) ||| (1 : Int64))), (14, .long (0 : Int64)), (13, .int ((54 : Int32) - ((2 : Int32) * x12))), (3, .int x3), (4, .long x4), (6, .int x6)]) hx hb dX5_root_194 hl (k := 8) rfl rfl (by decide) rfl (fun ls hl => ?_)
          refine lv_goto (tgt := 114) hx hb dX5_root_197 (by decide) ?_
          exact ih ((jl_shl x8 (1 : Int32)) + (1 : Int64)) (((jl_shl x10 (2 : Int32)) ||| (0 : Int64)) - ((jl_shl x8 (2 : Int32)) ||| (1 : Int64))) (x12 + 1) _ (lp_up (by assumption) hm) (lv_sub hl [6, 7, 8, 1, 2, 0] rfl) hq
      · rw [if_neg c7] at hq
        refine lv_lload hx hb dX5_root_135 (lv_at hl 2 rfl) ?_
        refine lv_iload hx hb dX5_root_137 (lv_at hl 0 rfl) ?_
        refine bx_lushr hx hb dX5_root_139 ?_
        refine lv_ldc2 (v := 3) hx hb hown (hts _ tw_constantLong_RX5_138_3) dX5_root_140 ?_
        refine lv_land hx hb dX5_root_143 ?_
        refine lv_goto (tgt := 148) hx hb dX5_root_144 (by decide) ?_
        refine lv_lstore (lv' := [(14, .long ((jl_ushr x4 ((54 : Int32) - ((2 : Int32) * x12))) &&& (3 : Int64))), (13, .int ((54 : Int32) - ((2 : Int32) * x12))), (3, .int x3), (4, .long x4), (6, .int x6), (8, .long x8), (10, .long x10), (12, .int x12)]) hx hb dX5_root_148 hl (by decide) rfl (fun ls hl => ?_)
        refine lv_lload hx hb dX5_root_150 (lv_at hl 6 rfl) ?_
        refine lv_iconst (v := 2) hx hb dX5_root_152 (by decide) ?_
        refine bx_lshl hx hb dX5_root_153 ?_
        refine lv_lload hx hb dX5_root_154 (lv_at hl 0 rfl) ?_
        refine lv_lor hx hb dX5_root_156 ?_
        refine lv_lstore (lv' := [(10, .long ((jl_shl x10 (2 : Int32)) ||| ((jl_ushr x4 ((54 : Int32) - ((2 : Int32) * x12))) &&& (3 : Int64)))), (14, .long ((jl_ushr x4 ((54 : Int32) - ((2 : Int32) * x12))) &&& (3 : Int64))), (13, .int ((54 : Int32) - ((2 : Int32) * x12))), (3, .int x3), (4, .long x4), (6, .int x6), (8, .long x8), (12, .int x12)]) hx hb dX5_root_157 hl (by decide) rfl (fun ls hl => ?_)
        refine lv_lload hx hb dX5_root_159 (lv_at hl 6 rfl) ?_
        refine lv_iconst (v := 2) hx hb dX5_root_161 (by decide) ?_
        refine bx_lshl hx hb dX5_root_162 ?_
        refine lv_lconst (v := 1) hx hb dX5_root_163 (by decide) ?_
        refine lv_lor hx hb dX5_root_164 ?_
        refine lv_lstore (lv' := [(16, .long ((jl_shl x8 (2 : Int32)) ||| (1 : Int64))), (10, .long ((jl_shl x10 (2 : Int32)) ||| ((jl_ushr x4 ((54 : Int32) - ((2 : Int32) * x12))) &&& (3 : Int64)))), (14, .long ((jl_ushr x4 ((54 : Int32) - ((2 : Int32) * x12))) &&& (3 : Int64))), (13, .int ((54 : Int32) - ((2 : Int32) * x12))), (3, .int x3), (4, .long x4), (6, .int x6), (8, .long x8), (12, .int x12)]) hx hb dX5_root_165 hl (by decide) rfl (fun ls hl => ?_)
        refine lv_lload hx hb dX5_root_167 (lv_at hl 7 rfl) ?_
        refine lv_iconst (v := 1) hx hb dX5_root_169 (by decide) ?_
        refine bx_lshl hx hb dX5_root_170 ?_
        refine lv_lstore (lv' := [(8, .long (jl_shl x8 (1 : Int32))), (16, .long ((jl_shl x8 (2 : Int32)) ||| (1 : Int64))), (10, .long ((jl_shl x10 (2 : Int32)) ||| ((jl_ushr x4 ((54 : Int32) - ((2 : Int32) * x12))) &&& (3 : Int64)))), (14, .long ((jl_ushr x4 ((54 : Int32) - ((2 : Int32) * x12))) &&& (3 : Int64))), (13, .int ((54 : Int32) - ((2 : Int32) * x12))), (3, .int x3), (4, .long x4), (6, .int x6), (12, .int x12)]) hx hb dX5_root_171 hl (by decide) rfl (fun ls hl => ?_)
        refine lv_lload hx hb dX5_root_173 (lv_at hl 2 rfl) ?_
        refine lv_lload hx hb dX5_root_175 (lv_at hl 1 rfl) ?_
        refine bx_lc_lt (tgt := 194) hx hb dX5_root_177 dX5_root_178 (by decide) (fun c9 => ?_) (fun c9 => ?_)
        · rw [if_pos c9] at hq
          refine lv_iinc (v := (x12 + 1)) (lv' := [(12, .int (x12 + 1)), (8, .long (jl_shl x8 (1 : Int32))), (16, .long ((jl_shl x8 (2 : Int32)) ||| (1 : Int64))), (10, .long ((jl_shl x10 (2 : Int32)) ||| ((jl_ushr x4 ((54 : Int32) - ((2 : Int32) * x12))) &&& (3 : Int64)))), (14, .long ((jl_ushr x4 ((54 : Int32) - ((2 : Int32) * x12))) &&& (3 : Int64))), (13, .int ((54 : Int32) - ((2 : Int32) * x12))), (3, .int x3), (4, .long x4), (6, .int x6)]) hx hb dX5_root_194 hl (k := 8) rfl rfl (by decide) rfl (fun ls hl => ?_)
          refine lv_goto (tgt := 114) hx hb dX5_root_197 (by decide) ?_
          exact ih (jl_shl x8 (1 : Int32)) ((jl_shl x10 (2 : Int32)) ||| ((jl_ushr x4 ((54 : Int32) - ((2 : Int32) * x12))) &&& (3 : Int64))) (x12 + 1) _ (lp_up (by assumption) hm) (lv_sub hl [6, 7, 8, 1, 3, 0] rfl) hq
        · rw [if_neg c9] at hq
          refine lv_lload hx hb dX5_root_181 (lv_at hl 2 rfl) ?_
          refine lv_lload hx hb dX5_root_183 (lv_at hl 1 rfl) ?_
          refine lv_lsub hx hb dX5_root_185 ?_
          refine lv_lstore (lv' := [(10, .long (((jl_shl x10 (2 : Int32)) ||| ((jl_ushr x4 ((54 : Int32) - ((2 : Int32) * x12))) &&& (3 : Int64))) - ((jl_shl x8 (2 : Int32)) ||| (1 : Int64)))), (8, .long (jl_shl x8 (1 : Int32))), (16, .long ((jl_shl x8 (2 : Int32)) ||| (1 : Int64))), (14, .long ((jl_ushr x4 ((54 : Int32) - ((2 : Int32) * x12))) &&& (3 : Int64))), (13, .int ((54 : Int32) - ((2 : Int32) * x12))), (3, .int x3), (4, .long x4), (6, .int x6), (12, .int x12)]) hx hb dX5_root_186 hl (by decide) rfl (fun ls hl => ?_)
          refine lv_lload hx hb dX5_root_188 (lv_at hl 1 rfl) ?_
          refine lv_lconst (v := 1) hx hb dX5_root_190 (by decide) ?_
          refine lv_ladd hx hb dX5_root_191 ?_
          refine lv_lstore (lv' := [(8, .long ((jl_shl x8 (1 : Int32)) + (1 : Int64))), (10, .long (((jl_shl x10 (2 : Int32)) ||| ((jl_ushr x4 ((54 : Int32) - ((2 : Int32) * x12))) &&& (3 : Int64))) - ((jl_shl x8 (2 : Int32)) ||| (1 : Int64)))), (16, .long ((jl_shl x8 (2 : Int32)) ||| (1 : Int64))), (14, .long ((jl_ushr x4 ((54 : Int32) - ((2 : Int32) * x12))) &&& (3 : Int64))), (13, .int ((54 : Int32) - ((2 : Int32) * x12))), (3, .int x3), (4, .long x4), (6, .int x6), (12, .int x12)]) hx hb dX5_root_192 hl (by decide) rfl (fun ls hl => ?_)
          refine lv_iinc (v := (x12 + 1)) (lv' := [(12, .int (x12 + 1)), (8, .long ((jl_shl x8 (1 : Int32)) + (1 : Int64))), (10, .long (((jl_shl x10 (2 : Int32)) ||| ((jl_ushr x4 ((54 : Int32) - ((2 : Int32) * x12))) &&& (3 : Int64))) - ((jl_shl x8 (2 : Int32)) ||| (1 : Int64)))), (16, .long ((jl_shl x8 (2 : Int32)) ||| (1 : Int64))), (14, .long ((jl_ushr x4 ((54 : Int32) - ((2 : Int32) * x12))) &&& (3 : Int64))), (13, .int ((54 : Int32) - ((2 : Int32) * x12))), (3, .int x3), (4, .long x4), (6, .int x6)]) hx hb dX5_root_194 hl (k := 8) rfl rfl (by decide) rfl (fun ls hl => ?_)
          refine lv_goto (tgt := 114) hx hb dX5_root_197 (by decide) ?_
          exact ih ((jl_shl x8 (1 : Int32)) + (1 : Int64)) (((jl_shl x10 (2 : Int32)) ||| ((jl_ushr x4 ((54 : Int32) - ((2 : Int32) * x12))) &&& (3 : Int64))) - ((jl_shl x8 (2 : Int32)) ||| (1 : Int64))) (x12 + 1) _ (lp_up (by assumption) hm) (lv_sub hl [6, 7, 8, 1, 2, 0] rfl) hq
set_option maxRecDepth 20000 in
theorem bX5_root_222 (x3 : Int32) (s0 : Int32) (s1 : Int64) (s2 : Int32) (s3 : Int32) {p : Program} {l : Launch} {e : Env} {s : State} {m : MethodId} {args : Array Value} {below : List Frame} {meth : Method} {c : Code} {h0 : Nat} {ls : Array Slot} (C : bx_C p s m args meth c cX5_root 18 (some .long) RX5) (hK0 : ob_K RX5 h0 s) (hl : lv_has ls 18 [(3, .int x3)]) (post : Int64 → Prop) (hq : post (fX5_root_222 x3 s0 s1 s2 s3)) : W p l e rmX5_root s m args below meth c s.heap [] 0 0 (MQ below (vp_Sl post) args s 0 0 (fun _ => False)) (F0 m 222 ls [.int s3, .int s2, .long s1, .int s0]) := by
  obtain ⟨hx, hb, hml, hr, hlocks, hown, hts⟩ := id C
  unfold fX5_root_222 at hq
  refine lv_iload_n hx hb dX5_root_222 rfl (lv_at hl 0 rfl) ?_
  refine bx_sl C (kX5_rounded l s0 s1 s2 s3 x3) bx_B_true (fun _ _ _ => trivial) tw_methodLink_RX5_98_yX5_rounded mbX5_rounded rfl ⟨rfl, rfl⟩ ⟨Nat.le_of_ble_eq_true rfl, Nat.le_of_ble_eq_true rfl⟩ ⟨Nat.zero_le _, Nat.zero_le _⟩ hl.1 rfl (Nat.le_of_ble_eq_true rfl) dX5_root_223 ?_
  exact W.lret (v := (fX5_rounded s0 s1 s2 s3 x3)) hx hb hr (fun t ht hW => ⟨_, rfl, hq, ht⟩) (fun _ h => absurd h List.not_mem_nil) dX5_root_226
set_option maxRecDepth 20000 in
theorem bX5_root_200 (x3 : Int32) (x6 : Int32) (x8 : Int64) (x10 : Int64) {p : Program} {l : Launch} {e : Env} {s : State} {m : MethodId} {args : Array Value} {below : List Frame} {meth : Method} {c : Code} {h0 : Nat} {ls : Array Slot} (C : bx_C p s m args meth c cX5_root 18 (some .long) RX5) (hK0 : ob_K RX5 h0 s) (hl : lv_has ls 18 [(3, .int x3), (6, .int x6), (8, .long x8), (10, .long x10)]) (post : Int64 → Prop) (hq : post (fX5_root_200 x3 x6 x8 x10)) : W p l e rmX5_root s m args below meth c s.heap [] 0 0 (MQ below (vp_Sl post) args s 0 0 (fun _ => False)) (F0 m 200 ls []) := by
  obtain ⟨hx, hb, hml, hr, hlocks, hown, hts⟩ := id C
  unfold fX5_root_200 at hq
  refine lv_iconst (v := 0) hx hb dX5_root_200 (by decide) ?_
  refine lv_lload hx hb dX5_root_201 (lv_at hl 2 rfl) ?_
  refine lv_iload hx hb dX5_root_203 (lv_at hl 1 rfl) ?_
  refine lv_bipush (v := 58) hx hb dX5_root_205 (by decide) ?_
  refine lv_isub hx hb dX5_root_207 ?_
  refine lv_iconst (v := 2) hx hb dX5_root_208 (by decide) ?_
  refine lv_idiv hx hb dX5_root_209 (by first | assumption | decide) ?_
  refine lv_lload hx hb dX5_root_210 (lv_at hl 3 rfl) ?_
  refine lv_lconst (v := 0) hx hb dX5_root_212 (by decide) ?_
  refine bx_lc_eq (tgt := 221) hx hb dX5_root_213 dX5_root_214 (by decide) (fun c10 => ?_) (fun c10 => ?_)
  · rw [if_pos c10] at hq
    refine lv_iconst (v := 0) hx hb dX5_root_221 (by decide) ?_
    exact bX5_root_222 x3 (0 : Int32) x8 ((x6 - (58 : Int32)) / (2 : Int32)) (0 : Int32) C hK0 (lv_sub hl [0] rfl) post hq
  · rw [if_neg c10] at hq
    refine lv_iconst (v := 1) hx hb dX5_root_217 (by decide) ?_
    refine lv_goto (tgt := 222) hx hb dX5_root_218 (by decide) ?_
    exact bX5_root_222 x3 (0 : Int32) x8 ((x6 - (58 : Int32)) / (2 : Int32)) (1 : Int32) C hK0 (lv_sub hl [0] rfl) post hq
set_option maxRecDepth 20000 in
theorem bX5_root_88 (x3 : Int32) (x4 : Int64) (x6 : Int32) (s0 : Int32) (s1 : Int32) {p : Program} {l : Launch} {e : Env} {s : State} {m : MethodId} {args : Array Value} {below : List Frame} {meth : Method} {c : Code} {h0 : Nat} {ls : Array Slot} (C : bx_C p s m args meth c cX5_root 18 (some .long) RX5) (hK0 : ob_K RX5 h0 s) (hl : lv_has ls 18 [(3, .int x3), (4, .long x4), (6, .int x6)]) (post : Int64 → Prop) (hq : post (fX5_root_88 x3 x4 x6 s0 s1)) : W p l e rmX5_root s m args below meth c s.heap [] 0 0 (MQ below (vp_Sl post) args s 0 0 (fun _ => False)) (F0 m 88 ls [.int s1, .int s0]) := by
  obtain ⟨hx, hb, hml, hr, hlocks, hown, hts⟩ := id C
  unfold fX5_root_88 at hq
  refine lv_iadd hx hb dX5_root_88 ?_
  refine lv_istore (lv' := [(7, .int (s0 + s1)), (3, .int x3), (4, .long x4), (6, .int x6)]) hx hb dX5_root_89 hl (by decide) rfl (fun ls hl => ?_)
  refine lv_lload hx hb dX5_root_91 (lv_at hl 2 rfl) ?_
  refine lv_iload hx hb dX5_root_93 (lv_at hl 0 rfl) ?_
  refine bx_lshl hx hb dX5_root_95 ?_
  refine lv_lstore (lv' := [(4, .long (jl_shl x4 (s0 + s1))), (7, .int (s0 + s1)), (3, .int x3), (6, .int x6)]) hx hb dX5_root_96 hl (by decide) rfl (fun ls hl => ?_)
  refine lv_iload hx hb dX5_root_98 (lv_at hl 3 rfl) ?_
  refine lv_iload hx hb dX5_root_100 (lv_at hl 1 rfl) ?_
  refine lv_isub hx hb dX5_root_102 ?_
  refine lv_istore (lv' := [(6, .int (x6 - (s0 + s1))), (4, .long (jl_shl x4 (s0 + s1))), (7, .int (s0 + s1)), (3, .int x3)]) hx hb dX5_root_103 hl (by decide) rfl (fun ls hl => ?_)
  refine lv_lconst (v := 0) hx hb dX5_root_105 (by decide) ?_
  refine lv_lstore (lv' := [(8, .long (0 : Int64)), (6, .int (x6 - (s0 + s1))), (4, .long (jl_shl x4 (s0 + s1))), (7, .int (s0 + s1)), (3, .int x3)]) hx hb dX5_root_106 hl (by decide) rfl (fun ls hl => ?_)
  refine lv_lconst (v := 0) hx hb dX5_root_108 (by decide) ?_
  refine lv_lstore (lv' := [(10, .long (0 : Int64)), (8, .long (0 : Int64)), (6, .int (x6 - (s0 + s1))), (4, .long (jl_shl x4 (s0 + s1))), (7, .int (s0 + s1)), (3, .int x3)]) hx hb dX5_root_109 hl (by decide) rfl (fun ls hl => ?_)
  refine lv_iconst (v := 0) hx hb dX5_root_111 (by decide) ?_
  refine lv_istore (lv' := [(12, .int (0 : Int32)), (10, .long (0 : Int64)), (8, .long (0 : Int64)), (6, .int (x6 - (s0 + s1))), (4, .long (jl_shl x4 (s0 + s1))), (7, .int (s0 + s1)), (3, .int x3)]) hx hb dX5_root_112 hl (by decide) rfl (fun ls hl => ?_)
  exact lX5_root_114 (jl_shl x4 (s0 + s1)) x3 (x6 - (s0 + s1)) C hK0 (fun t => post (fX5_root_200 x3 (x6 - (s0 + s1)) t.1 t.2.1)) (fun o8 o10 o12 ls hl hq => bX5_root_200 x3 (x6 - (s0 + s1)) o8 o10 C hK0 (lv_sub hl [0, 1, 2, 3] rfl) post hq) (Nat.succ ((Int32.toInt (57) - Int32.toInt (0 : Int32)).toNat)) (0 : Int64) (0 : Int64) (0 : Int32) _ (Nat.lt_succ_self _) (lv_sub hl [6, 4, 3, 2, 1, 0] rfl) hq
set_option maxRecDepth 20000 in
theorem bX5_root_29 (x1 : Int64) (x3 : Int32) {p : Program} {l : Launch} {e : Env} {s : State} {m : MethodId} {args : Array Value} {below : List Frame} {meth : Method} {c : Code} {h0 : Nat} {ls : Array Slot} (C : bx_C p s m args meth c cX5_root 18 (some .long) RX5) (hK0 : ob_K RX5 h0 s) (hl : lv_has ls 18 [(1, .long x1), (3, .int x3)]) (post : Int64 → Prop) (hq : post (fX5_root_29 x1 x3)) : W p l e rmX5_root s m args below meth c s.heap [] 0 0 (MQ below (vp_Sl post) args s 0 0 (fun _ => False)) (F0 m 29 ls []) := by
  obtain ⟨hx, hb, hml, hr, hlocks, hown, hts⟩ := id C
  unfold fX5_root_29 at hq
  refine lv_lload_n hx hb dX5_root_29 rfl (lv_at hl 0 rfl) ?_
  refine lv_iload_n hx hb dX5_root_30 rfl (lv_at hl 1 rfl) ?_
  refine bx_si C (kX5_isZero l x1 x3) bx_B_true (fun _ _ _ => trivial) tw_methodLink_RX5_127_yX5_isZero mbX5_isZero rfl ⟨rfl, rfl⟩ ⟨Nat.le_of_ble_eq_true rfl, Nat.le_of_ble_eq_true rfl⟩ ⟨Nat.zero_le _, Nat.zero_le _⟩ hl.1 rfl (Nat.le_of_ble_eq_true rfl) dX5_root_31 ?_
  refine lv_if_ne (tgt := 45) hx hb dX5_root_34 (by decide) (fun c3 => ?_) (fun c3 => ?_)
  · rw [if_neg c3] at hq
    refine lv_lload_n hx hb dX5_root_45 rfl (lv_at hl 0 rfl) ?_
    exact W.lret (v := x1) hx hb hr (fun t ht hW => ⟨_, rfl, hq, ht⟩) (fun _ h => absurd h List.not_mem_nil) dX5_root_46
  · rw [if_pos c3] at hq
    refine lv_lload_n hx hb dX5_root_37 rfl (lv_at hl 0 rfl) ?_
    refine lv_iload_n hx hb dX5_root_38 rfl (lv_at hl 1 rfl) ?_
    refine bx_si C (kX5_isInfinite l x1 x3) bx_B_true (fun _ _ _ => trivial) tw_methodLink_RX5_112_yX5_isInfinite mbX5_isInfinite rfl ⟨rfl, rfl⟩ ⟨Nat.le_of_ble_eq_true rfl, Nat.le_of_ble_eq_true rfl⟩ ⟨Nat.zero_le _, Nat.zero_le _⟩ hl.1 rfl (Nat.le_of_ble_eq_true rfl) dX5_root_39 ?_
    refine lv_if_eq (tgt := 47) hx hb dX5_root_42 (by decide) (fun c4 => ?_) (fun c4 => ?_)
    · rw [if_pos c4] at hq
      refine lv_lload_n hx hb dX5_root_47 rfl (lv_at hl 0 rfl) ?_
      refine lv_iload_n hx hb dX5_root_48 rfl (lv_at hl 1 rfl) ?_
      refine bx_sl C (kX5_digitsOf l x1 x3) bx_B_true (fun _ _ _ => trivial) tw_methodLink_RX5_118_yX5_digitsOf mbX5_digitsOf rfl ⟨rfl, rfl⟩ ⟨Nat.le_of_ble_eq_true rfl, Nat.le_of_ble_eq_true rfl⟩ ⟨Nat.zero_le _, Nat.zero_le _⟩ hl.1 rfl (Nat.le_of_ble_eq_true rfl) dX5_root_49 ?_
      refine lv_lstore (lv' := [(4, .long (fX5_digitsOf x1 x3)), (1, .long x1), (3, .int x3)]) hx hb dX5_root_52 hl (by decide) rfl (fun ls hl => ?_)
      refine lv_lload_n hx hb dX5_root_54 rfl (lv_at hl 1 rfl) ?_
      refine lv_iload_n hx hb dX5_root_55 rfl (lv_at hl 2 rfl) ?_
      refine bx_si C (kX5_exponentOf l x1 x3) bx_B_true (fun _ _ _ => trivial) tw_methodLink_RX5_121_yX5_exponentOf mbX5_exponentOf rfl ⟨rfl, rfl⟩ ⟨Nat.le_of_ble_eq_true rfl, Nat.le_of_ble_eq_true rfl⟩ ⟨Nat.zero_le _, Nat.zero_le _⟩ hl.1 rfl (Nat.le_of_ble_eq_true rfl) dX5_root_56 ?_
      refine lv_istore (lv' := [(6, .int (fX5_exponentOf x1 x3)), (4, .long (fX5_digitsOf x1 x3)), (1, .long x1), (3, .int x3)]) hx hb dX5_root_59 hl (by decide) rfl (fun ls hl => ?_)
      refine lv_bipush (v := 54) hx hb dX5_root_61 (by decide) ?_
      refine lv_lload hx hb dX5_root_63 (lv_at hl 1 rfl) ?_
      refine bx_si C (kX5_bitsOf l (fX5_digitsOf x1 x3)) bx_B_true (fun _ _ _ => trivial) tw_methodLink_RX5_82_yX5_bitsOf mbX5_bitsOf rfl ⟨rfl, rfl⟩ ⟨Nat.le_of_ble_eq_true rfl, Nat.le_of_ble_eq_true rfl⟩ ⟨Nat.zero_le _, Nat.zero_le _⟩ hl.1 rfl (Nat.le_of_ble_eq_true rfl) dX5_root_65 ?_
      refine lv_isub hx hb dX5_root_68 ?_
      refine lv_istore (lv' := [(7, .int ((54 : Int32) - (fX5_bitsOf (fX5_digitsOf x1 x3)))), (6, .int (fX5_exponentOf x1 x3)), (4, .long (fX5_digitsOf x1 x3)), (1, .long x1), (3, .int x3)]) hx hb dX5_root_69 hl (by decide) rfl (fun ls hl => ?_)
      refine lv_iload hx hb dX5_root_71 (lv_at hl 0 rfl) ?_
      refine lv_iload hx hb dX5_root_73 (lv_at hl 1 rfl) ?_
      refine lv_iload hx hb dX5_root_75 (lv_at hl 0 rfl) ?_
      refine lv_isub hx hb dX5_root_77 ?_
      refine lv_iconst (v := 2) hx hb dX5_root_78 (by decide) ?_
      refine bx_irem hx hb dX5_root_79 (by first | assumption | decide) ?_
      refine lv_if_ne (tgt := 87) hx hb dX5_root_80 (by decide) (fun c5 => ?_) (fun c5 => ?_)
      · rw [if_neg c5] at hq
        refine lv_iconst (v := 1) hx hb dX5_root_87 (by decide) ?_
        exact bX5_root_88 x3 (fX5_digitsOf x1 x3) (fX5_exponentOf x1 x3) ((54 : Int32) - (fX5_bitsOf (fX5_digitsOf x1 x3))) (1 : Int32) C hK0 (lv_sub hl [4, 2, 1] rfl) post hq
      · rw [if_pos c5] at hq
        refine lv_iconst (v := 0) hx hb dX5_root_83 (by decide) ?_
        refine lv_goto (tgt := 88) hx hb dX5_root_84 (by decide) ?_
        exact bX5_root_88 x3 (fX5_digitsOf x1 x3) (fX5_exponentOf x1 x3) ((54 : Int32) - (fX5_bitsOf (fX5_digitsOf x1 x3))) (0 : Int32) C hK0 (lv_sub hl [4, 2, 1] rfl) post hq
    · rw [if_neg c4] at hq
      refine lv_lload_n hx hb dX5_root_45 rfl (lv_at hl 0 rfl) ?_
      exact W.lret (v := x1) hx hb hr (fun t ht hW => ⟨_, rfl, hq, ht⟩) (fun _ h => absurd h List.not_mem_nil) dX5_root_46
set_option maxRecDepth 20000 in
theorem bX5_root_0 (x1 : Int64) (x3 : Int32) {p : Program} {l : Launch} {e : Env} {s : State} {m : MethodId} {args : Array Value} {below : List Frame} {meth : Method} {c : Code} {h0 : Nat} {ls : Array Slot} (C : bx_C p s m args meth c cX5_root 18 (some .long) RX5) (hK0 : ob_K RX5 h0 s) (hl : lv_has ls 18 [(0, .ref h0), (1, .long x1), (3, .int x3)]) (post : Int64 → Prop) (hq : post (fX5_root x1 x3)) : W p l e rmX5_root s m args below meth c s.heap [] 0 0 (MQ below (vp_Sl post) args s 0 0 (fun _ => False)) (F0 m 0 ls []) := by
  obtain ⟨hx, hb, hml, hr, hlocks, hown, hts⟩ := id C
  unfold fX5_root at hq
  refine lv_lload_n hx hb dX5_root_0 rfl (lv_at hl 1 rfl) ?_
  refine lv_iload_n hx hb dX5_root_1 rfl (lv_at hl 2 rfl) ?_
  refine bx_si C (kX5_isNan l x1 x3) bx_B_true (fun _ _ _ => trivial) tw_methodLink_RX5_102_yX5_isNan mbX5_isNan rfl ⟨rfl, rfl⟩ ⟨Nat.le_of_ble_eq_true rfl, Nat.le_of_ble_eq_true rfl⟩ ⟨Nat.zero_le _, Nat.zero_le _⟩ hl.1 rfl (Nat.le_of_ble_eq_true rfl) dX5_root_2 ?_
  refine lv_if_ne (tgt := 24) hx hb dX5_root_5 (by decide) (fun c1 => ?_) (fun c1 => ?_)
  · rw [if_neg c1] at hq
    exact bX5_root_24 x3 C hK0 (lv_sub hl [2] rfl) post hq
  · rw [if_pos c1] at hq
    refine lv_lload_n hx hb dX5_root_8 rfl (lv_at hl 1 rfl) ?_
    refine lv_iload_n hx hb dX5_root_9 rfl (lv_at hl 2 rfl) ?_
    refine bx_si C (kX5_isNegative l x1 x3) bx_B_true (fun _ _ _ => trivial) tw_methodLink_RX5_109_yX5_isNegative mbX5_isNegative rfl ⟨rfl, rfl⟩ ⟨Nat.le_of_ble_eq_true rfl, Nat.le_of_ble_eq_true rfl⟩ ⟨Nat.zero_le _, Nat.zero_le _⟩ hl.1 rfl (Nat.le_of_ble_eq_true rfl) dX5_root_10 ?_
    refine lv_if_eq (tgt := 29) hx hb dX5_root_13 (by decide) (fun c2 => ?_) (fun c2 => ?_)
    · rw [if_pos c2] at hq
      exact bX5_root_29 x1 x3 C hK0 (lv_sub hl [1, 2] rfl) post hq
    · rw [if_neg c2] at hq
      refine lv_lload_n hx hb dX5_root_16 rfl (lv_at hl 1 rfl) ?_
      refine lv_iload_n hx hb dX5_root_17 rfl (lv_at hl 2 rfl) ?_
      refine bx_si C (kX5_isZero l x1 x3) bx_B_true (fun _ _ _ => trivial) tw_methodLink_RX5_127_yX5_isZero mbX5_isZero rfl ⟨rfl, rfl⟩ ⟨Nat.le_of_ble_eq_true rfl, Nat.le_of_ble_eq_true rfl⟩ ⟨Nat.zero_le _, Nat.zero_le _⟩ hl.1 rfl (Nat.le_of_ble_eq_true rfl) dX5_root_18 ?_
      refine lv_if_ne (tgt := 29) hx hb dX5_root_21 (by decide) (fun c11 => ?_) (fun c11 => ?_)
      · rw [if_neg c11] at hq
        exact bX5_root_29 x1 x3 C hK0 (lv_sub hl [1, 2] rfl) post hq
      · rw [if_pos c11] at hq
        exact bX5_root_24 x3 C hK0 (lv_sub hl [2] rfl) post hq
theorem kX5_root (l : Launch) (h0 : Nat) (x1 : Int64) (x3 : Int32) : Met l yX5_root (Cond.code yX5_root cX5_root 18 (some .long) :: bw) rmX5_root (va_Pc [.ref h0, .long x1, .int x3] (fun U => ob_K RX5 h0 U)) (vp_Sl (fun r => r = fX5_root x1 x3)) 0 0 (fun _ => False) := by
  refine bx_ent (by decide) _ _ (Nat.le_of_ble_eq_true rfl) rfl ?_
  intro p e s m below meth c ls C hl hK0
  exact bX5_root_0 x1 x3 C hK0 hl _ rfl
abbrev rmX5_whole : Room := { frames := 4, cells := 0, slots := 0, locals := 88 }
theorem mbX5_whole : mb_V RX5 yX5_whole cX5_whole 16 (some .long) 3 := ⟨⟨tw_instanceMethod_yX5_whole, tw_selects_RX5_yX5_whole_yX5_whole, tw_initialized_RX5, tw_code_yX5_whole⟩, rfl, by decide +kernel, by decide +kernel, by decide +kernel⟩
theorem BX5_whole {h0 : Nat} : bx_B (fun U => ob_K RX5 h0 U) := ob_B RX5 h0
set_option maxRecDepth 20000 in
theorem bX5_whole_218 (x1 : Int64) (x4 : Int32) (s0 : Int64) (s1 : Int64) {p : Program} {l : Launch} {e : Env} {s : State} {m : MethodId} {args : Array Value} {below : List Frame} {meth : Method} {c : Code} {h0 : Nat} {ls : Array Slot} (C : bx_C p s m args meth c cX5_whole 16 (some .long) RX5) (hK0 : ob_K RX5 h0 s) (hl : lv_has ls 16 [(1, .long x1), (4, .int x4)]) (post : Int64 → Prop) (hq : post (fX5_whole_218 x1 x4 s0 s1)) : W p l e rmX5_whole s m args below meth c s.heap [] 0 0 (MQ below (vp_Sl post) args s 0 0 (fun _ => False)) (F0 m 218 ls [.long s1, .long s0]) := by
  obtain ⟨hx, hb, hml, hr, hlocks, hown, hts⟩ := id C
  unfold fX5_whole_218 at hq
  refine lv_ladd hx hb dX5_whole_218 ?_
  refine lv_lstore (lv' := [(9, .long (s0 + s1)), (1, .long x1), (4, .int x4)]) hx hb dX5_whole_219 hl (by decide) rfl (fun ls hl => ?_)
  refine lv_lload_n hx hb dX5_whole_221 rfl (lv_at hl 1 rfl) ?_
  refine lv_iload hx hb dX5_whole_222 (lv_at hl 2 rfl) ?_
  refine bx_si C (kX5_isNegative l x1 x4) bx_B_true (fun _ _ _ => trivial) tw_methodLink_RX5_109_yX5_isNegative mbX5_isNegative rfl ⟨rfl, rfl⟩ ⟨Nat.le_of_ble_eq_true rfl, Nat.le_of_ble_eq_true rfl⟩ ⟨Nat.zero_le _, Nat.zero_le _⟩ hl.1 rfl (Nat.le_of_ble_eq_true rfl) dX5_whole_224 ?_
  refine lv_lload hx hb dX5_whole_227 (lv_at hl 0 rfl) ?_
  refine lv_iconst (v := 0) hx hb dX5_whole_229 (by decide) ?_
  refine lv_iconst (v := 0) hx hb dX5_whole_230 (by decide) ?_
  refine lv_iload hx hb dX5_whole_231 (lv_at hl 2 rfl) ?_
  refine bx_sl C (kX5_rounded l (fX5_isNegative x1 x4) (s0 + s1) (0 : Int32) (0 : Int32) x4) bx_B_true (fun _ _ _ => trivial) tw_methodLink_RX5_98_yX5_rounded mbX5_rounded rfl ⟨rfl, rfl⟩ ⟨Nat.le_of_ble_eq_true rfl, Nat.le_of_ble_eq_true rfl⟩ ⟨Nat.zero_le _, Nat.zero_le _⟩ hl.1 rfl (Nat.le_of_ble_eq_true rfl) dX5_whole_233 ?_
  exact W.lret (v := (fX5_rounded (fX5_isNegative x1 x4) (s0 + s1) (0 : Int32) (0 : Int32) x4)) hx hb hr (fun t ht hW => ⟨_, rfl, hq, ht⟩) (fun _ h => absurd h List.not_mem_nil) dX5_whole_236
set_option maxRecDepth 20000 in
theorem bX5_whole_217 (x1 : Int64) (x4 : Int32) (s0 : Int64) {p : Program} {l : Launch} {e : Env} {s : State} {m : MethodId} {args : Array Value} {below : List Frame} {meth : Method} {c : Code} {h0 : Nat} {ls : Array Slot} (C : bx_C p s m args meth c cX5_whole 16 (some .long) RX5) (hK0 : ob_K RX5 h0 s) (hl : lv_has ls 16 [(1, .long x1), (4, .int x4)]) (post : Int64 → Prop) (hq : post (fX5_whole_217 x1 x4 s0)) : W p l e rmX5_whole s m args below meth c s.heap [] 0 0 (MQ below (vp_Sl post) args s 0 0 (fun _ => False)) (F0 m 217 ls [.long s0]) := by
  obtain ⟨hx, hb, hml, hr, hlocks, hown, hts⟩ := id C
  unfold fX5_whole_217 at hq
  refine lv_lconst (v := 0) hx hb dX5_whole_217 (by decide) ?_
  exact bX5_whole_218 x1 x4 s0 (0 : Int64) C hK0 (lv_sub hl [0, 1] rfl) post hq
set_option maxRecDepth 20000 in
theorem bX5_whole_197 (x1 : Int64) (x4 : Int32) (x9 : Int64) (x11 : Int64) (s0 : Int32) {p : Program} {l : Launch} {e : Env} {s : State} {m : MethodId} {args : Array Value} {below : List Frame} {meth : Method} {c : Code} {h0 : Nat} {ls : Array Slot} (C : bx_C p s m args meth c cX5_whole 16 (some .long) RX5) (hK0 : ob_K RX5 h0 s) (hl : lv_has ls 16 [(1, .long x1), (4, .int x4), (9, .long x9), (11, .long x11)]) (post : Int64 → Prop) (hq : post (fX5_whole_197 x1 x4 x9 x11 s0)) : W p l e rmX5_whole s m args below meth c s.heap [] 0 0 (MQ below (vp_Sl post) args s 0 0 (fun _ => False)) (F0 m 197 ls [.int s0]) := by
  obtain ⟨hx, hb, hml, hr, hlocks, hown, hts⟩ := id C
  unfold fX5_whole_197 at hq
  refine lv_istore (lv' := [(15, .int s0), (1, .long x1), (4, .int x4), (9, .long x9), (11, .long x11)]) hx hb dX5_whole_197 hl (by decide) rfl (fun ls hl => ?_)
  refine lv_lload hx hb dX5_whole_199 (lv_at hl 3 rfl) ?_
  refine lv_iload hx hb dX5_whole_201 (lv_at hl 0 rfl) ?_
  refine lv_if_eq (tgt := 217) hx hb dX5_whole_203 (by decide) (fun c11 => ?_) (fun c11 => ?_)
  · rw [if_pos c11] at hq
    exact bX5_whole_217 x1 x4 x9 C hK0 (lv_sub hl [1, 2] rfl) post hq
  · rw [if_neg c11] at hq
    refine lv_lload hx hb dX5_whole_206 (lv_at hl 4 rfl) ?_
    refine lv_lconst (v := 0) hx hb dX5_whole_208 (by decide) ?_
    refine bx_lc_eq (tgt := 217) hx hb dX5_whole_209 dX5_whole_210 (by decide) (fun c12 => ?_) (fun c12 => ?_)
    · rw [if_pos c12] at hq
      exact bX5_whole_217 x1 x4 x9 C hK0 (lv_sub hl [1, 2] rfl) post hq
    · rw [if_neg c12] at hq
      refine lv_lconst (v := 1) hx hb dX5_whole_213 (by decide) ?_
      refine lv_goto (tgt := 218) hx hb dX5_whole_214 (by decide) ?_
      exact bX5_whole_218 x1 x4 x9 (1 : Int64) C hK0 (lv_sub hl [1, 2] rfl) post hq
set_option maxRecDepth 20000 in
theorem bX5_whole_196 (x1 : Int64) (x4 : Int32) (x9 : Int64) (x11 : Int64) {p : Program} {l : Launch} {e : Env} {s : State} {m : MethodId} {args : Array Value} {below : List Frame} {meth : Method} {c : Code} {h0 : Nat} {ls : Array Slot} (C : bx_C p s m args meth c cX5_whole 16 (some .long) RX5) (hK0 : ob_K RX5 h0 s) (hl : lv_has ls 16 [(1, .long x1), (4, .int x4), (9, .long x9), (11, .long x11)]) (post : Int64 → Prop) (hq : post (fX5_whole_196 x1 x4 x9 x11)) : W p l e rmX5_whole s m args below meth c s.heap [] 0 0 (MQ below (vp_Sl post) args s 0 0 (fun _ => False)) (F0 m 196 ls []) := by
  obtain ⟨hx, hb, hml, hr, hlocks, hown, hts⟩ := id C
  unfold fX5_whole_196 at hq
  refine lv_iconst (v := 0) hx hb dX5_whole_196 (by decide) ?_
  exact bX5_whole_197 x1 x4 x9 x11 (0 : Int32) C hK0 (lv_sub hl [0, 1, 2, 3] rfl) post hq
set_option maxRecDepth 20000 in
theorem bX5_whole_192 (x1 : Int64) (x4 : Int32) (x9 : Int64) (x11 : Int64) {p : Program} {l : Launch} {e : Env} {s : State} {m : MethodId} {args : Array Value} {below : List Frame} {meth : Method} {c : Code} {h0 : Nat} {ls : Array Slot} (C : bx_C p s m args meth c cX5_whole 16 (some .long) RX5) (hK0 : ob_K RX5 h0 s) (hl : lv_has ls 16 [(1, .long x1), (4, .int x4), (9, .long x9), (11, .long x11)]) (post : Int64 → Prop) (hq : post (fX5_whole_192 x1 x4 x9 x11)) : W p l e rmX5_whole s m args below meth c s.heap [] 0 0 (MQ below (vp_Sl post) args s 0 0 (fun _ => False)) (F0 m 192 ls []) := by
  obtain ⟨hx, hb, hml, hr, hlocks, hown, hts⟩ := id C
  unfold fX5_whole_192 at hq
  refine lv_iconst (v := 1) hx hb dX5_whole_192 (by decide) ?_
  refine lv_goto (tgt := 197) hx hb dX5_whole_193 (by decide) ?_
  exact bX5_whole_197 x1 x4 x9 x11 (1 : Int32) C hK0 (lv_sub hl [0, 1, 2, 3] rfl) post hq
set_option maxRecDepth 20000 in
theorem bX5_whole_125 (x1 : Int64) (x3 : Int32) (x4 : Int32) (x9 : Int64) (x11 : Int64) (s0 : Int64) {p : Program} {l : Launch} {e : Env} {s : State} {m : MethodId} {args : Array Value} {below : List Frame} {meth : Method} {c : Code} {h0 : Nat} {ls : Array Slot} (C : bx_C p s m args meth c cX5_whole 16 (some .long) RX5) (hK0 : ob_K RX5 h0 s) (hl : lv_has ls 16 [(1, .long x1), (3, .int x3), (4, .int x4), (9, .long x9), (11, .long x11)]) (post : Int64 → Prop) (hq : post (fX5_whole_125 x1 x3 x4 x9 x11 s0)) : W p l e rmX5_whole s m args below meth c s.heap [] 0 0 (MQ below (vp_Sl post) args s 0 0 (fun _ => False)) (F0 m 125 ls [.long s0]) := by
  obtain ⟨hx, hb, hml, hr, hlocks, hown, hts⟩ := id C
  unfold fX5_whole_125 at hq
  refine lv_lstore (lv' := [(13, .long s0), (1, .long x1), (3, .int x3), (4, .int x4), (9, .long x9), (11, .long x11)]) hx hb dX5_whole_125 hl (by decide) rfl (fun ls hl => ?_)
  refine lv_iload_n hx hb dX5_whole_127 rfl (lv_at hl 2 rfl) ?_
  refine lv_if_ne (tgt := 148) hx hb dX5_whole_128 (by decide) (fun c8 => ?_) (fun c8 => ?_)
  · rw [if_neg c8] at hq
    refine lv_iload_n hx hb dX5_whole_148 rfl (lv_at hl 2 rfl) ?_
    refine lv_iconst (v := 1) hx hb dX5_whole_149 (by decide) ?_
    refine lv_icmp_ne (tgt := 162) hx hb dX5_whole_150 (by decide) (fun c9 => ?_) (fun c9 => ?_)
    · rw [if_neg c9] at hq
      refine lv_iload_n hx hb dX5_whole_162 rfl (lv_at hl 2 rfl) ?_
      refine lv_iconst (v := 2) hx hb dX5_whole_163 (by decide) ?_
      refine lv_icmp_ne (tgt := 196) hx hb dX5_whole_164 (by decide) (fun c10 => ?_) (fun c10 => ?_)
      · rw [if_neg c10] at hq
        exact bX5_whole_196 x1 x4 x9 x11 C hK0 (lv_sub hl [1, 3, 4, 5] rfl) post hq
      · rw [if_pos c10] at hq
        refine lv_lload hx hb dX5_whole_167 (lv_at hl 5 rfl) ?_
        refine lv_lload hx hb dX5_whole_169 (lv_at hl 0 rfl) ?_
        refine bx_lc_gt (tgt := 192) hx hb dX5_whole_171 dX5_whole_172 (by decide) (fun c13 => ?_) (fun c13 => ?_)
        · rw [if_pos c13] at hq
          exact bX5_whole_192 x1 x4 x9 x11 C hK0 (lv_sub hl [1, 3, 4, 5] rfl) post hq
        · rw [if_neg c13] at hq
          refine lv_lload hx hb dX5_whole_175 (lv_at hl 5 rfl) ?_
          refine lv_lload hx hb dX5_whole_177 (lv_at hl 0 rfl) ?_
          refine bx_lc_ne (tgt := 196) hx hb dX5_whole_179 dX5_whole_180 (by decide) (fun c14 => ?_) (fun c14 => ?_)
          · rw [if_neg c14] at hq
            exact bX5_whole_196 x1 x4 x9 x11 C hK0 (lv_sub hl [1, 3, 4, 5] rfl) post hq
          · rw [if_pos c14] at hq
            refine lv_lload hx hb dX5_whole_183 (lv_at hl 4 rfl) ?_
            refine lv_lconst (v := 1) hx hb dX5_whole_185 (by decide) ?_
            refine lv_land hx hb dX5_whole_186 ?_
            refine lv_lconst (v := 1) hx hb dX5_whole_187 (by decide) ?_
            refine bx_lc_ne (tgt := 196) hx hb dX5_whole_188 dX5_whole_189 (by decide) (fun c15 => ?_) (fun c15 => ?_)
            · rw [if_neg c15] at hq
              exact bX5_whole_196 x1 x4 x9 x11 C hK0 (lv_sub hl [1, 3, 4, 5] rfl) post hq
            · rw [if_pos c15] at hq
              exact bX5_whole_192 x1 x4 x9 x11 C hK0 (lv_sub hl [1, 3, 4, 5] rfl) post hq
    · rw [if_pos c9] at hq
      refine lv_lload_n hx hb dX5_whole_153 rfl (lv_at hl 1 rfl) ?_
      refine lv_iload hx hb dX5_whole_154 (lv_at hl 3 rfl) ?_
      refine bx_si C (kX5_isNegative l x1 x4) bx_B_true (fun _ _ _ => trivial) tw_methodLink_RX5_109_yX5_isNegative mbX5_isNegative rfl ⟨rfl, rfl⟩ ⟨Nat.le_of_ble_eq_true rfl, Nat.le_of_ble_eq_true rfl⟩ ⟨Nat.zero_le _, Nat.zero_le _⟩ hl.1 rfl (Nat.le_of_ble_eq_true rfl) dX5_whole_156 ?_
      refine lv_goto (tgt := 197) hx hb dX5_whole_159 (by decide) ?_
      exact bX5_whole_197 x1 x4 x9 x11 (fX5_isNegative x1 x4) C hK0 (lv_sub hl [1, 3, 4, 5] rfl) post hq
  · rw [if_pos c8] at hq
    refine lv_lload_n hx hb dX5_whole_131 rfl (lv_at hl 1 rfl) ?_
    refine lv_iload hx hb dX5_whole_132 (lv_at hl 3 rfl) ?_
    refine bx_si C (kX5_isNegative l x1 x4) bx_B_true (fun _ _ _ => trivial) tw_methodLink_RX5_109_yX5_isNegative mbX5_isNegative rfl ⟨rfl, rfl⟩ ⟨Nat.le_of_ble_eq_true rfl, Nat.le_of_ble_eq_true rfl⟩ ⟨Nat.zero_le _, Nat.zero_le _⟩ hl.1 rfl (Nat.le_of_ble_eq_true rfl) dX5_whole_134 ?_
    refine lv_if_ne (tgt := 144) hx hb dX5_whole_137 (by decide) (fun c16 => ?_) (fun c16 => ?_)
    · rw [if_neg c16] at hq
      refine lv_iconst (v := 0) hx hb dX5_whole_144 (by decide) ?_
      refine lv_goto (tgt := 197) hx hb dX5_whole_145 (by decide) ?_
      exact bX5_whole_197 x1 x4 x9 x11 (0 : Int32) C hK0 (lv_sub hl [1, 3, 4, 5] rfl) post hq
    · rw [if_pos c16] at hq
      refine lv_iconst (v := 1) hx hb dX5_whole_140 (by decide) ?_
      refine lv_goto (tgt := 197) hx hb dX5_whole_141 (by decide) ?_
      exact bX5_whole_197 x1 x4 x9 x11 (1 : Int32) C hK0 (lv_sub hl [1, 3, 4, 5] rfl) post hq
set_option maxRecDepth 20000 in
theorem bX5_whole_104 (x1 : Int64) (x3 : Int32) (x4 : Int32) (x8 : Int32) (x9 : Int64) (s0 : Int64) {p : Program} {l : Launch} {e : Env} {s : State} {m : MethodId} {args : Array Value} {below : List Frame} {meth : Method} {c : Code} {h0 : Nat} {ls : Array Slot} (C : bx_C p s m args meth c cX5_whole 16 (some .long) RX5) (hK0 : ob_K RX5 h0 s) (hl : lv_has ls 16 [(1, .long x1), (3, .int x3), (4, .int x4), (8, .int x8), (9, .long x9)]) (post : Int64 → Prop) (hq : post (fX5_whole_104 x1 x3 x4 x8 x9 s0)) : W p l e rmX5_whole s m args below meth c s.heap [] 0 0 (MQ below (vp_Sl post) args s 0 0 (fun _ => False)) (F0 m 104 ls [.long s0]) := by
  obtain ⟨hx, hb, hml, hr, hlocks, hown, hts⟩ := id C
  unfold fX5_whole_104 at hq
  refine lv_lstore (lv' := [(11, .long s0), (1, .long x1), (3, .int x3), (4, .int x4), (8, .int x8), (9, .long x9)]) hx hb dX5_whole_104 hl (by decide) rfl (fun ls hl => ?_)
  refine lv_iload hx hb dX5_whole_106 (lv_at hl 4 rfl) ?_
  refine lv_bipush (v := 62) hx hb dX5_whole_108 (by decide) ?_
  refine lv_icmp_le (tgt := 119) hx hb dX5_whole_110 (by decide) (fun c7 => ?_) (fun c7 => ?_)
  · rw [if_pos c7] at hq
    refine lv_lconst (v := 1) hx hb dX5_whole_119 (by decide) ?_
    refine lv_iload hx hb dX5_whole_120 (lv_at hl 4 rfl) ?_
    refine lv_iconst (v := 1) hx hb dX5_whole_122 (by decide) ?_
    refine lv_isub hx hb dX5_whole_123 ?_
    refine bx_lshl hx hb dX5_whole_124 ?_
    exact bX5_whole_125 x1 x3 x4 x9 s0 (jl_shl (1 : Int64) (x8 - (1 : Int32))) C hK0 (lv_sub hl [1, 2, 3, 5, 0] rfl) post hq
  · rw [if_neg c7] at hq
    refine lv_ldc2 (v := 4611686018427387904) hx hb hown (hts _ tw_constantLong_RX5_140_4611686018427387904) dX5_whole_113 ?_
    refine lv_goto (tgt := 125) hx hb dX5_whole_116 (by decide) ?_
    exact bX5_whole_125 x1 x3 x4 x9 s0 (4611686018427387904 : Int64) C hK0 (lv_sub hl [1, 2, 3, 5, 0] rfl) post hq
set_option maxRecDepth 20000 in
theorem bX5_whole_81 (x1 : Int64) (x3 : Int32) (x4 : Int32) (x6 : Int64) (x8 : Int32) (s0 : Int64) {p : Program} {l : Launch} {e : Env} {s : State} {m : MethodId} {args : Array Value} {below : List Frame} {meth : Method} {c : Code} {h0 : Nat} {ls : Array Slot} (C : bx_C p s m args meth c cX5_whole 16 (some .long) RX5) (hK0 : ob_K RX5 h0 s) (hl : lv_has ls 16 [(1, .long x1), (3, .int x3), (4, .int x4), (6, .long x6), (8, .int x8)]) (post : Int64 → Prop) (hq : post (fX5_whole_81 x1 x3 x4 x6 x8 s0)) : W p l e rmX5_whole s m args below meth c s.heap [] 0 0 (MQ below (vp_Sl post) args s 0 0 (fun _ => False)) (F0 m 81 ls [.long s0]) := by
  obtain ⟨hx, hb, hml, hr, hlocks, hown, hts⟩ := id C
  unfold fX5_whole_81 at hq
  refine lv_lstore (lv' := [(9, .long s0), (1, .long x1), (3, .int x3), (4, .int x4), (6, .long x6), (8, .int x8)]) hx hb dX5_whole_81 hl (by decide) rfl (fun ls hl => ?_)
  refine lv_iload hx hb dX5_whole_83 (lv_at hl 5 rfl) ?_
  refine lv_bipush (v := 62) hx hb dX5_whole_85 (by decide) ?_
  refine lv_icmp_le (tgt := 95) hx hb dX5_whole_87 (by decide) (fun c6 => ?_) (fun c6 => ?_)
  · rw [if_pos c6] at hq
    refine lv_lload hx hb dX5_whole_95 (lv_at hl 4 rfl) ?_
    refine lv_lconst (v := 1) hx hb dX5_whole_97 (by decide) ?_
    refine lv_iload hx hb dX5_whole_98 (lv_at hl 5 rfl) ?_
    refine bx_lshl hx hb dX5_whole_100 ?_
    refine lv_lconst (v := 1) hx hb dX5_whole_101 (by decide) ?_
    refine lv_lsub hx hb dX5_whole_102 ?_
    refine lv_land hx hb dX5_whole_103 ?_
    exact bX5_whole_104 x1 x3 x4 x8 s0 (x6 &&& ((jl_shl (1 : Int64) x8) - (1 : Int64))) C hK0 (lv_sub hl [1, 2, 3, 5, 0] rfl) post hq
  · rw [if_neg c6] at hq
    refine lv_lload hx hb dX5_whole_90 (lv_at hl 4 rfl) ?_
    refine lv_goto (tgt := 104) hx hb dX5_whole_92 (by decide) ?_
    exact bX5_whole_104 x1 x3 x4 x8 s0 x6 C hK0 (lv_sub hl [1, 2, 3, 5, 0] rfl) post hq
set_option maxRecDepth 20000 in
theorem bX5_whole_34 (x1 : Int64) (x3 : Int32) (x4 : Int32) (s0 : Int32) {p : Program} {l : Launch} {e : Env} {s : State} {m : MethodId} {args : Array Value} {below : List Frame} {meth : Method} {c : Code} {h0 : Nat} {ls : Array Slot} (C : bx_C p s m args meth c cX5_whole 16 (some .long) RX5) (hK0 : ob_K RX5 h0 s) (hl : lv_has ls 16 [(1, .long x1), (3, .int x3), (4, .int x4)]) (post : Int64 → Prop) (hq : post (fX5_whole_34 x1 x3 x4 s0)) : W p l e rmX5_whole s m args below meth c s.heap [] 0 0 (MQ below (vp_Sl post) args s 0 0 (fun _ => False)) (F0 m 34 ls [.int s0]) := by
  obtain ⟨hx, hb, hml, hr, hlocks, hown, hts⟩ := id C
  unfold fX5_whole_34 at hq
  refine lv_istore (lv' := [(5, .int s0), (1, .long x1), (3, .int x3), (4, .int x4)]) hx hb dX5_whole_34 hl (by decide) rfl (fun ls hl => ?_)
  refine lv_iload hx hb dX5_whole_36 (lv_at hl 0 rfl) ?_
  refine lv_if_ge (tgt := 50) hx hb dX5_whole_38 (by decide) (fun c3 => ?_) (fun c3 => ?_)
  · rw [if_pos c3] at hq
    refine lv_lload_n hx hb dX5_whole_50 rfl (lv_at hl 1 rfl) ?_
    exact W.lret (v := x1) hx hb hr (fun t ht hW => ⟨_, rfl, hq, ht⟩) (fun _ h => absurd h List.not_mem_nil) dX5_whole_51
  · rw [if_neg c3] at hq
    refine lv_lload_n hx hb dX5_whole_41 rfl (lv_at hl 1 rfl) ?_
    refine lv_iload hx hb dX5_whole_42 (lv_at hl 3 rfl) ?_
    refine bx_si C (kX5_isZero l x1 x4) bx_B_true (fun _ _ _ => trivial) tw_methodLink_RX5_127_yX5_isZero mbX5_isZero rfl ⟨rfl, rfl⟩ ⟨Nat.le_of_ble_eq_true rfl, Nat.le_of_ble_eq_true rfl⟩ ⟨Nat.zero_le _, Nat.zero_le _⟩ hl.1 rfl (Nat.le_of_ble_eq_true rfl) dX5_whole_44 ?_
    refine lv_if_eq (tgt := 52) hx hb dX5_whole_47 (by decide) (fun c4 => ?_) (fun c4 => ?_)
    · rw [if_pos c4] at hq
      refine lv_lload_n hx hb dX5_whole_52 rfl (lv_at hl 1 rfl) ?_
      refine lv_iload hx hb dX5_whole_53 (lv_at hl 3 rfl) ?_
      refine bx_sl C (kX5_digitsOf l x1 x4) bx_B_true (fun _ _ _ => trivial) tw_methodLink_RX5_118_yX5_digitsOf mbX5_digitsOf rfl ⟨rfl, rfl⟩ ⟨Nat.le_of_ble_eq_true rfl, Nat.le_of_ble_eq_true rfl⟩ ⟨Nat.zero_le _, Nat.zero_le _⟩ hl.1 rfl (Nat.le_of_ble_eq_true rfl) dX5_whole_55 ?_
      refine lv_lstore (lv' := [(6, .long (fX5_digitsOf x1 x4)), (5, .int s0), (1, .long x1), (3, .int x3), (4, .int x4)]) hx hb dX5_whole_58 hl (by decide) rfl (fun ls hl => ?_)
      refine lv_iload hx hb dX5_whole_60 (lv_at hl 1 rfl) ?_
      refine lv_ineg hx hb dX5_whole_62 ?_
      refine lv_istore (lv' := [(8, .int (-s0)), (6, .long (fX5_digitsOf x1 x4)), (5, .int s0), (1, .long x1), (3, .int x3), (4, .int x4)]) hx hb dX5_whole_63 hl (by decide) rfl (fun ls hl => ?_)
      refine lv_iload hx hb dX5_whole_65 (lv_at hl 0 rfl) ?_
      refine lv_bipush (v := 62) hx hb dX5_whole_67 (by decide) ?_
      refine lv_icmp_le (tgt := 76) hx hb dX5_whole_69 (by decide) (fun c5 => ?_) (fun c5 => ?_)
      · rw [if_pos c5] at hq
        refine lv_lload hx hb dX5_whole_76 (lv_at hl 1 rfl) ?_
        refine lv_iload hx hb dX5_whole_78 (lv_at hl 0 rfl) ?_
        refine bx_lushr hx hb dX5_whole_80 ?_
        exact bX5_whole_81 x1 x3 x4 (fX5_digitsOf x1 x4) (-s0) (jl_ushr (fX5_digitsOf x1 x4) (-s0)) C hK0 (lv_sub hl [3, 4, 5, 1, 0] rfl) post hq
      · rw [if_neg c5] at hq
        refine lv_lconst (v := 0) hx hb dX5_whole_72 (by decide) ?_
        refine lv_goto (tgt := 81) hx hb dX5_whole_73 (by decide) ?_
        exact bX5_whole_81 x1 x3 x4 (fX5_digitsOf x1 x4) (-s0) (0 : Int64) C hK0 (lv_sub hl [3, 4, 5, 1, 0] rfl) post hq
    · rw [if_neg c4] at hq
      refine lv_lload_n hx hb dX5_whole_50 rfl (lv_at hl 1 rfl) ?_
      exact W.lret (v := x1) hx hb hr (fun t ht hW => ⟨_, rfl, hq, ht⟩) (fun _ h => absurd h List.not_mem_nil) dX5_whole_51
set_option maxRecDepth 20000 in
theorem bX5_whole_0 (x1 : Int64) (x3 : Int32) (x4 : Int32) {p : Program} {l : Launch} {e : Env} {s : State} {m : MethodId} {args : Array Value} {below : List Frame} {meth : Method} {c : Code} {h0 : Nat} {ls : Array Slot} (C : bx_C p s m args meth c cX5_whole 16 (some .long) RX5) (hK0 : ob_K RX5 h0 s) (hl : lv_has ls 16 [(0, .ref h0), (1, .long x1), (3, .int x3), (4, .int x4)]) (post : Int64 → Prop) (hq : post (fX5_whole x1 x3 x4)) : W p l e rmX5_whole s m args below meth c s.heap [] 0 0 (MQ below (vp_Sl post) args s 0 0 (fun _ => False)) (F0 m 0 ls []) := by
  obtain ⟨hx, hb, hml, hr, hlocks, hown, hts⟩ := id C
  unfold fX5_whole at hq
  refine lv_lload_n hx hb dX5_whole_0 rfl (lv_at hl 1 rfl) ?_
  refine lv_iload hx hb dX5_whole_1 (lv_at hl 3 rfl) ?_
  refine bx_si C (kX5_isNan l x1 x4) bx_B_true (fun _ _ _ => trivial) tw_methodLink_RX5_102_yX5_isNan mbX5_isNan rfl ⟨rfl, rfl⟩ ⟨Nat.le_of_ble_eq_true rfl, Nat.le_of_ble_eq_true rfl⟩ ⟨Nat.zero_le _, Nat.zero_le _⟩ hl.1 rfl (Nat.le_of_ble_eq_true rfl) dX5_whole_3 ?_
  refine lv_if_eq (tgt := 15) hx hb dX5_whole_6 (by decide) (fun c1 => ?_) (fun c1 => ?_)
  · rw [if_pos c1] at hq
    refine lv_lload_n hx hb dX5_whole_15 rfl (lv_at hl 1 rfl) ?_
    refine lv_iload hx hb dX5_whole_16 (lv_at hl 3 rfl) ?_
    refine bx_si C (kX5_isInfinite l x1 x4) bx_B_true (fun _ _ _ => trivial) tw_methodLink_RX5_112_yX5_isInfinite mbX5_isInfinite rfl ⟨rfl, rfl⟩ ⟨Nat.le_of_ble_eq_true rfl, Nat.le_of_ble_eq_true rfl⟩ ⟨Nat.zero_le _, Nat.zero_le _⟩ hl.1 rfl (Nat.le_of_ble_eq_true rfl) dX5_whole_18 ?_
    refine lv_if_eq (tgt := 28) hx hb dX5_whole_21 (by decide) (fun c2 => ?_) (fun c2 => ?_)
    · rw [if_pos c2] at hq
      refine lv_lload_n hx hb dX5_whole_28 rfl (lv_at hl 1 rfl) ?_
      refine lv_iload hx hb dX5_whole_29 (lv_at hl 3 rfl) ?_
      refine bx_si C (kX5_exponentOf l x1 x4) bx_B_true (fun _ _ _ => trivial) tw_methodLink_RX5_121_yX5_exponentOf mbX5_exponentOf rfl ⟨rfl, rfl⟩ ⟨Nat.le_of_ble_eq_true rfl, Nat.le_of_ble_eq_true rfl⟩ ⟨Nat.zero_le _, Nat.zero_le _⟩ hl.1 rfl (Nat.le_of_ble_eq_true rfl) dX5_whole_31 ?_
      exact bX5_whole_34 x1 x3 x4 (fX5_exponentOf x1 x4) C hK0 (lv_sub hl [1, 2, 3] rfl) post hq
    · rw [if_neg c2] at hq
      refine lv_iconst (v := 0) hx hb dX5_whole_24 (by decide) ?_
      refine lv_goto (tgt := 34) hx hb dX5_whole_25 (by decide) ?_
      exact bX5_whole_34 x1 x3 x4 (0 : Int32) C hK0 (lv_sub hl [1, 2, 3] rfl) post hq
  · rw [if_neg c1] at hq
    refine lv_iload hx hb dX5_whole_9 (lv_at hl 3 rfl) ?_
    refine bx_sl C (kX5_nan l x4) bx_B_true (fun _ _ _ => trivial) tw_methodLink_RX5_106_yX5_nan mbX5_nan rfl ⟨rfl, rfl⟩ ⟨Nat.le_of_ble_eq_true rfl, Nat.le_of_ble_eq_true rfl⟩ ⟨Nat.zero_le _, Nat.zero_le _⟩ hl.1 rfl (Nat.le_of_ble_eq_true rfl) dX5_whole_11 ?_
    exact W.lret (v := (fX5_nan x4)) hx hb hr (fun t ht hW => ⟨_, rfl, hq, ht⟩) (fun _ h => absurd h List.not_mem_nil) dX5_whole_14
theorem kX5_whole (l : Launch) (h0 : Nat) (x1 : Int64) (x3 : Int32) (x4 : Int32) : Met l yX5_whole (Cond.code yX5_whole cX5_whole 16 (some .long) :: bw) rmX5_whole (va_Pc [.ref h0, .long x1, .int x3, .int x4] (fun U => ob_K RX5 h0 U)) (vp_Sl (fun r => r = fX5_whole x1 x3 x4)) 0 0 (fun _ => False) := by
  refine bx_ent (by decide) _ _ (Nat.le_of_ble_eq_true rfl) rfl ?_
  intro p e s m below meth c ls C hl hK0
  exact bX5_whole_0 x1 x3 x4 C hK0 hl _ rfl
abbrev rmX5_toWhole : Room := { frames := 5, cells := 0, slots := 0, locals := 123 }
theorem mbX5_toWhole : mb_V RX5 yX5_toWhole cX5_toWhole 14 (some .int) 3 := ⟨⟨tw_instanceMethod_yX5_toWhole, tw_selects_RX5_yX5_toWhole_yX5_toWhole, tw_initialized_RX5, tw_code_yX5_toWhole⟩, rfl, by decide +kernel, by decide +kernel, by decide +kernel⟩
theorem BX5_toWhole {h0 : Nat} : bx_B (fun U => ob_K RX5 h0 U) := ob_B RX5 h0
set_option maxRecDepth 20000 in
theorem bX5_toWhole_115 (x5 : Int32) (x6 : Int32) (s0 : Int64) {p : Program} {l : Launch} {e : Env} {s : State} {m : MethodId} {args : Array Value} {below : List Frame} {meth : Method} {c : Code} {h0 : Nat} {ls : Array Slot} (C : bx_C p s m args meth c cX5_toWhole 14 (some .int) RX5) (hK0 : ob_K RX5 h0 s) (hl : lv_has ls 14 [(5, .int x5), (6, .int x6)]) (post : Int32 → Prop) (hq : post (fX5_toWhole_115 x5 x6 s0)) : W p l e rmX5_toWhole s m args below meth c s.heap [] 0 0 (MQ below (vp_Si post) args s 0 0 (fun _ => False)) (F0 m 115 ls [.long s0]) := by
  obtain ⟨hx, hb, hml, hr, hlocks, hown, hts⟩ := id C
  unfold fX5_toWhole_115 at hq
  refine lv_lstore (lv' := [(12, .long s0), (5, .int x5), (6, .int x6)]) hx hb dX5_toWhole_115 hl (by decide) rfl (fun ls hl => ?_)
  refine lv_lload hx hb dX5_toWhole_117 (lv_at hl 0 rfl) ?_
  refine lv_ldc2 (v := 2147483647) hx hb hown (hts _ tw_constantLong_RX5_148_2147483647) dX5_toWhole_119 ?_
  refine bx_lc_le (tgt := 129) hx hb dX5_toWhole_122 dX5_toWhole_123 (by decide) (fun c7 => ?_) (fun c7 => ?_)
  · rw [if_pos c7] at hq
    refine lv_iload hx hb dX5_toWhole_129 (lv_at hl 1 rfl) ?_
    refine lv_if_eq (tgt := 141) hx hb dX5_toWhole_131 (by decide) (fun c8 => ?_) (fun c8 => ?_)
    · rw [if_pos c8] at hq
      refine lv_lload hx hb dX5_toWhole_141 (lv_at hl 0 rfl) ?_
      refine bx_l2i hx hb dX5_toWhole_143 ?_
      exact W.iret (v := s0.toInt32) hx hb hr (fun t ht hW => ⟨_, rfl, hq, ht⟩) (fun _ h => absurd h List.not_mem_nil) dX5_toWhole_144
    · rw [if_neg c8] at hq
      refine lv_lload hx hb dX5_toWhole_134 (lv_at hl 0 rfl) ?_
      refine lv_lneg hx hb dX5_toWhole_136 ?_
      refine bx_l2i hx hb dX5_toWhole_137 ?_
      refine lv_goto (tgt := 144) hx hb dX5_toWhole_138 (by decide) ?_
      exact W.iret (v := (-s0).toInt32) hx hb hr (fun t ht hW => ⟨_, rfl, hq, ht⟩) (fun _ h => absurd h List.not_mem_nil) dX5_toWhole_144
  · rw [if_neg c7] at hq
    refine lv_iload hx hb dX5_toWhole_126 (lv_at hl 2 rfl) ?_
    exact W.iret (v := x6) hx hb hr (fun t ht hW => ⟨_, rfl, hq, ht⟩) (fun _ h => absurd h List.not_mem_nil) dX5_toWhole_128
set_option maxRecDepth 20000 in
theorem bX5_toWhole_20 (x1 : Int64) (x3 : Int32) (x4 : Int32) (x5 : Int32) (s0 : Int32) {p : Program} {l : Launch} {e : Env} {s : State} {m : MethodId} {args : Array Value} {below : List Frame} {meth : Method} {c : Code} {h0 : Nat} {ls : Array Slot} (C : bx_C p s m args meth c cX5_toWhole 14 (some .int) RX5) (hK0 : ob_K RX5 h0 s) (hl : lv_has ls 14 [(0, .ref h0), (1, .long x1), (3, .int x3), (4, .int x4), (5, .int x5)]) (post : Int32 → Prop) (hq : post (fX5_toWhole_20 x1 x3 x4 x5 s0)) : W p l e rmX5_toWhole s m args below meth c s.heap [] 0 0 (MQ below (vp_Si post) args s 0 0 (fun _ => False)) (F0 m 20 ls [.int s0]) := by
  obtain ⟨hx, hb, hml, hr, hlocks, hown, hts⟩ := id C
  unfold fX5_toWhole_20 at hq
  refine lv_istore (lv' := [(6, .int s0), (0, .ref h0), (1, .long x1), (3, .int x3), (4, .int x4), (5, .int x5)]) hx hb dX5_toWhole_20 hl (by decide) rfl (fun ls hl => ?_)
  refine lv_lload_n hx hb dX5_toWhole_22 rfl (lv_at hl 2 rfl) ?_
  refine lv_iload hx hb dX5_toWhole_23 (lv_at hl 4 rfl) ?_
  refine bx_si C (kX5_isNan l x1 x4) bx_B_true (fun _ _ _ => trivial) tw_methodLink_RX5_102_yX5_isNan mbX5_isNan rfl ⟨rfl, rfl⟩ ⟨Nat.le_of_ble_eq_true rfl, Nat.le_of_ble_eq_true rfl⟩ ⟨Nat.zero_le _, Nat.zero_le _⟩ hl.1 rfl (Nat.le_of_ble_eq_true rfl) dX5_toWhole_25 ?_
  refine lv_if_ne (tgt := 40) hx hb dX5_toWhole_28 (by decide) (fun c2 => ?_) (fun c2 => ?_)
  · rw [if_neg c2] at hq
    refine lv_iload hx hb dX5_toWhole_40 (lv_at hl 0 rfl) ?_
    exact W.iret (v := s0) hx hb hr (fun t ht hW => ⟨_, rfl, hq, ht⟩) (fun _ h => absurd h List.not_mem_nil) dX5_toWhole_42
  · rw [if_pos c2] at hq
    refine lv_lload_n hx hb dX5_toWhole_31 rfl (lv_at hl 2 rfl) ?_
    refine lv_iload hx hb dX5_toWhole_32 (lv_at hl 4 rfl) ?_
    refine bx_si C (kX5_isInfinite l x1 x4) bx_B_true (fun _ _ _ => trivial) tw_methodLink_RX5_112_yX5_isInfinite mbX5_isInfinite rfl ⟨rfl, rfl⟩ ⟨Nat.le_of_ble_eq_true rfl, Nat.le_of_ble_eq_true rfl⟩ ⟨Nat.zero_le _, Nat.zero_le _⟩ hl.1 rfl (Nat.le_of_ble_eq_true rfl) dX5_toWhole_34 ?_
    refine lv_if_eq (tgt := 43) hx hb dX5_toWhole_37 (by decide) (fun c3 => ?_) (fun c3 => ?_)
    · rw [if_pos c3] at hq
      refine lv_aload_n hx hb dX5_toWhole_43 rfl (lv_at hl 1 rfl) ?_
      refine lv_lload_n hx hb dX5_toWhole_44 rfl (lv_at hl 2 rfl) ?_
      refine lv_iload_n hx hb dX5_toWhole_45 rfl (lv_at hl 3 rfl) ?_
      refine lv_iload hx hb dX5_toWhole_46 (lv_at hl 4 rfl) ?_
      refine bx_vl C (kX5_whole l h0 x1 x3 x4) BX5_whole (fun U u1 u2 => ob_B RX5 h0 s U u1 u2 hK0) (fun U u1 u2 => ob_B RX5 h0 s U u1 u2 hK0) tw_methodLink_RX5_144_yX5_whole mbX5_whole rfl ⟨rfl, rfl⟩ ⟨Nat.le_of_ble_eq_true rfl, Nat.le_of_ble_eq_true rfl⟩ ⟨Nat.zero_le _, Nat.zero_le _⟩ hl.1 rfl (Nat.le_of_ble_eq_true rfl) dX5_toWhole_48 ?_
      refine lv_lstore (lv' := [(7, .long (fX5_whole x1 x3 x4)), (6, .int s0), (0, .ref h0), (1, .long x1), (3, .int x3), (4, .int x4), (5, .int x5)]) hx hb dX5_toWhole_51 hl (by decide) rfl (fun ls hl => ?_)
      refine lv_lload hx hb dX5_toWhole_53 (lv_at hl 0 rfl) ?_
      refine lv_iload hx hb dX5_toWhole_55 (lv_at hl 5 rfl) ?_
      refine bx_sl C (kX5_digitsOf l (fX5_whole x1 x3 x4) x4) bx_B_true (fun _ _ _ => trivial) tw_methodLink_RX5_118_yX5_digitsOf mbX5_digitsOf rfl ⟨rfl, rfl⟩ ⟨Nat.le_of_ble_eq_true rfl, Nat.le_of_ble_eq_true rfl⟩ ⟨Nat.zero_le _, Nat.zero_le _⟩ hl.1 rfl (Nat.le_of_ble_eq_true rfl) dX5_toWhole_57 ?_
      refine lv_lstore (lv' := [(9, .long (fX5_digitsOf (fX5_whole x1 x3 x4) x4)), (7, .long (fX5_whole x1 x3 x4)), (6, .int s0), (0, .ref h0), (1, .long x1), (3, .int x3), (4, .int x4), (5, .int x5)]) hx hb dX5_toWhole_60 hl (by decide) rfl (fun ls hl => ?_)
      refine lv_lload hx hb dX5_toWhole_62 (lv_at hl 1 rfl) ?_
      refine lv_iload hx hb dX5_toWhole_64 (lv_at hl 6 rfl) ?_
      refine bx_si C (kX5_exponentOf l (fX5_whole x1 x3 x4) x4) bx_B_true (fun _ _ _ => trivial) tw_methodLink_RX5_121_yX5_exponentOf mbX5_exponentOf rfl ⟨rfl, rfl⟩ ⟨Nat.le_of_ble_eq_true rfl, Nat.le_of_ble_eq_true rfl⟩ ⟨Nat.zero_le _, Nat.zero_le _⟩ hl.1 rfl (Nat.le_of_ble_eq_true rfl) dX5_toWhole_66 ?_
      refine lv_istore (lv' := [(11, .int (fX5_exponentOf (fX5_whole x1 x3 x4) x4)), (9, .long (fX5_digitsOf (fX5_whole x1 x3 x4) x4)), (7, .long (fX5_whole x1 x3 x4)), (6, .int s0), (0, .ref h0), (1, .long x1), (3, .int x3), (4, .int x4), (5, .int x5)]) hx hb dX5_toWhole_69 hl (by decide) rfl (fun ls hl => ?_)
      refine lv_lload hx hb dX5_toWhole_71 (lv_at hl 1 rfl) ?_
      refine lv_lconst (v := 0) hx hb dX5_toWhole_73 (by decide) ?_
      refine bx_lc_ne (tgt := 80) hx hb dX5_toWhole_74 dX5_toWhole_75 (by decide) (fun c4 => ?_) (fun c4 => ?_)
      · rw [if_neg c4] at hq
        refine lv_lload hx hb dX5_toWhole_80 (lv_at hl 1 rfl) ?_
        refine bx_si C (kX5_bitsOf l (fX5_digitsOf (fX5_whole x1 x3 x4) x4)) bx_B_true (fun _ _ _ => trivial) tw_methodLink_RX5_82_yX5_bitsOf mbX5_bitsOf rfl ⟨rfl, rfl⟩ ⟨Nat.le_of_ble_eq_true rfl, Nat.le_of_ble_eq_true rfl⟩ ⟨Nat.zero_le _, Nat.zero_le _⟩ hl.1 rfl (Nat.le_of_ble_eq_true rfl) dX5_toWhole_82 ?_
        refine lv_iload hx hb dX5_toWhole_85 (lv_at hl 0 rfl) ?_
        refine lv_iadd hx hb dX5_toWhole_87 ?_
        refine lv_bipush (v := 32) hx hb dX5_toWhole_88 (by decide) ?_
        refine lv_icmp_le (tgt := 96) hx hb dX5_toWhole_90 (by decide) (fun c5 => ?_) (fun c5 => ?_)
        · rw [if_pos c5] at hq
          refine lv_iload hx hb dX5_toWhole_96 (lv_at hl 0 rfl) ?_
          refine lv_if_lt (tgt := 109) hx hb dX5_toWhole_98 (by decide) (fun c6 => ?_) (fun c6 => ?_)
          · rw [if_pos c6] at hq
            refine lv_lload hx hb dX5_toWhole_109 (lv_at hl 1 rfl) ?_
            refine lv_iload hx hb dX5_toWhole_111 (lv_at hl 0 rfl) ?_
            refine lv_ineg hx hb dX5_toWhole_113 ?_
            refine bx_lushr hx hb dX5_toWhole_114 ?_
            exact bX5_toWhole_115 x5 s0 (jl_ushr (fX5_digitsOf (fX5_whole x1 x3 x4) x4) (-(fX5_exponentOf (fX5_whole x1 x3 x4) x4))) C hK0 (lv_sub hl [8, 3] rfl) post hq
          · rw [if_neg c6] at hq
            refine lv_lload hx hb dX5_toWhole_101 (lv_at hl 1 rfl) ?_
            refine lv_iload hx hb dX5_toWhole_103 (lv_at hl 0 rfl) ?_
            refine bx_lshl hx hb dX5_toWhole_105 ?_
            refine lv_goto (tgt := 115) hx hb dX5_toWhole_106 (by decide) ?_
            exact bX5_toWhole_115 x5 s0 (jl_shl (fX5_digitsOf (fX5_whole x1 x3 x4) x4) (fX5_exponentOf (fX5_whole x1 x3 x4) x4)) C hK0 (lv_sub hl [8, 3] rfl) post hq
        · rw [if_neg c5] at hq
          refine lv_iload hx hb dX5_toWhole_93 (lv_at hl 3 rfl) ?_
          exact W.iret (v := s0) hx hb hr (fun t ht hW => ⟨_, rfl, hq, ht⟩) (fun _ h => absurd h List.not_mem_nil) dX5_toWhole_95
      · rw [if_pos c4] at hq
        refine lv_iconst (v := 0) hx hb dX5_toWhole_78 (by decide) ?_
        exact W.iret (v := (0 : Int32)) hx hb hr (fun t ht hW => ⟨_, rfl, hq, ht⟩) (fun _ h => absurd h List.not_mem_nil) dX5_toWhole_79
    · rw [if_neg c3] at hq
      refine lv_iload hx hb dX5_toWhole_40 (lv_at hl 0 rfl) ?_
      exact W.iret (v := s0) hx hb hr (fun t ht hW => ⟨_, rfl, hq, ht⟩) (fun _ h => absurd h List.not_mem_nil) dX5_toWhole_42
set_option maxRecDepth 20000 in
theorem bX5_toWhole_0 (x1 : Int64) (x3 : Int32) (x4 : Int32) {p : Program} {l : Launch} {e : Env} {s : State} {m : MethodId} {args : Array Value} {below : List Frame} {meth : Method} {c : Code} {h0 : Nat} {ls : Array Slot} (C : bx_C p s m args meth c cX5_toWhole 14 (some .int) RX5) (hK0 : ob_K RX5 h0 s) (hl : lv_has ls 14 [(0, .ref h0), (1, .long x1), (3, .int x3), (4, .int x4)]) (post : Int32 → Prop) (hq : post (fX5_toWhole x1 x3 x4)) : W p l e rmX5_toWhole s m args below meth c s.heap [] 0 0 (MQ below (vp_Si post) args s 0 0 (fun _ => False)) (F0 m 0 ls []) := by
  obtain ⟨hx, hb, hml, hr, hlocks, hown, hts⟩ := id C
  unfold fX5_toWhole at hq
  refine lv_lload_n hx hb dX5_toWhole_0 rfl (lv_at hl 1 rfl) ?_
  refine lv_iload hx hb dX5_toWhole_1 (lv_at hl 3 rfl) ?_
  refine bx_si C (kX5_isNegative l x1 x4) bx_B_true (fun _ _ _ => trivial) tw_methodLink_RX5_109_yX5_isNegative mbX5_isNegative rfl ⟨rfl, rfl⟩ ⟨Nat.le_of_ble_eq_true rfl, Nat.le_of_ble_eq_true rfl⟩ ⟨Nat.zero_le _, Nat.zero_le _⟩ hl.1 rfl (Nat.le_of_ble_eq_true rfl) dX5_toWhole_3 ?_
  refine lv_istore (lv' := [(5, .int (fX5_isNegative x1 x4)), (0, .ref h0), (1, .long x1), (3, .int x3), (4, .int x4)]) hx hb dX5_toWhole_6 hl (by decide) rfl (fun ls hl => ?_)
  refine lv_iload hx hb dX5_toWhole_8 (lv_at hl 0 rfl) ?_
  refine lv_if_eq (tgt := 18) hx hb dX5_toWhole_10 (by decide) (fun c1 => ?_) (fun c1 => ?_)
  · rw [if_pos c1] at hq
    refine lv_ldc (v := 2147483647) hx hb hown (hts _ tw_constant_RX5_143_2147483647) dX5_toWhole_18 ?_
    exact bX5_toWhole_20 x1 x3 x4 (fX5_isNegative x1 x4) (2147483647 : Int32) C hK0 (lv_sub hl [1, 2, 3, 4, 0] rfl) post hq
  · rw [if_neg c1] at hq
    refine lv_ldc (v := -2147483648) hx hb hown (hts _ tw_constant_RX5_142_2147483648) dX5_toWhole_13 ?_
    refine lv_goto (tgt := 20) hx hb dX5_toWhole_15 (by decide) ?_
    exact bX5_toWhole_20 x1 x3 x4 (fX5_isNegative x1 x4) (-2147483648 : Int32) C hK0 (lv_sub hl [1, 2, 3, 4, 0] rfl) post hq
theorem kX5_toWhole (l : Launch) (h0 : Nat) (x1 : Int64) (x3 : Int32) (x4 : Int32) : Met l yX5_toWhole (Cond.code yX5_toWhole cX5_toWhole 14 (some .int) :: bw) rmX5_toWhole (va_Pc [.ref h0, .long x1, .int x3, .int x4] (fun U => ob_K RX5 h0 U)) (vp_Si (fun r => r = fX5_toWhole x1 x3 x4)) 0 0 (fun _ => False) := by
  refine bx_ent (by decide) _ _ (Nat.le_of_ble_eq_true rfl) rfl ?_
  intro p e s m below meth c ls C hl hK0
  exact bX5_toWhole_0 x1 x3 x4 C hK0 hl _ rfl
abbrev rmX5_order : Room := { frames := 2, cells := 0, slots := 0, locals := 42 }
theorem mbX5_order : mb_V RX5 yX5_order cX5_order 10 (some .int) 3 := ⟨⟨tw_instanceMethod_yX5_order, tw_selects_RX5_yX5_order_yX5_order, tw_initialized_RX5, tw_code_yX5_order⟩, rfl, by decide +kernel, by decide +kernel, by decide +kernel⟩
theorem BX5_order {h0 : Nat} : bx_B (fun U => ob_K RX5 h0 U) := ob_B RX5 h0
set_option maxRecDepth 20000 in
theorem bX5_order_52 (x6 : Int64) (s0 : Int64) {p : Program} {l : Launch} {e : Env} {s : State} {m : MethodId} {args : Array Value} {below : List Frame} {meth : Method} {c : Code} {h0 : Nat} {ls : Array Slot} (C : bx_C p s m args meth c cX5_order 10 (some .int) RX5) (hK0 : ob_K RX5 h0 s) (hl : lv_has ls 10 [(6, .long x6)]) (post : Int32 → Prop) (hq : post (fX5_order_52 x6 s0)) : W p l e rmX5_order s m args below meth c s.heap [] 0 0 (MQ below (vp_Si post) args s 0 0 (fun _ => False)) (F0 m 52 ls [.long s0]) := by
  obtain ⟨hx, hb, hml, hr, hlocks, hown, hts⟩ := id C
  unfold fX5_order_52 at hq
  refine lv_lstore (lv' := [(8, .long s0), (6, .long x6)]) hx hb dX5_order_52 hl (by decide) rfl (fun ls hl => ?_)
  refine lv_lload hx hb dX5_order_54 (lv_at hl 1 rfl) ?_
  refine lv_lload hx hb dX5_order_56 (lv_at hl 0 rfl) ?_
  refine bx_lc_ge (tgt := 66) hx hb dX5_order_58 dX5_order_59 (by decide) (fun c3 => ?_) (fun c3 => ?_)
  · rw [if_pos c3] at hq
    refine lv_lload hx hb dX5_order_66 (lv_at hl 1 rfl) ?_
    refine lv_lload hx hb dX5_order_68 (lv_at hl 0 rfl) ?_
    refine bx_lc_ne (tgt := 78) hx hb dX5_order_70 dX5_order_71 (by decide) (fun c4 => ?_) (fun c4 => ?_)
    · rw [if_neg c4] at hq
      refine lv_iconst (v := 1) hx hb dX5_order_78 (by decide) ?_
      exact W.iret (v := (1 : Int32)) hx hb hr (fun t ht hW => ⟨_, rfl, hq, ht⟩) (fun _ h => absurd h List.not_mem_nil) dX5_order_79
    · rw [if_pos c4] at hq
      refine lv_iconst (v := 0) hx hb dX5_order_74 (by decide) ?_
      refine lv_goto (tgt := 79) hx hb dX5_order_75 (by decide) ?_
      exact W.iret (v := (0 : Int32)) hx hb hr (fun t ht hW => ⟨_, rfl, hq, ht⟩) (fun _ h => absurd h List.not_mem_nil) dX5_order_79
  · rw [if_neg c3] at hq
    refine lv_iconst (v := -1) hx hb dX5_order_62 (by decide) ?_
    refine lv_goto (tgt := 79) hx hb dX5_order_63 (by decide) ?_
    exact W.iret (v := (-1 : Int32)) hx hb hr (fun t ht hW => ⟨_, rfl, hq, ht⟩) (fun _ h => absurd h List.not_mem_nil) dX5_order_79
set_option maxRecDepth 20000 in
theorem bX5_order_25 (x3 : Int64) (x5 : Int32) (s0 : Int64) {p : Program} {l : Launch} {e : Env} {s : State} {m : MethodId} {args : Array Value} {below : List Frame} {meth : Method} {c : Code} {h0 : Nat} {ls : Array Slot} (C : bx_C p s m args meth c cX5_order 10 (some .int) RX5) (hK0 : ob_K RX5 h0 s) (hl : lv_has ls 10 [(3, .long x3), (5, .int x5)]) (post : Int32 → Prop) (hq : post (fX5_order_25 x3 x5 s0)) : W p l e rmX5_order s m args below meth c s.heap [] 0 0 (MQ below (vp_Si post) args s 0 0 (fun _ => False)) (F0 m 25 ls [.long s0]) := by
  obtain ⟨hx, hb, hml, hr, hlocks, hown, hts⟩ := id C
  unfold fX5_order_25 at hq
  refine lv_lstore (lv' := [(6, .long s0), (3, .long x3), (5, .int x5)]) hx hb dX5_order_25 hl (by decide) rfl (fun ls hl => ?_)
  refine lv_lload_n hx hb dX5_order_27 rfl (lv_at hl 1 rfl) ?_
  refine lv_iload hx hb dX5_order_28 (lv_at hl 2 rfl) ?_
  refine bx_si C (kX5_isNegative l x3 x5) bx_B_true (fun _ _ _ => trivial) tw_methodLink_RX5_109_yX5_isNegative mbX5_isNegative rfl ⟨rfl, rfl⟩ ⟨Nat.le_of_ble_eq_true rfl, Nat.le_of_ble_eq_true rfl⟩ ⟨Nat.zero_le _, Nat.zero_le _⟩ hl.1 rfl (Nat.le_of_ble_eq_true rfl) dX5_order_30 ?_
  refine lv_if_eq (tgt := 46) hx hb dX5_order_33 (by decide) (fun c2 => ?_) (fun c2 => ?_)
  · rw [if_pos c2] at hq
    refine lv_lload_n hx hb dX5_order_46 rfl (lv_at hl 1 rfl) ?_
    refine lv_iload hx hb dX5_order_47 (lv_at hl 2 rfl) ?_
    refine bx_sl C (kX5_size l x3 x5) bx_B_true (fun _ _ _ => trivial) tw_methodLink_RX5_67_yX5_size mbX5_size rfl ⟨rfl, rfl⟩ ⟨Nat.le_of_ble_eq_true rfl, Nat.le_of_ble_eq_true rfl⟩ ⟨Nat.zero_le _, Nat.zero_le _⟩ hl.1 rfl (Nat.le_of_ble_eq_true rfl) dX5_order_49 ?_
    exact bX5_order_52 s0 (fX5_size x3 x5) C hK0 (lv_sub hl [0] rfl) post hq
  · rw [if_neg c2] at hq
    refine lv_lload_n hx hb dX5_order_36 rfl (lv_at hl 1 rfl) ?_
    refine lv_iload hx hb dX5_order_37 (lv_at hl 2 rfl) ?_
    refine bx_sl C (kX5_size l x3 x5) bx_B_true (fun _ _ _ => trivial) tw_methodLink_RX5_67_yX5_size mbX5_size rfl ⟨rfl, rfl⟩ ⟨Nat.le_of_ble_eq_true rfl, Nat.le_of_ble_eq_true rfl⟩ ⟨Nat.zero_le _, Nat.zero_le _⟩ hl.1 rfl (Nat.le_of_ble_eq_true rfl) dX5_order_39 ?_
    refine lv_lneg hx hb dX5_order_42 ?_
    refine lv_goto (tgt := 52) hx hb dX5_order_43 (by decide) ?_
    exact bX5_order_52 s0 (-(fX5_size x3 x5)) C hK0 (lv_sub hl [0] rfl) post hq
set_option maxRecDepth 20000 in
theorem bX5_order_0 (x1 : Int64) (x3 : Int64) (x5 : Int32) {p : Program} {l : Launch} {e : Env} {s : State} {m : MethodId} {args : Array Value} {below : List Frame} {meth : Method} {c : Code} {h0 : Nat} {ls : Array Slot} (C : bx_C p s m args meth c cX5_order 10 (some .int) RX5) (hK0 : ob_K RX5 h0 s) (hl : lv_has ls 10 [(0, .ref h0), (1, .long x1), (3, .long x3), (5, .int x5)]) (post : Int32 → Prop) (hq : post (fX5_order x1 x3 x5)) : W p l e rmX5_order s m args below meth c s.heap [] 0 0 (MQ below (vp_Si post) args s 0 0 (fun _ => False)) (F0 m 0 ls []) := by
  obtain ⟨hx, hb, hml, hr, hlocks, hown, hts⟩ := id C
  unfold fX5_order at hq
  refine lv_lload_n hx hb dX5_order_0 rfl (lv_at hl 1 rfl) ?_
  refine lv_iload hx hb dX5_order_1 (lv_at hl 3 rfl) ?_
  refine bx_si C (kX5_isNegative l x1 x5) bx_B_true (fun _ _ _ => trivial) tw_methodLink_RX5_109_yX5_isNegative mbX5_isNegative rfl ⟨rfl, rfl⟩ ⟨Nat.le_of_ble_eq_true rfl, Nat.le_of_ble_eq_true rfl⟩ ⟨Nat.zero_le _, Nat.zero_le _⟩ hl.1 rfl (Nat.le_of_ble_eq_true rfl) dX5_order_3 ?_
  refine lv_if_eq (tgt := 19) hx hb dX5_order_6 (by decide) (fun c1 => ?_) (fun c1 => ?_)
  · rw [if_pos c1] at hq
    refine lv_lload_n hx hb dX5_order_19 rfl (lv_at hl 1 rfl) ?_
    refine lv_iload hx hb dX5_order_20 (lv_at hl 3 rfl) ?_
    refine bx_sl C (kX5_size l x1 x5) bx_B_true (fun _ _ _ => trivial) tw_methodLink_RX5_67_yX5_size mbX5_size rfl ⟨rfl, rfl⟩ ⟨Nat.le_of_ble_eq_true rfl, Nat.le_of_ble_eq_true rfl⟩ ⟨Nat.zero_le _, Nat.zero_le _⟩ hl.1 rfl (Nat.le_of_ble_eq_true rfl) dX5_order_22 ?_
    exact bX5_order_25 x3 x5 (fX5_size x1 x5) C hK0 (lv_sub hl [2, 3] rfl) post hq
  · rw [if_neg c1] at hq
    refine lv_lload_n hx hb dX5_order_9 rfl (lv_at hl 1 rfl) ?_
    refine lv_iload hx hb dX5_order_10 (lv_at hl 3 rfl) ?_
    refine bx_sl C (kX5_size l x1 x5) bx_B_true (fun _ _ _ => trivial) tw_methodLink_RX5_67_yX5_size mbX5_size rfl ⟨rfl, rfl⟩ ⟨Nat.le_of_ble_eq_true rfl, Nat.le_of_ble_eq_true rfl⟩ ⟨Nat.zero_le _, Nat.zero_le _⟩ hl.1 rfl (Nat.le_of_ble_eq_true rfl) dX5_order_12 ?_
    refine lv_lneg hx hb dX5_order_15 ?_
    refine lv_goto (tgt := 25) hx hb dX5_order_16 (by decide) ?_
    exact bX5_order_25 x3 x5 (-(fX5_size x1 x5)) C hK0 (lv_sub hl [2, 3] rfl) post hq
theorem kX5_order (l : Launch) (h0 : Nat) (x1 : Int64) (x3 : Int64) (x5 : Int32) : Met l yX5_order (Cond.code yX5_order cX5_order 10 (some .int) :: bw) rmX5_order (va_Pc [.ref h0, .long x1, .long x3, .int x5] (fun U => ob_K RX5 h0 U)) (vp_Si (fun r => r = fX5_order x1 x3 x5)) 0 0 (fun _ => False) := by
  refine bx_ent (by decide) _ _ (Nat.le_of_ble_eq_true rfl) rfl ?_
  intro p e s m below meth c ls C hl hK0
  exact bX5_order_0 x1 x3 x5 C hK0 hl _ rfl
abbrev rmX5_lesser : Room := { frames := 3, cells := 0, slots := 0, locals := 71 }
theorem mbX5_lesser : mb_V RX5 yX5_lesser cX5_lesser 9 (some .long) 4 := ⟨⟨tw_instanceMethod_yX5_lesser, tw_selects_RX5_yX5_lesser_yX5_lesser, tw_initialized_RX5, tw_code_yX5_lesser⟩, rfl, by decide +kernel, by decide +kernel, by decide +kernel⟩
theorem BX5_lesser {h0 : Nat} : bx_B (fun U => ob_K RX5 h0 U) := ob_B RX5 h0
set_option maxRecDepth 20000 in
theorem bX5_lesser_18 (x6 : Int32) {p : Program} {l : Launch} {e : Env} {s : State} {m : MethodId} {args : Array Value} {below : List Frame} {meth : Method} {c : Code} {h0 : Nat} {ls : Array Slot} (C : bx_C p s m args meth c cX5_lesser 9 (some .long) RX5) (hK0 : ob_K RX5 h0 s) (hl : lv_has ls 9 [(6, .int x6)]) (post : Int64 → Prop) (hq : post (fX5_lesser_18 x6)) : W p l e rmX5_lesser s m args below meth c s.heap [] 0 0 (MQ below (vp_Sl post) args s 0 0 (fun _ => False)) (F0 m 18 ls []) := by
  obtain ⟨hx, hb, hml, hr, hlocks, hown, hts⟩ := id C
  unfold fX5_lesser_18 at hq
  refine lv_iload hx hb dX5_lesser_18 (lv_at hl 0 rfl) ?_
  refine bx_sl C (kX5_nan l x6) bx_B_true (fun _ _ _ => trivial) tw_methodLink_RX5_106_yX5_nan mbX5_nan rfl ⟨rfl, rfl⟩ ⟨Nat.le_of_ble_eq_true rfl, Nat.le_of_ble_eq_true rfl⟩ ⟨Nat.zero_le _, Nat.zero_le _⟩ hl.1 rfl (Nat.le_of_ble_eq_true rfl) dX5_lesser_20 ?_
  exact W.lret (v := (fX5_nan x6)) hx hb hr (fun t ht hW => ⟨_, rfl, hq, ht⟩) (fun _ h => absurd h List.not_mem_nil) dX5_lesser_23
set_option maxRecDepth 20000 in
theorem bX5_lesser_58 (x1 : Int64) (x3 : Int64) (x5 : Int32) (s0 : Int32) {p : Program} {l : Launch} {e : Env} {s : State} {m : MethodId} {args : Array Value} {below : List Frame} {meth : Method} {c : Code} {h0 : Nat} {ls : Array Slot} (C : bx_C p s m args meth c cX5_lesser 9 (some .long) RX5) (hK0 : ob_K RX5 h0 s) (hl : lv_has ls 9 [(1, .long x1), (3, .long x3), (5, .int x5)]) (post : Int64 → Prop) (hq : post (fX5_lesser_58 x1 x3 x5 s0)) : W p l e rmX5_lesser s m args below meth c s.heap [] 0 0 (MQ below (vp_Sl post) args s 0 0 (fun _ => False)) (F0 m 58 ls [.int s0]) := by
  obtain ⟨hx, hb, hml, hr, hlocks, hown, hts⟩ := id C
  unfold fX5_lesser_58 at hq
  refine lv_istore (lv' := [(8, .int s0), (1, .long x1), (3, .long x3), (5, .int x5)]) hx hb dX5_lesser_58 hl (by decide) rfl (fun ls hl => ?_)
  refine lv_iload hx hb dX5_lesser_60 (lv_at hl 0 rfl) ?_
  refine lv_iload hx hb dX5_lesser_62 (lv_at hl 3 rfl) ?_
  refine lv_icmp_eq (tgt := 71) hx hb dX5_lesser_64 (by decide) (fun c5 => ?_) (fun c5 => ?_)
  · rw [if_pos c5] at hq
    refine lv_lload_n hx hb dX5_lesser_71 rfl (lv_at hl 2 rfl) ?_
    exact W.lret (v := x3) hx hb hr (fun t ht hW => ⟨_, rfl, hq, ht⟩) (fun _ h => absurd h List.not_mem_nil) dX5_lesser_72
  · rw [if_neg c5] at hq
    refine lv_lload_n hx hb dX5_lesser_67 rfl (lv_at hl 1 rfl) ?_
    refine lv_goto (tgt := 72) hx hb dX5_lesser_68 (by decide) ?_
    exact W.lret (v := x1) hx hb hr (fun t ht hW => ⟨_, rfl, hq, ht⟩) (fun _ h => absurd h List.not_mem_nil) dX5_lesser_72
set_option maxRecDepth 20000 in
theorem bX5_lesser_0 (x1 : Int64) (x3 : Int64) (x5 : Int32) (x6 : Int32) {p : Program} {l : Launch} {e : Env} {s : State} {m : MethodId} {args : Array Value} {below : List Frame} {meth : Method} {c : Code} {h0 : Nat} {ls : Array Slot} (C : bx_C p s m args meth c cX5_lesser 9 (some .long) RX5) (hK0 : ob_K RX5 h0 s) (hl : lv_has ls 9 [(0, .ref h0), (1, .long x1), (3, .long x3), (5, .int x5), (6, .int x6)]) (post : Int64 → Prop) (hq : post (fX5_lesser x1 x3 x5 x6)) : W p l e rmX5_lesser s m args below meth c s.heap [] 0 0 (MQ below (vp_Sl post) args s 0 0 (fun _ => False)) (F0 m 0 ls []) := by
  obtain ⟨hx, hb, hml, hr, hlocks, hown, hts⟩ := id C
  unfold fX5_lesser at hq
  refine lv_lload_n hx hb dX5_lesser_0 rfl (lv_at hl 1 rfl) ?_
  refine lv_iload hx hb dX5_lesser_1 (lv_at hl 4 rfl) ?_
  refine bx_si C (kX5_isNan l x1 x6) bx_B_true (fun _ _ _ => trivial) tw_methodLink_RX5_102_yX5_isNan mbX5_isNan rfl ⟨rfl, rfl⟩ ⟨Nat.le_of_ble_eq_true rfl, Nat.le_of_ble_eq_true rfl⟩ ⟨Nat.zero_le _, Nat.zero_le _⟩ hl.1 rfl (Nat.le_of_ble_eq_true rfl) dX5_lesser_3 ?_
  refine lv_if_ne (tgt := 18) hx hb dX5_lesser_6 (by decide) (fun c1 => ?_) (fun c1 => ?_)
  · rw [if_neg c1] at hq
    exact bX5_lesser_18 x6 C hK0 (lv_sub hl [4] rfl) post hq
  · rw [if_pos c1] at hq
    refine lv_lload_n hx hb dX5_lesser_9 rfl (lv_at hl 2 rfl) ?_
    refine lv_iload hx hb dX5_lesser_10 (lv_at hl 4 rfl) ?_
    refine bx_si C (kX5_isNan l x3 x6) bx_B_true (fun _ _ _ => trivial) tw_methodLink_RX5_102_yX5_isNan mbX5_isNan rfl ⟨rfl, rfl⟩ ⟨Nat.le_of_ble_eq_true rfl, Nat.le_of_ble_eq_true rfl⟩ ⟨Nat.zero_le _, Nat.zero_le _⟩ hl.1 rfl (Nat.le_of_ble_eq_true rfl) dX5_lesser_12 ?_
    refine lv_if_eq (tgt := 24) hx hb dX5_lesser_15 (by decide) (fun c2 => ?_) (fun c2 => ?_)
    · rw [if_pos c2] at hq
      refine lv_aload_n hx hb dX5_lesser_24 rfl (lv_at hl 0 rfl) ?_
      refine lv_lload_n hx hb dX5_lesser_25 rfl (lv_at hl 1 rfl) ?_
      refine lv_lload_n hx hb dX5_lesser_26 rfl (lv_at hl 2 rfl) ?_
      refine lv_iload hx hb dX5_lesser_27 (lv_at hl 4 rfl) ?_
      refine bx_vi C (kX5_order l h0 x1 x3 x6) BX5_order (fun U u1 u2 => ob_B RX5 h0 s U u1 u2 hK0) (fun U u1 u2 => ob_B RX5 h0 s U u1 u2 hK0) tw_methodLink_RX5_150_yX5_order mbX5_order rfl ⟨rfl, rfl⟩ ⟨Nat.le_of_ble_eq_true rfl, Nat.le_of_ble_eq_true rfl⟩ ⟨Nat.zero_le _, Nat.zero_le _⟩ hl.1 rfl (Nat.le_of_ble_eq_true rfl) dX5_lesser_29 ?_
      refine lv_istore (lv' := [(7, .int (fX5_order x1 x3 x6)), (0, .ref h0), (1, .long x1), (3, .long x3), (5, .int x5), (6, .int x6)]) hx hb dX5_lesser_32 hl (by decide) rfl (fun ls hl => ?_)
      refine lv_iload hx hb dX5_lesser_34 (lv_at hl 0 rfl) ?_
      refine lv_if_ne (tgt := 48) hx hb dX5_lesser_36 (by decide) (fun c3 => ?_) (fun c3 => ?_)
      · rw [if_neg c3] at hq
        refine lv_iload hx hb dX5_lesser_48 (lv_at hl 0 rfl) ?_
        refine lv_if_ge (tgt := 57) hx hb dX5_lesser_50 (by decide) (fun c4 => ?_) (fun c4 => ?_)
        · rw [if_pos c4] at hq
          refine lv_iconst (v := 0) hx hb dX5_lesser_57 (by decide) ?_
          exact bX5_lesser_58 x1 x3 x5 (0 : Int32) C hK0 (lv_sub hl [2, 3, 4] rfl) post hq
        · rw [if_neg c4] at hq
          refine lv_iconst (v := 1) hx hb dX5_lesser_53 (by decide) ?_
          refine lv_goto (tgt := 58) hx hb dX5_lesser_54 (by decide) ?_
          exact bX5_lesser_58 x1 x3 x5 (1 : Int32) C hK0 (lv_sub hl [2, 3, 4] rfl) post hq
      · rw [if_pos c3] at hq
        refine lv_lload_n hx hb dX5_lesser_39 rfl (lv_at hl 2 rfl) ?_
        refine lv_iload hx hb dX5_lesser_40 (lv_at hl 5 rfl) ?_
        refine bx_si C (kX5_isNegative l x1 x6) bx_B_true (fun _ _ _ => trivial) tw_methodLink_RX5_109_yX5_isNegative mbX5_isNegative rfl ⟨rfl, rfl⟩ ⟨Nat.le_of_ble_eq_true rfl, Nat.le_of_ble_eq_true rfl⟩ ⟨Nat.zero_le _, Nat.zero_le _⟩ hl.1 rfl (Nat.le_of_ble_eq_true rfl) dX5_lesser_42 ?_
        refine lv_goto (tgt := 58) hx hb dX5_lesser_45 (by decide) ?_
        exact bX5_lesser_58 x1 x3 x5 (fX5_isNegative x1 x6) C hK0 (lv_sub hl [2, 3, 4] rfl) post hq
    · rw [if_neg c2] at hq
      exact bX5_lesser_18 x6 C hK0 (lv_sub hl [4] rfl) post hq
theorem kX5_lesser (l : Launch) (h0 : Nat) (x1 : Int64) (x3 : Int64) (x5 : Int32) (x6 : Int32) : Met l yX5_lesser (Cond.code yX5_lesser cX5_lesser 9 (some .long) :: bw) rmX5_lesser (va_Pc [.ref h0, .long x1, .long x3, .int x5, .int x6] (fun U => ob_K RX5 h0 U)) (vp_Sl (fun r => r = fX5_lesser x1 x3 x5 x6)) 0 0 (fun _ => False) := by
  refine bx_ent (by decide) _ _ (Nat.le_of_ble_eq_true rfl) rfl ?_
  intro p e s m below meth c ls C hl hK0
  exact bX5_lesser_0 x1 x3 x5 x6 C hK0 hl _ rfl
abbrev rmX5_scaled : Room := { frames := 4, cells := 0, slots := 0, locals := 88 }
theorem mbX5_scaled : mb_V RX5 yX5_scaled cX5_scaled 8 (some .long) 3 := ⟨⟨tw_instanceMethod_yX5_scaled, tw_selects_RX5_yX5_scaled_yX5_scaled, tw_initialized_RX5, tw_code_yX5_scaled⟩, rfl, by decide +kernel, by decide +kernel, by decide +kernel⟩
theorem BX5_scaled {h0 : Nat} : bx_B (fun U => ob_K RX5 h0 U) := ob_B RX5 h0
set_option maxRecDepth 20000 in
theorem bX5_scaled_64 (x1 : Int64) (x5 : Int32) (s0 : Int64) {p : Program} {l : Launch} {e : Env} {s : State} {m : MethodId} {args : Array Value} {below : List Frame} {meth : Method} {c : Code} {h0 : Nat} {ls : Array Slot} (C : bx_C p s m args meth c cX5_scaled 8 (some .long) RX5) (hK0 : ob_K RX5 h0 s) (hl : lv_has ls 8 [(1, .long x1), (5, .int x5)]) (post : Int64 → Prop) (hq : post (fX5_scaled_64 x1 x5 s0)) : W p l e rmX5_scaled s m args below meth c s.heap [] 0 0 (MQ below (vp_Sl post) args s 0 0 (fun _ => False)) (F0 m 64 ls [.long s0]) := by
  obtain ⟨hx, hb, hml, hr, hlocks, hown, hts⟩ := id C
  unfold fX5_scaled_64 at hq
  refine lv_lstore (lv' := [(6, .long s0), (1, .long x1), (5, .int x5)]) hx hb dX5_scaled_64 hl (by decide) rfl (fun ls hl => ?_)
  refine lv_lload_n hx hb dX5_scaled_66 rfl (lv_at hl 1 rfl) ?_
  refine lv_iload hx hb dX5_scaled_67 (lv_at hl 2 rfl) ?_
  refine bx_si C (kX5_isNegative l x1 x5) bx_B_true (fun _ _ _ => trivial) tw_methodLink_RX5_109_yX5_isNegative mbX5_isNegative rfl ⟨rfl, rfl⟩ ⟨Nat.le_of_ble_eq_true rfl, Nat.le_of_ble_eq_true rfl⟩ ⟨Nat.zero_le _, Nat.zero_le _⟩ hl.1 rfl (Nat.le_of_ble_eq_true rfl) dX5_scaled_69 ?_
  refine lv_lload_n hx hb dX5_scaled_72 rfl (lv_at hl 1 rfl) ?_
  refine lv_iload hx hb dX5_scaled_73 (lv_at hl 2 rfl) ?_
  refine bx_sl C (kX5_digitsOf l x1 x5) bx_B_true (fun _ _ _ => trivial) tw_methodLink_RX5_118_yX5_digitsOf mbX5_digitsOf rfl ⟨rfl, rfl⟩ ⟨Nat.le_of_ble_eq_true rfl, Nat.le_of_ble_eq_true rfl⟩ ⟨Nat.zero_le _, Nat.zero_le _⟩ hl.1 rfl (Nat.le_of_ble_eq_true rfl) dX5_scaled_75 ?_
  refine lv_lload_n hx hb dX5_scaled_78 rfl (lv_at hl 1 rfl) ?_
  refine lv_iload hx hb dX5_scaled_79 (lv_at hl 2 rfl) ?_
  refine bx_si C (kX5_exponentOf l x1 x5) bx_B_true (fun _ _ _ => trivial) tw_methodLink_RX5_121_yX5_exponentOf mbX5_exponentOf rfl ⟨rfl, rfl⟩ ⟨Nat.le_of_ble_eq_true rfl, Nat.le_of_ble_eq_true rfl⟩ ⟨Nat.zero_le _, Nat.zero_le _⟩ hl.1 rfl (Nat.le_of_ble_eq_true rfl) dX5_scaled_81 ?_
  refine lv_lload hx hb dX5_scaled_84 (lv_at hl 0 rfl) ?_
  refine bx_l2i hx hb dX5_scaled_86 ?_
  refine lv_iadd hx hb dX5_scaled_87 ?_
  refine lv_iconst (v := 0) hx hb dX5_scaled_88 (by decide) ?_
  refine lv_iload hx hb dX5_scaled_89 (lv_at hl 2 rfl) ?_
  refine bx_sl C (kX5_rounded l (fX5_isNegative x1 x5) (fX5_digitsOf x1 x5) ((fX5_exponentOf x1 x5) + s0.toInt32) (0 : Int32) x5) bx_B_true (fun _ _ _ => trivial) tw_methodLink_RX5_98_yX5_rounded mbX5_rounded rfl ⟨rfl, rfl⟩ ⟨Nat.le_of_ble_eq_true rfl, Nat.le_of_ble_eq_true rfl⟩ ⟨Nat.zero_le _, Nat.zero_le _⟩ hl.1 rfl (Nat.le_of_ble_eq_true rfl) dX5_scaled_91 ?_
  exact W.lret (v := (fX5_rounded (fX5_isNegative x1 x5) (fX5_digitsOf x1 x5) ((fX5_exponentOf x1 x5) + s0.toInt32) (0 : Int32) x5)) hx hb hr (fun t ht hW => ⟨_, rfl, hq, ht⟩) (fun _ h => absurd h List.not_mem_nil) dX5_scaled_94
set_option maxRecDepth 20000 in
theorem bX5_scaled_0 (x1 : Int64) (x3 : Int64) (x5 : Int32) {p : Program} {l : Launch} {e : Env} {s : State} {m : MethodId} {args : Array Value} {below : List Frame} {meth : Method} {c : Code} {h0 : Nat} {ls : Array Slot} (C : bx_C p s m args meth c cX5_scaled 8 (some .long) RX5) (hK0 : ob_K RX5 h0 s) (hl : lv_has ls 8 [(0, .ref h0), (1, .long x1), (3, .long x3), (5, .int x5)]) (post : Int64 → Prop) (hq : post (fX5_scaled x1 x3 x5)) : W p l e rmX5_scaled s m args below meth c s.heap [] 0 0 (MQ below (vp_Sl post) args s 0 0 (fun _ => False)) (F0 m 0 ls []) := by
  obtain ⟨hx, hb, hml, hr, hlocks, hown, hts⟩ := id C
  unfold fX5_scaled at hq
  refine lv_lload_n hx hb dX5_scaled_0 rfl (lv_at hl 1 rfl) ?_
  refine lv_iload hx hb dX5_scaled_1 (lv_at hl 3 rfl) ?_
  refine bx_si C (kX5_isNan l x1 x5) bx_B_true (fun _ _ _ => trivial) tw_methodLink_RX5_102_yX5_isNan mbX5_isNan rfl ⟨rfl, rfl⟩ ⟨Nat.le_of_ble_eq_true rfl, Nat.le_of_ble_eq_true rfl⟩ ⟨Nat.zero_le _, Nat.zero_le _⟩ hl.1 rfl (Nat.le_of_ble_eq_true rfl) dX5_scaled_3 ?_
  refine lv_if_eq (tgt := 15) hx hb dX5_scaled_6 (by decide) (fun c1 => ?_) (fun c1 => ?_)
  · rw [if_pos c1] at hq
    refine lv_lload_n hx hb dX5_scaled_15 rfl (lv_at hl 1 rfl) ?_
    refine lv_iload hx hb dX5_scaled_16 (lv_at hl 3 rfl) ?_
    refine bx_si C (kX5_isInfinite l x1 x5) bx_B_true (fun _ _ _ => trivial) tw_methodLink_RX5_112_yX5_isInfinite mbX5_isInfinite rfl ⟨rfl, rfl⟩ ⟨Nat.le_of_ble_eq_true rfl, Nat.le_of_ble_eq_true rfl⟩ ⟨Nat.zero_le _, Nat.zero_le _⟩ hl.1 rfl (Nat.le_of_ble_eq_true rfl) dX5_scaled_18 ?_
    refine lv_if_ne (tgt := 33) hx hb dX5_scaled_21 (by decide) (fun c2 => ?_) (fun c2 => ?_)
    · rw [if_neg c2] at hq
      refine lv_lload_n hx hb dX5_scaled_33 rfl (lv_at hl 1 rfl) ?_
      exact W.lret (v := x1) hx hb hr (fun t ht hW => ⟨_, rfl, hq, ht⟩) (fun _ h => absurd h List.not_mem_nil) dX5_scaled_34
    · rw [if_pos c2] at hq
      refine lv_lload_n hx hb dX5_scaled_24 rfl (lv_at hl 1 rfl) ?_
      refine lv_iload hx hb dX5_scaled_25 (lv_at hl 3 rfl) ?_
      refine bx_si C (kX5_isZero l x1 x5) bx_B_true (fun _ _ _ => trivial) tw_methodLink_RX5_127_yX5_isZero mbX5_isZero rfl ⟨rfl, rfl⟩ ⟨Nat.le_of_ble_eq_true rfl, Nat.le_of_ble_eq_true rfl⟩ ⟨Nat.zero_le _, Nat.zero_le _⟩ hl.1 rfl (Nat.le_of_ble_eq_true rfl) dX5_scaled_27 ?_
      refine lv_if_eq (tgt := 35) hx hb dX5_scaled_30 (by decide) (fun c3 => ?_) (fun c3 => ?_)
      · rw [if_pos c3] at hq
        refine lv_lload_n hx hb dX5_scaled_35 rfl (lv_at hl 2 rfl) ?_
        refine lv_ldc2 (v := 5000) hx hb hown (hts _ tw_constantLong_RX5_163_5000) dX5_scaled_36 ?_
        refine bx_lc_le (tgt := 49) hx hb dX5_scaled_39 dX5_scaled_40 (by decide) (fun c4 => ?_) (fun c4 => ?_)
        · rw [if_pos c4] at hq
          refine lv_lload_n hx hb dX5_scaled_49 rfl (lv_at hl 2 rfl) ?_
          refine lv_ldc2 (v := -5000) hx hb hown (hts _ tw_constantLong_RX5_165_5000) dX5_scaled_50 ?_
          refine bx_lc_ge (tgt := 63) hx hb dX5_scaled_53 dX5_scaled_54 (by decide) (fun c5 => ?_) (fun c5 => ?_)
          · rw [if_pos c5] at hq
            refine lv_lload_n hx hb dX5_scaled_63 rfl (lv_at hl 2 rfl) ?_
            exact bX5_scaled_64 x1 x5 x3 C hK0 (lv_sub hl [1, 3] rfl) post hq
          · rw [if_neg c5] at hq
            refine lv_ldc2 (v := -5000) hx hb hown (hts _ tw_constantLong_RX5_165_5000) dX5_scaled_57 ?_
            refine lv_goto (tgt := 64) hx hb dX5_scaled_60 (by decide) ?_
            exact bX5_scaled_64 x1 x5 (-5000 : Int64) C hK0 (lv_sub hl [1, 3] rfl) post hq
        · rw [if_neg c4] at hq
          refine lv_ldc2 (v := 5000) hx hb hown (hts _ tw_constantLong_RX5_163_5000) dX5_scaled_43 ?_
          refine lv_goto (tgt := 64) hx hb dX5_scaled_46 (by decide) ?_
          exact bX5_scaled_64 x1 x5 (5000 : Int64) C hK0 (lv_sub hl [1, 3] rfl) post hq
      · rw [if_neg c3] at hq
        refine lv_lload_n hx hb dX5_scaled_33 rfl (lv_at hl 1 rfl) ?_
        exact W.lret (v := x1) hx hb hr (fun t ht hW => ⟨_, rfl, hq, ht⟩) (fun _ h => absurd h List.not_mem_nil) dX5_scaled_34
  · rw [if_neg c1] at hq
    refine lv_iload hx hb dX5_scaled_9 (lv_at hl 3 rfl) ?_
    refine bx_sl C (kX5_nan l x5) bx_B_true (fun _ _ _ => trivial) tw_methodLink_RX5_106_yX5_nan mbX5_nan rfl ⟨rfl, rfl⟩ ⟨Nat.le_of_ble_eq_true rfl, Nat.le_of_ble_eq_true rfl⟩ ⟨Nat.zero_le _, Nat.zero_le _⟩ hl.1 rfl (Nat.le_of_ble_eq_true rfl) dX5_scaled_11 ?_
    exact W.lret (v := (fX5_nan x5)) hx hb hr (fun t ht hW => ⟨_, rfl, hq, ht⟩) (fun _ h => absurd h List.not_mem_nil) dX5_scaled_14
theorem kX5_scaled (l : Launch) (h0 : Nat) (x1 : Int64) (x3 : Int64) (x5 : Int32) : Met l yX5_scaled (Cond.code yX5_scaled cX5_scaled 8 (some .long) :: bw) rmX5_scaled (va_Pc [.ref h0, .long x1, .long x3, .int x5] (fun U => ob_K RX5 h0 U)) (vp_Sl (fun r => r = fX5_scaled x1 x3 x5)) 0 0 (fun _ => False) := by
  refine bx_ent (by decide) _ _ (Nat.le_of_ble_eq_true rfl) rfl ?_
  intro p e s m below meth c ls C hl hK0
  exact bX5_scaled_0 x1 x3 x5 C hK0 hl _ rfl
abbrev rmX5_nextUp : Room := { frames := 3, cells := 0, slots := 0, locals := 64 }
theorem mbX5_nextUp : mb_V RX5 yX5_nextUp cX5_nextUp 5 (some .long) 2 := ⟨⟨tw_instanceMethod_yX5_nextUp, tw_selects_RX5_yX5_nextUp_yX5_nextUp, tw_initialized_RX5, tw_code_yX5_nextUp⟩, rfl, by decide +kernel, by decide +kernel, by decide +kernel⟩
theorem BX5_nextUp {h0 : Nat} : bx_B (fun U => ob_K RX5 h0 U) := ob_B RX5 h0
set_option maxRecDepth 20000 in
theorem bX5_nextUp_0 (x1 : Int64) (x3 : Int32) {p : Program} {l : Launch} {e : Env} {s : State} {m : MethodId} {args : Array Value} {below : List Frame} {meth : Method} {c : Code} {h0 : Nat} {ls : Array Slot} (C : bx_C p s m args meth c cX5_nextUp 5 (some .long) RX5) (hK0 : ob_K RX5 h0 s) (hl : lv_has ls 5 [(0, .ref h0), (1, .long x1), (3, .int x3)]) (post : Int64 → Prop) (hq : post (fX5_nextUp x1 x3)) : W p l e rmX5_nextUp s m args below meth c s.heap [] 0 0 (MQ below (vp_Sl post) args s 0 0 (fun _ => False)) (F0 m 0 ls []) := by
  obtain ⟨hx, hb, hml, hr, hlocks, hown, hts⟩ := id C
  unfold fX5_nextUp at hq
  refine lv_lload_n hx hb dX5_nextUp_0 rfl (lv_at hl 1 rfl) ?_
  refine lv_iload_n hx hb dX5_nextUp_1 rfl (lv_at hl 2 rfl) ?_
  refine bx_si C (kX5_isNan l x1 x3) bx_B_true (fun _ _ _ => trivial) tw_methodLink_RX5_102_yX5_isNan mbX5_isNan rfl ⟨rfl, rfl⟩ ⟨Nat.le_of_ble_eq_true rfl, Nat.le_of_ble_eq_true rfl⟩ ⟨Nat.zero_le _, Nat.zero_le _⟩ hl.1 rfl (Nat.le_of_ble_eq_true rfl) dX5_nextUp_2 ?_
  refine lv_if_eq (tgt := 13) hx hb dX5_nextUp_5 (by decide) (fun c1 => ?_) (fun c1 => ?_)
  · rw [if_pos c1] at hq
    refine lv_lload_n hx hb dX5_nextUp_13 rfl (lv_at hl 1 rfl) ?_
    refine lv_iload_n hx hb dX5_nextUp_14 rfl (lv_at hl 2 rfl) ?_
    refine bx_si C (kX5_isZero l x1 x3) bx_B_true (fun _ _ _ => trivial) tw_methodLink_RX5_127_yX5_isZero mbX5_isZero rfl ⟨rfl, rfl⟩ ⟨Nat.le_of_ble_eq_true rfl, Nat.le_of_ble_eq_true rfl⟩ ⟨Nat.zero_le _, Nat.zero_le _⟩ hl.1 rfl (Nat.le_of_ble_eq_true rfl) dX5_nextUp_15 ?_
    refine lv_if_eq (tgt := 23) hx hb dX5_nextUp_18 (by decide) (fun c2 => ?_) (fun c2 => ?_)
    · rw [if_pos c2] at hq
      refine lv_lload_n hx hb dX5_nextUp_23 rfl (lv_at hl 1 rfl) ?_
      refine lv_iload_n hx hb dX5_nextUp_24 rfl (lv_at hl 2 rfl) ?_
      refine bx_si C (kX5_isNegative l x1 x3) bx_B_true (fun _ _ _ => trivial) tw_methodLink_RX5_109_yX5_isNegative mbX5_isNegative rfl ⟨rfl, rfl⟩ ⟨Nat.le_of_ble_eq_true rfl, Nat.le_of_ble_eq_true rfl⟩ ⟨Nat.zero_le _, Nat.zero_le _⟩ hl.1 rfl (Nat.le_of_ble_eq_true rfl) dX5_nextUp_25 ?_
      refine lv_istore (lv' := [(4, .int (fX5_isNegative x1 x3)), (0, .ref h0), (1, .long x1), (3, .int x3)]) hx hb dX5_nextUp_28 hl (by decide) rfl (fun ls hl => ?_)
      refine lv_iload hx hb dX5_nextUp_30 (lv_at hl 0 rfl) ?_
      refine lv_if_eq (tgt := 41) hx hb dX5_nextUp_32 (by decide) (fun c3 => ?_) (fun c3 => ?_)
      · rw [if_pos c3] at hq
        refine lv_lload_n hx hb dX5_nextUp_41 rfl (lv_at hl 2 rfl) ?_
        refine lv_iload_n hx hb dX5_nextUp_42 rfl (lv_at hl 3 rfl) ?_
        refine bx_si C (kX5_isInfinite l x1 x3) bx_B_true (fun _ _ _ => trivial) tw_methodLink_RX5_112_yX5_isInfinite mbX5_isInfinite rfl ⟨rfl, rfl⟩ ⟨Nat.le_of_ble_eq_true rfl, Nat.le_of_ble_eq_true rfl⟩ ⟨Nat.zero_le _, Nat.zero_le _⟩ hl.1 rfl (Nat.le_of_ble_eq_true rfl) dX5_nextUp_43 ?_
        refine lv_if_eq (tgt := 53) hx hb dX5_nextUp_46 (by decide) (fun c4 => ?_) (fun c4 => ?_)
        · rw [if_pos c4] at hq
          refine lv_lload_n hx hb dX5_nextUp_53 rfl (lv_at hl 2 rfl) ?_
          refine lv_lconst (v := 1) hx hb dX5_nextUp_54 (by decide) ?_
          refine lv_ladd hx hb dX5_nextUp_55 ?_
          exact W.lret (v := (x1 + (1 : Int64))) hx hb hr (fun t ht hW => ⟨_, rfl, hq, ht⟩) (fun _ h => absurd h List.not_mem_nil) dX5_nextUp_56
        · rw [if_neg c4] at hq
          refine lv_lload_n hx hb dX5_nextUp_49 rfl (lv_at hl 2 rfl) ?_
          refine lv_goto (tgt := 56) hx hb dX5_nextUp_50 (by decide) ?_
          exact W.lret (v := x1) hx hb hr (fun t ht hW => ⟨_, rfl, hq, ht⟩) (fun _ h => absurd h List.not_mem_nil) dX5_nextUp_56
      · rw [if_neg c3] at hq
        refine lv_lload_n hx hb dX5_nextUp_35 rfl (lv_at hl 2 rfl) ?_
        refine lv_lconst (v := 1) hx hb dX5_nextUp_36 (by decide) ?_
        refine lv_lsub hx hb dX5_nextUp_37 ?_
        refine lv_goto (tgt := 56) hx hb dX5_nextUp_38 (by decide) ?_
        exact W.lret (v := (x1 - (1 : Int64))) hx hb hr (fun t ht hW => ⟨_, rfl, hq, ht⟩) (fun _ h => absurd h List.not_mem_nil) dX5_nextUp_56
    · rw [if_neg c2] at hq
      refine lv_lconst (v := 1) hx hb dX5_nextUp_21 (by decide) ?_
      exact W.lret (v := (1 : Int64)) hx hb hr (fun t ht hW => ⟨_, rfl, hq, ht⟩) (fun _ h => absurd h List.not_mem_nil) dX5_nextUp_22
  · rw [if_neg c1] at hq
    refine lv_iload_n hx hb dX5_nextUp_8 rfl (lv_at hl 2 rfl) ?_
    refine bx_sl C (kX5_nan l x3) bx_B_true (fun _ _ _ => trivial) tw_methodLink_RX5_106_yX5_nan mbX5_nan rfl ⟨rfl, rfl⟩ ⟨Nat.le_of_ble_eq_true rfl, Nat.le_of_ble_eq_true rfl⟩ ⟨Nat.zero_le _, Nat.zero_le _⟩ hl.1 rfl (Nat.le_of_ble_eq_true rfl) dX5_nextUp_9 ?_
    exact W.lret (v := (fX5_nan x3)) hx hb hr (fun t ht hW => ⟨_, rfl, hq, ht⟩) (fun _ h => absurd h List.not_mem_nil) dX5_nextUp_12
theorem kX5_nextUp (l : Launch) (h0 : Nat) (x1 : Int64) (x3 : Int32) : Met l yX5_nextUp (Cond.code yX5_nextUp cX5_nextUp 5 (some .long) :: bw) rmX5_nextUp (va_Pc [.ref h0, .long x1, .int x3] (fun U => ob_K RX5 h0 U)) (vp_Sl (fun r => r = fX5_nextUp x1 x3)) 0 0 (fun _ => False) := by
  refine bx_ent (by decide) _ _ (Nat.le_of_ble_eq_true rfl) rfl ?_
  intro p e s m below meth c ls C hl hK0
  exact bX5_nextUp_0 x1 x3 C hK0 hl _ rfl
abbrev rmX5_stepOf : Room := { frames := 4, cells := 0, slots := 0, locals := 87 }
theorem mbX5_stepOf : mb_V RX5 yX5_stepOf cX5_stepOf 4 (some .long) 2 := ⟨⟨tw_instanceMethod_yX5_stepOf, tw_selects_RX5_yX5_stepOf_yX5_stepOf, tw_initialized_RX5, tw_code_yX5_stepOf⟩, rfl, by decide +kernel, by decide +kernel, by decide +kernel⟩
theorem BX5_stepOf {h0 : Nat} : bx_B (fun U => ob_K RX5 h0 U) := ob_B RX5 h0
set_option maxRecDepth 20000 in
theorem bX5_stepOf_0 (x1 : Int64) (x3 : Int32) {p : Program} {l : Launch} {e : Env} {s : State} {m : MethodId} {args : Array Value} {below : List Frame} {meth : Method} {c : Code} {h0 : Nat} {ls : Array Slot} (C : bx_C p s m args meth c cX5_stepOf 4 (some .long) RX5) (hK0 : ob_K RX5 h0 s) (hl : lv_has ls 4 [(0, .ref h0), (1, .long x1), (3, .int x3)]) (post : Int64 → Prop) (hq : post (fX5_stepOf x1 x3)) : W p l e rmX5_stepOf s m args below meth c s.heap [] 0 0 (MQ below (vp_Sl post) args s 0 0 (fun _ => False)) (F0 m 0 ls []) := by
  obtain ⟨hx, hb, hml, hr, hlocks, hown, hts⟩ := id C
  unfold fX5_stepOf at hq
  refine lv_lload_n hx hb dX5_stepOf_0 rfl (lv_at hl 1 rfl) ?_
  refine lv_iload_n hx hb dX5_stepOf_1 rfl (lv_at hl 2 rfl) ?_
  refine bx_si C (kX5_isNan l x1 x3) bx_B_true (fun _ _ _ => trivial) tw_methodLink_RX5_102_yX5_isNan mbX5_isNan rfl ⟨rfl, rfl⟩ ⟨Nat.le_of_ble_eq_true rfl, Nat.le_of_ble_eq_true rfl⟩ ⟨Nat.zero_le _, Nat.zero_le _⟩ hl.1 rfl (Nat.le_of_ble_eq_true rfl) dX5_stepOf_2 ?_
  refine lv_if_eq (tgt := 13) hx hb dX5_stepOf_5 (by decide) (fun c1 => ?_) (fun c1 => ?_)
  · rw [if_pos c1] at hq
    refine lv_lload_n hx hb dX5_stepOf_13 rfl (lv_at hl 1 rfl) ?_
    refine lv_iload_n hx hb dX5_stepOf_14 rfl (lv_at hl 2 rfl) ?_
    refine bx_si C (kX5_isInfinite l x1 x3) bx_B_true (fun _ _ _ => trivial) tw_methodLink_RX5_112_yX5_isInfinite mbX5_isInfinite rfl ⟨rfl, rfl⟩ ⟨Nat.le_of_ble_eq_true rfl, Nat.le_of_ble_eq_true rfl⟩ ⟨Nat.zero_le _, Nat.zero_le _⟩ hl.1 rfl (Nat.le_of_ble_eq_true rfl) dX5_stepOf_15 ?_
    refine lv_if_eq (tgt := 27) hx hb dX5_stepOf_18 (by decide) (fun c2 => ?_) (fun c2 => ?_)
    · rw [if_pos c2] at hq
      refine lv_iconst (v := 0) hx hb dX5_stepOf_27 (by decide) ?_
      refine lv_lconst (v := 1) hx hb dX5_stepOf_28 (by decide) ?_
      refine lv_lload_n hx hb dX5_stepOf_29 rfl (lv_at hl 1 rfl) ?_
      refine lv_iload_n hx hb dX5_stepOf_30 rfl (lv_at hl 2 rfl) ?_
      refine bx_si C (kX5_exponentOf l x1 x3) bx_B_true (fun _ _ _ => trivial) tw_methodLink_RX5_121_yX5_exponentOf mbX5_exponentOf rfl ⟨rfl, rfl⟩ ⟨Nat.le_of_ble_eq_true rfl, Nat.le_of_ble_eq_true rfl⟩ ⟨Nat.zero_le _, Nat.zero_le _⟩ hl.1 rfl (Nat.le_of_ble_eq_true rfl) dX5_stepOf_31 ?_
      refine lv_iconst (v := 0) hx hb dX5_stepOf_34 (by decide) ?_
      refine lv_iload_n hx hb dX5_stepOf_35 rfl (lv_at hl 2 rfl) ?_
      refine bx_sl C (kX5_rounded l (0 : Int32) (1 : Int64) (fX5_exponentOf x1 x3) (0 : Int32) x3) bx_B_true (fun _ _ _ => trivial) tw_methodLink_RX5_98_yX5_rounded mbX5_rounded rfl ⟨rfl, rfl⟩ ⟨Nat.le_of_ble_eq_true rfl, Nat.le_of_ble_eq_true rfl⟩ ⟨Nat.zero_le _, Nat.zero_le _⟩ hl.1 rfl (Nat.le_of_ble_eq_true rfl) dX5_stepOf_36 ?_
      exact W.lret (v := (fX5_rounded (0 : Int32) (1 : Int64) (fX5_exponentOf x1 x3) (0 : Int32) x3)) hx hb hr (fun t ht hW => ⟨_, rfl, hq, ht⟩) (fun _ h => absurd h List.not_mem_nil) dX5_stepOf_39
    · rw [if_neg c2] at hq
      refine lv_iconst (v := 0) hx hb dX5_stepOf_21 (by decide) ?_
      refine lv_iload_n hx hb dX5_stepOf_22 rfl (lv_at hl 2 rfl) ?_
      refine bx_sl C (kX5_infinite l (0 : Int32) x3) bx_B_true (fun _ _ _ => trivial) tw_methodLink_RX5_71_yX5_infinite mbX5_infinite rfl ⟨rfl, rfl⟩ ⟨Nat.le_of_ble_eq_true rfl, Nat.le_of_ble_eq_true rfl⟩ ⟨Nat.zero_le _, Nat.zero_le _⟩ hl.1 rfl (Nat.le_of_ble_eq_true rfl) dX5_stepOf_23 ?_
      exact W.lret (v := (fX5_infinite (0 : Int32) x3)) hx hb hr (fun t ht hW => ⟨_, rfl, hq, ht⟩) (fun _ h => absurd h List.not_mem_nil) dX5_stepOf_26
  · rw [if_neg c1] at hq
    refine lv_iload_n hx hb dX5_stepOf_8 rfl (lv_at hl 2 rfl) ?_
    refine bx_sl C (kX5_nan l x3) bx_B_true (fun _ _ _ => trivial) tw_methodLink_RX5_106_yX5_nan mbX5_nan rfl ⟨rfl, rfl⟩ ⟨Nat.le_of_ble_eq_true rfl, Nat.le_of_ble_eq_true rfl⟩ ⟨Nat.zero_le _, Nat.zero_le _⟩ hl.1 rfl (Nat.le_of_ble_eq_true rfl) dX5_stepOf_9 ?_
    exact W.lret (v := (fX5_nan x3)) hx hb hr (fun t ht hW => ⟨_, rfl, hq, ht⟩) (fun _ h => absurd h List.not_mem_nil) dX5_stepOf_12
theorem kX5_stepOf (l : Launch) (h0 : Nat) (x1 : Int64) (x3 : Int32) : Met l yX5_stepOf (Cond.code yX5_stepOf cX5_stepOf 4 (some .long) :: bw) rmX5_stepOf (va_Pc [.ref h0, .long x1, .int x3] (fun U => ob_K RX5 h0 U)) (vp_Sl (fun r => r = fX5_stepOf x1 x3)) 0 0 (fun _ => False) := by
  refine bx_ent (by decide) _ _ (Nat.le_of_ble_eq_true rfl) rfl ?_
  intro p e s m below meth c ls C hl hK0
  exact bX5_stepOf_0 x1 x3 C hK0 hl _ rfl
abbrev rmX5_exponent : Room := { frames := 3, cells := 0, slots := 0, locals := 64 }
theorem mbX5_exponent : mb_V RX5 yX5_exponent cX5_exponent 4 (some .long) 2 := ⟨⟨tw_instanceMethod_yX5_exponent, tw_selects_RX5_yX5_exponent_yX5_exponent, tw_initialized_RX5, tw_code_yX5_exponent⟩, rfl, by decide +kernel, by decide +kernel, by decide +kernel⟩
theorem BX5_exponent {h0 : Nat} : bx_B (fun U => ob_K RX5 h0 U) := ob_B RX5 h0
set_option maxRecDepth 20000 in
theorem bX5_exponent_0 (x1 : Int64) (x3 : Int32) {p : Program} {l : Launch} {e : Env} {s : State} {m : MethodId} {args : Array Value} {below : List Frame} {meth : Method} {c : Code} {h0 : Nat} {ls : Array Slot} (C : bx_C p s m args meth c cX5_exponent 4 (some .long) RX5) (hK0 : ob_K RX5 h0 s) (hl : lv_has ls 4 [(0, .ref h0), (1, .long x1), (3, .int x3)]) (post : Int64 → Prop) (hq : post (fX5_exponent x1 x3)) : W p l e rmX5_exponent s m args below meth c s.heap [] 0 0 (MQ below (vp_Sl post) args s 0 0 (fun _ => False)) (F0 m 0 ls []) := by
  obtain ⟨hx, hb, hml, hr, hlocks, hown, hts⟩ := id C
  unfold fX5_exponent at hq
  refine lv_lload_n hx hb dX5_exponent_0 rfl (lv_at hl 1 rfl) ?_
  refine lv_iload_n hx hb dX5_exponent_1 rfl (lv_at hl 2 rfl) ?_
  refine bx_si C (kX5_exponentBits l x1 x3) bx_B_true (fun _ _ _ => trivial) tw_methodLink_RX5_75_yX5_exponentBits mbX5_exponentBits rfl ⟨rfl, rfl⟩ ⟨Nat.le_of_ble_eq_true rfl, Nat.le_of_ble_eq_true rfl⟩ ⟨Nat.zero_le _, Nat.zero_le _⟩ hl.1 rfl (Nat.le_of_ble_eq_true rfl) dX5_exponent_2 ?_
  refine lv_iload_n hx hb dX5_exponent_5 rfl (lv_at hl 2 rfl) ?_
  refine bx_si C (kX5_bias l x3) bx_B_true (fun _ _ _ => trivial) tw_methodLink_RX5_79_yX5_bias mbX5_bias rfl ⟨rfl, rfl⟩ ⟨Nat.le_of_ble_eq_true rfl, Nat.le_of_ble_eq_true rfl⟩ ⟨Nat.zero_le _, Nat.zero_le _⟩ hl.1 rfl (Nat.le_of_ble_eq_true rfl) dX5_exponent_6 ?_
  refine lv_isub hx hb dX5_exponent_9 ?_
  refine bx_i2l hx hb dX5_exponent_10 ?_
  exact W.lret (v := ((fX5_exponentBits x1 x3) - (fX5_bias x3)).toInt64) hx hb hr (fun t ht hW => ⟨_, rfl, hq, ht⟩) (fun _ h => absurd h List.not_mem_nil) dX5_exponent_11
theorem kX5_exponent (l : Launch) (h0 : Nat) (x1 : Int64) (x3 : Int32) : Met l yX5_exponent (Cond.code yX5_exponent cX5_exponent 4 (some .long) :: bw) rmX5_exponent (va_Pc [.ref h0, .long x1, .int x3] (fun U => ob_K RX5 h0 U)) (vp_Sl (fun r => r = fX5_exponent x1 x3)) 0 0 (fun _ => False) := by
  refine bx_ent (by decide) _ _ (Nat.le_of_ble_eq_true rfl) rfl ?_
  intro p e s m below meth c ls C hl hK0
  exact bX5_exponent_0 x1 x3 C hK0 hl _ rfl
abbrev rmX5_ofWhole : Room := { frames := 3, cells := 0, slots := 0, locals := 80 }
theorem mbX5_ofWhole : mb_V RX5 yX5_ofWhole cX5_ofWhole 3 (some .long) 2 := ⟨⟨tw_instanceMethod_yX5_ofWhole, tw_selects_RX5_yX5_ofWhole_yX5_ofWhole, tw_initialized_RX5, tw_code_yX5_ofWhole⟩, rfl, by decide +kernel, by decide +kernel, by decide +kernel⟩
theorem BX5_ofWhole {h0 : Nat} : bx_B (fun U => ob_K RX5 h0 U) := ob_B RX5 h0
set_option maxRecDepth 20000 in
theorem bX5_ofWhole_21 (x2 : Int32) (s0 : Int32) (s1 : Int64) {p : Program} {l : Launch} {e : Env} {s : State} {m : MethodId} {args : Array Value} {below : List Frame} {meth : Method} {c : Code} {h0 : Nat} {ls : Array Slot} (C : bx_C p s m args meth c cX5_ofWhole 3 (some .long) RX5) (hK0 : ob_K RX5 h0 s) (hl : lv_has ls 3 [(2, .int x2)]) (post : Int64 → Prop) (hq : post (fX5_ofWhole_21 x2 s0 s1)) : W p l e rmX5_ofWhole s m args below meth c s.heap [] 0 0 (MQ below (vp_Sl post) args s 0 0 (fun _ => False)) (F0 m 21 ls [.long s1, .int s0]) := by
  obtain ⟨hx, hb, hml, hr, hlocks, hown, hts⟩ := id C
  unfold fX5_ofWhole_21 at hq
  refine lv_iconst (v := 0) hx hb dX5_ofWhole_21 (by decide) ?_
  refine lv_iconst (v := 0) hx hb dX5_ofWhole_22 (by decide) ?_
  refine lv_iload_n hx hb dX5_ofWhole_23 rfl (lv_at hl 0 rfl) ?_
  refine bx_sl C (kX5_rounded l s0 s1 (0 : Int32) (0 : Int32) x2) bx_B_true (fun _ _ _ => trivial) tw_methodLink_RX5_98_yX5_rounded mbX5_rounded rfl ⟨rfl, rfl⟩ ⟨Nat.le_of_ble_eq_true rfl, Nat.le_of_ble_eq_true rfl⟩ ⟨Nat.zero_le _, Nat.zero_le _⟩ hl.1 rfl (Nat.le_of_ble_eq_true rfl) dX5_ofWhole_24 ?_
  exact W.lret (v := (fX5_rounded s0 s1 (0 : Int32) (0 : Int32) x2)) hx hb hr (fun t ht hW => ⟨_, rfl, hq, ht⟩) (fun _ h => absurd h List.not_mem_nil) dX5_ofWhole_27
set_option maxRecDepth 20000 in
theorem bX5_ofWhole_9 (x1 : Int32) (x2 : Int32) (s0 : Int32) {p : Program} {l : Launch} {e : Env} {s : State} {m : MethodId} {args : Array Value} {below : List Frame} {meth : Method} {c : Code} {h0 : Nat} {ls : Array Slot} (C : bx_C p s m args meth c cX5_ofWhole 3 (some .long) RX5) (hK0 : ob_K RX5 h0 s) (hl : lv_has ls 3 [(1, .int x1), (2, .int x2)]) (post : Int64 → Prop) (hq : post (fX5_ofWhole_9 x1 x2 s0)) : W p l e rmX5_ofWhole s m args below meth c s.heap [] 0 0 (MQ below (vp_Sl post) args s 0 0 (fun _ => False)) (F0 m 9 ls [.int s0]) := by
  obtain ⟨hx, hb, hml, hr, hlocks, hown, hts⟩ := id C
  unfold fX5_ofWhole_9 at hq
  refine lv_iload_n hx hb dX5_ofWhole_9 rfl (lv_at hl 0 rfl) ?_
  refine lv_if_ge (tgt := 19) hx hb dX5_ofWhole_10 (by decide) (fun c2 => ?_) (fun c2 => ?_)
  · rw [if_pos c2] at hq
    refine lv_iload_n hx hb dX5_ofWhole_19 rfl (lv_at hl 0 rfl) ?_
    refine bx_i2l hx hb dX5_ofWhole_20 ?_
    exact bX5_ofWhole_21 x2 s0 x1.toInt64 C hK0 (lv_sub hl [1] rfl) post hq
  · rw [if_neg c2] at hq
    refine lv_iload_n hx hb dX5_ofWhole_13 rfl (lv_at hl 0 rfl) ?_
    refine bx_i2l hx hb dX5_ofWhole_14 ?_
    refine lv_lneg hx hb dX5_ofWhole_15 ?_
    refine lv_goto (tgt := 21) hx hb dX5_ofWhole_16 (by decide) ?_
    exact bX5_ofWhole_21 x2 s0 (-x1.toInt64) C hK0 (lv_sub hl [1] rfl) post hq
set_option maxRecDepth 20000 in
theorem bX5_ofWhole_0 (x1 : Int32) (x2 : Int32) {p : Program} {l : Launch} {e : Env} {s : State} {m : MethodId} {args : Array Value} {below : List Frame} {meth : Method} {c : Code} {h0 : Nat} {ls : Array Slot} (C : bx_C p s m args meth c cX5_ofWhole 3 (some .long) RX5) (hK0 : ob_K RX5 h0 s) (hl : lv_has ls 3 [(0, .ref h0), (1, .int x1), (2, .int x2)]) (post : Int64 → Prop) (hq : post (fX5_ofWhole x1 x2)) : W p l e rmX5_ofWhole s m args below meth c s.heap [] 0 0 (MQ below (vp_Sl post) args s 0 0 (fun _ => False)) (F0 m 0 ls []) := by
  obtain ⟨hx, hb, hml, hr, hlocks, hown, hts⟩ := id C
  unfold fX5_ofWhole at hq
  refine lv_iload_n hx hb dX5_ofWhole_0 rfl (lv_at hl 1 rfl) ?_
  refine lv_if_ge (tgt := 8) hx hb dX5_ofWhole_1 (by decide) (fun c1 => ?_) (fun c1 => ?_)
  · rw [if_pos c1] at hq
    refine lv_iconst (v := 0) hx hb dX5_ofWhole_8 (by decide) ?_
    exact bX5_ofWhole_9 x1 x2 (0 : Int32) C hK0 (lv_sub hl [1, 2] rfl) post hq
  · rw [if_neg c1] at hq
    refine lv_iconst (v := 1) hx hb dX5_ofWhole_4 (by decide) ?_
    refine lv_goto (tgt := 9) hx hb dX5_ofWhole_5 (by decide) ?_
    exact bX5_ofWhole_9 x1 x2 (1 : Int32) C hK0 (lv_sub hl [1, 2] rfl) post hq
theorem kX5_ofWhole (l : Launch) (h0 : Nat) (x1 : Int32) (x2 : Int32) : Met l yX5_ofWhole (Cond.code yX5_ofWhole cX5_ofWhole 3 (some .long) :: bw) rmX5_ofWhole (va_Pc [.ref h0, .int x1, .int x2] (fun U => ob_K RX5 h0 U)) (vp_Sl (fun r => r = fX5_ofWhole x1 x2)) 0 0 (fun _ => False) := by
  refine bx_ent (by decide) _ _ (Nat.le_of_ble_eq_true rfl) rfl ?_
  intro p e s m below meth c ls C hl hK0
  exact bX5_ofWhole_0 x1 x2 C hK0 hl _ rfl
abbrev rmX5_widen : Room := { frames := 4, cells := 0, slots := 0, locals := 88 }
theorem mbX5_widen : mb_V RX5 yX5_widen cX5_widen 4 (some .long) 1 := ⟨⟨tw_instanceMethod_yX5_widen, tw_selects_RX5_yX5_widen_yX5_widen, tw_initialized_RX5, tw_code_yX5_widen⟩, rfl, by decide +kernel, by decide +kernel, by decide +kernel⟩
theorem BX5_widen {h0 : Nat} : bx_B (fun U => ob_K RX5 h0 U) := ob_B RX5 h0
set_option maxRecDepth 20000 in
theorem bX5_widen_0 (x1 : Int32) {p : Program} {l : Launch} {e : Env} {s : State} {m : MethodId} {args : Array Value} {below : List Frame} {meth : Method} {c : Code} {h0 : Nat} {ls : Array Slot} (C : bx_C p s m args meth c cX5_widen 4 (some .long) RX5) (hK0 : ob_K RX5 h0 s) (hl : lv_has ls 4 [(0, .ref h0), (1, .int x1)]) (post : Int64 → Prop) (hq : post (fX5_widen x1)) : W p l e rmX5_widen s m args below meth c s.heap [] 0 0 (MQ below (vp_Sl post) args s 0 0 (fun _ => False)) (F0 m 0 ls []) := by
  obtain ⟨hx, hb, hml, hr, hlocks, hown, hts⟩ := id C
  unfold fX5_widen at hq
  refine lv_iload_n hx hb dX5_widen_0 rfl (lv_at hl 1 rfl) ?_
  refine bx_sl C (kX5_bits l x1) bx_B_true (fun _ _ _ => trivial) tw_methodLink_RX5_217_yX5_bits mbX5_bits rfl ⟨rfl, rfl⟩ ⟨Nat.le_of_ble_eq_true rfl, Nat.le_of_ble_eq_true rfl⟩ ⟨Nat.zero_le _, Nat.zero_le _⟩ hl.1 rfl (Nat.le_of_ble_eq_true rfl) dX5_widen_1 ?_
  refine lv_lstore_n (lv' := [(2, .long (fX5_bits x1)), (0, .ref h0), (1, .int x1)]) hx hb dX5_widen_4 rfl hl (by decide) rfl (fun ls hl => ?_)
  refine lv_lload_n hx hb dX5_widen_5 rfl (lv_at hl 0 rfl) ?_
  refine lv_iconst (v := 0) hx hb dX5_widen_6 (by decide) ?_
  refine bx_si C (kX5_isNan l (fX5_bits x1) (0 : Int32)) bx_B_true (fun _ _ _ => trivial) tw_methodLink_RX5_102_yX5_isNan mbX5_isNan rfl ⟨rfl, rfl⟩ ⟨Nat.le_of_ble_eq_true rfl, Nat.le_of_ble_eq_true rfl⟩ ⟨Nat.zero_le _, Nat.zero_le _⟩ hl.1 rfl (Nat.le_of_ble_eq_true rfl) dX5_widen_7 ?_
  refine lv_if_eq (tgt := 17) hx hb dX5_widen_10 (by decide) (fun c1 => ?_) (fun c1 => ?_)
  · rw [if_pos c1] at hq
    refine lv_lload_n hx hb dX5_widen_17 rfl (lv_at hl 0 rfl) ?_
    refine lv_iconst (v := 0) hx hb dX5_widen_18 (by decide) ?_
    refine bx_si C (kX5_isInfinite l (fX5_bits x1) (0 : Int32)) bx_B_true (fun _ _ _ => trivial) tw_methodLink_RX5_112_yX5_isInfinite mbX5_isInfinite rfl ⟨rfl, rfl⟩ ⟨Nat.le_of_ble_eq_true rfl, Nat.le_of_ble_eq_true rfl⟩ ⟨Nat.zero_le _, Nat.zero_le _⟩ hl.1 rfl (Nat.le_of_ble_eq_true rfl) dX5_widen_19 ?_
    refine lv_if_eq (tgt := 35) hx hb dX5_widen_22 (by decide) (fun c2 => ?_) (fun c2 => ?_)
    · rw [if_pos c2] at hq
      refine lv_lload_n hx hb dX5_widen_35 rfl (lv_at hl 0 rfl) ?_
      refine lv_iconst (v := 0) hx hb dX5_widen_36 (by decide) ?_
      refine bx_si C (kX5_isNegative l (fX5_bits x1) (0 : Int32)) bx_B_true (fun _ _ _ => trivial) tw_methodLink_RX5_109_yX5_isNegative mbX5_isNegative rfl ⟨rfl, rfl⟩ ⟨Nat.le_of_ble_eq_true rfl, Nat.le_of_ble_eq_true rfl⟩ ⟨Nat.zero_le _, Nat.zero_le _⟩ hl.1 rfl (Nat.le_of_ble_eq_true rfl) dX5_widen_37 ?_
      refine lv_lload_n hx hb dX5_widen_40 rfl (lv_at hl 0 rfl) ?_
      refine lv_iconst (v := 0) hx hb dX5_widen_41 (by decide) ?_
      refine bx_sl C (kX5_digitsOf l (fX5_bits x1) (0 : Int32)) bx_B_true (fun _ _ _ => trivial) tw_methodLink_RX5_118_yX5_digitsOf mbX5_digitsOf rfl ⟨rfl, rfl⟩ ⟨Nat.le_of_ble_eq_true rfl, Nat.le_of_ble_eq_true rfl⟩ ⟨Nat.zero_le _, Nat.zero_le _⟩ hl.1 rfl (Nat.le_of_ble_eq_true rfl) dX5_widen_42 ?_
      refine lv_lload_n hx hb dX5_widen_45 rfl (lv_at hl 0 rfl) ?_
      refine lv_iconst (v := 0) hx hb dX5_widen_46 (by decide) ?_
      refine bx_si C (kX5_exponentOf l (fX5_bits x1) (0 : Int32)) bx_B_true (fun _ _ _ => trivial) tw_methodLink_RX5_121_yX5_exponentOf mbX5_exponentOf rfl ⟨rfl, rfl⟩ ⟨Nat.le_of_ble_eq_true rfl, Nat.le_of_ble_eq_true rfl⟩ ⟨Nat.zero_le _, Nat.zero_le _⟩ hl.1 rfl (Nat.le_of_ble_eq_true rfl) dX5_widen_47 ?_
      refine lv_iconst (v := 0) hx hb dX5_widen_50 (by decide) ?_
      refine lv_iconst (v := 1) hx hb dX5_widen_51 (by decide) ?_
      refine bx_sl C (kX5_rounded l (fX5_isNegative (fX5_bits x1) (0 : Int32)) (fX5_digitsOf (fX5_bits x1) (0 : Int32)) (fX5_exponentOf (fX5_bits x1) (0 : Int32)) (0 : Int32) (1 : Int32)) bx_B_true (fun _ _ _ => trivial) tw_methodLink_RX5_98_yX5_rounded mbX5_rounded rfl ⟨rfl, rfl⟩ ⟨Nat.le_of_ble_eq_true rfl, Nat.le_of_ble_eq_true rfl⟩ ⟨Nat.zero_le _, Nat.zero_le _⟩ hl.1 rfl (Nat.le_of_ble_eq_true rfl) dX5_widen_52 ?_
      exact W.lret (v := (fX5_rounded (fX5_isNegative (fX5_bits x1) (0 : Int32)) (fX5_digitsOf (fX5_bits x1) (0 : Int32)) (fX5_exponentOf (fX5_bits x1) (0 : Int32)) (0 : Int32) (1 : Int32))) hx hb hr (fun t ht hW => ⟨_, rfl, hq, ht⟩) (fun _ h => absurd h List.not_mem_nil) dX5_widen_55
    · rw [if_neg c2] at hq
      refine lv_lload_n hx hb dX5_widen_25 rfl (lv_at hl 0 rfl) ?_
      refine lv_iconst (v := 0) hx hb dX5_widen_26 (by decide) ?_
      refine bx_si C (kX5_isNegative l (fX5_bits x1) (0 : Int32)) bx_B_true (fun _ _ _ => trivial) tw_methodLink_RX5_109_yX5_isNegative mbX5_isNegative rfl ⟨rfl, rfl⟩ ⟨Nat.le_of_ble_eq_true rfl, Nat.le_of_ble_eq_true rfl⟩ ⟨Nat.zero_le _, Nat.zero_le _⟩ hl.1 rfl (Nat.le_of_ble_eq_true rfl) dX5_widen_27 ?_
      refine lv_iconst (v := 1) hx hb dX5_widen_30 (by decide) ?_
      refine bx_sl C (kX5_infinite l (fX5_isNegative (fX5_bits x1) (0 : Int32)) (1 : Int32)) bx_B_true (fun _ _ _ => trivial) tw_methodLink_RX5_71_yX5_infinite mbX5_infinite rfl ⟨rfl, rfl⟩ ⟨Nat.le_of_ble_eq_true rfl, Nat.le_of_ble_eq_true rfl⟩ ⟨Nat.zero_le _, Nat.zero_le _⟩ hl.1 rfl (Nat.le_of_ble_eq_true rfl) dX5_widen_31 ?_
      exact W.lret (v := (fX5_infinite (fX5_isNegative (fX5_bits x1) (0 : Int32)) (1 : Int32))) hx hb hr (fun t ht hW => ⟨_, rfl, hq, ht⟩) (fun _ h => absurd h List.not_mem_nil) dX5_widen_34
  · rw [if_neg c1] at hq
    refine lv_ldc2 (v := 9221120237041090560) hx hb hown (hts _ tw_constantLong_RX5_50_9221120237041090560) dX5_widen_13 ?_
    exact W.lret (v := (9221120237041090560 : Int64)) hx hb hr (fun t ht hW => ⟨_, rfl, hq, ht⟩) (fun _ h => absurd h List.not_mem_nil) dX5_widen_16
theorem kX5_widen (l : Launch) (h0 : Nat) (x1 : Int32) : Met l yX5_widen (Cond.code yX5_widen cX5_widen 4 (some .long) :: bw) rmX5_widen (va_Pc [.ref h0, .int x1] (fun U => ob_K RX5 h0 U)) (vp_Sl (fun r => r = fX5_widen x1)) 0 0 (fun _ => False) := by
  refine bx_ent (by decide) _ _ (Nat.le_of_ble_eq_true rfl) rfl ?_
  intro p e s m below meth c ls C hl hK0
  exact bX5_widen_0 x1 C hK0 hl _ rfl
