theorem rl_o {pf : Nat → Int32} {pa : Nat → Nat → Int32} {df : Nat → Int32} {da : Nat → Nat → Int32} {uf : Nat → Int32} {ua : Nat → Nat → Int32} (h : rl pf pa df da uf ua) : 0 ≤ (uf 11).toInt ∧ (uf 11).toInt ≤ 120 := by
  have := h.2.2.2.2.2.1
  omega
/-- how a case of the law goes on -/
def ll_C (p : Program) (l : Launch) (e : Env) (s : State) (m : MethodId) (below : List Frame) (meth : Method) (c : Code) (b : Nat) (dC : Nat → ClassId) (dI : Nat → Nat → Nat) (h0 g1 g2 : Nat) (rp rd : Nat → Nat) (cp cd : Nat → ClassId) (h9 : Nat) (r : Nat → Nat) (cA : Nat → ClassId) (qo : Nat) (cO : ClassId) (x4 : Int32) (cells slots : Nat) (Q : State → Prop) : Prop :=
  ∀ (pf : Nat → Int32) (pa : Nat → Nat → Int32) (df : Nat → Int32) (da : Nat → Nat → Int32) (ds : Nat → Int64) (uf : Nat → Int32) (ua : Nat → Nat → Int32) (us o : Nat → Int64) (H : Heap) (locs : List Loc) (ls : Array Slot), rl pf pa df da uf ua → hW (dC, dI) (ll_T cp cd cA cO) (fun q => s.heap.size ≤ q) s H locs (ll_W h0 g1 g2 rp rd cp cd h9 r cA qo cO pf pa df da ds uf ua us o) → lv_has ls 8 [(0, .ref b), (1, .ref h0), (2, .ref h9), (3, .ref qo), (4, .int x4)] → W p l e room_1 s m #[Value.ref b] below meth c H locs (cells + 1) (slots + 6) Q (F0 m 1232 ls [])
theorem ac24 {x : Int32} : ac_in x 24 ↔ (0 ≤ x.toInt ∧ x.toInt < 24) := by
  have e0 : (0 : Int32).toInt = 0 := by decide
  have e24 : (24 : Int32).toInt = 24 := by decide
  unfold ac_in
  rw [mi_lt, mi_lt, e0, e24]
  omega
theorem ac8 {x : Int32} : ac_in x 8 ↔ (0 ≤ x.toInt ∧ x.toInt < 8) := by
  have e0 : (0 : Int32).toInt = 0 := by decide
  have e24 : (8 : Int32).toInt = 8 := by decide
  unfold ac_in
  rw [mi_lt, mi_lt, e0, e24]
  omega
set_option maxRecDepth 20000 in
theorem cs_0 {p : Program} {l : Launch} {e : Env} {s : State} {m : MethodId} {below : List Frame} {meth : Method} {c : Code} {b L : Nat} {xs : Nat → Int32} {af ad : Nat} {dC : Nat → ClassId} {dI : Nat → Nat → Nat} {h0 g1 g2 : Nat} {rp rd : Nat → Nat} {cp cd : Nat → ClassId} {h9 : Nat} {r : Nat → Nat} {cA : Nat → ClassId} {qo : Nat} {cO : ClassId} {pf : Nat → Int32} {pa : Nat → Nat → Int32} {df : Nat → Int32} {da : Nat → Nat → Int32} {ds : Nat → Int64} {uf : Nat → Int32} {ua : Nat → Nat → Int32} {us o : Nat → Int64} {H : Heap} {locs : List Loc} {ls : Array Slot} {x4 : Int32} {cells slots : Nat} {Q : State → Prop} (hl0 : l.stackTraces = false) (X : lx p s m meth c b L xs af ad) (hL : L ≤ 4096) (hi : 0 ≤ x4.toInt ∧ x4.toInt + 8 ≤ L) (hr : rl pf pa df da uf ua) (hw : hW (dC, dI) (ll_T cp cd cA cO) (fun q => s.heap.size ≤ q) s H locs (ll_W h0 g1 g2 rp rd cp cd h9 r cA qo cO pf pa df da ds uf ua us o)) (hl : lv_has ls 8 [(0, .ref b), (1, .ref h0), (2, .ref h9), (3, .ref qo), (4, .int x4)]) (hcs : cells + 1 ≤ 3101 ∧ slots + 6 ≤ 119854) (k : ll_C p l e s m below meth c b dC dI h0 g1 g2 rp rd cp cd h9 r cA qo cO x4 cells slots Q) : W p l e room_1 s m #[Value.ref b] below meth c H locs cells slots Q (F0 m 124 ls []) := by
  obtain ⟨C, hX, hbl, hK, hNw⟩ := id X
  obtain ⟨hx, hb, hml, hrt, hlocks, hown, hts⟩ := id C
  have hbA : ¬ s.heap.size ≤ b := Nat.not_le.mpr hbl
  have hc0 : cells ≤ room_1.cells ∧ slots ≤ room_1.slots := ⟨by show cells ≤ 3101; omega, by show slots ≤ 119854; omega⟩
  have hc1 : cells + 1 ≤ room_1.cells ∧ slots + 6 ≤ room_1.slots := hcs
  refine lv_aload_n hx hb dL_law_124 rfl (lv_at hl 1 rfl) ?_
  refine lv_aload_n hx hb dL_law_125 rfl (lv_at hl 0 rfl) ?_
  refine lv_iload hx hb dL_law_126 (lv_at hl 4 rfl) ?_
  refine lv_iconst (v := 1) hx hb dL_law_128 (by decide) ?_
  refine lv_iadd hx hb dL_law_129 ?_
  refine va_sld hx hb hX hbl hbA hw.2.2.1 (sc_in hL hi (by decide)) dL_law_130 ?_
  refine lv_aload_n hx hb dL_law_131 rfl (lv_at hl 0 rfl) ?_
  refine lv_iload hx hb dL_law_132 (lv_at hl 4 rfl) ?_
  refine lv_iconst (v := 2) hx hb dL_law_134 (by decide) ?_
  refine lv_iadd hx hb dL_law_135 ?_
  refine va_sld hx hb hX hbl hbA hw.2.2.1 (sc_in hL hi (by decide)) dL_law_136 ?_
  refine lv_aload_n hx hb dL_law_137 rfl (lv_at hl 0 rfl) ?_
  refine lv_iload hx hb dL_law_138 (lv_at hl 4 rfl) ?_
  refine lv_iconst (v := 3) hx hb dL_law_140 (by decide) ?_
  refine lv_iadd hx hb dL_law_141 ?_
  refine va_sld hx hb hX hbl hbA hw.2.2.1 (sc_in hL hi (by decide)) dL_law_142 ?_
  refine lv_aload_n hx hb dL_law_143 rfl (lv_at hl 0 rfl) ?_
  refine lv_iload hx hb dL_law_144 (lv_at hl 4 rfl) ?_
  refine lv_iconst (v := 4) hx hb dL_law_146 (by decide) ?_
  refine lv_iadd hx hb dL_law_147 ?_
  refine va_sld hx hb hX hbl hbA hw.2.2.1 (sc_in hL hi (by decide)) dL_law_148 ?_
  refine lv_aload_n hx hb dL_law_149 rfl (lv_at hl 3 rfl) ?_
  refine hx_h (nA := 6) (Wf := (fun u => lo_W h0 g1 g2 rp rd cp cd pf pa df da ds qo cO u)) (Gn := (fun u => ll_W h0 g1 g2 rp rd cp cd h9 r cA qo cO pf pa df da ds uf ua us u)) (tys' := lo_T cp cd cO) (wC := lo_W h0 g1 g2 rp rd cp cd pf pa df da ds qo cO o) (wr := md_W h9 r cA uf ua us) [0, 1, 2, 3, 4, 5, 6, 7, 8, 9, 10, 22] [11, 12, 13, 14, 15, 16, 17, 18, 19, 20, 21] [11, 12, 13, 14, 15, 16, 17, 18, 19, 20, 21, 0, 1, 2, 3, 4, 5, 6, 7, 8, 9, 10, 22] [0, 1, 2, 3, 4, 5, 6, 7, 18] C (fun sz => kL_act l hl0 dC dI af ad h0 g1 g2 rp rd cp cd sz pf pa df da ds qo cO o ((xs (x4 + (1 : Int32)).toNatClampNeg)) ((xs (x4 + (2 : Int32)).toNatClampNeg)) ((xs (x4 + (3 : Int32)).toNatClampNeg)) ((xs (x4 + (4 : Int32)).toNatClampNeg))) (fun _ _ _ _ _ q => xk_same q rfl rfl) (fun U u1 u2 => xk_to hK hw.2.2.1 (hw_fr hw [0, 1, 2, 3, 4, 5, 6, 7, 8, 9, 10, 22] rfl) u1 u2) hw rfl rfl rfl rfl rfl (by decide) rfl (fun _ => rfl) rfl (fun _ => rfl) tw_methodLink_RL_40_yL_act tw_static_yL_act tw_initialized_RL tw_code_yL_act ⟨by decide, by decide, by decide +kernel⟩ rfl ⟨rfl, rfl⟩ ⟨Nat.le_of_ble_eq_true rfl, Nat.le_of_ble_eq_true rfl⟩ hc1 hl.1 rfl (Nat.le_of_ble_eq_true rfl) dL_law_150 (fun rr u H locs hpost hw => ?_)
  rcases hpost with ⟨hin, rfl, rfl⟩ | ⟨hin, rfl, hu⟩
  · refine lv_istore (lv' := [(5, .int ((0 : Int32))), (0, .ref b), (1, .ref h0), (2, .ref h9), (3, .ref qo), (4, .int x4)]) hx hb dL_law_153 hl (by decide) rfl (fun ls hl => ?_)
    refine lv_aload_n hx hb dL_law_155 rfl (lv_at hl 3 rfl) ?_
    refine lv_aload_n hx hb dL_law_156 rfl (lv_at hl 1 rfl) ?_
    refine lv_iload hx hb dL_law_157 (lv_at hl 5 rfl) ?_
    refine lv_iconst (v := 1) hx hb dL_law_159 (by decide) ?_
    refine lv_iadd hx hb dL_law_160 ?_
    refine va_sld hx hb hX hbl hbA hw.2.2.1 (sc_in hL hi (by decide)) dL_law_161 ?_
    refine lv_aload_n hx hb dL_law_162 rfl (lv_at hl 1 rfl) ?_
    refine lv_iload hx hb dL_law_163 (lv_at hl 5 rfl) ?_
    refine lv_iconst (v := 2) hx hb dL_law_165 (by decide) ?_
    refine lv_iadd hx hb dL_law_166 ?_
    refine va_sld hx hb hX hbl hbA hw.2.2.1 (sc_in hL hi (by decide)) dL_law_167 ?_
    refine lv_aload_n hx hb dL_law_168 rfl (lv_at hl 1 rfl) ?_
    refine lv_iload hx hb dL_law_169 (lv_at hl 5 rfl) ?_
    refine lv_iconst (v := 3) hx hb dL_law_171 (by decide) ?_
    refine lv_iadd hx hb dL_law_172 ?_
    refine va_sld hx hb hX hbl hbA hw.2.2.1 (sc_in hL hi (by decide)) dL_law_173 ?_
    refine lv_aload_n hx hb dL_law_174 rfl (lv_at hl 1 rfl) ?_
    refine lv_iload hx hb dL_law_175 (lv_at hl 5 rfl) ?_
    refine lv_iconst (v := 4) hx hb dL_law_177 (by decide) ?_
    refine lv_iadd hx hb dL_law_178 ?_
    refine va_sld hx hb hX hbl hbA hw.2.2.1 (sc_in hL hi (by decide)) dL_law_179 ?_
    refine hx_xi (Wf := (fun u => md_W h9 r cA u.1 ua u.2)) (u0 := (uf, us)) (F := (fX5_act uf us ((xs (x4 + (1 : Int32)).toNatClampNeg)) ((xs (x4 + (2 : Int32)).toNatClampNeg)) ((xs (x4 + (3 : Int32)).toNatClampNeg)) ((xs (x4 + (4 : Int32)).toNatClampNeg)))) (tys' := md_T cA) (wr := (gl_W h0 g1 g2 rp rd cp cd pf pa df da ds ++ [(qo, .inl (cO, 1, .inr (.inl ((vp_updL o 0 (fX4_act ((xs (x4 + (1 : Int32)).toNatClampNeg)) ((xs (x4 + (2 : Int32)).toNatClampNeg)) ((xs (x4 + (3 : Int32)).toNatClampNeg)) ((xs (x4 + (4 : Int32)).toNatClampNeg))).toInt64)))))])) (ws1 := ll_W h0 g1 g2 rp rd cp cd h9 r cA qo cO pf pa df da ds ((fX5_act uf us ((xs (x4 + (1 : Int32)).toNatClampNeg)) ((xs (x4 + (2 : Int32)).toNatClampNeg)) ((xs (x4 + (3 : Int32)).toNatClampNeg)) ((xs (x4 + (4 : Int32)).toNatClampNeg))).2.1) ua ((fX5_act uf us ((xs (x4 + (1 : Int32)).toNatClampNeg)) ((xs (x4 + (2 : Int32)).toNatClampNeg)) ((xs (x4 + (3 : Int32)).toNatClampNeg)) ((xs (x4 + (4 : Int32)).toNatClampNeg))).2.2) ((vp_updL o 0 (fX4_act ((xs (x4 + (1 : Int32)).toNatClampNeg)) ((xs (x4 + (2 : Int32)).toNatClampNeg)) ((xs (x4 + (3 : Int32)).toNatClampNeg)) ((xs (x4 + (4 : Int32)).toNatClampNeg))).toInt64))) [11, 12, 13, 14, 15, 16, 17, 18, 19, 20, 21] [0, 1, 2, 3, 4, 5, 6, 7, 8, 9, 10, 22] [0, 1, 2, 3, 4, 5, 6, 7, 8, 9, 10, 12, 13, 14, 15, 16, 17, 18, 19, 20, 21, 22, 11] [8, 9, 10, 11, 12, 13, 14, 15, 16, 17] C (fun sz => kX5_act l dC dI h9 r cA sz uf ua us ((xs (x4 + (1 : Int32)).toNatClampNeg)) ((xs (x4 + (2 : Int32)).toNatClampNeg)) ((xs (x4 + (3 : Int32)).toNatClampNeg)) ((xs (x4 + (4 : Int32)).toNatClampNeg))) (fun _ => bx_B_true) (fun _ _ _ => trivial) hw rfl rfl rfl rfl rfl (by decide) rfl rfl rfl rfl rfl rfl tw_methodLink_RL_45_yX5_act mbX5_act rfl ⟨rfl, rfl⟩ ⟨Nat.le_of_ble_eq_true rfl, Nat.le_of_ble_eq_true rfl⟩ hc1 hl.1 rfl (Nat.le_of_ble_eq_true rfl) dL_law_180 (fun H locs hw => ?_)
    refine lv_istore (lv' := [(6, .int ((fX5_act uf us ((xs (x4 + (1 : Int32)).toNatClampNeg)) ((xs (x4 + (2 : Int32)).toNatClampNeg)) ((xs (x4 + (3 : Int32)).toNatClampNeg)) ((xs (x4 + (4 : Int32)).toNatClampNeg))).1)), (5, .int ((0 : Int32))), (0, .ref b), (1, .ref h0), (2, .ref h9), (3, .ref qo), (4, .int x4)]) hx hb dL_law_183 hl (by decide) rfl (fun ls hl => ?_)
    refine lv_aload_n hx hb dL_law_185 rfl (lv_at hl 4 rfl) ?_
    refine bx_vi C (kX5_thrown l dC dI h9 r cA ((fX5_act uf us ((xs (x4 + (1 : Int32)).toNatClampNeg)) ((xs (x4 + (2 : Int32)).toNatClampNeg)) ((xs (x4 + (3 : Int32)).toNatClampNeg)) ((xs (x4 + (4 : Int32)).toNatClampNeg))).2.1) ua ((fX5_act uf us ((xs (x4 + (1 : Int32)).toNatClampNeg)) ((xs (x4 + (2 : Int32)).toNatClampNeg)) ((xs (x4 + (3 : Int32)).toNatClampNeg)) ((xs (x4 + (4 : Int32)).toNatClampNeg))).2.2)) (rd_B _ _ _) (fun U u1 u2 => hw_rd hw u1 u2 [11, 12, 13, 14, 15, 16, 17, 18, 19, 20, 21] [8, 9, 10, 11, 12, 13, 14, 15, 16, 17] rfl rfl) (fun U u1 u2 => hw_obk (q0 := 11) hw rfl rfl u1 u2) tw_methodLink_RL_46_yX5_thrown mbX5_thrown rfl ⟨rfl, rfl⟩ ⟨Nat.le_of_ble_eq_true rfl, Nat.le_of_ble_eq_true rfl⟩ hc1 hl.1 rfl (Nat.le_of_ble_eq_true rfl) dL_law_186 ?_
    have hq := (c_act (uf := uf) (us := us) (x1 := (xs (x4 + (1 : Int32)).toNatClampNeg)) (x2 := (xs (x4 + (2 : Int32)).toNatClampNeg)) (x3 := (xs (x4 + (3 : Int32)).toNatClampNeg)) (x4 := (xs (x4 + (4 : Int32)).toNatClampNeg))).1 (ac24.mp hin)
    refine lv_iload hx hb dL_law_189 (lv_at hl 1 rfl) ?_
    refine lv_icmp_eq (tgt := 196) hx hb dL_law_191 (by decide) (fun cq => ?_) (fun cq => absurd hq.1 cq)
    refine lv_iload hx hb dL_law_196 (lv_at hl 1 rfl) ?_
    refine lv_if_ne (tgt := 213) hx hb dL_law_198 (by decide) (fun cq => absurd rfl cq) (fun cq => ?_)
    refine lv_aload_n hx hb dL_law_201 rfl (lv_at hl 5 rfl) ?_
    refine lv_iconst (v := 0) hx hb dL_law_202 (by decide) ?_
    refine hx_lald hx hb hw.1 hw.2.2.2.1 22 18 rfl rfl (vi_in (by decide) (by decide)) dL_law_203 ?_
    refine bx_as (v := .long (fX4_act ((xs (x4 + (1 : Int32)).toNatClampNeg)) ((xs (x4 + (2 : Int32)).toNatClampNeg)) ((xs (x4 + (3 : Int32)).toNatClampNeg)) ((xs (x4 + (4 : Int32)).toNatClampNeg))).toInt64) rfl ?_
    refine lv_iload hx hb dL_law_204 (lv_at hl 0 rfl) ?_
    refine bx_i2l hx hb dL_law_206 ?_
    refine bx_lc_eq (tgt := 213) hx hb dL_law_207 dL_law_208 (by decide) (fun cq => ?_) (fun cq => absurd (congrArg Int32.toInt64 hq.2).symm cq)
    refine lv_goto (tgt := 1232) hx hb dL_law_213 (by decide) ?_
    exact k _ _ _ _ _ _ _ _ _ _ _ _ (rl_8 hr (c_act (uf := uf) (us := us) (x1 := (xs (x4 + (1 : Int32)).toNatClampNeg)) (x2 := (xs (x4 + (2 : Int32)).toNatClampNeg)) (x3 := (xs (x4 + (3 : Int32)).toNatClampNeg)) (x4 := (xs (x4 + (4 : Int32)).toNatClampNeg))).2.2) hw (lv_sub hl [2, 3, 4, 5, 6] rfl)
  · have hu := hu.symm
    subst hu
    refine lv_istore (lv' := [(5, .int ((1 : Int32))), (0, .ref b), (1, .ref h0), (2, .ref h9), (3, .ref qo), (4, .int x4)]) hx hb dL_law_153 hl (by decide) rfl (fun ls hl => ?_)
    refine lv_aload_n hx hb dL_law_155 rfl (lv_at hl 3 rfl) ?_
    refine lv_aload_n hx hb dL_law_156 rfl (lv_at hl 1 rfl) ?_
    refine lv_iload hx hb dL_law_157 (lv_at hl 5 rfl) ?_
    refine lv_iconst (v := 1) hx hb dL_law_159 (by decide) ?_
    refine lv_iadd hx hb dL_law_160 ?_
    refine va_sld hx hb hX hbl hbA hw.2.2.1 (sc_in hL hi (by decide)) dL_law_161 ?_
    refine lv_aload_n hx hb dL_law_162 rfl (lv_at hl 1 rfl) ?_
    refine lv_iload hx hb dL_law_163 (lv_at hl 5 rfl) ?_
    refine lv_iconst (v := 2) hx hb dL_law_165 (by decide) ?_
    refine lv_iadd hx hb dL_law_166 ?_
    refine va_sld hx hb hX hbl hbA hw.2.2.1 (sc_in hL hi (by decide)) dL_law_167 ?_
    refine lv_aload_n hx hb dL_law_168 rfl (lv_at hl 1 rfl) ?_
    refine lv_iload hx hb dL_law_169 (lv_at hl 5 rfl) ?_
    refine lv_iconst (v := 3) hx hb dL_law_171 (by decide) ?_
    refine lv_iadd hx hb dL_law_172 ?_
    refine va_sld hx hb hX hbl hbA hw.2.2.1 (sc_in hL hi (by decide)) dL_law_173 ?_
    refine lv_aload_n hx hb dL_law_174 rfl (lv_at hl 1 rfl) ?_
    refine lv_iload hx hb dL_law_175 (lv_at hl 5 rfl) ?_
    refine lv_iconst (v := 4) hx hb dL_law_177 (by decide) ?_
    refine lv_iadd hx hb dL_law_178 ?_
    refine va_sld hx hb hX hbl hbA hw.2.2.1 (sc_in hL hi (by decide)) dL_law_179 ?_
    refine hx_xi (Wf := (fun u => md_W h9 r cA u.1 ua u.2)) (u0 := (uf, us)) (F := (fX5_act uf us ((xs (x4 + (1 : Int32)).toNatClampNeg)) ((xs (x4 + (2 : Int32)).toNatClampNeg)) ((xs (x4 + (3 : Int32)).toNatClampNeg)) ((xs (x4 + (4 : Int32)).toNatClampNeg)))) (tys' := md_T cA) (wr := (gl_W h0 g1 g2 rp rd cp cd pf pa df da ds ++ [(qo, .inl (cO, 1, .inr (.inl o)))])) (ws1 := ll_W h0 g1 g2 rp rd cp cd h9 r cA qo cO pf pa df da ds ((fX5_act uf us ((xs (x4 + (1 : Int32)).toNatClampNeg)) ((xs (x4 + (2 : Int32)).toNatClampNeg)) ((xs (x4 + (3 : Int32)).toNatClampNeg)) ((xs (x4 + (4 : Int32)).toNatClampNeg))).2.1) ua ((fX5_act uf us ((xs (x4 + (1 : Int32)).toNatClampNeg)) ((xs (x4 + (2 : Int32)).toNatClampNeg)) ((xs (x4 + (3 : Int32)).toNatClampNeg)) ((xs (x4 + (4 : Int32)).toNatClampNeg))).2.2) o) [11, 12, 13, 14, 15, 16, 17, 18, 19, 20, 21] [0, 1, 2, 3, 4, 5, 6, 7, 8, 9, 10, 22] [0, 1, 2, 3, 4, 5, 6, 7, 8, 9, 10, 12, 13, 14, 15, 16, 17, 18, 19, 20, 21, 22, 11] [8, 9, 10, 11, 12, 13, 14, 15, 16, 17] C (fun sz => kX5_act l dC dI h9 r cA sz uf ua us ((xs (x4 + (1 : Int32)).toNatClampNeg)) ((xs (x4 + (2 : Int32)).toNatClampNeg)) ((xs (x4 + (3 : Int32)).toNatClampNeg)) ((xs (x4 + (4 : Int32)).toNatClampNeg))) (fun _ => bx_B_true) (fun _ _ _ => trivial) hw rfl rfl rfl rfl rfl (by decide) rfl rfl rfl rfl rfl rfl tw_methodLink_RL_45_yX5_act mbX5_act rfl ⟨rfl, rfl⟩ ⟨Nat.le_of_ble_eq_true rfl, Nat.le_of_ble_eq_true rfl⟩ hc1 hl.1 rfl (Nat.le_of_ble_eq_true rfl) dL_law_180 (fun H locs hw => ?_)
    refine lv_istore (lv' := [(6, .int ((fX5_act uf us ((xs (x4 + (1 : Int32)).toNatClampNeg)) ((xs (x4 + (2 : Int32)).toNatClampNeg)) ((xs (x4 + (3 : Int32)).toNatClampNeg)) ((xs (x4 + (4 : Int32)).toNatClampNeg))).1)), (5, .int ((1 : Int32))), (0, .ref b), (1, .ref h0), (2, .ref h9), (3, .ref qo), (4, .int x4)]) hx hb dL_law_183 hl (by decide) rfl (fun ls hl => ?_)
    refine lv_aload_n hx hb dL_law_185 rfl (lv_at hl 4 rfl) ?_
    refine bx_vi C (kX5_thrown l dC dI h9 r cA ((fX5_act uf us ((xs (x4 + (1 : Int32)).toNatClampNeg)) ((xs (x4 + (2 : Int32)).toNatClampNeg)) ((xs (x4 + (3 : Int32)).toNatClampNeg)) ((xs (x4 + (4 : Int32)).toNatClampNeg))).2.1) ua ((fX5_act uf us ((xs (x4 + (1 : Int32)).toNatClampNeg)) ((xs (x4 + (2 : Int32)).toNatClampNeg)) ((xs (x4 + (3 : Int32)).toNatClampNeg)) ((xs (x4 + (4 : Int32)).toNatClampNeg))).2.2)) (rd_B _ _ _) (fun U u1 u2 => hw_rd hw u1 u2 [11, 12, 13, 14, 15, 16, 17, 18, 19, 20, 21] [8, 9, 10, 11, 12, 13, 14, 15, 16, 17] rfl rfl) (fun U u1 u2 => hw_obk (q0 := 11) hw rfl rfl u1 u2) tw_methodLink_RL_46_yX5_thrown mbX5_thrown rfl ⟨rfl, rfl⟩ ⟨Nat.le_of_ble_eq_true rfl, Nat.le_of_ble_eq_true rfl⟩ hc1 hl.1 rfl (Nat.le_of_ble_eq_true rfl) dL_law_186 ?_
    have hq := (c_act (uf := uf) (us := us) (x1 := (xs (x4 + (1 : Int32)).toNatClampNeg)) (x2 := (xs (x4 + (2 : Int32)).toNatClampNeg)) (x3 := (xs (x4 + (3 : Int32)).toNatClampNeg)) (x4 := (xs (x4 + (4 : Int32)).toNatClampNeg))).2.1 (fun z => hin (ac24.mpr z))
    refine lv_iload hx hb dL_law_189 (lv_at hl 1 rfl) ?_
    refine lv_icmp_eq (tgt := 196) hx hb dL_law_191 (by decide) (fun cq => ?_) (fun cq => absurd hq cq)
    refine lv_iload hx hb dL_law_196 (lv_at hl 1 rfl) ?_
    refine lv_if_ne (tgt := 213) hx hb dL_law_198 (by decide) (fun cq => ?_) (fun cq => absurd cq (by decide))
    refine lv_goto (tgt := 1232) hx hb dL_law_213 (by decide) ?_
    exact k _ _ _ _ _ _ _ _ _ _ _ _ (rl_8 hr (c_act (uf := uf) (us := us) (x1 := (xs (x4 + (1 : Int32)).toNatClampNeg)) (x2 := (xs (x4 + (2 : Int32)).toNatClampNeg)) (x3 := (xs (x4 + (3 : Int32)).toNatClampNeg)) (x4 := (xs (x4 + (4 : Int32)).toNatClampNeg))).2.2) hw (lv_sub hl [2, 3, 4, 5, 6] rfl)
set_option maxRecDepth 20000 in
theorem cs_1 {p : Program} {l : Launch} {e : Env} {s : State} {m : MethodId} {below : List Frame} {meth : Method} {c : Code} {b L : Nat} {xs : Nat → Int32} {af ad : Nat} {dC : Nat → ClassId} {dI : Nat → Nat → Nat} {h0 g1 g2 : Nat} {rp rd : Nat → Nat} {cp cd : Nat → ClassId} {h9 : Nat} {r : Nat → Nat} {cA : Nat → ClassId} {qo : Nat} {cO : ClassId} {pf : Nat → Int32} {pa : Nat → Nat → Int32} {df : Nat → Int32} {da : Nat → Nat → Int32} {ds : Nat → Int64} {uf : Nat → Int32} {ua : Nat → Nat → Int32} {us o : Nat → Int64} {H : Heap} {locs : List Loc} {ls : Array Slot} {x4 : Int32} {cells slots : Nat} {Q : State → Prop} (hl0 : l.stackTraces = false) (X : lx p s m meth c b L xs af ad) (hL : L ≤ 4096) (hi : 0 ≤ x4.toInt ∧ x4.toInt + 8 ≤ L) (hr : rl pf pa df da uf ua) (hw : hW (dC, dI) (ll_T cp cd cA cO) (fun q => s.heap.size ≤ q) s H locs (ll_W h0 g1 g2 rp rd cp cd h9 r cA qo cO pf pa df da ds uf ua us o)) (hl : lv_has ls 8 [(0, .ref b), (1, .ref h0), (2, .ref h9), (3, .ref qo), (4, .int x4)]) (hcs : cells + 1 ≤ 3101 ∧ slots + 6 ≤ 119854) (k : ll_C p l e s m below meth c b dC dI h0 g1 g2 rp rd cp cd h9 r cA qo cO x4 cells slots Q) : W p l e room_1 s m #[Value.ref b] below meth c H locs cells slots Q (F0 m 216 ls []) := by
  obtain ⟨C, hX, hbl, hK, hNw⟩ := id X
  obtain ⟨hx, hb, hml, hrt, hlocks, hown, hts⟩ := id C
  have hbA : ¬ s.heap.size ≤ b := Nat.not_le.mpr hbl
  have hc0 : cells ≤ room_1.cells ∧ slots ≤ room_1.slots := ⟨by show cells ≤ 3101; omega, by show slots ≤ 119854; omega⟩
  have hc1 : cells + 1 ≤ room_1.cells ∧ slots + 6 ≤ room_1.slots := hcs
  refine lv_aload_n hx hb dL_law_216 rfl (lv_at hl 1 rfl) ?_
  refine lv_aload_n hx hb dL_law_217 rfl (lv_at hl 0 rfl) ?_
  refine lv_iload hx hb dL_law_218 (lv_at hl 4 rfl) ?_
  refine lv_iconst (v := 1) hx hb dL_law_220 (by decide) ?_
  refine lv_iadd hx hb dL_law_221 ?_
  refine va_sld hx hb hX hbl hbA hw.2.2.1 (sc_in hL hi (by decide)) dL_law_222 ?_
  refine lv_aload_n hx hb dL_law_223 rfl (lv_at hl 0 rfl) ?_
  refine lv_iload hx hb dL_law_224 (lv_at hl 4 rfl) ?_
  refine lv_iconst (v := 2) hx hb dL_law_226 (by decide) ?_
  refine lv_iadd hx hb dL_law_227 ?_
  refine va_sld hx hb hX hbl hbA hw.2.2.1 (sc_in hL hi (by decide)) dL_law_228 ?_
  refine bx_i2l hx hb dL_law_229 ?_
  refine lv_bipush (v := 32) hx hb dL_law_230 (by decide) ?_
  refine bx_lshl hx hb dL_law_232 ?_
  refine lv_aload_n hx hb dL_law_233 rfl (lv_at hl 0 rfl) ?_
  refine lv_iload hx hb dL_law_234 (lv_at hl 4 rfl) ?_
  refine lv_iconst (v := 3) hx hb dL_law_236 (by decide) ?_
  refine lv_iadd hx hb dL_law_237 ?_
  refine va_sld hx hb hX hbl hbA hw.2.2.1 (sc_in hL hi (by decide)) dL_law_238 ?_
  refine bx_i2l hx hb dL_law_239 ?_
  refine lv_ldc2 (v := 4294967295) hx hb hown (hts _ tw_constantLong_RL_50_4294967295) dL_law_240 ?_
  refine lv_land hx hb dL_law_243 ?_
  refine lv_lor hx hb dL_law_244 ?_
  refine lv_aload_n hx hb dL_law_245 rfl (lv_at hl 0 rfl) ?_
  refine lv_iload hx hb dL_law_246 (lv_at hl 4 rfl) ?_
  refine lv_iconst (v := 4) hx hb dL_law_248 (by decide) ?_
  refine lv_iadd hx hb dL_law_249 ?_
  refine va_sld hx hb hX hbl hbA hw.2.2.1 (sc_in hL hi (by decide)) dL_law_250 ?_
  refine bx_i2l hx hb dL_law_251 ?_
  refine lv_bipush (v := 32) hx hb dL_law_252 (by decide) ?_
  refine bx_lshl hx hb dL_law_254 ?_
  refine lv_aload_n hx hb dL_law_255 rfl (lv_at hl 0 rfl) ?_
  refine lv_iload hx hb dL_law_256 (lv_at hl 4 rfl) ?_
  refine lv_iconst (v := 5) hx hb dL_law_258 (by decide) ?_
  refine lv_iadd hx hb dL_law_259 ?_
  refine va_sld hx hb hX hbl hbA hw.2.2.1 (sc_in hL hi (by decide)) dL_law_260 ?_
  refine bx_i2l hx hb dL_law_261 ?_
  refine lv_ldc2 (v := 4294967295) hx hb hown (hts _ tw_constantLong_RL_50_4294967295) dL_law_262 ?_
  refine lv_land hx hb dL_law_265 ?_
  refine lv_lor hx hb dL_law_266 ?_
  refine lv_aload_n hx hb dL_law_267 rfl (lv_at hl 0 rfl) ?_
  refine lv_iload hx hb dL_law_268 (lv_at hl 4 rfl) ?_
  refine lv_bipush (v := 6) hx hb dL_law_270 (by decide) ?_
  refine lv_iadd hx hb dL_law_272 ?_
  refine va_sld hx hb hX hbl hbA hw.2.2.1 (sc_in hL hi (by decide)) dL_law_273 ?_
  refine bx_i2l hx hb dL_law_274 ?_
  refine lv_bipush (v := 32) hx hb dL_law_275 (by decide) ?_
  refine bx_lshl hx hb dL_law_277 ?_
  refine lv_aload_n hx hb dL_law_278 rfl (lv_at hl 0 rfl) ?_
  refine lv_iload hx hb dL_law_279 (lv_at hl 4 rfl) ?_
  refine lv_bipush (v := 7) hx hb dL_law_281 (by decide) ?_
  refine lv_iadd hx hb dL_law_283 ?_
  refine va_sld hx hb hX hbl hbA hw.2.2.1 (sc_in hL hi (by decide)) dL_law_284 ?_
  refine bx_i2l hx hb dL_law_285 ?_
  refine lv_ldc2 (v := 4294967295) hx hb hown (hts _ tw_constantLong_RL_50_4294967295) dL_law_286 ?_
  refine lv_land hx hb dL_law_289 ?_
  refine lv_lor hx hb dL_law_290 ?_
  refine lv_aload_n hx hb dL_law_291 rfl (lv_at hl 3 rfl) ?_
  refine hx_h (nA := 6) (Wf := (fun u => lo_W h0 g1 g2 rp rd cp cd pf pa df da ds qo cO u)) (Gn := (fun u => ll_W h0 g1 g2 rp rd cp cd h9 r cA qo cO pf pa df da ds uf ua us u)) (tys' := lo_T cp cd cO) (wC := lo_W h0 g1 g2 rp rd cp cd pf pa df da ds qo cO o) (wr := md_W h9 r cA uf ua us) [0, 1, 2, 3, 4, 5, 6, 7, 8, 9, 10, 22] [11, 12, 13, 14, 15, 16, 17, 18, 19, 20, 21] [11, 12, 13, 14, 15, 16, 17, 18, 19, 20, 21, 0, 1, 2, 3, 4, 5, 6, 7, 8, 9, 10, 22] [0, 1, 2, 3, 4, 5, 6, 7, 18] C (fun sz => kL_wide l hl0 dC dI af ad h0 g1 g2 rp rd cp cd sz pf pa df da ds qo cO o ((xs (x4 + (1 : Int32)).toNatClampNeg)) (((jl_shl (((xs (x4 + (2 : Int32)).toNatClampNeg)).toInt64) (32 : Int32)) ||| (((xs (x4 + (3 : Int32)).toNatClampNeg)).toInt64 &&& (4294967295 : Int64)))) (((jl_shl (((xs (x4 + (4 : Int32)).toNatClampNeg)).toInt64) (32 : Int32)) ||| (((xs (x4 + (5 : Int32)).toNatClampNeg)).toInt64 &&& (4294967295 : Int64)))) (((jl_shl (((xs (x4 + (6 : Int32)).toNatClampNeg)).toInt64) (32 : Int32)) ||| (((xs (x4 + (7 : Int32)).toNatClampNeg)).toInt64 &&& (4294967295 : Int64))))) (fun _ _ _ _ _ q => xk_same q rfl rfl) (fun U u1 u2 => xk_to hK hw.2.2.1 (hw_fr hw [0, 1, 2, 3, 4, 5, 6, 7, 8, 9, 10, 22] rfl) u1 u2) hw rfl rfl rfl rfl rfl (by decide) rfl (fun _ => rfl) rfl (fun _ => rfl) tw_methodLink_RL_52_yL_wide tw_static_yL_wide tw_initialized_RL tw_code_yL_wide ⟨by decide, by decide, by decide +kernel⟩ rfl ⟨rfl, rfl⟩ ⟨Nat.le_of_ble_eq_true rfl, Nat.le_of_ble_eq_true rfl⟩ hc1 hl.1 rfl (Nat.le_of_ble_eq_true rfl) dL_law_292 (fun rr u H locs hpost hw => ?_)
  rcases hpost with ⟨hin, rfl, rfl⟩ | ⟨hin, rfl, hu⟩
  · refine lv_istore (lv' := [(5, .int ((0 : Int32))), (0, .ref b), (1, .ref h0), (2, .ref h9), (3, .ref qo), (4, .int x4)]) hx hb dL_law_295 hl (by decide) rfl (fun ls hl => ?_)
    refine lv_aload_n hx hb dL_law_297 rfl (lv_at hl 3 rfl) ?_
    refine lv_aload_n hx hb dL_law_298 rfl (lv_at hl 1 rfl) ?_
    refine lv_iload hx hb dL_law_299 (lv_at hl 5 rfl) ?_
    refine lv_iconst (v := 1) hx hb dL_law_301 (by decide) ?_
    refine lv_iadd hx hb dL_law_302 ?_
    refine va_sld hx hb hX hbl hbA hw.2.2.1 (sc_in hL hi (by decide)) dL_law_303 ?_
    refine lv_aload_n hx hb dL_law_304 rfl (lv_at hl 1 rfl) ?_
    refine lv_iload hx hb dL_law_305 (lv_at hl 5 rfl) ?_
    refine lv_iconst (v := 2) hx hb dL_law_307 (by decide) ?_
    refine lv_iadd hx hb dL_law_308 ?_
    refine va_sld hx hb hX hbl hbA hw.2.2.1 (sc_in hL hi (by decide)) dL_law_309 ?_
    refine bx_i2l hx hb dL_law_310 ?_
    refine lv_bipush (v := 32) hx hb dL_law_311 (by decide) ?_
    refine bx_lshl hx hb dL_law_313 ?_
    refine lv_aload_n hx hb dL_law_314 rfl (lv_at hl 1 rfl) ?_
    refine lv_iload hx hb dL_law_315 (lv_at hl 5 rfl) ?_
    refine lv_iconst (v := 3) hx hb dL_law_317 (by decide) ?_
    refine lv_iadd hx hb dL_law_318 ?_
    refine va_sld hx hb hX hbl hbA hw.2.2.1 (sc_in hL hi (by decide)) dL_law_319 ?_
    refine bx_i2l hx hb dL_law_320 ?_
    refine lv_ldc2 (v := 4294967295) hx hb hown (hts _ tw_constantLong_RL_50_4294967295) dL_law_321 ?_
    refine lv_land hx hb dL_law_324 ?_
    refine lv_lor hx hb dL_law_325 ?_
    refine lv_aload_n hx hb dL_law_326 rfl (lv_at hl 1 rfl) ?_
    refine lv_iload hx hb dL_law_327 (lv_at hl 5 rfl) ?_
    refine lv_iconst (v := 4) hx hb dL_law_329 (by decide) ?_
    refine lv_iadd hx hb dL_law_330 ?_
    refine va_sld hx hb hX hbl hbA hw.2.2.1 (sc_in hL hi (by decide)) dL_law_331 ?_
    refine bx_i2l hx hb dL_law_332 ?_
    refine lv_bipush (v := 32) hx hb dL_law_333 (by decide) ?_
    refine bx_lshl hx hb dL_law_335 ?_
    refine lv_aload_n hx hb dL_law_336 rfl (lv_at hl 1 rfl) ?_
    refine lv_iload hx hb dL_law_337 (lv_at hl 5 rfl) ?_
    refine lv_iconst (v := 5) hx hb dL_law_339 (by decide) ?_
    refine lv_iadd hx hb dL_law_340 ?_
    refine va_sld hx hb hX hbl hbA hw.2.2.1 (sc_in hL hi (by decide)) dL_law_341 ?_
    refine bx_i2l hx hb dL_law_342 ?_
    refine lv_ldc2 (v := 4294967295) hx hb hown (hts _ tw_constantLong_RL_50_4294967295) dL_law_343 ?_
    refine lv_land hx hb dL_law_346 ?_
    refine lv_lor hx hb dL_law_347 ?_
    refine lv_aload_n hx hb dL_law_348 rfl (lv_at hl 1 rfl) ?_
    refine lv_iload hx hb dL_law_349 (lv_at hl 5 rfl) ?_
    refine lv_bipush (v := 6) hx hb dL_law_351 (by decide) ?_
    refine lv_iadd hx hb dL_law_353 ?_
    refine va_sld hx hb hX hbl hbA hw.2.2.1 (sc_in hL hi (by decide)) dL_law_354 ?_
    refine bx_i2l hx hb dL_law_355 ?_
    refine lv_bipush (v := 32) hx hb dL_law_356 (by decide) ?_
    refine bx_lshl hx hb dL_law_358 ?_
    refine lv_aload_n hx hb dL_law_359 rfl (lv_at hl 1 rfl) ?_
    refine lv_iload hx hb dL_law_360 (lv_at hl 5 rfl) ?_
    refine lv_bipush (v := 7) hx hb dL_law_362 (by decide) ?_
    refine lv_iadd hx hb dL_law_364 ?_
    refine va_sld hx hb hX hbl hbA hw.2.2.1 (sc_in hL hi (by decide)) dL_law_365 ?_
    refine bx_i2l hx hb dL_law_366 ?_
    refine lv_ldc2 (v := 4294967295) hx hb hown (hts _ tw_constantLong_RL_50_4294967295) dL_law_367 ?_
    refine lv_land hx hb dL_law_370 ?_
    refine lv_lor hx hb dL_law_371 ?_
    refine hx_xl (Wf := (fun u => md_W h9 r cA u.1 ua u.2)) (u0 := (uf, us)) (F := (fX5_wide uf us ((xs (x4 + (1 : Int32)).toNatClampNeg)) (((jl_shl (((xs (x4 + (2 : Int32)).toNatClampNeg)).toInt64) (32 : Int32)) ||| (((xs (x4 + (3 : Int32)).toNatClampNeg)).toInt64 &&& (4294967295 : Int64)))) (((jl_shl (((xs (x4 + (4 : Int32)).toNatClampNeg)).toInt64) (32 : Int32)) ||| (((xs (x4 + (5 : Int32)).toNatClampNeg)).toInt64 &&& (4294967295 : Int64)))) (((jl_shl (((xs (x4 + (6 : Int32)).toNatClampNeg)).toInt64) (32 : Int32)) ||| (((xs (x4 + (7 : Int32)).toNatClampNeg)).toInt64 &&& (4294967295 : Int64)))))) (tys' := md_T cA) (wr := (gl_W h0 g1 g2 rp rd cp cd pf pa df da ds ++ [(qo, .inl (cO, 1, .inr (.inl ((vp_updL o 0 (fX4_wide ((xs (x4 + (1 : Int32)).toNatClampNeg)) (((jl_shl (((xs (x4 + (2 : Int32)).toNatClampNeg)).toInt64) (32 : Int32)) ||| (((xs (x4 + (3 : Int32)).toNatClampNeg)).toInt64 &&& (4294967295 : Int64)))) (((jl_shl (((xs (x4 + (4 : Int32)).toNatClampNeg)).toInt64) (32 : Int32)) ||| (((xs (x4 + (5 : Int32)).toNatClampNeg)).toInt64 &&& (4294967295 : Int64)))) (((jl_shl (((xs (x4 + (6 : Int32)).toNatClampNeg)).toInt64) (32 : Int32)) ||| (((xs (x4 + (7 : Int32)).toNatClampNeg)).toInt64 &&& (4294967295 : Int64))))))))))])) (ws1 := ll_W h0 g1 g2 rp rd cp cd h9 r cA qo cO pf pa df da ds ((fX5_wide uf us ((xs (x4 + (1 : Int32)).toNatClampNeg)) (((jl_shl (((xs (x4 + (2 : Int32)).toNatClampNeg)).toInt64) (32 : Int32)) ||| (((xs (x4 + (3 : Int32)).toNatClampNeg)).toInt64 &&& (4294967295 : Int64)))) (((jl_shl (((xs (x4 + (4 : Int32)).toNatClampNeg)).toInt64) (32 : Int32)) ||| (((xs (x4 + (5 : Int32)).toNatClampNeg)).toInt64 &&& (4294967295 : Int64)))) (((jl_shl (((xs (x4 + (6 : Int32)).toNatClampNeg)).toInt64) (32 : Int32)) ||| (((xs (x4 + (7 : Int32)).toNatClampNeg)).toInt64 &&& (4294967295 : Int64))))).2.1) ua ((fX5_wide uf us ((xs (x4 + (1 : Int32)).toNatClampNeg)) (((jl_shl (((xs (x4 + (2 : Int32)).toNatClampNeg)).toInt64) (32 : Int32)) ||| (((xs (x4 + (3 : Int32)).toNatClampNeg)).toInt64 &&& (4294967295 : Int64)))) (((jl_shl (((xs (x4 + (4 : Int32)).toNatClampNeg)).toInt64) (32 : Int32)) ||| (((xs (x4 + (5 : Int32)).toNatClampNeg)).toInt64 &&& (4294967295 : Int64)))) (((jl_shl (((xs (x4 + (6 : Int32)).toNatClampNeg)).toInt64) (32 : Int32)) ||| (((xs (x4 + (7 : Int32)).toNatClampNeg)).toInt64 &&& (4294967295 : Int64))))).2.2) ((vp_updL o 0 (fX4_wide ((xs (x4 + (1 : Int32)).toNatClampNeg)) (((jl_shl (((xs (x4 + (2 : Int32)).toNatClampNeg)).toInt64) (32 : Int32)) ||| (((xs (x4 + (3 : Int32)).toNatClampNeg)).toInt64 &&& (4294967295 : Int64)))) (((jl_shl (((xs (x4 + (4 : Int32)).toNatClampNeg)).toInt64) (32 : Int32)) ||| (((xs (x4 + (5 : Int32)).toNatClampNeg)).toInt64 &&& (4294967295 : Int64)))) (((jl_shl (((xs (x4 + (6 : Int32)).toNatClampNeg)).toInt64) (32 : Int32)) ||| (((xs (x4 + (7 : Int32)).toNatClampNeg)).toInt64 &&& (4294967295 : Int64)))))))) [11, 12, 13, 14, 15, 16, 17, 18, 19, 20, 21] [0, 1, 2, 3, 4, 5, 6, 7, 8, 9, 10, 22] [0, 1, 2, 3, 4, 5, 6, 7, 8, 9, 10, 12, 13, 14, 15, 16, 17, 18, 19, 20, 21, 22, 11] [8, 9, 10, 11, 12, 13, 14, 15, 16, 17] C (fun sz => kX5_wide l dC dI h9 r cA sz uf ua us ((xs (x4 + (1 : Int32)).toNatClampNeg)) (((jl_shl (((xs (x4 + (2 : Int32)).toNatClampNeg)).toInt64) (32 : Int32)) ||| (((xs (x4 + (3 : Int32)).toNatClampNeg)).toInt64 &&& (4294967295 : Int64)))) (((jl_shl (((xs (x4 + (4 : Int32)).toNatClampNeg)).toInt64) (32 : Int32)) ||| (((xs (x4 + (5 : Int32)).toNatClampNeg)).toInt64 &&& (4294967295 : Int64)))) (((jl_shl (((xs (x4 + (6 : Int32)).toNatClampNeg)).toInt64) (32 : Int32)) ||| (((xs (x4 + (7 : Int32)).toNatClampNeg)).toInt64 &&& (4294967295 : Int64))))) (fun _ => bx_B_true) (fun _ _ _ => trivial) hw rfl rfl rfl rfl rfl (by decide) rfl rfl rfl rfl rfl rfl tw_methodLink_RL_55_yX5_wide mbX5_wide rfl ⟨rfl, rfl⟩ ⟨Nat.le_of_ble_eq_true rfl, Nat.le_of_ble_eq_true rfl⟩ hc1 hl.1 rfl (Nat.le_of_ble_eq_true rfl) dL_law_372 (fun H locs hw => ?_)
    refine lv_lstore (lv' := [(6, .long ((fX5_wide uf us ((xs (x4 + (1 : Int32)).toNatClampNeg)) (((jl_shl (((xs (x4 + (2 : Int32)).toNatClampNeg)).toInt64) (32 : Int32)) ||| (((xs (x4 + (3 : Int32)).toNatClampNeg)).toInt64 &&& (4294967295 : Int64)))) (((jl_shl (((xs (x4 + (4 : Int32)).toNatClampNeg)).toInt64) (32 : Int32)) ||| (((xs (x4 + (5 : Int32)).toNatClampNeg)).toInt64 &&& (4294967295 : Int64)))) (((jl_shl (((xs (x4 + (6 : Int32)).toNatClampNeg)).toInt64) (32 : Int32)) ||| (((xs (x4 + (7 : Int32)).toNatClampNeg)).toInt64 &&& (4294967295 : Int64))))).1)), (5, .int ((0 : Int32))), (0, .ref b), (1, .ref h0), (2, .ref h9), (3, .ref qo), (4, .int x4)]) hx hb dL_law_375 hl (by decide) rfl (fun ls hl => ?_)
    refine lv_aload_n hx hb dL_law_377 rfl (lv_at hl 4 rfl) ?_
    refine bx_vi C (kX5_thrown l dC dI h9 r cA ((fX5_wide uf us ((xs (x4 + (1 : Int32)).toNatClampNeg)) (((jl_shl (((xs (x4 + (2 : Int32)).toNatClampNeg)).toInt64) (32 : Int32)) ||| (((xs (x4 + (3 : Int32)).toNatClampNeg)).toInt64 &&& (4294967295 : Int64)))) (((jl_shl (((xs (x4 + (4 : Int32)).toNatClampNeg)).toInt64) (32 : Int32)) ||| (((xs (x4 + (5 : Int32)).toNatClampNeg)).toInt64 &&& (4294967295 : Int64)))) (((jl_shl (((xs (x4 + (6 : Int32)).toNatClampNeg)).toInt64) (32 : Int32)) ||| (((xs (x4 + (7 : Int32)).toNatClampNeg)).toInt64 &&& (4294967295 : Int64))))).2.1) ua ((fX5_wide uf us ((xs (x4 + (1 : Int32)).toNatClampNeg)) (((jl_shl (((xs (x4 + (2 : Int32)).toNatClampNeg)).toInt64) (32 : Int32)) ||| (((xs (x4 + (3 : Int32)).toNatClampNeg)).toInt64 &&& (4294967295 : Int64)))) (((jl_shl (((xs (x4 + (4 : Int32)).toNatClampNeg)).toInt64) (32 : Int32)) ||| (((xs (x4 + (5 : Int32)).toNatClampNeg)).toInt64 &&& (4294967295 : Int64)))) (((jl_shl (((xs (x4 + (6 : Int32)).toNatClampNeg)).toInt64) (32 : Int32)) ||| (((xs (x4 + (7 : Int32)).toNatClampNeg)).toInt64 &&& (4294967295 : Int64))))).2.2)) (rd_B _ _ _) (fun U u1 u2 => hw_rd hw u1 u2 [11, 12, 13, 14, 15, 16, 17, 18, 19, 20, 21] [8, 9, 10, 11, 12, 13, 14, 15, 16, 17] rfl rfl) (fun U u1 u2 => hw_obk (q0 := 11) hw rfl rfl u1 u2) tw_methodLink_RL_46_yX5_thrown mbX5_thrown rfl ⟨rfl, rfl⟩ ⟨Nat.le_of_ble_eq_true rfl, Nat.le_of_ble_eq_true rfl⟩ hc1 hl.1 rfl (Nat.le_of_ble_eq_true rfl) dL_law_378 ?_
    have hq := (c_wide (uf := uf) (us := us) (x1 := (xs (x4 + (1 : Int32)).toNatClampNeg)) (x2 := ((jl_shl (((xs (x4 + (2 : Int32)).toNatClampNeg)).toInt64) (32 : Int32)) ||| (((xs (x4 + (3 : Int32)).toNatClampNeg)).toInt64 &&& (4294967295 : Int64)))) (x4 := ((jl_shl (((xs (x4 + (4 : Int32)).toNatClampNeg)).toInt64) (32 : Int32)) ||| (((xs (x4 + (5 : Int32)).toNatClampNeg)).toInt64 &&& (4294967295 : Int64)))) (x6 := ((jl_shl (((xs (x4 + (6 : Int32)).toNatClampNeg)).toInt64) (32 : Int32)) ||| (((xs (x4 + (7 : Int32)).toNatClampNeg)).toInt64 &&& (4294967295 : Int64))))).1 (ac24.mp hin)
    refine lv_iload hx hb dL_law_381 (lv_at hl 1 rfl) ?_
    refine lv_icmp_eq (tgt := 388) hx hb dL_law_383 (by decide) (fun cq => ?_) (fun cq => absurd hq.1 cq)
    refine lv_iload hx hb dL_law_388 (lv_at hl 1 rfl) ?_
    refine lv_if_ne (tgt := 404) hx hb dL_law_390 (by decide) (fun cq => absurd rfl cq) (fun cq => ?_)
    refine lv_aload_n hx hb dL_law_393 rfl (lv_at hl 5 rfl) ?_
    refine lv_iconst (v := 0) hx hb dL_law_394 (by decide) ?_
    refine hx_lald hx hb hw.1 hw.2.2.2.1 22 18 rfl rfl (vi_in (by decide) (by decide)) dL_law_395 ?_
    refine bx_as (v := .long (fX4_wide ((xs (x4 + (1 : Int32)).toNatClampNeg)) (((jl_shl (((xs (x4 + (2 : Int32)).toNatClampNeg)).toInt64) (32 : Int32)) ||| (((xs (x4 + (3 : Int32)).toNatClampNeg)).toInt64 &&& (4294967295 : Int64)))) (((jl_shl (((xs (x4 + (4 : Int32)).toNatClampNeg)).toInt64) (32 : Int32)) ||| (((xs (x4 + (5 : Int32)).toNatClampNeg)).toInt64 &&& (4294967295 : Int64)))) (((jl_shl (((xs (x4 + (6 : Int32)).toNatClampNeg)).toInt64) (32 : Int32)) ||| (((xs (x4 + (7 : Int32)).toNatClampNeg)).toInt64 &&& (4294967295 : Int64)))))) rfl ?_
    refine lv_lload hx hb dL_law_396 (lv_at hl 0 rfl) ?_
    refine bx_lc_eq (tgt := 404) hx hb dL_law_398 dL_law_399 (by decide) (fun cq => ?_) (fun cq => absurd hq.2.symm cq)
    refine lv_goto (tgt := 1232) hx hb dL_law_404 (by decide) ?_
    exact k _ _ _ _ _ _ _ _ _ _ _ _ (rl_8 hr (c_wide (uf := uf) (us := us) (x1 := (xs (x4 + (1 : Int32)).toNatClampNeg)) (x2 := ((jl_shl (((xs (x4 + (2 : Int32)).toNatClampNeg)).toInt64) (32 : Int32)) ||| (((xs (x4 + (3 : Int32)).toNatClampNeg)).toInt64 &&& (4294967295 : Int64)))) (x4 := ((jl_shl (((xs (x4 + (4 : Int32)).toNatClampNeg)).toInt64) (32 : Int32)) ||| (((xs (x4 + (5 : Int32)).toNatClampNeg)).toInt64 &&& (4294967295 : Int64)))) (x6 := ((jl_shl (((xs (x4 + (6 : Int32)).toNatClampNeg)).toInt64) (32 : Int32)) ||| (((xs (x4 + (7 : Int32)).toNatClampNeg)).toInt64 &&& (4294967295 : Int64))))).2.2) hw (lv_sub hl [2, 3, 4, 5, 6] rfl)
  · have hu := hu.symm
    subst hu
    refine lv_istore (lv' := [(5, .int ((1 : Int32))), (0, .ref b), (1, .ref h0), (2, .ref h9), (3, .ref qo), (4, .int x4)]) hx hb dL_law_295 hl (by decide) rfl (fun ls hl => ?_)
    refine lv_aload_n hx hb dL_law_297 rfl (lv_at hl 3 rfl) ?_
    refine lv_aload_n hx hb dL_law_298 rfl (lv_at hl 1 rfl) ?_
    refine lv_iload hx hb dL_law_299 (lv_at hl 5 rfl) ?_
    refine lv_iconst (v := 1) hx hb dL_law_301 (by decide) ?_
    refine lv_iadd hx hb dL_law_302 ?_
    refine va_sld hx hb hX hbl hbA hw.2.2.1 (sc_in hL hi (by decide)) dL_law_303 ?_
    refine lv_aload_n hx hb dL_law_304 rfl (lv_at hl 1 rfl) ?_
    refine lv_iload hx hb dL_law_305 (lv_at hl 5 rfl) ?_
    refine lv_iconst (v := 2) hx hb dL_law_307 (by decide) ?_
    refine lv_iadd hx hb dL_law_308 ?_
    refine va_sld hx hb hX hbl hbA hw.2.2.1 (sc_in hL hi (by decide)) dL_law_309 ?_
    refine bx_i2l hx hb dL_law_310 ?_
    refine lv_bipush (v := 32) hx hb dL_law_311 (by decide) ?_
    refine bx_lshl hx hb dL_law_313 ?_
    refine lv_aload_n hx hb dL_law_314 rfl (lv_at hl 1 rfl) ?_
    refine lv_iload hx hb dL_law_315 (lv_at hl 5 rfl) ?_
    refine lv_iconst (v := 3) hx hb dL_law_317 (by decide) ?_
    refine lv_iadd hx hb dL_law_318 ?_
    refine va_sld hx hb hX hbl hbA hw.2.2.1 (sc_in hL hi (by decide)) dL_law_319 ?_
    refine bx_i2l hx hb dL_law_320 ?_
    refine lv_ldc2 (v := 4294967295) hx hb hown (hts _ tw_constantLong_RL_50_4294967295) dL_law_321 ?_
    refine lv_land hx hb dL_law_324 ?_
    refine lv_lor hx hb dL_law_325 ?_
    refine lv_aload_n hx hb dL_law_326 rfl (lv_at hl 1 rfl) ?_
    refine lv_iload hx hb dL_law_327 (lv_at hl 5 rfl) ?_
    refine lv_iconst (v := 4) hx hb dL_law_329 (by decide) ?_
    refine lv_iadd hx hb dL_law_330 ?_
    refine va_sld hx hb hX hbl hbA hw.2.2.1 (sc_in hL hi (by decide)) dL_law_331 ?_
    refine bx_i2l hx hb dL_law_332 ?_
    refine lv_bipush (v := 32) hx hb dL_law_333 (by decide) ?_
    refine bx_lshl hx hb dL_law_335 ?_
    refine lv_aload_n hx hb dL_law_336 rfl (lv_at hl 1 rfl) ?_
    refine lv_iload hx hb dL_law_337 (lv_at hl 5 rfl) ?_
    refine lv_iconst (v := 5) hx hb dL_law_339 (by decide) ?_
    refine lv_iadd hx hb dL_law_340 ?_
    refine va_sld hx hb hX hbl hbA hw.2.2.1 (sc_in hL hi (by decide)) dL_law_341 ?_
    refine bx_i2l hx hb dL_law_342 ?_
    refine lv_ldc2 (v := 4294967295) hx hb hown (hts _ tw_constantLong_RL_50_4294967295) dL_law_343 ?_
    refine lv_land hx hb dL_law_346 ?_
    refine lv_lor hx hb dL_law_347 ?_
    refine lv_aload_n hx hb dL_law_348 rfl (lv_at hl 1 rfl) ?_
    refine lv_iload hx hb dL_law_349 (lv_at hl 5 rfl) ?_
    refine lv_bipush (v := 6) hx hb dL_law_351 (by decide) ?_
    refine lv_iadd hx hb dL_law_353 ?_
    refine va_sld hx hb hX hbl hbA hw.2.2.1 (sc_in hL hi (by decide)) dL_law_354 ?_
    refine bx_i2l hx hb dL_law_355 ?_
    refine lv_bipush (v := 32) hx hb dL_law_356 (by decide) ?_
    refine bx_lshl hx hb dL_law_358 ?_
    refine lv_aload_n hx hb dL_law_359 rfl (lv_at hl 1 rfl) ?_
    refine lv_iload hx hb dL_law_360 (lv_at hl 5 rfl) ?_
    refine lv_bipush (v := 7) hx hb dL_law_362 (by decide) ?_
    refine lv_iadd hx hb dL_law_364 ?_
    refine va_sld hx hb hX hbl hbA hw.2.2.1 (sc_in hL hi (by decide)) dL_law_365 ?_
    refine bx_i2l hx hb dL_law_366 ?_
    refine lv_ldc2 (v := 4294967295) hx hb hown (hts _ tw_constantLong_RL_50_4294967295) dL_law_367 ?_
    refine lv_land hx hb dL_law_370 ?_
    refine lv_lor hx hb dL_law_371 ?_
    refine hx_xl (Wf := (fun u => md_W h9 r cA u.1 ua u.2)) (u0 := (uf, us)) (F := (fX5_wide uf us ((xs (x4 + (1 : Int32)).toNatClampNeg)) (((jl_shl (((xs (x4 + (2 : Int32)).toNatClampNeg)).toInt64) (32 : Int32)) ||| (((xs (x4 + (3 : Int32)).toNatClampNeg)).toInt64 &&& (4294967295 : Int64)))) (((jl_shl (((xs (x4 + (4 : Int32)).toNatClampNeg)).toInt64) (32 : Int32)) ||| (((xs (x4 + (5 : Int32)).toNatClampNeg)).toInt64 &&& (4294967295 : Int64)))) (((jl_shl (((xs (x4 + (6 : Int32)).toNatClampNeg)).toInt64) (32 : Int32)) ||| (((xs (x4 + (7 : Int32)).toNatClampNeg)).toInt64 &&& (4294967295 : Int64)))))) (tys' := md_T cA) (wr := (gl_W h0 g1 g2 rp rd cp cd pf pa df da ds ++ [(qo, .inl (cO, 1, .inr (.inl o)))])) (ws1 := ll_W h0 g1 g2 rp rd cp cd h9 r cA qo cO pf pa df da ds ((fX5_wide uf us ((xs (x4 + (1 : Int32)).toNatClampNeg)) (((jl_shl (((xs (x4 + (2 : Int32)).toNatClampNeg)).toInt64) (32 : Int32)) ||| (((xs (x4 + (3 : Int32)).toNatClampNeg)).toInt64 &&& (4294967295 : Int64)))) (((jl_shl (((xs (x4 + (4 : Int32)).toNatClampNeg)).toInt64) (32 : Int32)) ||| (((xs (x4 + (5 : Int32)).toNatClampNeg)).toInt64 &&& (4294967295 : Int64)))) (((jl_shl (((xs (x4 + (6 : Int32)).toNatClampNeg)).toInt64) (32 : Int32)) ||| (((xs (x4 + (7 : Int32)).toNatClampNeg)).toInt64 &&& (4294967295 : Int64))))).2.1) ua ((fX5_wide uf us ((xs (x4 + (1 : Int32)).toNatClampNeg)) (((jl_shl (((xs (x4 + (2 : Int32)).toNatClampNeg)).toInt64) (32 : Int32)) ||| (((xs (x4 + (3 : Int32)).toNatClampNeg)).toInt64 &&& (4294967295 : Int64)))) (((jl_shl (((xs (x4 + (4 : Int32)).toNatClampNeg)).toInt64) (32 : Int32)) ||| (((xs (x4 + (5 : Int32)).toNatClampNeg)).toInt64 &&& (4294967295 : Int64)))) (((jl_shl (((xs (x4 + (6 : Int32)).toNatClampNeg)).toInt64) (32 : Int32)) ||| (((xs (x4 + (7 : Int32)).toNatClampNeg)).toInt64 &&& (4294967295 : Int64))))).2.2) o) [11, 12, 13, 14, 15, 16, 17, 18, 19, 20, 21] [0, 1, 2, 3, 4, 5, 6, 7, 8, 9, 10, 22] [0, 1, 2, 3, 4, 5, 6, 7, 8, 9, 10, 12, 13, 14, 15, 16, 17, 18, 19, 20, 21, 22, 11] [8, 9, 10, 11, 12, 13, 14, 15, 16, 17] C (fun sz => kX5_wide l dC dI h9 r cA sz uf ua us ((xs (x4 + (1 : Int32)).toNatClampNeg)) (((jl_shl (((xs (x4 + (2 : Int32)).toNatClampNeg)).toInt64) (32 : Int32)) ||| (((xs (x4 + (3 : Int32)).toNatClampNeg)).toInt64 &&& (4294967295 : Int64)))) (((jl_shl (((xs (x4 + (4 : Int32)).toNatClampNeg)).toInt64) (32 : Int32)) ||| (((xs (x4 + (5 : Int32)).toNatClampNeg)).toInt64 &&& (4294967295 : Int64)))) (((jl_shl (((xs (x4 + (6 : Int32)).toNatClampNeg)).toInt64) (32 : Int32)) ||| (((xs (x4 + (7 : Int32)).toNatClampNeg)).toInt64 &&& (4294967295 : Int64))))) (fun _ => bx_B_true) (fun _ _ _ => trivial) hw rfl rfl rfl rfl rfl (by decide) rfl rfl rfl rfl rfl rfl tw_methodLink_RL_55_yX5_wide mbX5_wide rfl ⟨rfl, rfl⟩ ⟨Nat.le_of_ble_eq_true rfl, Nat.le_of_ble_eq_true rfl⟩ hc1 hl.1 rfl (Nat.le_of_ble_eq_true rfl) dL_law_372 (fun H locs hw => ?_)
    refine lv_lstore (lv' := [(6, .long ((fX5_wide uf us ((xs (x4 + (1 : Int32)).toNatClampNeg)) (((jl_shl (((xs (x4 + (2 : Int32)).toNatClampNeg)).toInt64) (32 : Int32)) ||| (((xs (x4 + (3 : Int32)).toNatClampNeg)).toInt64 &&& (4294967295 : Int64)))) (((jl_shl (((xs (x4 + (4 : Int32)).toNatClampNeg)).toInt64) (32 : Int32)) ||| (((xs (x4 + (5 : Int32)).toNatClampNeg)).toInt64 &&& (4294967295 : Int64)))) (((jl_shl (((xs (x4 + (6 : Int32)).toNatClampNeg)).toInt64) (32 : Int32)) ||| (((xs (x4 + (7 : Int32)).toNatClampNeg)).toInt64 &&& (4294967295 : Int64))))).1)), (5, .int ((1 : Int32))), (0, .ref b), (1, .ref h0), (2, .ref h9), (3, .ref qo), (4, .int x4)]) hx hb dL_law_375 hl (by decide) rfl (fun ls hl => ?_)
    refine lv_aload_n hx hb dL_law_377 rfl (lv_at hl 4 rfl) ?_
    refine bx_vi C (kX5_thrown l dC dI h9 r cA ((fX5_wide uf us ((xs (x4 + (1 : Int32)).toNatClampNeg)) (((jl_shl (((xs (x4 + (2 : Int32)).toNatClampNeg)).toInt64) (32 : Int32)) ||| (((xs (x4 + (3 : Int32)).toNatClampNeg)).toInt64 &&& (4294967295 : Int64)))) (((jl_shl (((xs (x4 + (4 : Int32)).toNatClampNeg)).toInt64) (32 : Int32)) ||| (((xs (x4 + (5 : Int32)).toNatClampNeg)).toInt64 &&& (4294967295 : Int64)))) (((jl_shl (((xs (x4 + (6 : Int32)).toNatClampNeg)).toInt64) (32 : Int32)) ||| (((xs (x4 + (7 : Int32)).toNatClampNeg)).toInt64 &&& (4294967295 : Int64))))).2.1) ua ((fX5_wide uf us ((xs (x4 + (1 : Int32)).toNatClampNeg)) (((jl_shl (((xs (x4 + (2 : Int32)).toNatClampNeg)).toInt64) (32 : Int32)) ||| (((xs (x4 + (3 : Int32)).toNatClampNeg)).toInt64 &&& (4294967295 : Int64)))) (((jl_shl (((xs (x4 + (4 : Int32)).toNatClampNeg)).toInt64) (32 : Int32)) ||| (((xs (x4 + (5 : Int32)).toNatClampNeg)).toInt64 &&& (4294967295 : Int64)))) (((jl_shl (((xs (x4 + (6 : Int32)).toNatClampNeg)).toInt64) (32 : Int32)) ||| (((xs (x4 + (7 : Int32)).toNatClampNeg)).toInt64 &&& (4294967295 : Int64))))).2.2)) (rd_B _ _ _) (fun U u1 u2 => hw_rd hw u1 u2 [11, 12, 13, 14, 15, 16, 17, 18, 19, 20, 21] [8, 9, 10, 11, 12, 13, 14, 15, 16, 17] rfl rfl) (fun U u1 u2 => hw_obk (q0 := 11) hw rfl rfl u1 u2) tw_methodLink_RL_46_yX5_thrown mbX5_thrown rfl ⟨rfl, rfl⟩ ⟨Nat.le_of_ble_eq_true rfl, Nat.le_of_ble_eq_true rfl⟩ hc1 hl.1 rfl (Nat.le_of_ble_eq_true rfl) dL_law_378 ?_
    have hq := (c_wide (uf := uf) (us := us) (x1 := (xs (x4 + (1 : Int32)).toNatClampNeg)) (x2 := ((jl_shl (((xs (x4 + (2 : Int32)).toNatClampNeg)).toInt64) (32 : Int32)) ||| (((xs (x4 + (3 : Int32)).toNatClampNeg)).toInt64 &&& (4294967295 : Int64)))) (x4 := ((jl_shl (((xs (x4 + (4 : Int32)).toNatClampNeg)).toInt64) (32 : Int32)) ||| (((xs (x4 + (5 : Int32)).toNatClampNeg)).toInt64 &&& (4294967295 : Int64)))) (x6 := ((jl_shl (((xs (x4 + (6 : Int32)).toNatClampNeg)).toInt64) (32 : Int32)) ||| (((xs (x4 + (7 : Int32)).toNatClampNeg)).toInt64 &&& (4294967295 : Int64))))).2.1 (fun z => hin (ac24.mpr z))
    refine lv_iload hx hb dL_law_381 (lv_at hl 1 rfl) ?_
    refine lv_icmp_eq (tgt := 388) hx hb dL_law_383 (by decide) (fun cq => ?_) (fun cq => absurd hq cq)
    refine lv_iload hx hb dL_law_388 (lv_at hl 1 rfl) ?_
    refine lv_if_ne (tgt := 404) hx hb dL_law_390 (by decide) (fun cq => ?_) (fun cq => absurd cq (by decide))
    refine lv_goto (tgt := 1232) hx hb dL_law_404 (by decide) ?_
    exact k _ _ _ _ _ _ _ _ _ _ _ _ (rl_8 hr (c_wide (uf := uf) (us := us) (x1 := (xs (x4 + (1 : Int32)).toNatClampNeg)) (x2 := ((jl_shl (((xs (x4 + (2 : Int32)).toNatClampNeg)).toInt64) (32 : Int32)) ||| (((xs (x4 + (3 : Int32)).toNatClampNeg)).toInt64 &&& (4294967295 : Int64)))) (x4 := ((jl_shl (((xs (x4 + (4 : Int32)).toNatClampNeg)).toInt64) (32 : Int32)) ||| (((xs (x4 + (5 : Int32)).toNatClampNeg)).toInt64 &&& (4294967295 : Int64)))) (x6 := ((jl_shl (((xs (x4 + (6 : Int32)).toNatClampNeg)).toInt64) (32 : Int32)) ||| (((xs (x4 + (7 : Int32)).toNatClampNeg)).toInt64 &&& (4294967295 : Int64))))).2.2) hw (lv_sub hl [2, 3, 4, 5, 6] rfl)
set_option maxRecDepth 20000 in
theorem cs_2 {p : Program} {l : Launch} {e : Env} {s : State} {m : MethodId} {below : List Frame} {meth : Method} {c : Code} {b L : Nat} {xs : Nat → Int32} {af ad : Nat} {dC : Nat → ClassId} {dI : Nat → Nat → Nat} {h0 g1 g2 : Nat} {rp rd : Nat → Nat} {cp cd : Nat → ClassId} {h9 : Nat} {r : Nat → Nat} {cA : Nat → ClassId} {qo : Nat} {cO : ClassId} {pf : Nat → Int32} {pa : Nat → Nat → Int32} {df : Nat → Int32} {da : Nat → Nat → Int32} {ds : Nat → Int64} {uf : Nat → Int32} {ua : Nat → Nat → Int32} {us o : Nat → Int64} {H : Heap} {locs : List Loc} {ls : Array Slot} {x4 : Int32} {cells slots : Nat} {Q : State → Prop} (hl0 : l.stackTraces = false) (X : lx p s m meth c b L xs af ad) (hL : L ≤ 4096) (hi : 0 ≤ x4.toInt ∧ x4.toInt + 8 ≤ L) (hr : rl pf pa df da uf ua) (hw : hW (dC, dI) (ll_T cp cd cA cO) (fun q => s.heap.size ≤ q) s H locs (ll_W h0 g1 g2 rp rd cp cd h9 r cA qo cO pf pa df da ds uf ua us o)) (hl : lv_has ls 8 [(0, .ref b), (1, .ref h0), (2, .ref h9), (3, .ref qo), (4, .int x4)]) (hcs : cells + 1 ≤ 3101 ∧ slots + 6 ≤ 119854) (k : ll_C p l e s m below meth c b dC dI h0 g1 g2 rp rd cp cd h9 r cA qo cO x4 cells slots Q) : W p l e room_1 s m #[Value.ref b] below meth c H locs cells slots Q (F0 m 407 ls []) := by
  obtain ⟨C, hX, hbl, hK, hNw⟩ := id X
  obtain ⟨hx, hb, hml, hrt, hlocks, hown, hts⟩ := id C
  have hbA : ¬ s.heap.size ≤ b := Nat.not_le.mpr hbl
  have hc0 : cells ≤ room_1.cells ∧ slots ≤ room_1.slots := ⟨by show cells ≤ 3101; omega, by show slots ≤ 119854; omega⟩
  have hc1 : cells + 1 ≤ room_1.cells ∧ slots + 6 ≤ room_1.slots := hcs
  refine lv_aload_n hx hb dL_law_407 rfl (lv_at hl 1 rfl) ?_
  refine lv_aload_n hx hb dL_law_408 rfl (lv_at hl 0 rfl) ?_
  refine lv_iload hx hb dL_law_409 (lv_at hl 4 rfl) ?_
  refine lv_iconst (v := 1) hx hb dL_law_411 (by decide) ?_
  refine lv_iadd hx hb dL_law_412 ?_
  refine va_sld hx hb hX hbl hbA hw.2.2.1 (sc_in hL hi (by decide)) dL_law_413 ?_
  refine lv_aload_n hx hb dL_law_414 rfl (lv_at hl 0 rfl) ?_
  refine lv_iload hx hb dL_law_415 (lv_at hl 4 rfl) ?_
  refine lv_iconst (v := 2) hx hb dL_law_417 (by decide) ?_
  refine lv_iadd hx hb dL_law_418 ?_
  refine va_sld hx hb hX hbl hbA hw.2.2.1 (sc_in hL hi (by decide)) dL_law_419 ?_
  refine lv_aload_n hx hb dL_law_420 rfl (lv_at hl 0 rfl) ?_
  refine lv_iload hx hb dL_law_421 (lv_at hl 4 rfl) ?_
  refine lv_iconst (v := 3) hx hb dL_law_423 (by decide) ?_
  refine lv_iadd hx hb dL_law_424 ?_
  refine va_sld hx hb hX hbl hbA hw.2.2.1 (sc_in hL hi (by decide)) dL_law_425 ?_
  refine lv_aload_n hx hb dL_law_426 rfl (lv_at hl 0 rfl) ?_
  refine lv_iload hx hb dL_law_427 (lv_at hl 4 rfl) ?_
  refine lv_iconst (v := 4) hx hb dL_law_429 (by decide) ?_
  refine lv_iadd hx hb dL_law_430 ?_
  refine va_sld hx hb hX hbl hbA hw.2.2.1 (sc_in hL hi (by decide)) dL_law_431 ?_
  refine lv_aload_n hx hb dL_law_432 rfl (lv_at hl 3 rfl) ?_
  refine hx_h (nA := 6) (Wf := (fun u => lo_W h0 g1 g2 rp rd cp cd pf pa df da ds qo cO u)) (Gn := (fun u => ll_W h0 g1 g2 rp rd cp cd h9 r cA qo cO pf pa df da ds uf ua us u)) (tys' := lo_T cp cd cO) (wC := lo_W h0 g1 g2 rp rd cp cd pf pa df da ds qo cO o) (wr := md_W h9 r cA uf ua us) [0, 1, 2, 3, 4, 5, 6, 7, 8, 9, 10, 22] [11, 12, 13, 14, 15, 16, 17, 18, 19, 20, 21] [11, 12, 13, 14, 15, 16, 17, 18, 19, 20, 21, 0, 1, 2, 3, 4, 5, 6, 7, 8, 9, 10, 22] [0, 1, 2, 3, 4, 5, 6, 7, 18] C (fun sz => kL_test l hl0 dC dI af ad h0 g1 g2 rp rd cp cd sz pf pa df da ds qo cO o ((xs (x4 + (1 : Int32)).toNatClampNeg)) ((xs (x4 + (2 : Int32)).toNatClampNeg)) ((xs (x4 + (3 : Int32)).toNatClampNeg)) ((xs (x4 + (4 : Int32)).toNatClampNeg))) (fun _ _ _ _ _ q => xk_same q rfl rfl) (fun U u1 u2 => xk_to hK hw.2.2.1 (hw_fr hw [0, 1, 2, 3, 4, 5, 6, 7, 8, 9, 10, 22] rfl) u1 u2) hw rfl rfl rfl rfl rfl (by decide) rfl (fun _ => rfl) rfl (fun _ => rfl) tw_methodLink_RL_56_yL_test tw_static_yL_test tw_initialized_RL tw_code_yL_test ⟨by decide, by decide, by decide +kernel⟩ rfl ⟨rfl, rfl⟩ ⟨Nat.le_of_ble_eq_true rfl, Nat.le_of_ble_eq_true rfl⟩ hc1 hl.1 rfl (Nat.le_of_ble_eq_true rfl) dL_law_433 (fun rr u H locs hpost hw => ?_)
  rcases hpost with ⟨hin, rfl, rfl⟩ | ⟨hin, rfl, hu⟩
  · refine lv_istore (lv' := [(5, .int ((0 : Int32))), (0, .ref b), (1, .ref h0), (2, .ref h9), (3, .ref qo), (4, .int x4)]) hx hb dL_law_436 hl (by decide) rfl (fun ls hl => ?_)
    refine lv_aload_n hx hb dL_law_438 rfl (lv_at hl 3 rfl) ?_
    refine lv_aload_n hx hb dL_law_439 rfl (lv_at hl 1 rfl) ?_
    refine lv_iload hx hb dL_law_440 (lv_at hl 5 rfl) ?_
    refine lv_iconst (v := 1) hx hb dL_law_442 (by decide) ?_
    refine lv_iadd hx hb dL_law_443 ?_
    refine va_sld hx hb hX hbl hbA hw.2.2.1 (sc_in hL hi (by decide)) dL_law_444 ?_
    refine lv_aload_n hx hb dL_law_445 rfl (lv_at hl 1 rfl) ?_
    refine lv_iload hx hb dL_law_446 (lv_at hl 5 rfl) ?_
    refine lv_iconst (v := 2) hx hb dL_law_448 (by decide) ?_
    refine lv_iadd hx hb dL_law_449 ?_
    refine va_sld hx hb hX hbl hbA hw.2.2.1 (sc_in hL hi (by decide)) dL_law_450 ?_
    refine lv_aload_n hx hb dL_law_451 rfl (lv_at hl 1 rfl) ?_
    refine lv_iload hx hb dL_law_452 (lv_at hl 5 rfl) ?_
    refine lv_iconst (v := 3) hx hb dL_law_454 (by decide) ?_
    refine lv_iadd hx hb dL_law_455 ?_
    refine va_sld hx hb hX hbl hbA hw.2.2.1 (sc_in hL hi (by decide)) dL_law_456 ?_
    refine lv_aload_n hx hb dL_law_457 rfl (lv_at hl 1 rfl) ?_
    refine lv_iload hx hb dL_law_458 (lv_at hl 5 rfl) ?_
    refine lv_iconst (v := 4) hx hb dL_law_460 (by decide) ?_
    refine lv_iadd hx hb dL_law_461 ?_
    refine va_sld hx hb hX hbl hbA hw.2.2.1 (sc_in hL hi (by decide)) dL_law_462 ?_
    refine hx_xi (Wf := (fun u => md_W h9 r cA u.1 ua u.2)) (u0 := (uf, us)) (F := (fX5_test uf us ((xs (x4 + (1 : Int32)).toNatClampNeg)) ((xs (x4 + (2 : Int32)).toNatClampNeg)) ((xs (x4 + (3 : Int32)).toNatClampNeg)) ((xs (x4 + (4 : Int32)).toNatClampNeg)))) (tys' := md_T cA) (wr := (gl_W h0 g1 g2 rp rd cp cd pf pa df da ds ++ [(qo, .inl (cO, 1, .inr (.inl ((vp_updL o 0 (fX4_test ((xs (x4 + (1 : Int32)).toNatClampNeg)) ((xs (x4 + (2 : Int32)).toNatClampNeg)) ((xs (x4 + (3 : Int32)).toNatClampNeg)) ((xs (x4 + (4 : Int32)).toNatClampNeg))).toInt64)))))])) (ws1 := ll_W h0 g1 g2 rp rd cp cd h9 r cA qo cO pf pa df da ds ((fX5_test uf us ((xs (x4 + (1 : Int32)).toNatClampNeg)) ((xs (x4 + (2 : Int32)).toNatClampNeg)) ((xs (x4 + (3 : Int32)).toNatClampNeg)) ((xs (x4 + (4 : Int32)).toNatClampNeg))).2.1) ua ((fX5_test uf us ((xs (x4 + (1 : Int32)).toNatClampNeg)) ((xs (x4 + (2 : Int32)).toNatClampNeg)) ((xs (x4 + (3 : Int32)).toNatClampNeg)) ((xs (x4 + (4 : Int32)).toNatClampNeg))).2.2) ((vp_updL o 0 (fX4_test ((xs (x4 + (1 : Int32)).toNatClampNeg)) ((xs (x4 + (2 : Int32)).toNatClampNeg)) ((xs (x4 + (3 : Int32)).toNatClampNeg)) ((xs (x4 + (4 : Int32)).toNatClampNeg))).toInt64))) [11, 12, 13, 14, 15, 16, 17, 18, 19, 20, 21] [0, 1, 2, 3, 4, 5, 6, 7, 8, 9, 10, 22] [0, 1, 2, 3, 4, 5, 6, 7, 8, 9, 10, 12, 13, 14, 15, 16, 17, 18, 19, 20, 21, 22, 11] [8, 9, 10, 11, 12, 13, 14, 15, 16, 17] C (fun sz => kX5_test l dC dI h9 r cA sz uf ua us ((xs (x4 + (1 : Int32)).toNatClampNeg)) ((xs (x4 + (2 : Int32)).toNatClampNeg)) ((xs (x4 + (3 : Int32)).toNatClampNeg)) ((xs (x4 + (4 : Int32)).toNatClampNeg))) (fun _ => bx_B_true) (fun _ _ _ => trivial) hw rfl rfl rfl rfl rfl (by decide) rfl rfl rfl rfl rfl rfl tw_methodLink_RL_58_yX5_test mbX5_test rfl ⟨rfl, rfl⟩ ⟨Nat.le_of_ble_eq_true rfl, Nat.le_of_ble_eq_true rfl⟩ hc1 hl.1 rfl (Nat.le_of_ble_eq_true rfl) dL_law_463 (fun H locs hw => ?_)
    refine lv_istore (lv' := [(6, .int ((fX5_test uf us ((xs (x4 + (1 : Int32)).toNatClampNeg)) ((xs (x4 + (2 : Int32)).toNatClampNeg)) ((xs (x4 + (3 : Int32)).toNatClampNeg)) ((xs (x4 + (4 : Int32)).toNatClampNeg))).1)), (5, .int ((0 : Int32))), (0, .ref b), (1, .ref h0), (2, .ref h9), (3, .ref qo), (4, .int x4)]) hx hb dL_law_466 hl (by decide) rfl (fun ls hl => ?_)
    refine lv_aload_n hx hb dL_law_468 rfl (lv_at hl 4 rfl) ?_
    refine bx_vi C (kX5_thrown l dC dI h9 r cA ((fX5_test uf us ((xs (x4 + (1 : Int32)).toNatClampNeg)) ((xs (x4 + (2 : Int32)).toNatClampNeg)) ((xs (x4 + (3 : Int32)).toNatClampNeg)) ((xs (x4 + (4 : Int32)).toNatClampNeg))).2.1) ua ((fX5_test uf us ((xs (x4 + (1 : Int32)).toNatClampNeg)) ((xs (x4 + (2 : Int32)).toNatClampNeg)) ((xs (x4 + (3 : Int32)).toNatClampNeg)) ((xs (x4 + (4 : Int32)).toNatClampNeg))).2.2)) (rd_B _ _ _) (fun U u1 u2 => hw_rd hw u1 u2 [11, 12, 13, 14, 15, 16, 17, 18, 19, 20, 21] [8, 9, 10, 11, 12, 13, 14, 15, 16, 17] rfl rfl) (fun U u1 u2 => hw_obk (q0 := 11) hw rfl rfl u1 u2) tw_methodLink_RL_46_yX5_thrown mbX5_thrown rfl ⟨rfl, rfl⟩ ⟨Nat.le_of_ble_eq_true rfl, Nat.le_of_ble_eq_true rfl⟩ hc1 hl.1 rfl (Nat.le_of_ble_eq_true rfl) dL_law_469 ?_
    have hq := (c_test (uf := uf) (us := us) (x1 := (xs (x4 + (1 : Int32)).toNatClampNeg)) (x2 := (xs (x4 + (2 : Int32)).toNatClampNeg)) (x3 := (xs (x4 + (3 : Int32)).toNatClampNeg)) (x4 := (xs (x4 + (4 : Int32)).toNatClampNeg))).1 (ac8.mp hin)
    refine lv_iload hx hb dL_law_472 (lv_at hl 1 rfl) ?_
    refine lv_icmp_eq (tgt := 479) hx hb dL_law_474 (by decide) (fun cq => ?_) (fun cq => absurd hq.1 cq)
    refine lv_iload hx hb dL_law_479 (lv_at hl 1 rfl) ?_
    refine lv_if_ne (tgt := 496) hx hb dL_law_481 (by decide) (fun cq => absurd rfl cq) (fun cq => ?_)
    refine lv_aload_n hx hb dL_law_484 rfl (lv_at hl 5 rfl) ?_
    refine lv_iconst (v := 0) hx hb dL_law_485 (by decide) ?_
    refine hx_lald hx hb hw.1 hw.2.2.2.1 22 18 rfl rfl (vi_in (by decide) (by decide)) dL_law_486 ?_
    refine bx_as (v := .long (fX4_test ((xs (x4 + (1 : Int32)).toNatClampNeg)) ((xs (x4 + (2 : Int32)).toNatClampNeg)) ((xs (x4 + (3 : Int32)).toNatClampNeg)) ((xs (x4 + (4 : Int32)).toNatClampNeg))).toInt64) rfl ?_
    refine lv_iload hx hb dL_law_487 (lv_at hl 0 rfl) ?_
    refine bx_i2l hx hb dL_law_489 ?_
    refine bx_lc_eq (tgt := 496) hx hb dL_law_490 dL_law_491 (by decide) (fun cq => ?_) (fun cq => absurd (congrArg Int32.toInt64 hq.2).symm cq)
    refine lv_goto (tgt := 1232) hx hb dL_law_496 (by decide) ?_
    exact k _ _ _ _ _ _ _ _ _ _ _ _ (rl_8 hr (c_test (uf := uf) (us := us) (x1 := (xs (x4 + (1 : Int32)).toNatClampNeg)) (x2 := (xs (x4 + (2 : Int32)).toNatClampNeg)) (x3 := (xs (x4 + (3 : Int32)).toNatClampNeg)) (x4 := (xs (x4 + (4 : Int32)).toNatClampNeg))).2.2) hw (lv_sub hl [2, 3, 4, 5, 6] rfl)
  · have hu := hu.symm
    subst hu
    refine lv_istore (lv' := [(5, .int ((1 : Int32))), (0, .ref b), (1, .ref h0), (2, .ref h9), (3, .ref qo), (4, .int x4)]) hx hb dL_law_436 hl (by decide) rfl (fun ls hl => ?_)
    refine lv_aload_n hx hb dL_law_438 rfl (lv_at hl 3 rfl) ?_
    refine lv_aload_n hx hb dL_law_439 rfl (lv_at hl 1 rfl) ?_
    refine lv_iload hx hb dL_law_440 (lv_at hl 5 rfl) ?_
    refine lv_iconst (v := 1) hx hb dL_law_442 (by decide) ?_
    refine lv_iadd hx hb dL_law_443 ?_
    refine va_sld hx hb hX hbl hbA hw.2.2.1 (sc_in hL hi (by decide)) dL_law_444 ?_
    refine lv_aload_n hx hb dL_law_445 rfl (lv_at hl 1 rfl) ?_
    refine lv_iload hx hb dL_law_446 (lv_at hl 5 rfl) ?_
    refine lv_iconst (v := 2) hx hb dL_law_448 (by decide) ?_
    refine lv_iadd hx hb dL_law_449 ?_
    refine va_sld hx hb hX hbl hbA hw.2.2.1 (sc_in hL hi (by decide)) dL_law_450 ?_
    refine lv_aload_n hx hb dL_law_451 rfl (lv_at hl 1 rfl) ?_
    refine lv_iload hx hb dL_law_452 (lv_at hl 5 rfl) ?_
    refine lv_iconst (v := 3) hx hb dL_law_454 (by decide) ?_
    refine lv_iadd hx hb dL_law_455 ?_
    refine va_sld hx hb hX hbl hbA hw.2.2.1 (sc_in hL hi (by decide)) dL_law_456 ?_
    refine lv_aload_n hx hb dL_law_457 rfl (lv_at hl 1 rfl) ?_
    refine lv_iload hx hb dL_law_458 (lv_at hl 5 rfl) ?_
    refine lv_iconst (v := 4) hx hb dL_law_460 (by decide) ?_
    refine lv_iadd hx hb dL_law_461 ?_
    refine va_sld hx hb hX hbl hbA hw.2.2.1 (sc_in hL hi (by decide)) dL_law_462 ?_
    refine hx_xi (Wf := (fun u => md_W h9 r cA u.1 ua u.2)) (u0 := (uf, us)) (F := (fX5_test uf us ((xs (x4 + (1 : Int32)).toNatClampNeg)) ((xs (x4 + (2 : Int32)).toNatClampNeg)) ((xs (x4 + (3 : Int32)).toNatClampNeg)) ((xs (x4 + (4 : Int32)).toNatClampNeg)))) (tys' := md_T cA) (wr := (gl_W h0 g1 g2 rp rd cp cd pf pa df da ds ++ [(qo, .inl (cO, 1, .inr (.inl o)))])) (ws1 := ll_W h0 g1 g2 rp rd cp cd h9 r cA qo cO pf pa df da ds ((fX5_test uf us ((xs (x4 + (1 : Int32)).toNatClampNeg)) ((xs (x4 + (2 : Int32)).toNatClampNeg)) ((xs (x4 + (3 : Int32)).toNatClampNeg)) ((xs (x4 + (4 : Int32)).toNatClampNeg))).2.1) ua ((fX5_test uf us ((xs (x4 + (1 : Int32)).toNatClampNeg)) ((xs (x4 + (2 : Int32)).toNatClampNeg)) ((xs (x4 + (3 : Int32)).toNatClampNeg)) ((xs (x4 + (4 : Int32)).toNatClampNeg))).2.2) o) [11, 12, 13, 14, 15, 16, 17, 18, 19, 20, 21] [0, 1, 2, 3, 4, 5, 6, 7, 8, 9, 10, 22] [0, 1, 2, 3, 4, 5, 6, 7, 8, 9, 10, 12, 13, 14, 15, 16, 17, 18, 19, 20, 21, 22, 11] [8, 9, 10, 11, 12, 13, 14, 15, 16, 17] C (fun sz => kX5_test l dC dI h9 r cA sz uf ua us ((xs (x4 + (1 : Int32)).toNatClampNeg)) ((xs (x4 + (2 : Int32)).toNatClampNeg)) ((xs (x4 + (3 : Int32)).toNatClampNeg)) ((xs (x4 + (4 : Int32)).toNatClampNeg))) (fun _ => bx_B_true) (fun _ _ _ => trivial) hw rfl rfl rfl rfl rfl (by decide) rfl rfl rfl rfl rfl rfl tw_methodLink_RL_58_yX5_test mbX5_test rfl ⟨rfl, rfl⟩ ⟨Nat.le_of_ble_eq_true rfl, Nat.le_of_ble_eq_true rfl⟩ hc1 hl.1 rfl (Nat.le_of_ble_eq_true rfl) dL_law_463 (fun H locs hw => ?_)
    refine lv_istore (lv' := [(6, .int ((fX5_test uf us ((xs (x4 + (1 : Int32)).toNatClampNeg)) ((xs (x4 + (2 : Int32)).toNatClampNeg)) ((xs (x4 + (3 : Int32)).toNatClampNeg)) ((xs (x4 + (4 : Int32)).toNatClampNeg))).1)), (5, .int ((1 : Int32))), (0, .ref b), (1, .ref h0), (2, .ref h9), (3, .ref qo), (4, .int x4)]) hx hb dL_law_466 hl (by decide) rfl (fun ls hl => ?_)
    refine lv_aload_n hx hb dL_law_468 rfl (lv_at hl 4 rfl) ?_
    refine bx_vi C (kX5_thrown l dC dI h9 r cA ((fX5_test uf us ((xs (x4 + (1 : Int32)).toNatClampNeg)) ((xs (x4 + (2 : Int32)).toNatClampNeg)) ((xs (x4 + (3 : Int32)).toNatClampNeg)) ((xs (x4 + (4 : Int32)).toNatClampNeg))).2.1) ua ((fX5_test uf us ((xs (x4 + (1 : Int32)).toNatClampNeg)) ((xs (x4 + (2 : Int32)).toNatClampNeg)) ((xs (x4 + (3 : Int32)).toNatClampNeg)) ((xs (x4 + (4 : Int32)).toNatClampNeg))).2.2)) (rd_B _ _ _) (fun U u1 u2 => hw_rd hw u1 u2 [11, 12, 13, 14, 15, 16, 17, 18, 19, 20, 21] [8, 9, 10, 11, 12, 13, 14, 15, 16, 17] rfl rfl) (fun U u1 u2 => hw_obk (q0 := 11) hw rfl rfl u1 u2) tw_methodLink_RL_46_yX5_thrown mbX5_thrown rfl ⟨rfl, rfl⟩ ⟨Nat.le_of_ble_eq_true rfl, Nat.le_of_ble_eq_true rfl⟩ hc1 hl.1 rfl (Nat.le_of_ble_eq_true rfl) dL_law_469 ?_
    have hq := (c_test (uf := uf) (us := us) (x1 := (xs (x4 + (1 : Int32)).toNatClampNeg)) (x2 := (xs (x4 + (2 : Int32)).toNatClampNeg)) (x3 := (xs (x4 + (3 : Int32)).toNatClampNeg)) (x4 := (xs (x4 + (4 : Int32)).toNatClampNeg))).2.1 (fun z => hin (ac8.mpr z))
    refine lv_iload hx hb dL_law_472 (lv_at hl 1 rfl) ?_
    refine lv_icmp_eq (tgt := 479) hx hb dL_law_474 (by decide) (fun cq => ?_) (fun cq => absurd hq cq)
    refine lv_iload hx hb dL_law_479 (lv_at hl 1 rfl) ?_
    refine lv_if_ne (tgt := 496) hx hb dL_law_481 (by decide) (fun cq => ?_) (fun cq => absurd cq (by decide))
    refine lv_goto (tgt := 1232) hx hb dL_law_496 (by decide) ?_
    exact k _ _ _ _ _ _ _ _ _ _ _ _ (rl_8 hr (c_test (uf := uf) (us := us) (x1 := (xs (x4 + (1 : Int32)).toNatClampNeg)) (x2 := (xs (x4 + (2 : Int32)).toNatClampNeg)) (x3 := (xs (x4 + (3 : Int32)).toNatClampNeg)) (x4 := (xs (x4 + (4 : Int32)).toNatClampNeg))).2.2) hw (lv_sub hl [2, 3, 4, 5, 6] rfl)
set_option maxRecDepth 20000 in
theorem cs_3 {p : Program} {l : Launch} {e : Env} {s : State} {m : MethodId} {below : List Frame} {meth : Method} {c : Code} {b L : Nat} {xs : Nat → Int32} {af ad : Nat} {dC : Nat → ClassId} {dI : Nat → Nat → Nat} {h0 g1 g2 : Nat} {rp rd : Nat → Nat} {cp cd : Nat → ClassId} {h9 : Nat} {r : Nat → Nat} {cA : Nat → ClassId} {qo : Nat} {cO : ClassId} {pf : Nat → Int32} {pa : Nat → Nat → Int32} {df : Nat → Int32} {da : Nat → Nat → Int32} {ds : Nat → Int64} {uf : Nat → Int32} {ua : Nat → Nat → Int32} {us o : Nat → Int64} {H : Heap} {locs : List Loc} {ls : Array Slot} {x4 : Int32} {cells slots : Nat} {Q : State → Prop} (hl0 : l.stackTraces = false) (X : lx p s m meth c b L xs af ad) (hL : L ≤ 4096) (hi : 0 ≤ x4.toInt ∧ x4.toInt + 8 ≤ L) (hr : rl pf pa df da uf ua) (hw : hW (dC, dI) (ll_T cp cd cA cO) (fun q => s.heap.size ≤ q) s H locs (ll_W h0 g1 g2 rp rd cp cd h9 r cA qo cO pf pa df da ds uf ua us o)) (hl : lv_has ls 8 [(0, .ref b), (1, .ref h0), (2, .ref h9), (3, .ref qo), (4, .int x4)]) (hcs : cells + 1 ≤ 3101 ∧ slots + 6 ≤ 119854) (k : ll_C p l e s m below meth c b dC dI h0 g1 g2 rp rd cp cd h9 r cA qo cO x4 cells slots Q) : W p l e room_1 s m #[Value.ref b] below meth c H locs cells slots Q (F0 m 499 ls []) := by
  obtain ⟨C, hX, hbl, hK, hNw⟩ := id X
  obtain ⟨hx, hb, hml, hrt, hlocks, hown, hts⟩ := id C
  have hbA : ¬ s.heap.size ≤ b := Nat.not_le.mpr hbl
  have hc0 : cells ≤ room_1.cells ∧ slots ≤ room_1.slots := ⟨by show cells ≤ 3101; omega, by show slots ≤ 119854; omega⟩
  have hc1 : cells + 1 ≤ room_1.cells ∧ slots + 6 ≤ room_1.slots := hcs
  refine lv_aload_n hx hb dL_law_499 rfl (lv_at hl 1 rfl) ?_
  refine lv_aload_n hx hb dL_law_500 rfl (lv_at hl 0 rfl) ?_
  refine lv_iload hx hb dL_law_501 (lv_at hl 4 rfl) ?_
  refine lv_iconst (v := 1) hx hb dL_law_503 (by decide) ?_
  refine lv_iadd hx hb dL_law_504 ?_
  refine va_sld hx hb hX hbl hbA hw.2.2.1 (sc_in hL hi (by decide)) dL_law_505 ?_
  refine lv_aload_n hx hb dL_law_506 rfl (lv_at hl 0 rfl) ?_
  refine lv_iload hx hb dL_law_507 (lv_at hl 4 rfl) ?_
  refine lv_iconst (v := 2) hx hb dL_law_509 (by decide) ?_
  refine lv_iadd hx hb dL_law_510 ?_
  refine va_sld hx hb hX hbl hbA hw.2.2.1 (sc_in hL hi (by decide)) dL_law_511 ?_
  refine bx_i2l hx hb dL_law_512 ?_
  refine lv_bipush (v := 32) hx hb dL_law_513 (by decide) ?_
  refine bx_lshl hx hb dL_law_515 ?_
  refine lv_aload_n hx hb dL_law_516 rfl (lv_at hl 0 rfl) ?_
  refine lv_iload hx hb dL_law_517 (lv_at hl 4 rfl) ?_
  refine lv_iconst (v := 3) hx hb dL_law_519 (by decide) ?_
  refine lv_iadd hx hb dL_law_520 ?_
  refine va_sld hx hb hX hbl hbA hw.2.2.1 (sc_in hL hi (by decide)) dL_law_521 ?_
  refine bx_i2l hx hb dL_law_522 ?_
  refine lv_ldc2 (v := 4294967295) hx hb hown (hts _ tw_constantLong_RL_50_4294967295) dL_law_523 ?_
  refine lv_land hx hb dL_law_526 ?_
  refine lv_lor hx hb dL_law_527 ?_
  refine lv_aload_n hx hb dL_law_528 rfl (lv_at hl 0 rfl) ?_
  refine lv_iload hx hb dL_law_529 (lv_at hl 4 rfl) ?_
  refine lv_iconst (v := 4) hx hb dL_law_531 (by decide) ?_
  refine lv_iadd hx hb dL_law_532 ?_
  refine va_sld hx hb hX hbl hbA hw.2.2.1 (sc_in hL hi (by decide)) dL_law_533 ?_
  refine bx_i2l hx hb dL_law_534 ?_
  refine lv_bipush (v := 32) hx hb dL_law_535 (by decide) ?_
  refine bx_lshl hx hb dL_law_537 ?_
  refine lv_aload_n hx hb dL_law_538 rfl (lv_at hl 0 rfl) ?_
  refine lv_iload hx hb dL_law_539 (lv_at hl 4 rfl) ?_
  refine lv_iconst (v := 5) hx hb dL_law_541 (by decide) ?_
  refine lv_iadd hx hb dL_law_542 ?_
  refine va_sld hx hb hX hbl hbA hw.2.2.1 (sc_in hL hi (by decide)) dL_law_543 ?_
  refine bx_i2l hx hb dL_law_544 ?_
  refine lv_ldc2 (v := 4294967295) hx hb hown (hts _ tw_constantLong_RL_50_4294967295) dL_law_545 ?_
  refine lv_land hx hb dL_law_548 ?_
  refine lv_lor hx hb dL_law_549 ?_
  refine lv_aload_n hx hb dL_law_550 rfl (lv_at hl 0 rfl) ?_
  refine lv_iload hx hb dL_law_551 (lv_at hl 4 rfl) ?_
  refine lv_bipush (v := 6) hx hb dL_law_553 (by decide) ?_
  refine lv_iadd hx hb dL_law_555 ?_
  refine va_sld hx hb hX hbl hbA hw.2.2.1 (sc_in hL hi (by decide)) dL_law_556 ?_
  refine bx_i2l hx hb dL_law_557 ?_
  refine lv_bipush (v := 32) hx hb dL_law_558 (by decide) ?_
  refine bx_lshl hx hb dL_law_560 ?_
  refine lv_aload_n hx hb dL_law_561 rfl (lv_at hl 0 rfl) ?_
  refine lv_iload hx hb dL_law_562 (lv_at hl 4 rfl) ?_
  refine lv_bipush (v := 7) hx hb dL_law_564 (by decide) ?_
  refine lv_iadd hx hb dL_law_566 ?_
  refine va_sld hx hb hX hbl hbA hw.2.2.1 (sc_in hL hi (by decide)) dL_law_567 ?_
  refine bx_i2l hx hb dL_law_568 ?_
  refine lv_ldc2 (v := 4294967295) hx hb hown (hts _ tw_constantLong_RL_50_4294967295) dL_law_569 ?_
  refine lv_land hx hb dL_law_572 ?_
  refine lv_lor hx hb dL_law_573 ?_
  refine lv_aload_n hx hb dL_law_574 rfl (lv_at hl 3 rfl) ?_
  refine hx_h (nA := 6) (Wf := (fun u => lo_W h0 g1 g2 rp rd cp cd pf pa df da ds qo cO u)) (Gn := (fun u => ll_W h0 g1 g2 rp rd cp cd h9 r cA qo cO pf pa df da ds uf ua us u)) (tys' := lo_T cp cd cO) (wC := lo_W h0 g1 g2 rp rd cp cd pf pa df da ds qo cO o) (wr := md_W h9 r cA uf ua us) [0, 1, 2, 3, 4, 5, 6, 7, 8, 9, 10, 22] [11, 12, 13, 14, 15, 16, 17, 18, 19, 20, 21] [11, 12, 13, 14, 15, 16, 17, 18, 19, 20, 21, 0, 1, 2, 3, 4, 5, 6, 7, 8, 9, 10, 22] [0, 1, 2, 3, 4, 5, 6, 7, 18] C (fun sz => kL_wideTest l hl0 dC dI af ad h0 g1 g2 rp rd cp cd sz pf pa df da ds qo cO o ((xs (x4 + (1 : Int32)).toNatClampNeg)) (((jl_shl (((xs (x4 + (2 : Int32)).toNatClampNeg)).toInt64) (32 : Int32)) ||| (((xs (x4 + (3 : Int32)).toNatClampNeg)).toInt64 &&& (4294967295 : Int64)))) (((jl_shl (((xs (x4 + (4 : Int32)).toNatClampNeg)).toInt64) (32 : Int32)) ||| (((xs (x4 + (5 : Int32)).toNatClampNeg)).toInt64 &&& (4294967295 : Int64)))) (((jl_shl (((xs (x4 + (6 : Int32)).toNatClampNeg)).toInt64) (32 : Int32)) ||| (((xs (x4 + (7 : Int32)).toNatClampNeg)).toInt64 &&& (4294967295 : Int64))))) (fun _ _ _ _ _ q => xk_same q rfl rfl) (fun U u1 u2 => xk_to hK hw.2.2.1 (hw_fr hw [0, 1, 2, 3, 4, 5, 6, 7, 8, 9, 10, 22] rfl) u1 u2) hw rfl rfl rfl rfl rfl (by decide) rfl (fun _ => rfl) rfl (fun _ => rfl) tw_methodLink_RL_59_yL_wideTest tw_static_yL_wideTest tw_initialized_RL tw_code_yL_wideTest ⟨by decide, by decide, by decide +kernel⟩ rfl ⟨rfl, rfl⟩ ⟨Nat.le_of_ble_eq_true rfl, Nat.le_of_ble_eq_true rfl⟩ hc1 hl.1 rfl (Nat.le_of_ble_eq_true rfl) dL_law_575 (fun rr u H locs hpost hw => ?_)
  rcases hpost with ⟨hin, rfl, rfl⟩ | ⟨hin, rfl, hu⟩
  · refine lv_istore (lv' := [(5, .int ((0 : Int32))), (0, .ref b), (1, .ref h0), (2, .ref h9), (3, .ref qo), (4, .int x4)]) hx hb dL_law_578 hl (by decide) rfl (fun ls hl => ?_)
    refine lv_aload_n hx hb dL_law_580 rfl (lv_at hl 3 rfl) ?_
    refine lv_aload_n hx hb dL_law_581 rfl (lv_at hl 1 rfl) ?_
    refine lv_iload hx hb dL_law_582 (lv_at hl 5 rfl) ?_
    refine lv_iconst (v := 1) hx hb dL_law_584 (by decide) ?_
    refine lv_iadd hx hb dL_law_585 ?_
    refine va_sld hx hb hX hbl hbA hw.2.2.1 (sc_in hL hi (by decide)) dL_law_586 ?_
    refine lv_aload_n hx hb dL_law_587 rfl (lv_at hl 1 rfl) ?_
    refine lv_iload hx hb dL_law_588 (lv_at hl 5 rfl) ?_
    refine lv_iconst (v := 2) hx hb dL_law_590 (by decide) ?_
    refine lv_iadd hx hb dL_law_591 ?_
    refine va_sld hx hb hX hbl hbA hw.2.2.1 (sc_in hL hi (by decide)) dL_law_592 ?_
    refine bx_i2l hx hb dL_law_593 ?_
    refine lv_bipush (v := 32) hx hb dL_law_594 (by decide) ?_
    refine bx_lshl hx hb dL_law_596 ?_
    refine lv_aload_n hx hb dL_law_597 rfl (lv_at hl 1 rfl) ?_
    refine lv_iload hx hb dL_law_598 (lv_at hl 5 rfl) ?_
    refine lv_iconst (v := 3) hx hb dL_law_600 (by decide) ?_
    refine lv_iadd hx hb dL_law_601 ?_
    refine va_sld hx hb hX hbl hbA hw.2.2.1 (sc_in hL hi (by decide)) dL_law_602 ?_
    refine bx_i2l hx hb dL_law_603 ?_
    refine lv_ldc2 (v := 4294967295) hx hb hown (hts _ tw_constantLong_RL_50_4294967295) dL_law_604 ?_
    refine lv_land hx hb dL_law_607 ?_
    refine lv_lor hx hb dL_law_608 ?_
    refine lv_aload_n hx hb dL_law_609 rfl (lv_at hl 1 rfl) ?_
    refine lv_iload hx hb dL_law_610 (lv_at hl 5 rfl) ?_
    refine lv_iconst (v := 4) hx hb dL_law_612 (by decide) ?_
    refine lv_iadd hx hb dL_law_613 ?_
    refine va_sld hx hb hX hbl hbA hw.2.2.1 (sc_in hL hi (by decide)) dL_law_614 ?_
    refine bx_i2l hx hb dL_law_615 ?_
    refine lv_bipush (v := 32) hx hb dL_law_616 (by decide) ?_
    refine bx_lshl hx hb dL_law_618 ?_
    refine lv_aload_n hx hb dL_law_619 rfl (lv_at hl 1 rfl) ?_
    refine lv_iload hx hb dL_law_620 (lv_at hl 5 rfl) ?_
    refine lv_iconst (v := 5) hx hb dL_law_622 (by decide) ?_
    refine lv_iadd hx hb dL_law_623 ?_
    refine va_sld hx hb hX hbl hbA hw.2.2.1 (sc_in hL hi (by decide)) dL_law_624 ?_
    refine bx_i2l hx hb dL_law_625 ?_
    refine lv_ldc2 (v := 4294967295) hx hb hown (hts _ tw_constantLong_RL_50_4294967295) dL_law_626 ?_
    refine lv_land hx hb dL_law_629 ?_
    refine lv_lor hx hb dL_law_630 ?_
    refine lv_aload_n hx hb dL_law_631 rfl (lv_at hl 1 rfl) ?_
    refine lv_iload hx hb dL_law_632 (lv_at hl 5 rfl) ?_
    refine lv_bipush (v := 6) hx hb dL_law_634 (by decide) ?_
    refine lv_iadd hx hb dL_law_636 ?_
    refine va_sld hx hb hX hbl hbA hw.2.2.1 (sc_in hL hi (by decide)) dL_law_637 ?_
    refine bx_i2l hx hb dL_law_638 ?_
    refine lv_bipush (v := 32) hx hb dL_law_639 (by decide) ?_
    refine bx_lshl hx hb dL_law_641 ?_
    refine lv_aload_n hx hb dL_law_642 rfl (lv_at hl 1 rfl) ?_
    refine lv_iload hx hb dL_law_643 (lv_at hl 5 rfl) ?_
    refine lv_bipush (v := 7) hx hb dL_law_645 (by decide) ?_
    refine lv_iadd hx hb dL_law_647 ?_
    refine va_sld hx hb hX hbl hbA hw.2.2.1 (sc_in hL hi (by decide)) dL_law_648 ?_
    refine bx_i2l hx hb dL_law_649 ?_
    refine lv_ldc2 (v := 4294967295) hx hb hown (hts _ tw_constantLong_RL_50_4294967295) dL_law_650 ?_
    refine lv_land hx hb dL_law_653 ?_
    refine lv_lor hx hb dL_law_654 ?_
    refine hx_xi (Wf := (fun u => md_W h9 r cA u.1 ua u.2)) (u0 := (uf, us)) (F := (fX5_wideTest uf us ((xs (x4 + (1 : Int32)).toNatClampNeg)) (((jl_shl (((xs (x4 + (2 : Int32)).toNatClampNeg)).toInt64) (32 : Int32)) ||| (((xs (x4 + (3 : Int32)).toNatClampNeg)).toInt64 &&& (4294967295 : Int64)))) (((jl_shl (((xs (x4 + (4 : Int32)).toNatClampNeg)).toInt64) (32 : Int32)) ||| (((xs (x4 + (5 : Int32)).toNatClampNeg)).toInt64 &&& (4294967295 : Int64)))) (((jl_shl (((xs (x4 + (6 : Int32)).toNatClampNeg)).toInt64) (32 : Int32)) ||| (((xs (x4 + (7 : Int32)).toNatClampNeg)).toInt64 &&& (4294967295 : Int64)))))) (tys' := md_T cA) (wr := (gl_W h0 g1 g2 rp rd cp cd pf pa df da ds ++ [(qo, .inl (cO, 1, .inr (.inl ((vp_updL o 0 (fX4_wideTest ((xs (x4 + (1 : Int32)).toNatClampNeg)) (((jl_shl (((xs (x4 + (2 : Int32)).toNatClampNeg)).toInt64) (32 : Int32)) ||| (((xs (x4 + (3 : Int32)).toNatClampNeg)).toInt64 &&& (4294967295 : Int64)))) (((jl_shl (((xs (x4 + (4 : Int32)).toNatClampNeg)).toInt64) (32 : Int32)) ||| (((xs (x4 + (5 : Int32)).toNatClampNeg)).toInt64 &&& (4294967295 : Int64)))) (((jl_shl (((xs (x4 + (6 : Int32)).toNatClampNeg)).toInt64) (32 : Int32)) ||| (((xs (x4 + (7 : Int32)).toNatClampNeg)).toInt64 &&& (4294967295 : Int64))))).toInt64)))))])) (ws1 := ll_W h0 g1 g2 rp rd cp cd h9 r cA qo cO pf pa df da ds ((fX5_wideTest uf us ((xs (x4 + (1 : Int32)).toNatClampNeg)) (((jl_shl (((xs (x4 + (2 : Int32)).toNatClampNeg)).toInt64) (32 : Int32)) ||| (((xs (x4 + (3 : Int32)).toNatClampNeg)).toInt64 &&& (4294967295 : Int64)))) (((jl_shl (((xs (x4 + (4 : Int32)).toNatClampNeg)).toInt64) (32 : Int32)) ||| (((xs (x4 + (5 : Int32)).toNatClampNeg)).toInt64 &&& (4294967295 : Int64)))) (((jl_shl (((xs (x4 + (6 : Int32)).toNatClampNeg)).toInt64) (32 : Int32)) ||| (((xs (x4 + (7 : Int32)).toNatClampNeg)).toInt64 &&& (4294967295 : Int64))))).2.1) ua ((fX5_wideTest uf us ((xs (x4 + (1 : Int32)).toNatClampNeg)) (((jl_shl (((xs (x4 + (2 : Int32)).toNatClampNeg)).toInt64) (32 : Int32)) ||| (((xs (x4 + (3 : Int32)).toNatClampNeg)).toInt64 &&& (4294967295 : Int64)))) (((jl_shl (((xs (x4 + (4 : Int32)).toNatClampNeg)).toInt64) (32 : Int32)) ||| (((xs (x4 + (5 : Int32)).toNatClampNeg)).toInt64 &&& (4294967295 : Int64)))) (((jl_shl (((xs (x4 + (6 : Int32)).toNatClampNeg)).toInt64) (32 : Int32)) ||| (((xs (x4 + (7 : Int32)).toNatClampNeg)).toInt64 &&& (4294967295 : Int64))))).2.2) ((vp_updL o 0 (fX4_wideTest ((xs (x4 + (1 : Int32)).toNatClampNeg)) (((jl_shl (((xs (x4 + (2 : Int32)).toNatClampNeg)).toInt64) (32 : Int32)) ||| (((xs (x4 + (3 : Int32)).toNatClampNeg)).toInt64 &&& (4294967295 : Int64)))) (((jl_shl (((xs (x4 + (4 : Int32)).toNatClampNeg)).toInt64) (32 : Int32)) ||| (((xs (x4 + (5 : Int32)).toNatClampNeg)).toInt64 &&& (4294967295 : Int64)))) (((jl_shl (((xs (x4 + (6 : Int32)).toNatClampNeg)).toInt64) (32 : Int32)) ||| (((xs (x4 + (7 : Int32)).toNatClampNeg)).toInt64 &&& (4294967295 : Int64))))).toInt64))) [11, 12, 13, 14, 15, 16, 17, 18, 19, 20, 21] [0, 1, 2, 3, 4, 5, 6, 7, 8, 9, 10, 22] [0, 1, 2, 3, 4, 5, 6, 7, 8, 9, 10, 12, 13, 14, 15, 16, 17, 18, 19, 20, 21, 22, 11] [8, 9, 10, 11, 12, 13, 14, 15, 16, 17] C (fun sz => kX5_wideTest l dC dI h9 r cA sz uf ua us ((xs (x4 + (1 : Int32)).toNatClampNeg)) (((jl_shl (((xs (x4 + (2 : Int32)).toNatClampNeg)).toInt64) (32 : Int32)) ||| (((xs (x4 + (3 : Int32)).toNatClampNeg)).toInt64 &&& (4294967295 : Int64)))) (((jl_shl (((xs (x4 + (4 : Int32)).toNatClampNeg)).toInt64) (32 : Int32)) ||| (((xs (x4 + (5 : Int32)).toNatClampNeg)).toInt64 &&& (4294967295 : Int64)))) (((jl_shl (((xs (x4 + (6 : Int32)).toNatClampNeg)).toInt64) (32 : Int32)) ||| (((xs (x4 + (7 : Int32)).toNatClampNeg)).toInt64 &&& (4294967295 : Int64))))) (fun _ => bx_B_true) (fun _ _ _ => trivial) hw rfl rfl rfl rfl rfl (by decide) rfl rfl rfl rfl rfl rfl tw_methodLink_RL_61_yX5_wideTest mbX5_wideTest rfl ⟨rfl, rfl⟩ ⟨Nat.le_of_ble_eq_true rfl, Nat.le_of_ble_eq_true rfl⟩ hc1 hl.1 rfl (Nat.le_of_ble_eq_true rfl) dL_law_655 (fun H locs hw => ?_)
    refine lv_istore (lv' := [(6, .int ((fX5_wideTest uf us ((xs (x4 + (1 : Int32)).toNatClampNeg)) (((jl_shl (((xs (x4 + (2 : Int32)).toNatClampNeg)).toInt64) (32 : Int32)) ||| (((xs (x4 + (3 : Int32)).toNatClampNeg)).toInt64 &&& (4294967295 : Int64)))) (((jl_shl (((xs (x4 + (4 : Int32)).toNatClampNeg)).toInt64) (32 : Int32)) ||| (((xs (x4 + (5 : Int32)).toNatClampNeg)).toInt64 &&& (4294967295 : Int64)))) (((jl_shl (((xs (x4 + (6 : Int32)).toNatClampNeg)).toInt64) (32 : Int32)) ||| (((xs (x4 + (7 : Int32)).toNatClampNeg)).toInt64 &&& (4294967295 : Int64))))).1)), (5, .int ((0 : Int32))), (0, .ref b), (1, .ref h0), (2, .ref h9), (3, .ref qo), (4, .int x4)]) hx hb dL_law_658 hl (by decide) rfl (fun ls hl => ?_)
    refine lv_aload_n hx hb dL_law_660 rfl (lv_at hl 4 rfl) ?_
    refine bx_vi C (kX5_thrown l dC dI h9 r cA ((fX5_wideTest uf us ((xs (x4 + (1 : Int32)).toNatClampNeg)) (((jl_shl (((xs (x4 + (2 : Int32)).toNatClampNeg)).toInt64) (32 : Int32)) ||| (((xs (x4 + (3 : Int32)).toNatClampNeg)).toInt64 &&& (4294967295 : Int64)))) (((jl_shl (((xs (x4 + (4 : Int32)).toNatClampNeg)).toInt64) (32 : Int32)) ||| (((xs (x4 + (5 : Int32)).toNatClampNeg)).toInt64 &&& (4294967295 : Int64)))) (((jl_shl (((xs (x4 + (6 : Int32)).toNatClampNeg)).toInt64) (32 : Int32)) ||| (((xs (x4 + (7 : Int32)).toNatClampNeg)).toInt64 &&& (4294967295 : Int64))))).2.1) ua ((fX5_wideTest uf us ((xs (x4 + (1 : Int32)).toNatClampNeg)) (((jl_shl (((xs (x4 + (2 : Int32)).toNatClampNeg)).toInt64) (32 : Int32)) ||| (((xs (x4 + (3 : Int32)).toNatClampNeg)).toInt64 &&& (4294967295 : Int64)))) (((jl_shl (((xs (x4 + (4 : Int32)).toNatClampNeg)).toInt64) (32 : Int32)) ||| (((xs (x4 + (5 : Int32)).toNatClampNeg)).toInt64 &&& (4294967295 : Int64)))) (((jl_shl (((xs (x4 + (6 : Int32)).toNatClampNeg)).toInt64) (32 : Int32)) ||| (((xs (x4 + (7 : Int32)).toNatClampNeg)).toInt64 &&& (4294967295 : Int64))))).2.2)) (rd_B _ _ _) (fun U u1 u2 => hw_rd hw u1 u2 [11, 12, 13, 14, 15, 16, 17, 18, 19, 20, 21] [8, 9, 10, 11, 12, 13, 14, 15, 16, 17] rfl rfl) (fun U u1 u2 => hw_obk (q0 := 11) hw rfl rfl u1 u2) tw_methodLink_RL_46_yX5_thrown mbX5_thrown rfl ⟨rfl, rfl⟩ ⟨Nat.le_of_ble_eq_true rfl, Nat.le_of_ble_eq_true rfl⟩ hc1 hl.1 rfl (Nat.le_of_ble_eq_true rfl) dL_law_661 ?_
    have hq := (c_wideTest (uf := uf) (us := us) (x1 := (xs (x4 + (1 : Int32)).toNatClampNeg)) (x2 := ((jl_shl (((xs (x4 + (2 : Int32)).toNatClampNeg)).toInt64) (32 : Int32)) ||| (((xs (x4 + (3 : Int32)).toNatClampNeg)).toInt64 &&& (4294967295 : Int64)))) (x4 := ((jl_shl (((xs (x4 + (4 : Int32)).toNatClampNeg)).toInt64) (32 : Int32)) ||| (((xs (x4 + (5 : Int32)).toNatClampNeg)).toInt64 &&& (4294967295 : Int64)))) (x6 := ((jl_shl (((xs (x4 + (6 : Int32)).toNatClampNeg)).toInt64) (32 : Int32)) ||| (((xs (x4 + (7 : Int32)).toNatClampNeg)).toInt64 &&& (4294967295 : Int64))))).1 (ac8.mp hin)
    refine lv_iload hx hb dL_law_664 (lv_at hl 1 rfl) ?_
    refine lv_icmp_eq (tgt := 671) hx hb dL_law_666 (by decide) (fun cq => ?_) (fun cq => absurd hq.1 cq)
    refine lv_iload hx hb dL_law_671 (lv_at hl 1 rfl) ?_
    refine lv_if_ne (tgt := 688) hx hb dL_law_673 (by decide) (fun cq => absurd rfl cq) (fun cq => ?_)
    refine lv_aload_n hx hb dL_law_676 rfl (lv_at hl 5 rfl) ?_
    refine lv_iconst (v := 0) hx hb dL_law_677 (by decide) ?_
    refine hx_lald hx hb hw.1 hw.2.2.2.1 22 18 rfl rfl (vi_in (by decide) (by decide)) dL_law_678 ?_
    refine bx_as (v := .long (fX4_wideTest ((xs (x4 + (1 : Int32)).toNatClampNeg)) (((jl_shl (((xs (x4 + (2 : Int32)).toNatClampNeg)).toInt64) (32 : Int32)) ||| (((xs (x4 + (3 : Int32)).toNatClampNeg)).toInt64 &&& (4294967295 : Int64)))) (((jl_shl (((xs (x4 + (4 : Int32)).toNatClampNeg)).toInt64) (32 : Int32)) ||| (((xs (x4 + (5 : Int32)).toNatClampNeg)).toInt64 &&& (4294967295 : Int64)))) (((jl_shl (((xs (x4 + (6 : Int32)).toNatClampNeg)).toInt64) (32 : Int32)) ||| (((xs (x4 + (7 : Int32)).toNatClampNeg)).toInt64 &&& (4294967295 : Int64))))).toInt64) rfl ?_
    refine lv_iload hx hb dL_law_679 (lv_at hl 0 rfl) ?_
    refine bx_i2l hx hb dL_law_681 ?_
    refine bx_lc_eq (tgt := 688) hx hb dL_law_682 dL_law_683 (by decide) (fun cq => ?_) (fun cq => absurd (congrArg Int32.toInt64 hq.2).symm cq)
    refine lv_goto (tgt := 1232) hx hb dL_law_688 (by decide) ?_
    exact k _ _ _ _ _ _ _ _ _ _ _ _ (rl_8 hr (c_wideTest (uf := uf) (us := us) (x1 := (xs (x4 + (1 : Int32)).toNatClampNeg)) (x2 := ((jl_shl (((xs (x4 + (2 : Int32)).toNatClampNeg)).toInt64) (32 : Int32)) ||| (((xs (x4 + (3 : Int32)).toNatClampNeg)).toInt64 &&& (4294967295 : Int64)))) (x4 := ((jl_shl (((xs (x4 + (4 : Int32)).toNatClampNeg)).toInt64) (32 : Int32)) ||| (((xs (x4 + (5 : Int32)).toNatClampNeg)).toInt64 &&& (4294967295 : Int64)))) (x6 := ((jl_shl (((xs (x4 + (6 : Int32)).toNatClampNeg)).toInt64) (32 : Int32)) ||| (((xs (x4 + (7 : Int32)).toNatClampNeg)).toInt64 &&& (4294967295 : Int64))))).2.2) hw (lv_sub hl [2, 3, 4, 5, 6] rfl)
  · have hu := hu.symm
    subst hu
    refine lv_istore (lv' := [(5, .int ((1 : Int32))), (0, .ref b), (1, .ref h0), (2, .ref h9), (3, .ref qo), (4, .int x4)]) hx hb dL_law_578 hl (by decide) rfl (fun ls hl => ?_)
    refine lv_aload_n hx hb dL_law_580 rfl (lv_at hl 3 rfl) ?_
    refine lv_aload_n hx hb dL_law_581 rfl (lv_at hl 1 rfl) ?_
    refine lv_iload hx hb dL_law_582 (lv_at hl 5 rfl) ?_
    refine lv_iconst (v := 1) hx hb dL_law_584 (by decide) ?_
    refine lv_iadd hx hb dL_law_585 ?_
    refine va_sld hx hb hX hbl hbA hw.2.2.1 (sc_in hL hi (by decide)) dL_law_586 ?_
    refine lv_aload_n hx hb dL_law_587 rfl (lv_at hl 1 rfl) ?_
    refine lv_iload hx hb dL_law_588 (lv_at hl 5 rfl) ?_
    refine lv_iconst (v := 2) hx hb dL_law_590 (by decide) ?_
    refine lv_iadd hx hb dL_law_591 ?_
    refine va_sld hx hb hX hbl hbA hw.2.2.1 (sc_in hL hi (by decide)) dL_law_592 ?_
    refine bx_i2l hx hb dL_law_593 ?_
    refine lv_bipush (v := 32) hx hb dL_law_594 (by decide) ?_
    refine bx_lshl hx hb dL_law_596 ?_
    refine lv_aload_n hx hb dL_law_597 rfl (lv_at hl 1 rfl) ?_
    refine lv_iload hx hb dL_law_598 (lv_at hl 5 rfl) ?_
    refine lv_iconst (v := 3) hx hb dL_law_600 (by decide) ?_
    refine lv_iadd hx hb dL_law_601 ?_
    refine va_sld hx hb hX hbl hbA hw.2.2.1 (sc_in hL hi (by decide)) dL_law_602 ?_
    refine bx_i2l hx hb dL_law_603 ?_
    refine lv_ldc2 (v := 4294967295) hx hb hown (hts _ tw_constantLong_RL_50_4294967295) dL_law_604 ?_
    refine lv_land hx hb dL_law_607 ?_
    refine lv_lor hx hb dL_law_608 ?_
    refine lv_aload_n hx hb dL_law_609 rfl (lv_at hl 1 rfl) ?_
    refine lv_iload hx hb dL_law_610 (lv_at hl 5 rfl) ?_
    refine lv_iconst (v := 4) hx hb dL_law_612 (by decide) ?_
    refine lv_iadd hx hb dL_law_613 ?_
    refine va_sld hx hb hX hbl hbA hw.2.2.1 (sc_in hL hi (by decide)) dL_law_614 ?_
    refine bx_i2l hx hb dL_law_615 ?_
    refine lv_bipush (v := 32) hx hb dL_law_616 (by decide) ?_
    refine bx_lshl hx hb dL_law_618 ?_
    refine lv_aload_n hx hb dL_law_619 rfl (lv_at hl 1 rfl) ?_
    refine lv_iload hx hb dL_law_620 (lv_at hl 5 rfl) ?_
    refine lv_iconst (v := 5) hx hb dL_law_622 (by decide) ?_
    refine lv_iadd hx hb dL_law_623 ?_
    refine va_sld hx hb hX hbl hbA hw.2.2.1 (sc_in hL hi (by decide)) dL_law_624 ?_
    refine bx_i2l hx hb dL_law_625 ?_
    refine lv_ldc2 (v := 4294967295) hx hb hown (hts _ tw_constantLong_RL_50_4294967295) dL_law_626 ?_
    refine lv_land hx hb dL_law_629 ?_
    refine lv_lor hx hb dL_law_630 ?_
    refine lv_aload_n hx hb dL_law_631 rfl (lv_at hl 1 rfl) ?_
    refine lv_iload hx hb dL_law_632 (lv_at hl 5 rfl) ?_
    refine lv_bipush (v := 6) hx hb dL_law_634 (by decide) ?_
    refine lv_iadd hx hb dL_law_636 ?_
    refine va_sld hx hb hX hbl hbA hw.2.2.1 (sc_in hL hi (by decide)) dL_law_637 ?_
    refine bx_i2l hx hb dL_law_638 ?_
    refine lv_bipush (v := 32) hx hb dL_law_639 (by decide) ?_
    refine bx_lshl hx hb dL_law_641 ?_
    refine lv_aload_n hx hb dL_law_642 rfl (lv_at hl 1 rfl) ?_
    refine lv_iload hx hb dL_law_643 (lv_at hl 5 rfl) ?_
    refine lv_bipush (v := 7) hx hb dL_law_645 (by decide) ?_
    refine lv_iadd hx hb dL_law_647 ?_
    refine va_sld hx hb hX hbl hbA hw.2.2.1 (sc_in hL hi (by decide)) dL_law_648 ?_
    refine bx_i2l hx hb dL_law_649 ?_
    refine lv_ldc2 (v := 4294967295) hx hb hown (hts _ tw_constantLong_RL_50_4294967295) dL_law_650 ?_
    refine lv_land hx hb dL_law_653 ?_
    refine lv_lor hx hb dL_law_654 ?_
    refine hx_xi (Wf := (fun u => md_W h9 r cA u.1 ua u.2)) (u0 := (uf, us)) (F := (fX5_wideTest uf us ((xs (x4 + (1 : Int32)).toNatClampNeg)) (((jl_shl (((xs (x4 + (2 : Int32)).toNatClampNeg)).toInt64) (32 : Int32)) ||| (((xs (x4 + (3 : Int32)).toNatClampNeg)).toInt64 &&& (4294967295 : Int64)))) (((jl_shl (((xs (x4 + (4 : Int32)).toNatClampNeg)).toInt64) (32 : Int32)) ||| (((xs (x4 + (5 : Int32)).toNatClampNeg)).toInt64 &&& (4294967295 : Int64)))) (((jl_shl (((xs (x4 + (6 : Int32)).toNatClampNeg)).toInt64) (32 : Int32)) ||| (((xs (x4 + (7 : Int32)).toNatClampNeg)).toInt64 &&& (4294967295 : Int64)))))) (tys' := md_T cA) (wr := (gl_W h0 g1 g2 rp rd cp cd pf pa df da ds ++ [(qo, .inl (cO, 1, .inr (.inl o)))])) (ws1 := ll_W h0 g1 g2 rp rd cp cd h9 r cA qo cO pf pa df da ds ((fX5_wideTest uf us ((xs (x4 + (1 : Int32)).toNatClampNeg)) (((jl_shl (((xs (x4 + (2 : Int32)).toNatClampNeg)).toInt64) (32 : Int32)) ||| (((xs (x4 + (3 : Int32)).toNatClampNeg)).toInt64 &&& (4294967295 : Int64)))) (((jl_shl (((xs (x4 + (4 : Int32)).toNatClampNeg)).toInt64) (32 : Int32)) ||| (((xs (x4 + (5 : Int32)).toNatClampNeg)).toInt64 &&& (4294967295 : Int64)))) (((jl_shl (((xs (x4 + (6 : Int32)).toNatClampNeg)).toInt64) (32 : Int32)) ||| (((xs (x4 + (7 : Int32)).toNatClampNeg)).toInt64 &&& (4294967295 : Int64))))).2.1) ua ((fX5_wideTest uf us ((xs (x4 + (1 : Int32)).toNatClampNeg)) (((jl_shl (((xs (x4 + (2 : Int32)).toNatClampNeg)).toInt64) (32 : Int32)) ||| (((xs (x4 + (3 : Int32)).toNatClampNeg)).toInt64 &&& (4294967295 : Int64)))) (((jl_shl (((xs (x4 + (4 : Int32)).toNatClampNeg)).toInt64) (32 : Int32)) ||| (((xs (x4 + (5 : Int32)).toNatClampNeg)).toInt64 &&& (4294967295 : Int64)))) (((jl_shl (((xs (x4 + (6 : Int32)).toNatClampNeg)).toInt64) (32 : Int32)) ||| (((xs (x4 + (7 : Int32)).toNatClampNeg)).toInt64 &&& (4294967295 : Int64))))).2.2) o) [11, 12, 13, 14, 15, 16, 17, 18, 19, 20, 21] [0, 1, 2, 3, 4, 5, 6, 7, 8, 9, 10, 22] [0, 1, 2, 3, 4, 5, 6, 7, 8, 9, 10, 12, 13, 14, 15, 16, 17, 18, 19, 20, 21, 22, 11] [8, 9, 10, 11, 12, 13, 14, 15, 16, 17] C (fun sz => kX5_wideTest l dC dI h9 r cA sz uf ua us ((xs (x4 + (1 : Int32)).toNatClampNeg)) (((jl_shl (((xs (x4 + (2 : Int32)).toNatClampNeg)).toInt64) (32 : Int32)) ||| (((xs (x4 + (3 : Int32)).toNatClampNeg)).toInt64 &&& (4294967295 : Int64)))) (((jl_shl (((xs (x4 + (4 : Int32)).toNatClampNeg)).toInt64) (32 : Int32)) ||| (((xs (x4 + (5 : Int32)).toNatClampNeg)).toInt64 &&& (4294967295 : Int64)))) (((jl_shl (((xs (x4 + (6 : Int32)).toNatClampNeg)).toInt64) (32 : Int32)) ||| (((xs (x4 + (7 : Int32)).toNatClampNeg)).toInt64 &&& (4294967295 : Int64))))) (fun _ => bx_B_true) (fun _ _ _ => trivial) hw rfl rfl rfl rfl rfl (by decide) rfl rfl rfl rfl rfl rfl tw_methodLink_RL_61_yX5_wideTest mbX5_wideTest rfl ⟨rfl, rfl⟩ ⟨Nat.le_of_ble_eq_true rfl, Nat.le_of_ble_eq_true rfl⟩ hc1 hl.1 rfl (Nat.le_of_ble_eq_true rfl) dL_law_655 (fun H locs hw => ?_)
    refine lv_istore (lv' := [(6, .int ((fX5_wideTest uf us ((xs (x4 + (1 : Int32)).toNatClampNeg)) (((jl_shl (((xs (x4 + (2 : Int32)).toNatClampNeg)).toInt64) (32 : Int32)) ||| (((xs (x4 + (3 : Int32)).toNatClampNeg)).toInt64 &&& (4294967295 : Int64)))) (((jl_shl (((xs (x4 + (4 : Int32)).toNatClampNeg)).toInt64) (32 : Int32)) ||| (((xs (x4 + (5 : Int32)).toNatClampNeg)).toInt64 &&& (4294967295 : Int64)))) (((jl_shl (((xs (x4 + (6 : Int32)).toNatClampNeg)).toInt64) (32 : Int32)) ||| (((xs (x4 + (7 : Int32)).toNatClampNeg)).toInt64 &&& (4294967295 : Int64))))).1)), (5, .int ((1 : Int32))), (0, .ref b), (1, .ref h0), (2, .ref h9), (3, .ref qo), (4, .int x4)]) hx hb dL_law_658 hl (by decide) rfl (fun ls hl => ?_)
    refine lv_aload_n hx hb dL_law_660 rfl (lv_at hl 4 rfl) ?_
    refine bx_vi C (kX5_thrown l dC dI h9 r cA ((fX5_wideTest uf us ((xs (x4 + (1 : Int32)).toNatClampNeg)) (((jl_shl (((xs (x4 + (2 : Int32)).toNatClampNeg)).toInt64) (32 : Int32)) ||| (((xs (x4 + (3 : Int32)).toNatClampNeg)).toInt64 &&& (4294967295 : Int64)))) (((jl_shl (((xs (x4 + (4 : Int32)).toNatClampNeg)).toInt64) (32 : Int32)) ||| (((xs (x4 + (5 : Int32)).toNatClampNeg)).toInt64 &&& (4294967295 : Int64)))) (((jl_shl (((xs (x4 + (6 : Int32)).toNatClampNeg)).toInt64) (32 : Int32)) ||| (((xs (x4 + (7 : Int32)).toNatClampNeg)).toInt64 &&& (4294967295 : Int64))))).2.1) ua ((fX5_wideTest uf us ((xs (x4 + (1 : Int32)).toNatClampNeg)) (((jl_shl (((xs (x4 + (2 : Int32)).toNatClampNeg)).toInt64) (32 : Int32)) ||| (((xs (x4 + (3 : Int32)).toNatClampNeg)).toInt64 &&& (4294967295 : Int64)))) (((jl_shl (((xs (x4 + (4 : Int32)).toNatClampNeg)).toInt64) (32 : Int32)) ||| (((xs (x4 + (5 : Int32)).toNatClampNeg)).toInt64 &&& (4294967295 : Int64)))) (((jl_shl (((xs (x4 + (6 : Int32)).toNatClampNeg)).toInt64) (32 : Int32)) ||| (((xs (x4 + (7 : Int32)).toNatClampNeg)).toInt64 &&& (4294967295 : Int64))))).2.2)) (rd_B _ _ _) (fun U u1 u2 => hw_rd hw u1 u2 [11, 12, 13, 14, 15, 16, 17, 18, 19, 20, 21] [8, 9, 10, 11, 12, 13, 14, 15, 16, 17] rfl rfl) (fun U u1 u2 => hw_obk (q0 := 11) hw rfl rfl u1 u2) tw_methodLink_RL_46_yX5_thrown mbX5_thrown rfl ⟨rfl, rfl⟩ ⟨Nat.le_of_ble_eq_true rfl, Nat.le_of_ble_eq_true rfl⟩ hc1 hl.1 rfl (Nat.le_of_ble_eq_true rfl) dL_law_661 ?_
    have hq := (c_wideTest (uf := uf) (us := us) (x1 := (xs (x4 + (1 : Int32)).toNatClampNeg)) (x2 := ((jl_shl (((xs (x4 + (2 : Int32)).toNatClampNeg)).toInt64) (32 : Int32)) ||| (((xs (x4 + (3 : Int32)).toNatClampNeg)).toInt64 &&& (4294967295 : Int64)))) (x4 := ((jl_shl (((xs (x4 + (4 : Int32)).toNatClampNeg)).toInt64) (32 : Int32)) ||| (((xs (x4 + (5 : Int32)).toNatClampNeg)).toInt64 &&& (4294967295 : Int64)))) (x6 := ((jl_shl (((xs (x4 + (6 : Int32)).toNatClampNeg)).toInt64) (32 : Int32)) ||| (((xs (x4 + (7 : Int32)).toNatClampNeg)).toInt64 &&& (4294967295 : Int64))))).2.1 (fun z => hin (ac8.mpr z))
    refine lv_iload hx hb dL_law_664 (lv_at hl 1 rfl) ?_
    refine lv_icmp_eq (tgt := 671) hx hb dL_law_666 (by decide) (fun cq => ?_) (fun cq => absurd hq cq)
    refine lv_iload hx hb dL_law_671 (lv_at hl 1 rfl) ?_
    refine lv_if_ne (tgt := 688) hx hb dL_law_673 (by decide) (fun cq => ?_) (fun cq => absurd cq (by decide))
    refine lv_goto (tgt := 1232) hx hb dL_law_688 (by decide) ?_
    exact k _ _ _ _ _ _ _ _ _ _ _ _ (rl_8 hr (c_wideTest (uf := uf) (us := us) (x1 := (xs (x4 + (1 : Int32)).toNatClampNeg)) (x2 := ((jl_shl (((xs (x4 + (2 : Int32)).toNatClampNeg)).toInt64) (32 : Int32)) ||| (((xs (x4 + (3 : Int32)).toNatClampNeg)).toInt64 &&& (4294967295 : Int64)))) (x4 := ((jl_shl (((xs (x4 + (4 : Int32)).toNatClampNeg)).toInt64) (32 : Int32)) ||| (((xs (x4 + (5 : Int32)).toNatClampNeg)).toInt64 &&& (4294967295 : Int64)))) (x6 := ((jl_shl (((xs (x4 + (6 : Int32)).toNatClampNeg)).toInt64) (32 : Int32)) ||| (((xs (x4 + (7 : Int32)).toNatClampNeg)).toInt64 &&& (4294967295 : Int64))))).2.2) hw (lv_sub hl [2, 3, 4, 5, 6] rfl)
set_option maxRecDepth 20000 in
theorem cs_4 {p : Program} {l : Launch} {e : Env} {s : State} {m : MethodId} {below : List Frame} {meth : Method} {c : Code} {b L : Nat} {xs : Nat → Int32} {af ad : Nat} {dC : Nat → ClassId} {dI : Nat → Nat → Nat} {h0 g1 g2 : Nat} {rp rd : Nat → Nat} {cp cd : Nat → ClassId} {h9 : Nat} {r : Nat → Nat} {cA : Nat → ClassId} {qo : Nat} {cO : ClassId} {pf : Nat → Int32} {pa : Nat → Nat → Int32} {df : Nat → Int32} {da : Nat → Nat → Int32} {ds : Nat → Int64} {uf : Nat → Int32} {ua : Nat → Nat → Int32} {us o : Nat → Int64} {H : Heap} {locs : List Loc} {ls : Array Slot} {x4 : Int32} {cells slots : Nat} {Q : State → Prop} (hl0 : l.stackTraces = false) (X : lx p s m meth c b L xs af ad) (hL : L ≤ 4096) (hi : 0 ≤ x4.toInt ∧ x4.toInt + 8 ≤ L) (hr : rl pf pa df da uf ua) (hw : hW (dC, dI) (ll_T cp cd cA cO) (fun q => s.heap.size ≤ q) s H locs (ll_W h0 g1 g2 rp rd cp cd h9 r cA qo cO pf pa df da ds uf ua us o)) (hl : lv_has ls 8 [(0, .ref b), (1, .ref h0), (2, .ref h9), (3, .ref qo), (4, .int x4)]) (hcs : cells + 1 ≤ 3101 ∧ slots + 6 ≤ 119854) (k : ll_C p l e s m below meth c b dC dI h0 g1 g2 rp rd cp cd h9 r cA qo cO x4 cells slots Q) : W p l e room_1 s m #[Value.ref b] below meth c H locs cells slots Q (F0 m 691 ls []) := by
  obtain ⟨C, hX, hbl, hK, hNw⟩ := id X
  obtain ⟨hx, hb, hml, hrt, hlocks, hown, hts⟩ := id C
  have hbA : ¬ s.heap.size ≤ b := Nat.not_le.mpr hbl
  have hc0 : cells ≤ room_1.cells ∧ slots ≤ room_1.slots := ⟨by show cells ≤ 3101; omega, by show slots ≤ 119854; omega⟩
  have hc1 : cells + 1 ≤ room_1.cells ∧ slots + 6 ≤ room_1.slots := hcs
  refine lv_aload_n hx hb dL_law_691 rfl (lv_at hl 1 rfl) ?_
  refine lv_aload_n hx hb dL_law_692 rfl (lv_at hl 0 rfl) ?_
  refine lv_iload hx hb dL_law_693 (lv_at hl 4 rfl) ?_
  refine lv_iconst (v := 1) hx hb dL_law_695 (by decide) ?_
  refine lv_iadd hx hb dL_law_696 ?_
  refine va_sld hx hb hX hbl hbA hw.2.2.1 (sc_in hL hi (by decide)) dL_law_697 ?_
  refine bx_vl C (kX4_widen l af ad h0 ((xs (x4 + (1 : Int32)).toNatClampNeg))) (fo_S2_B _ _ _) (fun U u1 u2 => fo_S2_to hK.1 hw.2.2.1 (fun _ q => q.elim) u1 u2) (fun U u1 u2 => hw_obk (q0 := 0) hw rfl rfl u1 u2) tw_methodLink_RL_62_yX4_widen mbX4_widen rfl ⟨rfl, rfl⟩ ⟨Nat.le_of_ble_eq_true rfl, Nat.le_of_ble_eq_true rfl⟩ hc0 hl.1 rfl (Nat.le_of_ble_eq_true rfl) dL_law_698 ?_
  refine lv_aload_n hx hb dL_law_701 rfl (lv_at hl 2 rfl) ?_
  refine lv_aload_n hx hb dL_law_702 rfl (lv_at hl 0 rfl) ?_
  refine lv_iload hx hb dL_law_703 (lv_at hl 4 rfl) ?_
  refine lv_iconst (v := 1) hx hb dL_law_705 (by decide) ?_
  refine lv_iadd hx hb dL_law_706 ?_
  refine va_sld hx hb hX hbl hbA hw.2.2.1 (sc_in hL hi (by decide)) dL_law_707 ?_
  refine bx_vl C (kX5_widen l h9 ((xs (x4 + (1 : Int32)).toNatClampNeg))) BX5_widen (fun U u1 u2 => hw_obk (q0 := 11) hw rfl rfl u1 u2) (fun U u1 u2 => hw_obk (q0 := 11) hw rfl rfl u1 u2) tw_methodLink_RL_66_yX5_widen mbX5_widen rfl ⟨rfl, rfl⟩ ⟨Nat.le_of_ble_eq_true rfl, Nat.le_of_ble_eq_true rfl⟩ hc0 hl.1 rfl (Nat.le_of_ble_eq_true rfl) dL_law_708 ?_
  refine bx_lc_eq (tgt := 1232) hx hb dL_law_711 dL_law_712 (by decide) (fun cq => ?_) (fun cq => absurd (e_widen _) cq)
  refine W.widen (k := cells + 1) (n := slots + 6) (Nat.le_succ _) (Nat.le_add_right _ 6) ?_
  exact k _ _ _ _ _ _ _ _ _ _ _ _ hr hw hl
set_option maxRecDepth 20000 in
theorem cs_5 {p : Program} {l : Launch} {e : Env} {s : State} {m : MethodId} {below : List Frame} {meth : Method} {c : Code} {b L : Nat} {xs : Nat → Int32} {af ad : Nat} {dC : Nat → ClassId} {dI : Nat → Nat → Nat} {h0 g1 g2 : Nat} {rp rd : Nat → Nat} {cp cd : Nat → ClassId} {h9 : Nat} {r : Nat → Nat} {cA : Nat → ClassId} {qo : Nat} {cO : ClassId} {pf : Nat → Int32} {pa : Nat → Nat → Int32} {df : Nat → Int32} {da : Nat → Nat → Int32} {ds : Nat → Int64} {uf : Nat → Int32} {ua : Nat → Nat → Int32} {us o : Nat → Int64} {H : Heap} {locs : List Loc} {ls : Array Slot} {x4 : Int32} {cells slots : Nat} {Q : State → Prop} (hl0 : l.stackTraces = false) (X : lx p s m meth c b L xs af ad) (hL : L ≤ 4096) (hi : 0 ≤ x4.toInt ∧ x4.toInt + 8 ≤ L) (hr : rl pf pa df da uf ua) (hw : hW (dC, dI) (ll_T cp cd cA cO) (fun q => s.heap.size ≤ q) s H locs (ll_W h0 g1 g2 rp rd cp cd h9 r cA qo cO pf pa df da ds uf ua us o)) (hl : lv_has ls 8 [(0, .ref b), (1, .ref h0), (2, .ref h9), (3, .ref qo), (4, .int x4)]) (hcs : cells + 1 ≤ 3101 ∧ slots + 6 ≤ 119854) (k : ll_C p l e s m below meth c b dC dI h0 g1 g2 rp rd cp cd h9 r cA qo cO x4 cells slots Q) : W p l e room_1 s m #[Value.ref b] below meth c H locs cells slots Q (F0 m 717 ls []) := by
  obtain ⟨C, hX, hbl, hK, hNw⟩ := id X
  obtain ⟨hx, hb, hml, hrt, hlocks, hown, hts⟩ := id C
  have hbA : ¬ s.heap.size ≤ b := Nat.not_le.mpr hbl
  have hc0 : cells ≤ room_1.cells ∧ slots ≤ room_1.slots := ⟨by show cells ≤ 3101; omega, by show slots ≤ 119854; omega⟩
  have hc1 : cells + 1 ≤ room_1.cells ∧ slots + 6 ≤ room_1.slots := hcs
  refine lv_aload_n hx hb dL_law_717 rfl (lv_at hl 1 rfl) ?_
  refine lv_aload_n hx hb dL_law_718 rfl (lv_at hl 0 rfl) ?_
  refine lv_iload hx hb dL_law_719 (lv_at hl 4 rfl) ?_
  refine lv_iconst (v := 1) hx hb dL_law_721 (by decide) ?_
  refine lv_iadd hx hb dL_law_722 ?_
  refine va_sld hx hb hX hbl hbA hw.2.2.1 (sc_in hL hi (by decide)) dL_law_723 ?_
  refine bx_i2l hx hb dL_law_724 ?_
  refine lv_bipush (v := 32) hx hb dL_law_725 (by decide) ?_
  refine bx_lshl hx hb dL_law_727 ?_
  refine lv_aload_n hx hb dL_law_728 rfl (lv_at hl 0 rfl) ?_
  refine lv_iload hx hb dL_law_729 (lv_at hl 4 rfl) ?_
  refine lv_iconst (v := 2) hx hb dL_law_731 (by decide) ?_
  refine lv_iadd hx hb dL_law_732 ?_
  refine va_sld hx hb hX hbl hbA hw.2.2.1 (sc_in hL hi (by decide)) dL_law_733 ?_
  refine bx_i2l hx hb dL_law_734 ?_
  refine lv_ldc2 (v := 4294967295) hx hb hown (hts _ tw_constantLong_RL_50_4294967295) dL_law_735 ?_
  refine lv_land hx hb dL_law_738 ?_
  refine lv_lor hx hb dL_law_739 ?_
  refine bx_vi C (kX4_narrow l af ad h0 (((jl_shl (((xs (x4 + (1 : Int32)).toNatClampNeg)).toInt64) (32 : Int32)) ||| (((xs (x4 + (2 : Int32)).toNatClampNeg)).toInt64 &&& (4294967295 : Int64))))) (fo_S2_B _ _ _) (fun U u1 u2 => fo_S2_to hK.1 hw.2.2.1 (fun _ q => q.elim) u1 u2) (fun U u1 u2 => hw_obk (q0 := 0) hw rfl rfl u1 u2) tw_methodLink_RL_67_yX4_narrow mbX4_narrow rfl ⟨rfl, rfl⟩ ⟨Nat.le_of_ble_eq_true rfl, Nat.le_of_ble_eq_true rfl⟩ hc0 hl.1 rfl (Nat.le_of_ble_eq_true rfl) dL_law_740 ?_
  refine lv_aload_n hx hb dL_law_743 rfl (lv_at hl 2 rfl) ?_
  refine lv_aload_n hx hb dL_law_744 rfl (lv_at hl 0 rfl) ?_
  refine lv_iload hx hb dL_law_745 (lv_at hl 4 rfl) ?_
  refine lv_iconst (v := 1) hx hb dL_law_747 (by decide) ?_
  refine lv_iadd hx hb dL_law_748 ?_
  refine va_sld hx hb hX hbl hbA hw.2.2.1 (sc_in hL hi (by decide)) dL_law_749 ?_
  refine bx_i2l hx hb dL_law_750 ?_
  refine lv_bipush (v := 32) hx hb dL_law_751 (by decide) ?_
  refine bx_lshl hx hb dL_law_753 ?_
  refine lv_aload_n hx hb dL_law_754 rfl (lv_at hl 0 rfl) ?_
  refine lv_iload hx hb dL_law_755 (lv_at hl 4 rfl) ?_
  refine lv_iconst (v := 2) hx hb dL_law_757 (by decide) ?_
  refine lv_iadd hx hb dL_law_758 ?_
  refine va_sld hx hb hX hbl hbA hw.2.2.1 (sc_in hL hi (by decide)) dL_law_759 ?_
  refine bx_i2l hx hb dL_law_760 ?_
  refine lv_ldc2 (v := 4294967295) hx hb hown (hts _ tw_constantLong_RL_50_4294967295) dL_law_761 ?_
  refine lv_land hx hb dL_law_764 ?_
  refine lv_lor hx hb dL_law_765 ?_
  refine bx_vi C (kX5_narrow l h9 (((jl_shl (((xs (x4 + (1 : Int32)).toNatClampNeg)).toInt64) (32 : Int32)) ||| (((xs (x4 + (2 : Int32)).toNatClampNeg)).toInt64 &&& (4294967295 : Int64))))) BX5_narrow (fun U u1 u2 => hw_obk (q0 := 11) hw rfl rfl u1 u2) (fun U u1 u2 => hw_obk (q0 := 11) hw rfl rfl u1 u2) tw_methodLink_RL_71_yX5_narrow mbX5_narrow rfl ⟨rfl, rfl⟩ ⟨Nat.le_of_ble_eq_true rfl, Nat.le_of_ble_eq_true rfl⟩ hc0 hl.1 rfl (Nat.le_of_ble_eq_true rfl) dL_law_766 ?_
  refine lv_icmp_eq (tgt := 1232) hx hb dL_law_769 (by decide) (fun cq => ?_) (fun cq => absurd (e_narrow _) cq)
  refine W.widen (k := cells + 1) (n := slots + 6) (Nat.le_succ _) (Nat.le_add_right _ 6) ?_
  exact k _ _ _ _ _ _ _ _ _ _ _ _ hr hw hl
set_option maxRecDepth 20000 in
theorem cs_6 {p : Program} {l : Launch} {e : Env} {s : State} {m : MethodId} {below : List Frame} {meth : Method} {c : Code} {b L : Nat} {xs : Nat → Int32} {af ad : Nat} {dC : Nat → ClassId} {dI : Nat → Nat → Nat} {h0 g1 g2 : Nat} {rp rd : Nat → Nat} {cp cd : Nat → ClassId} {h9 : Nat} {r : Nat → Nat} {cA : Nat → ClassId} {qo : Nat} {cO : ClassId} {pf : Nat → Int32} {pa : Nat → Nat → Int32} {df : Nat → Int32} {da : Nat → Nat → Int32} {ds : Nat → Int64} {uf : Nat → Int32} {ua : Nat → Nat → Int32} {us o : Nat → Int64} {H : Heap} {locs : List Loc} {ls : Array Slot} {x4 : Int32} {cells slots : Nat} {Q : State → Prop} (hl0 : l.stackTraces = false) (X : lx p s m meth c b L xs af ad) (hL : L ≤ 4096) (hi : 0 ≤ x4.toInt ∧ x4.toInt + 8 ≤ L) (hr : rl pf pa df da uf ua) (hw : hW (dC, dI) (ll_T cp cd cA cO) (fun q => s.heap.size ≤ q) s H locs (ll_W h0 g1 g2 rp rd cp cd h9 r cA qo cO pf pa df da ds uf ua us o)) (hl : lv_has ls 8 [(0, .ref b), (1, .ref h0), (2, .ref h9), (3, .ref qo), (4, .int x4)]) (hcs : cells + 1 ≤ 3101 ∧ slots + 6 ≤ 119854) (k : ll_C p l e s m below meth c b dC dI h0 g1 g2 rp rd cp cd h9 r cA qo cO x4 cells slots Q) : W p l e room_1 s m #[Value.ref b] below meth c H locs cells slots Q (F0 m 774 ls []) := by
  obtain ⟨C, hX, hbl, hK, hNw⟩ := id X
  obtain ⟨hx, hb, hml, hrt, hlocks, hown, hts⟩ := id C
  have hbA : ¬ s.heap.size ≤ b := Nat.not_le.mpr hbl
  have hc0 : cells ≤ room_1.cells ∧ slots ≤ room_1.slots := ⟨by show cells ≤ 3101; omega, by show slots ≤ 119854; omega⟩
  have hc1 : cells + 1 ≤ room_1.cells ∧ slots + 6 ≤ room_1.slots := hcs
  by_cases hz : (xs (x4 + (3 : Int32)).toNatClampNeg) = 0
  · refine lv_aload_n hx hb dL_law_774 rfl (lv_at hl 1 rfl) ?_
    refine lv_aload_n hx hb dL_law_775 rfl (lv_at hl 0 rfl) ?_
    refine lv_iload hx hb dL_law_776 (lv_at hl 4 rfl) ?_
    refine lv_iconst (v := 1) hx hb dL_law_778 (by decide) ?_
    refine lv_iadd hx hb dL_law_779 ?_
    refine va_sld hx hb hX hbl hbA hw.2.2.1 (sc_in hL hi (by decide)) dL_law_780 ?_
    refine bx_i2l hx hb dL_law_781 ?_
    refine lv_bipush (v := 32) hx hb dL_law_782 (by decide) ?_
    refine bx_lshl hx hb dL_law_784 ?_
    refine lv_aload_n hx hb dL_law_785 rfl (lv_at hl 0 rfl) ?_
    refine lv_iload hx hb dL_law_786 (lv_at hl 4 rfl) ?_
    refine lv_iconst (v := 2) hx hb dL_law_788 (by decide) ?_
    refine lv_iadd hx hb dL_law_789 ?_
    refine va_sld hx hb hX hbl hbA hw.2.2.1 (sc_in hL hi (by decide)) dL_law_790 ?_
    refine bx_i2l hx hb dL_law_791 ?_
    refine lv_ldc2 (v := 4294967295) hx hb hown (hts _ tw_constantLong_RL_50_4294967295) dL_law_792 ?_
    refine lv_land hx hb dL_law_795 ?_
    refine lv_lor hx hb dL_law_796 ?_
    refine lv_aload_n hx hb dL_law_797 rfl (lv_at hl 0 rfl) ?_
    refine lv_iload hx hb dL_law_798 (lv_at hl 4 rfl) ?_
    refine lv_iconst (v := 3) hx hb dL_law_800 (by decide) ?_
    refine lv_iadd hx hb dL_law_801 ?_
    refine va_sld hx hb hX hbl hbA hw.2.2.1 (sc_in hL hi (by decide)) dL_law_802 ?_
    refine lv_if_eq (tgt := 810) hx hb dL_law_803 (by decide) (fun cq => ?_) (fun cq => absurd hz cq)
    refine lv_iconst (v := 0) hx hb dL_law_810 (by decide) ?_
    refine bx_vi C (kX4_half l h0 (((jl_shl (((xs (x4 + (1 : Int32)).toNatClampNeg)).toInt64) (32 : Int32)) ||| (((xs (x4 + (2 : Int32)).toNatClampNeg)).toInt64 &&& (4294967295 : Int64)))) ((0 : Int32))) BX4_half (fun U u1 u2 => hw_obk (q0 := 0) hw rfl rfl u1 u2) (fun U u1 u2 => hw_obk (q0 := 0) hw rfl rfl u1 u2) tw_methodLink_RL_72_yX4_half mbX4_half rfl ⟨rfl, rfl⟩ ⟨Nat.le_of_ble_eq_true rfl, Nat.le_of_ble_eq_true rfl⟩ hc0 hl.1 rfl (Nat.le_of_ble_eq_true rfl) dL_law_811 ?_
    refine lv_aload_n hx hb dL_law_814 rfl (lv_at hl 2 rfl) ?_
    refine lv_aload_n hx hb dL_law_815 rfl (lv_at hl 0 rfl) ?_
    refine lv_iload hx hb dL_law_816 (lv_at hl 4 rfl) ?_
    refine lv_iconst (v := 1) hx hb dL_law_818 (by decide) ?_
    refine lv_iadd hx hb dL_law_819 ?_
    refine va_sld hx hb hX hbl hbA hw.2.2.1 (sc_in hL hi (by decide)) dL_law_820 ?_
    refine bx_i2l hx hb dL_law_821 ?_
    refine lv_bipush (v := 32) hx hb dL_law_822 (by decide) ?_
    refine bx_lshl hx hb dL_law_824 ?_
    refine lv_aload_n hx hb dL_law_825 rfl (lv_at hl 0 rfl) ?_
    refine lv_iload hx hb dL_law_826 (lv_at hl 4 rfl) ?_
    refine lv_iconst (v := 2) hx hb dL_law_828 (by decide) ?_
    refine lv_iadd hx hb dL_law_829 ?_
    refine va_sld hx hb hX hbl hbA hw.2.2.1 (sc_in hL hi (by decide)) dL_law_830 ?_
    refine bx_i2l hx hb dL_law_831 ?_
    refine lv_ldc2 (v := 4294967295) hx hb hown (hts _ tw_constantLong_RL_50_4294967295) dL_law_832 ?_
    refine lv_land hx hb dL_law_835 ?_
    refine lv_lor hx hb dL_law_836 ?_
    refine lv_aload_n hx hb dL_law_837 rfl (lv_at hl 0 rfl) ?_
    refine lv_iload hx hb dL_law_838 (lv_at hl 4 rfl) ?_
    refine lv_iconst (v := 3) hx hb dL_law_840 (by decide) ?_
    refine lv_iadd hx hb dL_law_841 ?_
    refine va_sld hx hb hX hbl hbA hw.2.2.1 (sc_in hL hi (by decide)) dL_law_842 ?_
    refine lv_if_eq (tgt := 850) hx hb dL_law_843 (by decide) (fun cq => ?_) (fun cq => absurd hz cq)
    refine lv_iconst (v := 0) hx hb dL_law_850 (by decide) ?_
    refine bx_vi C (kX5_half l h9 (((jl_shl (((xs (x4 + (1 : Int32)).toNatClampNeg)).toInt64) (32 : Int32)) ||| (((xs (x4 + (2 : Int32)).toNatClampNeg)).toInt64 &&& (4294967295 : Int64)))) ((0 : Int32))) BX5_half (fun U u1 u2 => hw_obk (q0 := 11) hw rfl rfl u1 u2) (fun U u1 u2 => hw_obk (q0 := 11) hw rfl rfl u1 u2) tw_methodLink_RL_76_yX5_half mbX5_half rfl ⟨rfl, rfl⟩ ⟨Nat.le_of_ble_eq_true rfl, Nat.le_of_ble_eq_true rfl⟩ hc0 hl.1 rfl (Nat.le_of_ble_eq_true rfl) dL_law_851 ?_
    refine lv_icmp_eq (tgt := 1232) hx hb dL_law_854 (by decide) (fun cq => ?_) (fun cq => absurd (e_half _ _) cq)
    refine W.widen (k := cells + 1) (n := slots + 6) (Nat.le_succ _) (Nat.le_add_right _ 6) ?_
    exact k _ _ _ _ _ _ _ _ _ _ _ _ hr hw hl
  · refine lv_aload_n hx hb dL_law_774 rfl (lv_at hl 1 rfl) ?_
    refine lv_aload_n hx hb dL_law_775 rfl (lv_at hl 0 rfl) ?_
    refine lv_iload hx hb dL_law_776 (lv_at hl 4 rfl) ?_
    refine lv_iconst (v := 1) hx hb dL_law_778 (by decide) ?_
    refine lv_iadd hx hb dL_law_779 ?_
    refine va_sld hx hb hX hbl hbA hw.2.2.1 (sc_in hL hi (by decide)) dL_law_780 ?_
    refine bx_i2l hx hb dL_law_781 ?_
    refine lv_bipush (v := 32) hx hb dL_law_782 (by decide) ?_
    refine bx_lshl hx hb dL_law_784 ?_
    refine lv_aload_n hx hb dL_law_785 rfl (lv_at hl 0 rfl) ?_
    refine lv_iload hx hb dL_law_786 (lv_at hl 4 rfl) ?_
    refine lv_iconst (v := 2) hx hb dL_law_788 (by decide) ?_
    refine lv_iadd hx hb dL_law_789 ?_
    refine va_sld hx hb hX hbl hbA hw.2.2.1 (sc_in hL hi (by decide)) dL_law_790 ?_
    refine bx_i2l hx hb dL_law_791 ?_
    refine lv_ldc2 (v := 4294967295) hx hb hown (hts _ tw_constantLong_RL_50_4294967295) dL_law_792 ?_
    refine lv_land hx hb dL_law_795 ?_
    refine lv_lor hx hb dL_law_796 ?_
    refine lv_aload_n hx hb dL_law_797 rfl (lv_at hl 0 rfl) ?_
    refine lv_iload hx hb dL_law_798 (lv_at hl 4 rfl) ?_
    refine lv_iconst (v := 3) hx hb dL_law_800 (by decide) ?_
    refine lv_iadd hx hb dL_law_801 ?_
    refine va_sld hx hb hX hbl hbA hw.2.2.1 (sc_in hL hi (by decide)) dL_law_802 ?_
    refine lv_if_eq (tgt := 810) hx hb dL_law_803 (by decide) (fun cq => absurd cq hz) (fun cq => ?_)
    refine lv_iconst (v := 1) hx hb dL_law_806 (by decide) ?_
    refine lv_goto (tgt := 811) hx hb dL_law_807 (by decide) ?_
    refine bx_vi C (kX4_half l h0 (((jl_shl (((xs (x4 + (1 : Int32)).toNatClampNeg)).toInt64) (32 : Int32)) ||| (((xs (x4 + (2 : Int32)).toNatClampNeg)).toInt64 &&& (4294967295 : Int64)))) ((1 : Int32))) BX4_half (fun U u1 u2 => hw_obk (q0 := 0) hw rfl rfl u1 u2) (fun U u1 u2 => hw_obk (q0 := 0) hw rfl rfl u1 u2) tw_methodLink_RL_72_yX4_half mbX4_half rfl ⟨rfl, rfl⟩ ⟨Nat.le_of_ble_eq_true rfl, Nat.le_of_ble_eq_true rfl⟩ hc0 hl.1 rfl (Nat.le_of_ble_eq_true rfl) dL_law_811 ?_
    refine lv_aload_n hx hb dL_law_814 rfl (lv_at hl 2 rfl) ?_
    refine lv_aload_n hx hb dL_law_815 rfl (lv_at hl 0 rfl) ?_
    refine lv_iload hx hb dL_law_816 (lv_at hl 4 rfl) ?_
    refine lv_iconst (v := 1) hx hb dL_law_818 (by decide) ?_
    refine lv_iadd hx hb dL_law_819 ?_
    refine va_sld hx hb hX hbl hbA hw.2.2.1 (sc_in hL hi (by decide)) dL_law_820 ?_
    refine bx_i2l hx hb dL_law_821 ?_
    refine lv_bipush (v := 32) hx hb dL_law_822 (by decide) ?_
    refine bx_lshl hx hb dL_law_824 ?_
    refine lv_aload_n hx hb dL_law_825 rfl (lv_at hl 0 rfl) ?_
    refine lv_iload hx hb dL_law_826 (lv_at hl 4 rfl) ?_
    refine lv_iconst (v := 2) hx hb dL_law_828 (by decide) ?_
    refine lv_iadd hx hb dL_law_829 ?_
    refine va_sld hx hb hX hbl hbA hw.2.2.1 (sc_in hL hi (by decide)) dL_law_830 ?_
    refine bx_i2l hx hb dL_law_831 ?_
    refine lv_ldc2 (v := 4294967295) hx hb hown (hts _ tw_constantLong_RL_50_4294967295) dL_law_832 ?_
    refine lv_land hx hb dL_law_835 ?_
    refine lv_lor hx hb dL_law_836 ?_
    refine lv_aload_n hx hb dL_law_837 rfl (lv_at hl 0 rfl) ?_
    refine lv_iload hx hb dL_law_838 (lv_at hl 4 rfl) ?_
    refine lv_iconst (v := 3) hx hb dL_law_840 (by decide) ?_
    refine lv_iadd hx hb dL_law_841 ?_
    refine va_sld hx hb hX hbl hbA hw.2.2.1 (sc_in hL hi (by decide)) dL_law_842 ?_
    refine lv_if_eq (tgt := 850) hx hb dL_law_843 (by decide) (fun cq => absurd cq hz) (fun cq => ?_)
    refine lv_iconst (v := 1) hx hb dL_law_846 (by decide) ?_
    refine lv_goto (tgt := 851) hx hb dL_law_847 (by decide) ?_
    refine bx_vi C (kX5_half l h9 (((jl_shl (((xs (x4 + (1 : Int32)).toNatClampNeg)).toInt64) (32 : Int32)) ||| (((xs (x4 + (2 : Int32)).toNatClampNeg)).toInt64 &&& (4294967295 : Int64)))) ((1 : Int32))) BX5_half (fun U u1 u2 => hw_obk (q0 := 11) hw rfl rfl u1 u2) (fun U u1 u2 => hw_obk (q0 := 11) hw rfl rfl u1 u2) tw_methodLink_RL_76_yX5_half mbX5_half rfl ⟨rfl, rfl⟩ ⟨Nat.le_of_ble_eq_true rfl, Nat.le_of_ble_eq_true rfl⟩ hc0 hl.1 rfl (Nat.le_of_ble_eq_true rfl) dL_law_851 ?_
    refine lv_icmp_eq (tgt := 1232) hx hb dL_law_854 (by decide) (fun cq => ?_) (fun cq => absurd (e_half _ _) cq)
    refine W.widen (k := cells + 1) (n := slots + 6) (Nat.le_succ _) (Nat.le_add_right _ 6) ?_
    exact k _ _ _ _ _ _ _ _ _ _ _ _ hr hw hl
set_option maxRecDepth 20000 in
theorem cs_7 {p : Program} {l : Launch} {e : Env} {s : State} {m : MethodId} {below : List Frame} {meth : Method} {c : Code} {b L : Nat} {xs : Nat → Int32} {af ad : Nat} {dC : Nat → ClassId} {dI : Nat → Nat → Nat} {h0 g1 g2 : Nat} {rp rd : Nat → Nat} {cp cd : Nat → ClassId} {h9 : Nat} {r : Nat → Nat} {cA : Nat → ClassId} {qo : Nat} {cO : ClassId} {pf : Nat → Int32} {pa : Nat → Nat → Int32} {df : Nat → Int32} {da : Nat → Nat → Int32} {ds : Nat → Int64} {uf : Nat → Int32} {ua : Nat → Nat → Int32} {us o : Nat → Int64} {H : Heap} {locs : List Loc} {ls : Array Slot} {x4 : Int32} {cells slots : Nat} {Q : State → Prop} (hl0 : l.stackTraces = false) (X : lx p s m meth c b L xs af ad) (hL : L ≤ 4096) (hi : 0 ≤ x4.toInt ∧ x4.toInt + 8 ≤ L) (hr : rl pf pa df da uf ua) (hw : hW (dC, dI) (ll_T cp cd cA cO) (fun q => s.heap.size ≤ q) s H locs (ll_W h0 g1 g2 rp rd cp cd h9 r cA qo cO pf pa df da ds uf ua us o)) (hl : lv_has ls 8 [(0, .ref b), (1, .ref h0), (2, .ref h9), (3, .ref qo), (4, .int x4)]) (hcs : cells + 1 ≤ 3101 ∧ slots + 6 ≤ 119854) (k : ll_C p l e s m below meth c b dC dI h0 g1 g2 rp rd cp cd h9 r cA qo cO x4 cells slots Q) : W p l e room_1 s m #[Value.ref b] below meth c H locs cells slots Q (F0 m 859 ls []) := by
  obtain ⟨C, hX, hbl, hK, hNw⟩ := id X
  obtain ⟨hx, hb, hml, hrt, hlocks, hown, hts⟩ := id C
  have hbA : ¬ s.heap.size ≤ b := Nat.not_le.mpr hbl
  have hc0 : cells ≤ room_1.cells ∧ slots ≤ room_1.slots := ⟨by show cells ≤ 3101; omega, by show slots ≤ 119854; omega⟩
  have hc1 : cells + 1 ≤ room_1.cells ∧ slots + 6 ≤ room_1.slots := hcs
  refine lv_aload_n hx hb dL_law_859 rfl (lv_at hl 1 rfl) ?_
  refine lv_aload_n hx hb dL_law_860 rfl (lv_at hl 0 rfl) ?_
  refine lv_iload hx hb dL_law_861 (lv_at hl 4 rfl) ?_
  refine lv_iconst (v := 1) hx hb dL_law_863 (by decide) ?_
  refine lv_iadd hx hb dL_law_864 ?_
  refine va_sld hx hb hX hbl hbA hw.2.2.1 (sc_in hL hi (by decide)) dL_law_865 ?_
  refine lv_aload_n hx hb dL_law_866 rfl (lv_at hl 0 rfl) ?_
  refine lv_iload hx hb dL_law_867 (lv_at hl 4 rfl) ?_
  refine lv_iconst (v := 2) hx hb dL_law_869 (by decide) ?_
  refine lv_iadd hx hb dL_law_870 ?_
  refine va_sld hx hb hX hbl hbA hw.2.2.1 (sc_in hL hi (by decide)) dL_law_871 ?_
  refine bx_vl C (kX4_join l h0 ((xs (x4 + (1 : Int32)).toNatClampNeg)) ((xs (x4 + (2 : Int32)).toNatClampNeg))) BX4_join (fun U u1 u2 => hw_obk (q0 := 0) hw rfl rfl u1 u2) (fun U u1 u2 => hw_obk (q0 := 0) hw rfl rfl u1 u2) tw_methodLink_RL_77_yX4_join mbX4_join rfl ⟨rfl, rfl⟩ ⟨Nat.le_of_ble_eq_true rfl, Nat.le_of_ble_eq_true rfl⟩ hc0 hl.1 rfl (Nat.le_of_ble_eq_true rfl) dL_law_872 ?_
  refine lv_aload_n hx hb dL_law_875 rfl (lv_at hl 2 rfl) ?_
  refine lv_aload_n hx hb dL_law_876 rfl (lv_at hl 0 rfl) ?_
  refine lv_iload hx hb dL_law_877 (lv_at hl 4 rfl) ?_
  refine lv_iconst (v := 1) hx hb dL_law_879 (by decide) ?_
  refine lv_iadd hx hb dL_law_880 ?_
  refine va_sld hx hb hX hbl hbA hw.2.2.1 (sc_in hL hi (by decide)) dL_law_881 ?_
  refine lv_aload_n hx hb dL_law_882 rfl (lv_at hl 0 rfl) ?_
  refine lv_iload hx hb dL_law_883 (lv_at hl 4 rfl) ?_
  refine lv_iconst (v := 2) hx hb dL_law_885 (by decide) ?_
  refine lv_iadd hx hb dL_law_886 ?_
  refine va_sld hx hb hX hbl hbA hw.2.2.1 (sc_in hL hi (by decide)) dL_law_887 ?_
  refine bx_vl C (kX5_join l h9 ((xs (x4 + (1 : Int32)).toNatClampNeg)) ((xs (x4 + (2 : Int32)).toNatClampNeg))) BX5_join (fun U u1 u2 => hw_obk (q0 := 11) hw rfl rfl u1 u2) (fun U u1 u2 => hw_obk (q0 := 11) hw rfl rfl u1 u2) tw_methodLink_RL_81_yX5_join mbX5_join rfl ⟨rfl, rfl⟩ ⟨Nat.le_of_ble_eq_true rfl, Nat.le_of_ble_eq_true rfl⟩ hc0 hl.1 rfl (Nat.le_of_ble_eq_true rfl) dL_law_888 ?_
  refine bx_lc_eq (tgt := 1232) hx hb dL_law_891 dL_law_892 (by decide) (fun cq => ?_) (fun cq => absurd (e_join _ _) cq)
  refine W.widen (k := cells + 1) (n := slots + 6) (Nat.le_succ _) (Nat.le_add_right _ 6) ?_
  exact k _ _ _ _ _ _ _ _ _ _ _ _ hr hw hl
set_option maxRecDepth 20000 in
theorem cs_8 {p : Program} {l : Launch} {e : Env} {s : State} {m : MethodId} {below : List Frame} {meth : Method} {c : Code} {b L : Nat} {xs : Nat → Int32} {af ad : Nat} {dC : Nat → ClassId} {dI : Nat → Nat → Nat} {h0 g1 g2 : Nat} {rp rd : Nat → Nat} {cp cd : Nat → ClassId} {h9 : Nat} {r : Nat → Nat} {cA : Nat → ClassId} {qo : Nat} {cO : ClassId} {pf : Nat → Int32} {pa : Nat → Nat → Int32} {df : Nat → Int32} {da : Nat → Nat → Int32} {ds : Nat → Int64} {uf : Nat → Int32} {ua : Nat → Nat → Int32} {us o : Nat → Int64} {H : Heap} {locs : List Loc} {ls : Array Slot} {x4 : Int32} {cells slots : Nat} {Q : State → Prop} (hl0 : l.stackTraces = false) (X : lx p s m meth c b L xs af ad) (hL : L ≤ 4096) (hi : 0 ≤ x4.toInt ∧ x4.toInt + 8 ≤ L) (hr : rl pf pa df da uf ua) (hw : hW (dC, dI) (ll_T cp cd cA cO) (fun q => s.heap.size ≤ q) s H locs (ll_W h0 g1 g2 rp rd cp cd h9 r cA qo cO pf pa df da ds uf ua us o)) (hl : lv_has ls 8 [(0, .ref b), (1, .ref h0), (2, .ref h9), (3, .ref qo), (4, .int x4)]) (hcs : cells + 1 ≤ 3101 ∧ slots + 6 ≤ 119854) (k : ll_C p l e s m below meth c b dC dI h0 g1 g2 rp rd cp cd h9 r cA qo cO x4 cells slots Q) : W p l e room_1 s m #[Value.ref b] below meth c H locs cells slots Q (F0 m 897 ls []) := by
  obtain ⟨C, hX, hbl, hK, hNw⟩ := id X
  obtain ⟨hx, hb, hml, hrt, hlocks, hown, hts⟩ := id C
  have hbA : ¬ s.heap.size ≤ b := Nat.not_le.mpr hbl
  have hc0 : cells ≤ room_1.cells ∧ slots ≤ room_1.slots := ⟨by show cells ≤ 3101; omega, by show slots ≤ 119854; omega⟩
  have hc1 : cells + 1 ≤ room_1.cells ∧ slots + 6 ≤ room_1.slots := hcs
  refine lv_aload_n hx hb dL_law_897 rfl (lv_at hl 1 rfl) ?_
  refine lv_aload_n hx hb dL_law_898 rfl (lv_at hl 0 rfl) ?_
  refine lv_iload hx hb dL_law_899 (lv_at hl 4 rfl) ?_
  refine lv_iconst (v := 1) hx hb dL_law_901 (by decide) ?_
  refine lv_iadd hx hb dL_law_902 ?_
  refine va_sld hx hb hX hbl hbA hw.2.2.1 (sc_in hL hi (by decide)) dL_law_903 ?_
  refine lv_aload_n hx hb dL_law_904 rfl (lv_at hl 0 rfl) ?_
  refine lv_iload hx hb dL_law_905 (lv_at hl 4 rfl) ?_
  refine lv_iconst (v := 2) hx hb dL_law_907 (by decide) ?_
  refine lv_iadd hx hb dL_law_908 ?_
  refine va_sld hx hb hX hbl hbA hw.2.2.1 (sc_in hL hi (by decide)) dL_law_909 ?_
  refine hx_xi (Wf := (fun u => gl_W h0 g1 g2 rp rd cp cd pf pa u.1 u.2.1 u.2.2)) (u0 := (df, da, ds)) (F := (fX4_print df da ds ((xs (x4 + (1 : Int32)).toNatClampNeg)) ((xs (x4 + (2 : Int32)).toNatClampNeg)))) (tys' := gl_T cp cd) (wr := (md_W h9 r cA uf ua us ++ [(qo, .inl (cO, 1, .inr (.inl o)))])) (ws1 := ll_W h0 g1 g2 rp rd cp cd h9 r cA qo cO pf pa ((fX4_print df da ds ((xs (x4 + (1 : Int32)).toNatClampNeg)) ((xs (x4 + (2 : Int32)).toNatClampNeg))).2.1) ((fX4_print df da ds ((xs (x4 + (1 : Int32)).toNatClampNeg)) ((xs (x4 + (2 : Int32)).toNatClampNeg))).2.2.1) ((fX4_print df da ds ((xs (x4 + (1 : Int32)).toNatClampNeg)) ((xs (x4 + (2 : Int32)).toNatClampNeg))).2.2.2) uf ua us o) [0, 1, 2, 3, 4, 5, 6, 7, 8, 9, 10] [11, 12, 13, 14, 15, 16, 17, 18, 19, 20, 21, 22] [12, 13, 14, 15, 16, 17, 18, 19, 20, 21, 22, 0, 1, 2, 3, 4, 5, 6, 7, 8, 9, 10, 11] [0, 1, 2, 3, 4, 5, 6, 7] C (fun sz => kX4_print l dC dI af h0 g1 g2 rp rd cp cd sz pf pa df da ds ((xs (x4 + (1 : Int32)).toNatClampNeg)) ((xs (x4 + (2 : Int32)).toNatClampNeg))) (fun sz => fo_S_B _ _) (fun U u1 u2 => fo_S_sub hK.1.1 hw [0, 1, 2, 3, 4, 5, 6, 7, 8, 9, 10] rfl u1 u2) hw rfl rfl rfl rfl rfl (by decide) rfl rfl rfl rfl rfl rfl tw_methodLink_RL_82_yX4_print mbX4_print rfl ⟨rfl, rfl⟩ ⟨Nat.le_of_ble_eq_true rfl, Nat.le_of_ble_eq_true rfl⟩ hc0 hl.1 rfl (Nat.le_of_ble_eq_true rfl) dL_law_910 (fun H locs hw => ?_)
  refine lv_aload_n hx hb dL_law_913 rfl (lv_at hl 2 rfl) ?_
  refine lv_aload_n hx hb dL_law_914 rfl (lv_at hl 0 rfl) ?_
  refine lv_iload hx hb dL_law_915 (lv_at hl 4 rfl) ?_
  refine lv_iconst (v := 1) hx hb dL_law_917 (by decide) ?_
  refine lv_iadd hx hb dL_law_918 ?_
  refine va_sld hx hb hX hbl hbA hw.2.2.1 (sc_in hL hi (by decide)) dL_law_919 ?_
  refine lv_aload_n hx hb dL_law_920 rfl (lv_at hl 0 rfl) ?_
  refine lv_iload hx hb dL_law_921 (lv_at hl 4 rfl) ?_
  refine lv_iconst (v := 2) hx hb dL_law_923 (by decide) ?_
  refine lv_iadd hx hb dL_law_924 ?_
  refine va_sld hx hb hX hbl hbA hw.2.2.1 (sc_in hL hi (by decide)) dL_law_925 ?_
  refine hx_xi (Wf := (fun u => md_W h9 r cA u.1 u.2 us)) (u0 := (uf, ua)) (F := (fX5_print uf ua ((xs (x4 + (1 : Int32)).toNatClampNeg)) ((xs (x4 + (2 : Int32)).toNatClampNeg)))) (tys' := md_T cA) (wr := (gl_W h0 g1 g2 rp rd cp cd pf pa ((fX4_print df da ds ((xs (x4 + (1 : Int32)).toNatClampNeg)) ((xs (x4 + (2 : Int32)).toNatClampNeg))).2.1) ((fX4_print df da ds ((xs (x4 + (1 : Int32)).toNatClampNeg)) ((xs (x4 + (2 : Int32)).toNatClampNeg))).2.2.1) ((fX4_print df da ds ((xs (x4 + (1 : Int32)).toNatClampNeg)) ((xs (x4 + (2 : Int32)).toNatClampNeg))).2.2.2) ++ [(qo, .inl (cO, 1, .inr (.inl o)))])) (ws1 := ll_W h0 g1 g2 rp rd cp cd h9 r cA qo cO pf pa ((fX4_print df da ds ((xs (x4 + (1 : Int32)).toNatClampNeg)) ((xs (x4 + (2 : Int32)).toNatClampNeg))).2.1) ((fX4_print df da ds ((xs (x4 + (1 : Int32)).toNatClampNeg)) ((xs (x4 + (2 : Int32)).toNatClampNeg))).2.2.1) ((fX4_print df da ds ((xs (x4 + (1 : Int32)).toNatClampNeg)) ((xs (x4 + (2 : Int32)).toNatClampNeg))).2.2.2) ((fX5_print uf ua ((xs (x4 + (1 : Int32)).toNatClampNeg)) ((xs (x4 + (2 : Int32)).toNatClampNeg))).2.1) ((fX5_print uf ua ((xs (x4 + (1 : Int32)).toNatClampNeg)) ((xs (x4 + (2 : Int32)).toNatClampNeg))).2.2) us o) [11, 12, 13, 14, 15, 16, 17, 18, 19, 20, 21] [0, 1, 2, 3, 4, 5, 6, 7, 8, 9, 10, 22] [0, 1, 2, 3, 4, 5, 6, 7, 8, 9, 10, 12, 13, 14, 15, 16, 17, 18, 19, 20, 21, 22, 11] [8, 9, 10, 11, 12, 13, 14, 15, 16, 17] C (fun sz => kX5_print l dC dI h9 r cA sz uf ua us ((xs (x4 + (1 : Int32)).toNatClampNeg)) ((xs (x4 + (2 : Int32)).toNatClampNeg))) (fun _ => bx_B_true) (fun _ _ _ => trivial) hw rfl rfl rfl rfl rfl (by decide) rfl rfl rfl rfl rfl rfl tw_methodLink_RL_85_yX5_print mbX5_print rfl ⟨rfl, rfl⟩ ⟨Nat.le_of_ble_eq_true rfl, Nat.le_of_ble_eq_true rfl⟩ hc0 hl.1 rfl (Nat.le_of_ble_eq_true rfl) dL_law_926 (fun H locs hw => ?_)
  refine lv_icmp_eq (tgt := 1232) hx hb dL_law_929 (by decide) (fun cq => ?_) (fun cq => absurd (c_print (ds := ds) hr _ _).1 cq)
  refine W.widen (k := cells + 1) (n := slots + 6) (Nat.le_succ _) (Nat.le_add_right _ 6) ?_
  exact k _ _ _ _ _ _ _ _ _ _ _ _ (c_print (ds := ds) hr _ _).2 hw hl
set_option maxRecDepth 20000 in
theorem cs_9 {p : Program} {l : Launch} {e : Env} {s : State} {m : MethodId} {below : List Frame} {meth : Method} {c : Code} {b L : Nat} {xs : Nat → Int32} {af ad : Nat} {dC : Nat → ClassId} {dI : Nat → Nat → Nat} {h0 g1 g2 : Nat} {rp rd : Nat → Nat} {cp cd : Nat → ClassId} {h9 : Nat} {r : Nat → Nat} {cA : Nat → ClassId} {qo : Nat} {cO : ClassId} {pf : Nat → Int32} {pa : Nat → Nat → Int32} {df : Nat → Int32} {da : Nat → Nat → Int32} {ds : Nat → Int64} {uf : Nat → Int32} {ua : Nat → Nat → Int32} {us o : Nat → Int64} {H : Heap} {locs : List Loc} {ls : Array Slot} {x4 : Int32} {cells slots : Nat} {Q : State → Prop} (hl0 : l.stackTraces = false) (X : lx p s m meth c b L xs af ad) (hL : L ≤ 4096) (hi : 0 ≤ x4.toInt ∧ x4.toInt + 8 ≤ L) (hr : rl pf pa df da uf ua) (hw : hW (dC, dI) (ll_T cp cd cA cO) (fun q => s.heap.size ≤ q) s H locs (ll_W h0 g1 g2 rp rd cp cd h9 r cA qo cO pf pa df da ds uf ua us o)) (hl : lv_has ls 8 [(0, .ref b), (1, .ref h0), (2, .ref h9), (3, .ref qo), (4, .int x4)]) (hcs : cells + 1 ≤ 3101 ∧ slots + 6 ≤ 119854) (k : ll_C p l e s m below meth c b dC dI h0 g1 g2 rp rd cp cd h9 r cA qo cO x4 cells slots Q) : W p l e room_1 s m #[Value.ref b] below meth c H locs cells slots Q (F0 m 934 ls []) := by
  obtain ⟨C, hX, hbl, hK, hNw⟩ := id X
  obtain ⟨hx, hb, hml, hrt, hlocks, hown, hts⟩ := id C
  have hbA : ¬ s.heap.size ≤ b := Nat.not_le.mpr hbl
  have hc0 : cells ≤ room_1.cells ∧ slots ≤ room_1.slots := ⟨by show cells ≤ 3101; omega, by show slots ≤ 119854; omega⟩
  have hc1 : cells + 1 ≤ room_1.cells ∧ slots + 6 ≤ room_1.slots := hcs
  refine lv_aload_n hx hb dL_law_934 rfl (lv_at hl 1 rfl) ?_
  refine lv_aload_n hx hb dL_law_935 rfl (lv_at hl 0 rfl) ?_
  refine lv_iload hx hb dL_law_936 (lv_at hl 4 rfl) ?_
  refine lv_iconst (v := 1) hx hb dL_law_938 (by decide) ?_
  refine lv_iadd hx hb dL_law_939 ?_
  refine va_sld hx hb hX hbl hbA hw.2.2.1 (sc_in hL hi (by decide)) dL_law_940 ?_
  refine bx_vi C (kX4_at l dC dI h0 g1 g2 rp rd cp cd pf pa df da ds ((xs (x4 + (1 : Int32)).toNatClampNeg))) (rd_B _ _ _) (fun U u1 u2 => hw_rd hw u1 u2 [0, 1, 2, 3, 4, 5, 6, 7, 8, 9, 10] [0, 1, 2, 3, 4, 5, 6, 7] rfl rfl) (fun U u1 u2 => hw_obk (q0 := 0) hw rfl rfl u1 u2) tw_methodLink_RL_86_yX4_at mbX4_at rfl ⟨rfl, rfl⟩ ⟨Nat.le_of_ble_eq_true rfl, Nat.le_of_ble_eq_true rfl⟩ hc0 hl.1 rfl (Nat.le_of_ble_eq_true rfl) dL_law_941 ?_
  refine lv_aload_n hx hb dL_law_944 rfl (lv_at hl 2 rfl) ?_
  refine lv_aload_n hx hb dL_law_945 rfl (lv_at hl 0 rfl) ?_
  refine lv_iload hx hb dL_law_946 (lv_at hl 4 rfl) ?_
  refine lv_iconst (v := 1) hx hb dL_law_948 (by decide) ?_
  refine lv_iadd hx hb dL_law_949 ?_
  refine va_sld hx hb hX hbl hbA hw.2.2.1 (sc_in hL hi (by decide)) dL_law_950 ?_
  refine bx_vi C (kX5_at l dC dI h9 r cA uf ua us ((xs (x4 + (1 : Int32)).toNatClampNeg)) (rl_o hr)) (rd_B _ _ _) (fun U u1 u2 => hw_rd hw u1 u2 [11, 12, 13, 14, 15, 16, 17, 18, 19, 20, 21] [8, 9, 10, 11, 12, 13, 14, 15, 16, 17] rfl rfl) (fun U u1 u2 => hw_obk (q0 := 11) hw rfl rfl u1 u2) tw_methodLink_RL_89_yX5_at mbX5_at rfl ⟨rfl, rfl⟩ ⟨Nat.le_of_ble_eq_true rfl, Nat.le_of_ble_eq_true rfl⟩ hc0 hl.1 rfl (Nat.le_of_ble_eq_true rfl) dL_law_951 ?_
  refine lv_icmp_eq (tgt := 1232) hx hb dL_law_954 (by decide) (fun cq => ?_) (fun cq => absurd (c_at hr _) cq)
  refine W.widen (k := cells + 1) (n := slots + 6) (Nat.le_succ _) (Nat.le_add_right _ 6) ?_
  exact k _ _ _ _ _ _ _ _ _ _ _ _ hr hw hl
set_option maxRecDepth 20000 in
theorem cs_10 {p : Program} {l : Launch} {e : Env} {s : State} {m : MethodId} {below : List Frame} {meth : Method} {c : Code} {b L : Nat} {xs : Nat → Int32} {af ad : Nat} {dC : Nat → ClassId} {dI : Nat → Nat → Nat} {h0 g1 g2 : Nat} {rp rd : Nat → Nat} {cp cd : Nat → ClassId} {h9 : Nat} {r : Nat → Nat} {cA : Nat → ClassId} {qo : Nat} {cO : ClassId} {pf : Nat → Int32} {pa : Nat → Nat → Int32} {df : Nat → Int32} {da : Nat → Nat → Int32} {ds : Nat → Int64} {uf : Nat → Int32} {ua : Nat → Nat → Int32} {us o : Nat → Int64} {H : Heap} {locs : List Loc} {ls : Array Slot} {x4 : Int32} {cells slots : Nat} {Q : State → Prop} (hl0 : l.stackTraces = false) (X : lx p s m meth c b L xs af ad) (hL : L ≤ 4096) (hi : 0 ≤ x4.toInt ∧ x4.toInt + 8 ≤ L) (hr : rl pf pa df da uf ua) (hw : hW (dC, dI) (ll_T cp cd cA cO) (fun q => s.heap.size ≤ q) s H locs (ll_W h0 g1 g2 rp rd cp cd h9 r cA qo cO pf pa df da ds uf ua us o)) (hl : lv_has ls 8 [(0, .ref b), (1, .ref h0), (2, .ref h9), (3, .ref qo), (4, .int x4)]) (hcs : cells + 1 ≤ 3101 ∧ slots + 6 ≤ 119854) (k : ll_C p l e s m below meth c b dC dI h0 g1 g2 rp rd cp cd h9 r cA qo cO x4 cells slots Q) : W p l e room_1 s m #[Value.ref b] below meth c H locs cells slots Q (F0 m 959 ls []) := by
  obtain ⟨C, hX, hbl, hK, hNw⟩ := id X
  obtain ⟨hx, hb, hml, hrt, hlocks, hown, hts⟩ := id C
  have hbA : ¬ s.heap.size ≤ b := Nat.not_le.mpr hbl
  have hc0 : cells ≤ room_1.cells ∧ slots ≤ room_1.slots := ⟨by show cells ≤ 3101; omega, by show slots ≤ 119854; omega⟩
  have hc1 : cells + 1 ≤ room_1.cells ∧ slots + 6 ≤ room_1.slots := hcs
  refine lv_aload_n hx hb dL_law_959 rfl (lv_at hl 1 rfl) ?_
  refine lv_aload_n hx hb dL_law_960 rfl (lv_at hl 0 rfl) ?_
  refine lv_iload hx hb dL_law_961 (lv_at hl 4 rfl) ?_
  refine lv_iconst (v := 1) hx hb dL_law_963 (by decide) ?_
  refine lv_iadd hx hb dL_law_964 ?_
  refine va_sld hx hb hX hbl hbA hw.2.2.1 (sc_in hL hi (by decide)) dL_law_965 ?_
  refine lv_aload_n hx hb dL_law_966 rfl (lv_at hl 0 rfl) ?_
  refine lv_iload hx hb dL_law_967 (lv_at hl 4 rfl) ?_
  refine lv_iconst (v := 2) hx hb dL_law_969 (by decide) ?_
  refine lv_iadd hx hb dL_law_970 ?_
  refine va_sld hx hb hX hbl hbA hw.2.2.1 (sc_in hL hi (by decide)) dL_law_971 ?_
  refine lv_aload_n hx hb dL_law_972 rfl (lv_at hl 3 rfl) ?_
  refine hx_h (nA := 4) (Wf := (fun u : (Nat → Nat → Int32) × (Nat → Int64) => lo_W h0 g1 g2 rp rd cp cd pf u.1 df da ds qo cO u.2)) (Gn := (fun u : (Nat → Nat → Int32) × (Nat → Int64) => ll_W h0 g1 g2 rp rd cp cd h9 r cA qo cO pf u.1 df da ds uf ua us u.2)) (tys' := lo_T cp cd cO) (wC := lo_W h0 g1 g2 rp rd cp cd pf pa df da ds qo cO o) (wr := md_W h9 r cA uf ua us) [0, 1, 2, 3, 4, 5, 6, 7, 8, 9, 10, 22] [11, 12, 13, 14, 15, 16, 17, 18, 19, 20, 21] [11, 12, 13, 14, 15, 16, 17, 18, 19, 20, 21, 0, 1, 2, 3, 4, 5, 6, 7, 8, 9, 10, 22] [0, 1, 2, 3, 4, 5, 6, 7, 18] C (fun sz => kL_set l hl0 dC dI af ad h0 g1 g2 rp rd cp cd sz pf pa df da ds qo cO o ((xs (x4 + (1 : Int32)).toNatClampNeg)) ((xs (x4 + (2 : Int32)).toNatClampNeg))) (fun _ _ _ _ _ q => xk_same q rfl rfl) (fun U u1 u2 => xk_to hK hw.2.2.1 (hw_fr hw [0, 1, 2, 3, 4, 5, 6, 7, 8, 9, 10, 22] rfl) u1 u2) hw rfl rfl rfl rfl rfl (by decide) rfl (fun _ => rfl) rfl (fun _ => rfl) tw_methodLink_RL_90_yL_set tw_static_yL_set tw_initialized_RL tw_code_yL_set ⟨by decide, by decide, by decide +kernel⟩ rfl ⟨rfl, rfl⟩ ⟨Nat.le_of_ble_eq_true rfl, Nat.le_of_ble_eq_true rfl⟩ hc1 hl.1 rfl (Nat.le_of_ble_eq_true rfl) dL_law_973 (fun rr u H locs hpost hw => ?_)
  rcases hpost with ⟨hin, rfl, rfl⟩ | ⟨hin, rfl, hu⟩
  · have hw : hW (dC, dI) (ll_T cp cd cA cO) (fun q => s.heap.size ≤ q) s H locs (ll_W h0 g1 g2 rp rd cp cd h9 r cA qo cO pf ((fX3_replaced pa ((xs (x4 + (1 : Int32)).toNatClampNeg)) ((xs (x4 + (2 : Int32)).toNatClampNeg))).2) df da ds uf ua us ((vp_updL o 0 (fX3_replaced pa ((xs (x4 + (1 : Int32)).toNatClampNeg)) ((xs (x4 + (2 : Int32)).toNatClampNeg))).1.toInt64))) := hw
    refine lv_istore (lv' := [(5, .int ((0 : Int32))), (0, .ref b), (1, .ref h0), (2, .ref h9), (3, .ref qo), (4, .int x4)]) hx hb dL_law_976 hl (by decide) rfl (fun ls hl => ?_)
    refine lv_aload_n hx hb dL_law_978 rfl (lv_at hl 3 rfl) ?_
    refine lv_aload_n hx hb dL_law_979 rfl (lv_at hl 1 rfl) ?_
    refine lv_iload hx hb dL_law_980 (lv_at hl 5 rfl) ?_
    refine lv_iconst (v := 1) hx hb dL_law_982 (by decide) ?_
    refine lv_iadd hx hb dL_law_983 ?_
    refine va_sld hx hb hX hbl hbA hw.2.2.1 (sc_in hL hi (by decide)) dL_law_984 ?_
    refine lv_aload_n hx hb dL_law_985 rfl (lv_at hl 1 rfl) ?_
    refine lv_iload hx hb dL_law_986 (lv_at hl 5 rfl) ?_
    refine lv_iconst (v := 2) hx hb dL_law_988 (by decide) ?_
    refine lv_iadd hx hb dL_law_989 ?_
    refine va_sld hx hb hX hbl hbA hw.2.2.1 (sc_in hL hi (by decide)) dL_law_990 ?_
    refine hx_xi (Wf := (fun u => md_W h9 r cA u.1 u.2 us)) (u0 := (uf, ua)) (F := (fX5_set uf ua ((xs (x4 + (1 : Int32)).toNatClampNeg)) ((xs (x4 + (2 : Int32)).toNatClampNeg)))) (tys' := md_T cA) (wr := (gl_W h0 g1 g2 rp rd cp cd pf ((fX3_replaced pa ((xs (x4 + (1 : Int32)).toNatClampNeg)) ((xs (x4 + (2 : Int32)).toNatClampNeg))).2) df da ds ++ [(qo, .inl (cO, 1, .inr (.inl ((vp_updL o 0 (fX3_replaced pa ((xs (x4 + (1 : Int32)).toNatClampNeg)) ((xs (x4 + (2 : Int32)).toNatClampNeg))).1.toInt64)))))])) (ws1 := ll_W h0 g1 g2 rp rd cp cd h9 r cA qo cO pf ((fX3_replaced pa ((xs (x4 + (1 : Int32)).toNatClampNeg)) ((xs (x4 + (2 : Int32)).toNatClampNeg))).2) df da ds ((fX5_set uf ua ((xs (x4 + (1 : Int32)).toNatClampNeg)) ((xs (x4 + (2 : Int32)).toNatClampNeg))).2.1) ((fX5_set uf ua ((xs (x4 + (1 : Int32)).toNatClampNeg)) ((xs (x4 + (2 : Int32)).toNatClampNeg))).2.2) us ((vp_updL o 0 (fX3_replaced pa ((xs (x4 + (1 : Int32)).toNatClampNeg)) ((xs (x4 + (2 : Int32)).toNatClampNeg))).1.toInt64))) [11, 12, 13, 14, 15, 16, 17, 18, 19, 20, 21] [0, 1, 2, 3, 4, 5, 6, 7, 8, 9, 10, 22] [0, 1, 2, 3, 4, 5, 6, 7, 8, 9, 10, 12, 13, 14, 15, 16, 17, 18, 19, 20, 21, 22, 11] [8, 9, 10, 11, 12, 13, 14, 15, 16, 17] C (fun sz => kX5_set l dC dI h9 r cA sz uf ua us ((xs (x4 + (1 : Int32)).toNatClampNeg)) ((xs (x4 + (2 : Int32)).toNatClampNeg))) (fun _ => bx_B_true) (fun _ _ _ => trivial) hw rfl rfl rfl rfl rfl (by decide) rfl rfl rfl rfl rfl rfl tw_methodLink_RL_93_yX5_set mbX5_set rfl ⟨rfl, rfl⟩ ⟨Nat.le_of_ble_eq_true rfl, Nat.le_of_ble_eq_true rfl⟩ hc1 hl.1 rfl (Nat.le_of_ble_eq_true rfl) dL_law_991 (fun H locs hw => ?_)
    refine lv_istore (lv' := [(6, .int ((fX5_set uf ua ((xs (x4 + (1 : Int32)).toNatClampNeg)) ((xs (x4 + (2 : Int32)).toNatClampNeg))).1)), (5, .int ((0 : Int32))), (0, .ref b), (1, .ref h0), (2, .ref h9), (3, .ref qo), (4, .int x4)]) hx hb dL_law_994 hl (by decide) rfl (fun ls hl => ?_)
    refine lv_aload_n hx hb dL_law_996 rfl (lv_at hl 4 rfl) ?_
    refine bx_vi C (kX5_thrown l dC dI h9 r cA ((fX5_set uf ua ((xs (x4 + (1 : Int32)).toNatClampNeg)) ((xs (x4 + (2 : Int32)).toNatClampNeg))).2.1) ((fX5_set uf ua ((xs (x4 + (1 : Int32)).toNatClampNeg)) ((xs (x4 + (2 : Int32)).toNatClampNeg))).2.2) us) (rd_B _ _ _) (fun U u1 u2 => hw_rd hw u1 u2 [11, 12, 13, 14, 15, 16, 17, 18, 19, 20, 21] [8, 9, 10, 11, 12, 13, 14, 15, 16, 17] rfl rfl) (fun U u1 u2 => hw_obk (q0 := 11) hw rfl rfl u1 u2) tw_methodLink_RL_46_yX5_thrown mbX5_thrown rfl ⟨rfl, rfl⟩ ⟨Nat.le_of_ble_eq_true rfl, Nat.le_of_ble_eq_true rfl⟩ hc1 hl.1 rfl (Nat.le_of_ble_eq_true rfl) dL_law_997 ?_
    have hq := (c_set (x1 := (xs (x4 + (1 : Int32)).toNatClampNeg)) (x2 := (xs (x4 + (2 : Int32)).toNatClampNeg)) hr).1 hin
    refine lv_iload hx hb dL_law_1000 (lv_at hl 1 rfl) ?_
    refine lv_icmp_eq (tgt := 1007) hx hb dL_law_1002 (by decide) (fun cq => ?_) (fun cq => absurd hq.1 cq)
    refine lv_iload hx hb dL_law_1007 (lv_at hl 1 rfl) ?_
    refine lv_if_ne (tgt := 1024) hx hb dL_law_1009 (by decide) (fun cq => absurd rfl cq) (fun cq => ?_)
    refine lv_aload_n hx hb dL_law_1012 rfl (lv_at hl 5 rfl) ?_
    refine lv_iconst (v := 0) hx hb dL_law_1013 (by decide) ?_
    refine hx_lald hx hb hw.1 hw.2.2.2.1 22 18 rfl rfl (vi_in (by decide) (by decide)) dL_law_1014 ?_
    refine bx_as (v := .long (fX3_replaced pa ((xs (x4 + (1 : Int32)).toNatClampNeg)) ((xs (x4 + (2 : Int32)).toNatClampNeg))).1.toInt64) rfl ?_
    refine lv_iload hx hb dL_law_1015 (lv_at hl 0 rfl) ?_
    refine bx_i2l hx hb dL_law_1017 ?_
    refine bx_lc_eq (tgt := 1024) hx hb dL_law_1018 dL_law_1019 (by decide) (fun cq => ?_) (fun cq => absurd (congrArg Int32.toInt64 hq.2.1).symm cq)
    refine lv_goto (tgt := 1232) hx hb dL_law_1024 (by decide) ?_
    exact k _ _ _ _ _ _ _ _ _ _ _ _ hq.2.2 hw (lv_sub hl [2, 3, 4, 5, 6] rfl)
  · have hu := hu.symm
    subst hu
    have hw : hW (dC, dI) (ll_T cp cd cA cO) (fun q => s.heap.size ≤ q) s H locs (ll_W h0 g1 g2 rp rd cp cd h9 r cA qo cO pf pa df da ds uf ua us o) := hw
    refine lv_istore (lv' := [(5, .int ((1 : Int32))), (0, .ref b), (1, .ref h0), (2, .ref h9), (3, .ref qo), (4, .int x4)]) hx hb dL_law_976 hl (by decide) rfl (fun ls hl => ?_)
    refine lv_aload_n hx hb dL_law_978 rfl (lv_at hl 3 rfl) ?_
    refine lv_aload_n hx hb dL_law_979 rfl (lv_at hl 1 rfl) ?_
    refine lv_iload hx hb dL_law_980 (lv_at hl 5 rfl) ?_
    refine lv_iconst (v := 1) hx hb dL_law_982 (by decide) ?_
    refine lv_iadd hx hb dL_law_983 ?_
    refine va_sld hx hb hX hbl hbA hw.2.2.1 (sc_in hL hi (by decide)) dL_law_984 ?_
    refine lv_aload_n hx hb dL_law_985 rfl (lv_at hl 1 rfl) ?_
    refine lv_iload hx hb dL_law_986 (lv_at hl 5 rfl) ?_
    refine lv_iconst (v := 2) hx hb dL_law_988 (by decide) ?_
    refine lv_iadd hx hb dL_law_989 ?_
    refine va_sld hx hb hX hbl hbA hw.2.2.1 (sc_in hL hi (by decide)) dL_law_990 ?_
    refine hx_xi (Wf := (fun u => md_W h9 r cA u.1 u.2 us)) (u0 := (uf, ua)) (F := (fX5_set uf ua ((xs (x4 + (1 : Int32)).toNatClampNeg)) ((xs (x4 + (2 : Int32)).toNatClampNeg)))) (tys' := md_T cA) (wr := (gl_W h0 g1 g2 rp rd cp cd pf pa df da ds ++ [(qo, .inl (cO, 1, .inr (.inl o)))])) (ws1 := ll_W h0 g1 g2 rp rd cp cd h9 r cA qo cO pf pa df da ds ((fX5_set uf ua ((xs (x4 + (1 : Int32)).toNatClampNeg)) ((xs (x4 + (2 : Int32)).toNatClampNeg))).2.1) ((fX5_set uf ua ((xs (x4 + (1 : Int32)).toNatClampNeg)) ((xs (x4 + (2 : Int32)).toNatClampNeg))).2.2) us o) [11, 12, 13, 14, 15, 16, 17, 18, 19, 20, 21] [0, 1, 2, 3, 4, 5, 6, 7, 8, 9, 10, 22] [0, 1, 2, 3, 4, 5, 6, 7, 8, 9, 10, 12, 13, 14, 15, 16, 17, 18, 19, 20, 21, 22, 11] [8, 9, 10, 11, 12, 13, 14, 15, 16, 17] C (fun sz => kX5_set l dC dI h9 r cA sz uf ua us ((xs (x4 + (1 : Int32)).toNatClampNeg)) ((xs (x4 + (2 : Int32)).toNatClampNeg))) (fun _ => bx_B_true) (fun _ _ _ => trivial) hw rfl rfl rfl rfl rfl (by decide) rfl rfl rfl rfl rfl rfl tw_methodLink_RL_93_yX5_set mbX5_set rfl ⟨rfl, rfl⟩ ⟨Nat.le_of_ble_eq_true rfl, Nat.le_of_ble_eq_true rfl⟩ hc1 hl.1 rfl (Nat.le_of_ble_eq_true rfl) dL_law_991 (fun H locs hw => ?_)
    refine lv_istore (lv' := [(6, .int ((fX5_set uf ua ((xs (x4 + (1 : Int32)).toNatClampNeg)) ((xs (x4 + (2 : Int32)).toNatClampNeg))).1)), (5, .int ((1 : Int32))), (0, .ref b), (1, .ref h0), (2, .ref h9), (3, .ref qo), (4, .int x4)]) hx hb dL_law_994 hl (by decide) rfl (fun ls hl => ?_)
    refine lv_aload_n hx hb dL_law_996 rfl (lv_at hl 4 rfl) ?_
    refine bx_vi C (kX5_thrown l dC dI h9 r cA ((fX5_set uf ua ((xs (x4 + (1 : Int32)).toNatClampNeg)) ((xs (x4 + (2 : Int32)).toNatClampNeg))).2.1) ((fX5_set uf ua ((xs (x4 + (1 : Int32)).toNatClampNeg)) ((xs (x4 + (2 : Int32)).toNatClampNeg))).2.2) us) (rd_B _ _ _) (fun U u1 u2 => hw_rd hw u1 u2 [11, 12, 13, 14, 15, 16, 17, 18, 19, 20, 21] [8, 9, 10, 11, 12, 13, 14, 15, 16, 17] rfl rfl) (fun U u1 u2 => hw_obk (q0 := 11) hw rfl rfl u1 u2) tw_methodLink_RL_46_yX5_thrown mbX5_thrown rfl ⟨rfl, rfl⟩ ⟨Nat.le_of_ble_eq_true rfl, Nat.le_of_ble_eq_true rfl⟩ hc1 hl.1 rfl (Nat.le_of_ble_eq_true rfl) dL_law_997 ?_
    have hq := (c_set (x1 := (xs (x4 + (1 : Int32)).toNatClampNeg)) (x2 := (xs (x4 + (2 : Int32)).toNatClampNeg)) hr).2 (Classical.not_not.mp hin)
    refine lv_iload hx hb dL_law_1000 (lv_at hl 1 rfl) ?_
    refine lv_icmp_eq (tgt := 1007) hx hb dL_law_1002 (by decide) (fun cq => ?_) (fun cq => absurd hq.1 cq)
    refine lv_iload hx hb dL_law_1007 (lv_at hl 1 rfl) ?_
    refine lv_if_ne (tgt := 1024) hx hb dL_law_1009 (by decide) (fun cq => ?_) (fun cq => absurd cq (by decide))
    refine lv_goto (tgt := 1232) hx hb dL_law_1024 (by decide) ?_
    exact k _ _ _ _ _ _ _ _ _ _ _ _ hq.2 hw (lv_sub hl [2, 3, 4, 5, 6] rfl)
set_option maxRecDepth 20000 in
theorem cs_11 {p : Program} {l : Launch} {e : Env} {s : State} {m : MethodId} {below : List Frame} {meth : Method} {c : Code} {b L : Nat} {xs : Nat → Int32} {af ad : Nat} {dC : Nat → ClassId} {dI : Nat → Nat → Nat} {h0 g1 g2 : Nat} {rp rd : Nat → Nat} {cp cd : Nat → ClassId} {h9 : Nat} {r : Nat → Nat} {cA : Nat → ClassId} {qo : Nat} {cO : ClassId} {pf : Nat → Int32} {pa : Nat → Nat → Int32} {df : Nat → Int32} {da : Nat → Nat → Int32} {ds : Nat → Int64} {uf : Nat → Int32} {ua : Nat → Nat → Int32} {us o : Nat → Int64} {H : Heap} {locs : List Loc} {ls : Array Slot} {x4 : Int32} {cells slots : Nat} {Q : State → Prop} (hl0 : l.stackTraces = false) (X : lx p s m meth c b L xs af ad) (hL : L ≤ 4096) (hi : 0 ≤ x4.toInt ∧ x4.toInt + 8 ≤ L) (hr : rl pf pa df da uf ua) (hw : hW (dC, dI) (ll_T cp cd cA cO) (fun q => s.heap.size ≤ q) s H locs (ll_W h0 g1 g2 rp rd cp cd h9 r cA qo cO pf pa df da ds uf ua us o)) (hl : lv_has ls 8 [(0, .ref b), (1, .ref h0), (2, .ref h9), (3, .ref qo), (4, .int x4)]) (hcs : cells + 1 ≤ 3101 ∧ slots + 6 ≤ 119854) (k : ll_C p l e s m below meth c b dC dI h0 g1 g2 rp rd cp cd h9 r cA qo cO x4 cells slots Q) : W p l e room_1 s m #[Value.ref b] below meth c H locs cells slots Q (F0 m 1027 ls []) := by
  obtain ⟨C, hX, hbl, hK, hNw⟩ := id X
  obtain ⟨hx, hb, hml, hrt, hlocks, hown, hts⟩ := id C
  have hbA : ¬ s.heap.size ≤ b := Nat.not_le.mpr hbl
  have hc0 : cells ≤ room_1.cells ∧ slots ≤ room_1.slots := ⟨by show cells ≤ 3101; omega, by show slots ≤ 119854; omega⟩
  have hc1 : cells + 1 ≤ room_1.cells ∧ slots + 6 ≤ room_1.slots := hcs
  refine lv_aload_n hx hb dL_law_1027 rfl (lv_at hl 1 rfl) ?_
  refine lv_aload_n hx hb dL_law_1028 rfl (lv_at hl 0 rfl) ?_
  refine lv_iload hx hb dL_law_1029 (lv_at hl 4 rfl) ?_
  refine lv_iconst (v := 1) hx hb dL_law_1031 (by decide) ?_
  refine lv_iadd hx hb dL_law_1032 ?_
  refine va_sld hx hb hX hbl hbA hw.2.2.1 (sc_in hL hi (by decide)) dL_law_1033 ?_
  refine lv_aload_n hx hb dL_law_1034 rfl (lv_at hl 3 rfl) ?_
  refine hx_h (nA := 3) (Wf := (fun u => lo_W h0 g1 g2 rp rd cp cd pf pa df da ds qo cO u)) (Gn := (fun u => ll_W h0 g1 g2 rp rd cp cd h9 r cA qo cO pf pa df da ds uf ua us u)) (tys' := lo_T cp cd cO) (wC := lo_W h0 g1 g2 rp rd cp cd pf pa df da ds qo cO o) (wr := md_W h9 r cA uf ua us) [0, 1, 2, 3, 4, 5, 6, 7, 8, 9, 10, 22] [11, 12, 13, 14, 15, 16, 17, 18, 19, 20, 21] [11, 12, 13, 14, 15, 16, 17, 18, 19, 20, 21, 0, 1, 2, 3, 4, 5, 6, 7, 8, 9, 10, 22] [0, 1, 2, 3, 4, 5, 6, 7, 18] C (fun sz => kL_word l hl0 dC dI af ad h0 g1 g2 rp rd cp cd sz pf pa df da ds qo cO o ((xs (x4 + (1 : Int32)).toNatClampNeg))) (fun _ _ _ _ _ q => xk_same q rfl rfl) (fun U u1 u2 => xk_to hK hw.2.2.1 (hw_fr hw [0, 1, 2, 3, 4, 5, 6, 7, 8, 9, 10, 22] rfl) u1 u2) hw rfl rfl rfl rfl rfl (by decide) rfl (fun _ => rfl) rfl (fun _ => rfl) tw_methodLink_RL_94_yL_word tw_static_yL_word tw_initialized_RL tw_code_yL_word ⟨by decide, by decide, by decide +kernel⟩ rfl ⟨rfl, rfl⟩ ⟨Nat.le_of_ble_eq_true rfl, Nat.le_of_ble_eq_true rfl⟩ hc1 hl.1 rfl (Nat.le_of_ble_eq_true rfl) dL_law_1035 (fun rr u H locs hpost hw => ?_)
  rcases hpost with ⟨hin, rfl, rfl⟩ | ⟨hin, rfl, hu⟩
  · refine lv_istore (lv' := [(5, .int ((0 : Int32))), (0, .ref b), (1, .ref h0), (2, .ref h9), (3, .ref qo), (4, .int x4)]) hx hb dL_law_1038 hl (by decide) rfl (fun ls hl => ?_)
    refine lv_aload_n hx hb dL_law_1040 rfl (lv_at hl 3 rfl) ?_
    refine lv_aload_n hx hb dL_law_1041 rfl (lv_at hl 1 rfl) ?_
    refine lv_iload hx hb dL_law_1042 (lv_at hl 5 rfl) ?_
    refine lv_iconst (v := 1) hx hb dL_law_1044 (by decide) ?_
    refine lv_iadd hx hb dL_law_1045 ?_
    refine va_sld hx hb hX hbl hbA hw.2.2.1 (sc_in hL hi (by decide)) dL_law_1046 ?_
    refine hx_xi (Wf := (fun u => md_W h9 r cA u ua us)) (u0 := uf) (F := (fX5_word uf ua ((xs (x4 + (1 : Int32)).toNatClampNeg)))) (tys' := md_T cA) (wr := (gl_W h0 g1 g2 rp rd cp cd pf pa df da ds ++ [(qo, .inl (cO, 1, .inr (.inl ((vp_updL o 0 (fX3_wordAt pa ((xs (x4 + (1 : Int32)).toNatClampNeg))).toInt64)))))])) (ws1 := ll_W h0 g1 g2 rp rd cp cd h9 r cA qo cO pf pa df da ds ((fX5_word uf ua ((xs (x4 + (1 : Int32)).toNatClampNeg))).2) ua us ((vp_updL o 0 (fX3_wordAt pa ((xs (x4 + (1 : Int32)).toNatClampNeg))).toInt64))) [11, 12, 13, 14, 15, 16, 17, 18, 19, 20, 21] [0, 1, 2, 3, 4, 5, 6, 7, 8, 9, 10, 22] [0, 1, 2, 3, 4, 5, 6, 7, 8, 9, 10, 12, 13, 14, 15, 16, 17, 18, 19, 20, 21, 22, 11] [8, 9, 10, 11, 12, 13, 14, 15, 16, 17] C (fun sz => kX5_word l dC dI h9 r cA sz uf ua us ((xs (x4 + (1 : Int32)).toNatClampNeg))) (fun _ => bx_B_true) (fun _ _ _ => trivial) hw rfl rfl rfl rfl rfl (by decide) rfl rfl rfl rfl rfl rfl tw_methodLink_RL_97_yX5_word mbX5_word rfl ⟨rfl, rfl⟩ ⟨Nat.le_of_ble_eq_true rfl, Nat.le_of_ble_eq_true rfl⟩ hc1 hl.1 rfl (Nat.le_of_ble_eq_true rfl) dL_law_1047 (fun H locs hw => ?_)
    refine lv_istore (lv' := [(6, .int ((fX5_word uf ua ((xs (x4 + (1 : Int32)).toNatClampNeg))).1)), (5, .int ((0 : Int32))), (0, .ref b), (1, .ref h0), (2, .ref h9), (3, .ref qo), (4, .int x4)]) hx hb dL_law_1050 hl (by decide) rfl (fun ls hl => ?_)
    refine lv_aload_n hx hb dL_law_1052 rfl (lv_at hl 4 rfl) ?_
    refine bx_vi C (kX5_thrown l dC dI h9 r cA ((fX5_word uf ua ((xs (x4 + (1 : Int32)).toNatClampNeg))).2) ua us) (rd_B _ _ _) (fun U u1 u2 => hw_rd hw u1 u2 [11, 12, 13, 14, 15, 16, 17, 18, 19, 20, 21] [8, 9, 10, 11, 12, 13, 14, 15, 16, 17] rfl rfl) (fun U u1 u2 => hw_obk (q0 := 11) hw rfl rfl u1 u2) tw_methodLink_RL_46_yX5_thrown mbX5_thrown rfl ⟨rfl, rfl⟩ ⟨Nat.le_of_ble_eq_true rfl, Nat.le_of_ble_eq_true rfl⟩ hc1 hl.1 rfl (Nat.le_of_ble_eq_true rfl) dL_law_1053 ?_
    have hq := (c_word (x1 := (xs (x4 + (1 : Int32)).toNatClampNeg)) hr).1 hin
    refine lv_iload hx hb dL_law_1056 (lv_at hl 1 rfl) ?_
    refine lv_icmp_eq (tgt := 1063) hx hb dL_law_1058 (by decide) (fun cq => ?_) (fun cq => absurd hq.1 cq)
    refine lv_iload hx hb dL_law_1063 (lv_at hl 1 rfl) ?_
    refine lv_if_ne (tgt := 1080) hx hb dL_law_1065 (by decide) (fun cq => absurd rfl cq) (fun cq => ?_)
    refine lv_aload_n hx hb dL_law_1068 rfl (lv_at hl 5 rfl) ?_
    refine lv_iconst (v := 0) hx hb dL_law_1069 (by decide) ?_
    refine hx_lald hx hb hw.1 hw.2.2.2.1 22 18 rfl rfl (vi_in (by decide) (by decide)) dL_law_1070 ?_
    refine bx_as (v := .long (fX3_wordAt pa ((xs (x4 + (1 : Int32)).toNatClampNeg))).toInt64) rfl ?_
    refine lv_iload hx hb dL_law_1071 (lv_at hl 0 rfl) ?_
    refine bx_i2l hx hb dL_law_1073 ?_
    refine bx_lc_eq (tgt := 1080) hx hb dL_law_1074 dL_law_1075 (by decide) (fun cq => ?_) (fun cq => absurd (congrArg Int32.toInt64 hq.2).symm cq)
    refine lv_goto (tgt := 1232) hx hb dL_law_1080 (by decide) ?_
    exact k _ _ _ _ _ _ _ _ _ _ _ _ (c_word (x1 := (xs (x4 + (1 : Int32)).toNatClampNeg)) hr).2.2 hw (lv_sub hl [2, 3, 4, 5, 6] rfl)
  · have hu := hu.symm
    subst hu
    refine lv_istore (lv' := [(5, .int ((1 : Int32))), (0, .ref b), (1, .ref h0), (2, .ref h9), (3, .ref qo), (4, .int x4)]) hx hb dL_law_1038 hl (by decide) rfl (fun ls hl => ?_)
    refine lv_aload_n hx hb dL_law_1040 rfl (lv_at hl 3 rfl) ?_
    refine lv_aload_n hx hb dL_law_1041 rfl (lv_at hl 1 rfl) ?_
    refine lv_iload hx hb dL_law_1042 (lv_at hl 5 rfl) ?_
    refine lv_iconst (v := 1) hx hb dL_law_1044 (by decide) ?_
    refine lv_iadd hx hb dL_law_1045 ?_
    refine va_sld hx hb hX hbl hbA hw.2.2.1 (sc_in hL hi (by decide)) dL_law_1046 ?_
    refine hx_xi (Wf := (fun u => md_W h9 r cA u ua us)) (u0 := uf) (F := (fX5_word uf ua ((xs (x4 + (1 : Int32)).toNatClampNeg)))) (tys' := md_T cA) (wr := (gl_W h0 g1 g2 rp rd cp cd pf pa df da ds ++ [(qo, .inl (cO, 1, .inr (.inl o)))])) (ws1 := ll_W h0 g1 g2 rp rd cp cd h9 r cA qo cO pf pa df da ds ((fX5_word uf ua ((xs (x4 + (1 : Int32)).toNatClampNeg))).2) ua us o) [11, 12, 13, 14, 15, 16, 17, 18, 19, 20, 21] [0, 1, 2, 3, 4, 5, 6, 7, 8, 9, 10, 22] [0, 1, 2, 3, 4, 5, 6, 7, 8, 9, 10, 12, 13, 14, 15, 16, 17, 18, 19, 20, 21, 22, 11] [8, 9, 10, 11, 12, 13, 14, 15, 16, 17] C (fun sz => kX5_word l dC dI h9 r cA sz uf ua us ((xs (x4 + (1 : Int32)).toNatClampNeg))) (fun _ => bx_B_true) (fun _ _ _ => trivial) hw rfl rfl rfl rfl rfl (by decide) rfl rfl rfl rfl rfl rfl tw_methodLink_RL_97_yX5_word mbX5_word rfl ⟨rfl, rfl⟩ ⟨Nat.le_of_ble_eq_true rfl, Nat.le_of_ble_eq_true rfl⟩ hc1 hl.1 rfl (Nat.le_of_ble_eq_true rfl) dL_law_1047 (fun H locs hw => ?_)
    refine lv_istore (lv' := [(6, .int ((fX5_word uf ua ((xs (x4 + (1 : Int32)).toNatClampNeg))).1)), (5, .int ((1 : Int32))), (0, .ref b), (1, .ref h0), (2, .ref h9), (3, .ref qo), (4, .int x4)]) hx hb dL_law_1050 hl (by decide) rfl (fun ls hl => ?_)
    refine lv_aload_n hx hb dL_law_1052 rfl (lv_at hl 4 rfl) ?_
    refine bx_vi C (kX5_thrown l dC dI h9 r cA ((fX5_word uf ua ((xs (x4 + (1 : Int32)).toNatClampNeg))).2) ua us) (rd_B _ _ _) (fun U u1 u2 => hw_rd hw u1 u2 [11, 12, 13, 14, 15, 16, 17, 18, 19, 20, 21] [8, 9, 10, 11, 12, 13, 14, 15, 16, 17] rfl rfl) (fun U u1 u2 => hw_obk (q0 := 11) hw rfl rfl u1 u2) tw_methodLink_RL_46_yX5_thrown mbX5_thrown rfl ⟨rfl, rfl⟩ ⟨Nat.le_of_ble_eq_true rfl, Nat.le_of_ble_eq_true rfl⟩ hc1 hl.1 rfl (Nat.le_of_ble_eq_true rfl) dL_law_1053 ?_
    have hq := (c_word (x1 := (xs (x4 + (1 : Int32)).toNatClampNeg)) hr).2.1 (Classical.not_not.mp hin)
    refine lv_iload hx hb dL_law_1056 (lv_at hl 1 rfl) ?_
    refine lv_icmp_eq (tgt := 1063) hx hb dL_law_1058 (by decide) (fun cq => ?_) (fun cq => absurd hq cq)
    refine lv_iload hx hb dL_law_1063 (lv_at hl 1 rfl) ?_
    refine lv_if_ne (tgt := 1080) hx hb dL_law_1065 (by decide) (fun cq => ?_) (fun cq => absurd cq (by decide))
    refine lv_goto (tgt := 1232) hx hb dL_law_1080 (by decide) ?_
    exact k _ _ _ _ _ _ _ _ _ _ _ _ (c_word (x1 := (xs (x4 + (1 : Int32)).toNatClampNeg)) hr).2.2 hw (lv_sub hl [2, 3, 4, 5, 6] rfl)
set_option maxRecDepth 20000 in
theorem cs_12 {p : Program} {l : Launch} {e : Env} {s : State} {m : MethodId} {below : List Frame} {meth : Method} {c : Code} {b L : Nat} {xs : Nat → Int32} {af ad : Nat} {dC : Nat → ClassId} {dI : Nat → Nat → Nat} {h0 g1 g2 : Nat} {rp rd : Nat → Nat} {cp cd : Nat → ClassId} {h9 : Nat} {r : Nat → Nat} {cA : Nat → ClassId} {qo : Nat} {cO : ClassId} {pf : Nat → Int32} {pa : Nat → Nat → Int32} {df : Nat → Int32} {da : Nat → Nat → Int32} {ds : Nat → Int64} {uf : Nat → Int32} {ua : Nat → Nat → Int32} {us o : Nat → Int64} {H : Heap} {locs : List Loc} {ls : Array Slot} {x4 : Int32} {cells slots : Nat} {Q : State → Prop} (hl0 : l.stackTraces = false) (X : lx p s m meth c b L xs af ad) (hL : L ≤ 4096) (hi : 0 ≤ x4.toInt ∧ x4.toInt + 8 ≤ L) (hr : rl pf pa df da uf ua) (hw : hW (dC, dI) (ll_T cp cd cA cO) (fun q => s.heap.size ≤ q) s H locs (ll_W h0 g1 g2 rp rd cp cd h9 r cA qo cO pf pa df da ds uf ua us o)) (hl : lv_has ls 8 [(0, .ref b), (1, .ref h0), (2, .ref h9), (3, .ref qo), (4, .int x4)]) (hcs : cells + 1 ≤ 3101 ∧ slots + 6 ≤ 119854) (k : ll_C p l e s m below meth c b dC dI h0 g1 g2 rp rd cp cd h9 r cA qo cO x4 cells slots Q) : W p l e room_1 s m #[Value.ref b] below meth c H locs cells slots Q (F0 m 1083 ls []) := by
  obtain ⟨C, hX, hbl, hK, hNw⟩ := id X
  obtain ⟨hx, hb, hml, hrt, hlocks, hown, hts⟩ := id C
  have hbA : ¬ s.heap.size ≤ b := Nat.not_le.mpr hbl
  have hc0 : cells ≤ room_1.cells ∧ slots ≤ room_1.slots := ⟨by show cells ≤ 3101; omega, by show slots ≤ 119854; omega⟩
  have hc1 : cells + 1 ≤ room_1.cells ∧ slots + 6 ≤ room_1.slots := hcs
  refine lv_aload_n hx hb dL_law_1083 rfl (lv_at hl 1 rfl) ?_
  refine lv_aload_n hx hb dL_law_1084 rfl (lv_at hl 0 rfl) ?_
  refine lv_iload hx hb dL_law_1085 (lv_at hl 4 rfl) ?_
  refine lv_iconst (v := 1) hx hb dL_law_1087 (by decide) ?_
  refine lv_iadd hx hb dL_law_1088 ?_
  refine va_sld hx hb hX hbl hbA hw.2.2.1 (sc_in hL hi (by decide)) dL_law_1089 ?_
  refine lv_aload_n hx hb dL_law_1090 rfl (lv_at hl 0 rfl) ?_
  refine lv_iload hx hb dL_law_1091 (lv_at hl 4 rfl) ?_
  refine lv_iconst (v := 2) hx hb dL_law_1093 (by decide) ?_
  refine lv_iadd hx hb dL_law_1094 ?_
  refine va_sld hx hb hX hbl hbA hw.2.2.1 (sc_in hL hi (by decide)) dL_law_1095 ?_
  refine lv_aload_n hx hb dL_law_1096 rfl (lv_at hl 0 rfl) ?_
  refine lv_iload hx hb dL_law_1097 (lv_at hl 4 rfl) ?_
  refine lv_iconst (v := 3) hx hb dL_law_1099 (by decide) ?_
  refine lv_iadd hx hb dL_law_1100 ?_
  refine va_sld hx hb hX hbl hbA hw.2.2.1 (sc_in hL hi (by decide)) dL_law_1101 ?_
  refine lv_aload_n hx hb dL_law_1102 rfl (lv_at hl 0 rfl) ?_
  refine lv_iload hx hb dL_law_1103 (lv_at hl 4 rfl) ?_
  refine lv_iconst (v := 4) hx hb dL_law_1105 (by decide) ?_
  refine lv_iadd hx hb dL_law_1106 ?_
  refine va_sld hx hb hX hbl hbA hw.2.2.1 (sc_in hL hi (by decide)) dL_law_1107 ?_
  refine lv_aload_n hx hb dL_law_1108 rfl (lv_at hl 0 rfl) ?_
  refine lv_iload hx hb dL_law_1109 (lv_at hl 4 rfl) ?_
  refine lv_iconst (v := 5) hx hb dL_law_1111 (by decide) ?_
  refine lv_iadd hx hb dL_law_1112 ?_
  refine va_sld hx hb hX hbl hbA hw.2.2.1 (sc_in hL hi (by decide)) dL_law_1113 ?_
  refine hx_xi (Wf := (fun u => gl_W h0 g1 g2 rp rd cp cd u.1 u.2 df da ds)) (u0 := (pf, pa)) (F := (fX4_step pf pa ((xs (x4 + (1 : Int32)).toNatClampNeg)) ((xs (x4 + (2 : Int32)).toNatClampNeg)) ((xs (x4 + (3 : Int32)).toNatClampNeg)) ((xs (x4 + (4 : Int32)).toNatClampNeg)) ((xs (x4 + (5 : Int32)).toNatClampNeg)))) (tys' := gl_T cp cd) (wr := (md_W h9 r cA uf ua us ++ [(qo, .inl (cO, 1, .inr (.inl o)))])) (ws1 := ll_W h0 g1 g2 rp rd cp cd h9 r cA qo cO ((fX4_step pf pa ((xs (x4 + (1 : Int32)).toNatClampNeg)) ((xs (x4 + (2 : Int32)).toNatClampNeg)) ((xs (x4 + (3 : Int32)).toNatClampNeg)) ((xs (x4 + (4 : Int32)).toNatClampNeg)) ((xs (x4 + (5 : Int32)).toNatClampNeg))).2.1) ((fX4_step pf pa ((xs (x4 + (1 : Int32)).toNatClampNeg)) ((xs (x4 + (2 : Int32)).toNatClampNeg)) ((xs (x4 + (3 : Int32)).toNatClampNeg)) ((xs (x4 + (4 : Int32)).toNatClampNeg)) ((xs (x4 + (5 : Int32)).toNatClampNeg))).2.2) df da ds uf ua us o) [0, 1, 2, 3, 4, 5, 6, 7, 8, 9, 10] [11, 12, 13, 14, 15, 16, 17, 18, 19, 20, 21, 22] [12, 13, 14, 15, 16, 17, 18, 19, 20, 21, 22, 0, 1, 2, 3, 4, 5, 6, 7, 8, 9, 10, 11] [0, 1, 2, 3, 4, 5, 6, 7] C (fun sz => kX4_step l dC dI h0 g1 g2 rp rd cp cd sz pf pa df da ds ((xs (x4 + (1 : Int32)).toNatClampNeg)) ((xs (x4 + (2 : Int32)).toNatClampNeg)) ((xs (x4 + (3 : Int32)).toNatClampNeg)) ((xs (x4 + (4 : Int32)).toNatClampNeg)) ((xs (x4 + (5 : Int32)).toNatClampNeg))) (fun _ => bx_B_true) (fun _ _ _ => trivial) hw rfl rfl rfl rfl rfl (by decide) rfl rfl rfl rfl rfl rfl tw_methodLink_RL_98_yX4_step mbX4_step rfl ⟨rfl, rfl⟩ ⟨Nat.le_of_ble_eq_true rfl, Nat.le_of_ble_eq_true rfl⟩ hc0 hl.1 rfl (Nat.le_of_ble_eq_true rfl) dL_law_1114 (fun H locs hw => ?_)
  refine lv_aload_n hx hb dL_law_1117 rfl (lv_at hl 2 rfl) ?_
  refine lv_aload_n hx hb dL_law_1118 rfl (lv_at hl 0 rfl) ?_
  refine lv_iload hx hb dL_law_1119 (lv_at hl 4 rfl) ?_
  refine lv_iconst (v := 1) hx hb dL_law_1121 (by decide) ?_
  refine lv_iadd hx hb dL_law_1122 ?_
  refine va_sld hx hb hX hbl hbA hw.2.2.1 (sc_in hL hi (by decide)) dL_law_1123 ?_
  refine lv_aload_n hx hb dL_law_1124 rfl (lv_at hl 0 rfl) ?_
  refine lv_iload hx hb dL_law_1125 (lv_at hl 4 rfl) ?_
  refine lv_iconst (v := 2) hx hb dL_law_1127 (by decide) ?_
  refine lv_iadd hx hb dL_law_1128 ?_
  refine va_sld hx hb hX hbl hbA hw.2.2.1 (sc_in hL hi (by decide)) dL_law_1129 ?_
  refine lv_aload_n hx hb dL_law_1130 rfl (lv_at hl 0 rfl) ?_
  refine lv_iload hx hb dL_law_1131 (lv_at hl 4 rfl) ?_
  refine lv_iconst (v := 3) hx hb dL_law_1133 (by decide) ?_
  refine lv_iadd hx hb dL_law_1134 ?_
  refine va_sld hx hb hX hbl hbA hw.2.2.1 (sc_in hL hi (by decide)) dL_law_1135 ?_
  refine lv_aload_n hx hb dL_law_1136 rfl (lv_at hl 0 rfl) ?_
  refine lv_iload hx hb dL_law_1137 (lv_at hl 4 rfl) ?_
  refine lv_iconst (v := 4) hx hb dL_law_1139 (by decide) ?_
  refine lv_iadd hx hb dL_law_1140 ?_
  refine va_sld hx hb hX hbl hbA hw.2.2.1 (sc_in hL hi (by decide)) dL_law_1141 ?_
  refine lv_aload_n hx hb dL_law_1142 rfl (lv_at hl 0 rfl) ?_
  refine lv_iload hx hb dL_law_1143 (lv_at hl 4 rfl) ?_
  refine lv_iconst (v := 5) hx hb dL_law_1145 (by decide) ?_
  refine lv_iadd hx hb dL_law_1146 ?_
  refine va_sld hx hb hX hbl hbA hw.2.2.1 (sc_in hL hi (by decide)) dL_law_1147 ?_
  refine hx_xi (Wf := (fun u => md_W h9 r cA u.1 u.2 us)) (u0 := (uf, ua)) (F := (fX5_step uf ua ((xs (x4 + (1 : Int32)).toNatClampNeg)) ((xs (x4 + (2 : Int32)).toNatClampNeg)) ((xs (x4 + (3 : Int32)).toNatClampNeg)) ((xs (x4 + (4 : Int32)).toNatClampNeg)) ((xs (x4 + (5 : Int32)).toNatClampNeg)))) (tys' := md_T cA) (wr := (gl_W h0 g1 g2 rp rd cp cd ((fX4_step pf pa ((xs (x4 + (1 : Int32)).toNatClampNeg)) ((xs (x4 + (2 : Int32)).toNatClampNeg)) ((xs (x4 + (3 : Int32)).toNatClampNeg)) ((xs (x4 + (4 : Int32)).toNatClampNeg)) ((xs (x4 + (5 : Int32)).toNatClampNeg))).2.1) ((fX4_step pf pa ((xs (x4 + (1 : Int32)).toNatClampNeg)) ((xs (x4 + (2 : Int32)).toNatClampNeg)) ((xs (x4 + (3 : Int32)).toNatClampNeg)) ((xs (x4 + (4 : Int32)).toNatClampNeg)) ((xs (x4 + (5 : Int32)).toNatClampNeg))).2.2) df da ds ++ [(qo, .inl (cO, 1, .inr (.inl o)))])) (ws1 := ll_W h0 g1 g2 rp rd cp cd h9 r cA qo cO ((fX4_step pf pa ((xs (x4 + (1 : Int32)).toNatClampNeg)) ((xs (x4 + (2 : Int32)).toNatClampNeg)) ((xs (x4 + (3 : Int32)).toNatClampNeg)) ((xs (x4 + (4 : Int32)).toNatClampNeg)) ((xs (x4 + (5 : Int32)).toNatClampNeg))).2.1) ((fX4_step pf pa ((xs (x4 + (1 : Int32)).toNatClampNeg)) ((xs (x4 + (2 : Int32)).toNatClampNeg)) ((xs (x4 + (3 : Int32)).toNatClampNeg)) ((xs (x4 + (4 : Int32)).toNatClampNeg)) ((xs (x4 + (5 : Int32)).toNatClampNeg))).2.2) df da ds ((fX5_step uf ua ((xs (x4 + (1 : Int32)).toNatClampNeg)) ((xs (x4 + (2 : Int32)).toNatClampNeg)) ((xs (x4 + (3 : Int32)).toNatClampNeg)) ((xs (x4 + (4 : Int32)).toNatClampNeg)) ((xs (x4 + (5 : Int32)).toNatClampNeg))).2.1) ((fX5_step uf ua ((xs (x4 + (1 : Int32)).toNatClampNeg)) ((xs (x4 + (2 : Int32)).toNatClampNeg)) ((xs (x4 + (3 : Int32)).toNatClampNeg)) ((xs (x4 + (4 : Int32)).toNatClampNeg)) ((xs (x4 + (5 : Int32)).toNatClampNeg))).2.2) us o) [11, 12, 13, 14, 15, 16, 17, 18, 19, 20, 21] [0, 1, 2, 3, 4, 5, 6, 7, 8, 9, 10, 22] [0, 1, 2, 3, 4, 5, 6, 7, 8, 9, 10, 12, 13, 14, 15, 16, 17, 18, 19, 20, 21, 22, 11] [8, 9, 10, 11, 12, 13, 14, 15, 16, 17] C (fun sz => kX5_step l dC dI h9 r cA sz uf ua us ((xs (x4 + (1 : Int32)).toNatClampNeg)) ((xs (x4 + (2 : Int32)).toNatClampNeg)) ((xs (x4 + (3 : Int32)).toNatClampNeg)) ((xs (x4 + (4 : Int32)).toNatClampNeg)) ((xs (x4 + (5 : Int32)).toNatClampNeg)) hr.2.2.2.1.1) (fun _ => bx_B_true) (fun _ _ _ => trivial) hw rfl rfl rfl rfl rfl (by decide) rfl rfl rfl rfl rfl rfl tw_methodLink_RL_102_yX5_step mbX5_step rfl ⟨rfl, rfl⟩ ⟨Nat.le_of_ble_eq_true rfl, Nat.le_of_ble_eq_true rfl⟩ hc0 hl.1 rfl (Nat.le_of_ble_eq_true rfl) dL_law_1148 (fun H locs hw => ?_)
  refine lv_icmp_eq (tgt := 1232) hx hb dL_law_1151 (by decide) (fun cq => ?_) (fun cq => absurd (c_step hr _ _ _ _ _).1 cq)
  refine W.widen (k := cells + 1) (n := slots + 6) (Nat.le_succ _) (Nat.le_add_right _ 6) ?_
  exact k _ _ _ _ _ _ _ _ _ _ _ _ (c_step hr _ _ _ _ _).2 hw hl
set_option maxRecDepth 20000 in
theorem cs_13 {p : Program} {l : Launch} {e : Env} {s : State} {m : MethodId} {below : List Frame} {meth : Method} {c : Code} {b L : Nat} {xs : Nat → Int32} {af ad : Nat} {dC : Nat → ClassId} {dI : Nat → Nat → Nat} {h0 g1 g2 : Nat} {rp rd : Nat → Nat} {cp cd : Nat → ClassId} {h9 : Nat} {r : Nat → Nat} {cA : Nat → ClassId} {qo : Nat} {cO : ClassId} {pf : Nat → Int32} {pa : Nat → Nat → Int32} {df : Nat → Int32} {da : Nat → Nat → Int32} {ds : Nat → Int64} {uf : Nat → Int32} {ua : Nat → Nat → Int32} {us o : Nat → Int64} {H : Heap} {locs : List Loc} {ls : Array Slot} {x4 : Int32} {cells slots : Nat} {Q : State → Prop} (hl0 : l.stackTraces = false) (X : lx p s m meth c b L xs af ad) (hL : L ≤ 4096) (hi : 0 ≤ x4.toInt ∧ x4.toInt + 8 ≤ L) (hr : rl pf pa df da uf ua) (hw : hW (dC, dI) (ll_T cp cd cA cO) (fun q => s.heap.size ≤ q) s H locs (ll_W h0 g1 g2 rp rd cp cd h9 r cA qo cO pf pa df da ds uf ua us o)) (hl : lv_has ls 8 [(0, .ref b), (1, .ref h0), (2, .ref h9), (3, .ref qo), (4, .int x4)]) (hcs : cells + 1 ≤ 3101 ∧ slots + 6 ≤ 119854) (k : ll_C p l e s m below meth c b dC dI h0 g1 g2 rp rd cp cd h9 r cA qo cO x4 cells slots Q) : W p l e room_1 s m #[Value.ref b] below meth c H locs cells slots Q (F0 m 1156 ls []) := by
  obtain ⟨C, hX, hbl, hK, hNw⟩ := id X
  obtain ⟨hx, hb, hml, hrt, hlocks, hown, hts⟩ := id C
  have hbA : ¬ s.heap.size ≤ b := Nat.not_le.mpr hbl
  have hc0 : cells ≤ room_1.cells ∧ slots ≤ room_1.slots := ⟨by show cells ≤ 3101; omega, by show slots ≤ 119854; omega⟩
  have hc1 : cells + 1 ≤ room_1.cells ∧ slots + 6 ≤ room_1.slots := hcs
  refine lv_aload_n hx hb dL_law_1156 rfl (lv_at hl 1 rfl) ?_
  refine hx_xi (Wf := (fun u => gl_W h0 g1 g2 rp rd cp cd u pa df da ds)) (u0 := pf) (F := (fX4_drop pf)) (tys' := gl_T cp cd) (wr := (md_W h9 r cA uf ua us ++ [(qo, .inl (cO, 1, .inr (.inl o)))])) (ws1 := ll_W h0 g1 g2 rp rd cp cd h9 r cA qo cO ((fX4_drop pf).2) pa df da ds uf ua us o) [0, 1, 2, 3, 4, 5, 6, 7, 8, 9, 10] [11, 12, 13, 14, 15, 16, 17, 18, 19, 20, 21, 22] [12, 13, 14, 15, 16, 17, 18, 19, 20, 21, 22, 0, 1, 2, 3, 4, 5, 6, 7, 8, 9, 10, 11] [0, 1, 2, 3, 4, 5, 6, 7] C (fun sz => kX4_drop l dC dI h0 g1 g2 rp rd cp cd sz pf pa df da ds) (fun _ => bx_B_true) (fun _ _ _ => trivial) hw rfl rfl rfl rfl rfl (by decide) rfl rfl rfl rfl rfl rfl tw_methodLink_RL_103_yX4_drop mbX4_drop rfl ⟨rfl, rfl⟩ ⟨Nat.le_of_ble_eq_true rfl, Nat.le_of_ble_eq_true rfl⟩ hc0 hl.1 rfl (Nat.le_of_ble_eq_true rfl) dL_law_1157 (fun H locs hw => ?_)
  refine lv_aload_n hx hb dL_law_1160 rfl (lv_at hl 2 rfl) ?_
  refine hx_xi (Wf := (fun u => md_W h9 r cA u ua us)) (u0 := uf) (F := (fX5_drop uf)) (tys' := md_T cA) (wr := (gl_W h0 g1 g2 rp rd cp cd ((fX4_drop pf).2) pa df da ds ++ [(qo, .inl (cO, 1, .inr (.inl o)))])) (ws1 := ll_W h0 g1 g2 rp rd cp cd h9 r cA qo cO ((fX4_drop pf).2) pa df da ds ((fX5_drop uf).2) ua us o) [11, 12, 13, 14, 15, 16, 17, 18, 19, 20, 21] [0, 1, 2, 3, 4, 5, 6, 7, 8, 9, 10, 22] [0, 1, 2, 3, 4, 5, 6, 7, 8, 9, 10, 12, 13, 14, 15, 16, 17, 18, 19, 20, 21, 22, 11] [8, 9, 10, 11, 12, 13, 14, 15, 16, 17] C (fun sz => kX5_drop l dC dI h9 r cA sz uf ua us) (fun _ => bx_B_true) (fun _ _ _ => trivial) hw rfl rfl rfl rfl rfl (by decide) rfl rfl rfl rfl rfl rfl tw_methodLink_RL_106_yX5_drop mbX5_drop rfl ⟨rfl, rfl⟩ ⟨Nat.le_of_ble_eq_true rfl, Nat.le_of_ble_eq_true rfl⟩ hc0 hl.1 rfl (Nat.le_of_ble_eq_true rfl) dL_law_1161 (fun H locs hw => ?_)
  refine lv_icmp_eq (tgt := 1232) hx hb dL_law_1164 (by decide) (fun cq => ?_) (fun cq => absurd (c_drop hr).1 cq)
  refine W.widen (k := cells + 1) (n := slots + 6) (Nat.le_succ _) (Nat.le_add_right _ 6) ?_
  exact k _ _ _ _ _ _ _ _ _ _ _ _ (c_drop hr).2 hw hl
set_option maxRecDepth 20000 in
theorem cs_14 {p : Program} {l : Launch} {e : Env} {s : State} {m : MethodId} {below : List Frame} {meth : Method} {c : Code} {b L : Nat} {xs : Nat → Int32} {af ad : Nat} {dC : Nat → ClassId} {dI : Nat → Nat → Nat} {h0 g1 g2 : Nat} {rp rd : Nat → Nat} {cp cd : Nat → ClassId} {h9 : Nat} {r : Nat → Nat} {cA : Nat → ClassId} {qo : Nat} {cO : ClassId} {pf : Nat → Int32} {pa : Nat → Nat → Int32} {df : Nat → Int32} {da : Nat → Nat → Int32} {ds : Nat → Int64} {uf : Nat → Int32} {ua : Nat → Nat → Int32} {us o : Nat → Int64} {H : Heap} {locs : List Loc} {ls : Array Slot} {x4 : Int32} {cells slots : Nat} {Q : State → Prop} (hl0 : l.stackTraces = false) (X : lx p s m meth c b L xs af ad) (hL : L ≤ 4096) (hi : 0 ≤ x4.toInt ∧ x4.toInt + 8 ≤ L) (hr : rl pf pa df da uf ua) (hw : hW (dC, dI) (ll_T cp cd cA cO) (fun q => s.heap.size ≤ q) s H locs (ll_W h0 g1 g2 rp rd cp cd h9 r cA qo cO pf pa df da ds uf ua us o)) (hl : lv_has ls 8 [(0, .ref b), (1, .ref h0), (2, .ref h9), (3, .ref qo), (4, .int x4)]) (hcs : cells + 1 ≤ 3101 ∧ slots + 6 ≤ 119854) (k : ll_C p l e s m below meth c b dC dI h0 g1 g2 rp rd cp cd h9 r cA qo cO x4 cells slots Q) : W p l e room_1 s m #[Value.ref b] below meth c H locs cells slots Q (F0 m 1169 ls []) := by
  obtain ⟨C, hX, hbl, hK, hNw⟩ := id X
  obtain ⟨hx, hb, hml, hrt, hlocks, hown, hts⟩ := id C
  have hbA : ¬ s.heap.size ≤ b := Nat.not_le.mpr hbl
  have hc0 : cells ≤ room_1.cells ∧ slots ≤ room_1.slots := ⟨by show cells ≤ 3101; omega, by show slots ≤ 119854; omega⟩
  have hc1 : cells + 1 ≤ room_1.cells ∧ slots + 6 ≤ room_1.slots := hcs
  refine lv_aload_n hx hb dL_law_1169 rfl (lv_at hl 1 rfl) ?_
  refine lv_aload_n hx hb dL_law_1170 rfl (lv_at hl 0 rfl) ?_
  refine lv_iload hx hb dL_law_1171 (lv_at hl 4 rfl) ?_
  refine lv_iconst (v := 1) hx hb dL_law_1173 (by decide) ?_
  refine lv_iadd hx hb dL_law_1174 ?_
  refine va_sld hx hb hX hbl hbA hw.2.2.1 (sc_in hL hi (by decide)) dL_law_1175 ?_
  refine lv_aload_n hx hb dL_law_1176 rfl (lv_at hl 0 rfl) ?_
  refine lv_iload hx hb dL_law_1177 (lv_at hl 4 rfl) ?_
  refine lv_iconst (v := 2) hx hb dL_law_1179 (by decide) ?_
  refine lv_iadd hx hb dL_law_1180 ?_
  refine va_sld hx hb hX hbl hbA hw.2.2.1 (sc_in hL hi (by decide)) dL_law_1181 ?_
  refine hx_xi (Wf := (fun u => gl_W h0 g1 g2 rp rd cp cd u.1 u.2 df da ds)) (u0 := (pf, pa)) (F := (fX4_run pf pa ((xs (x4 + (1 : Int32)).toNatClampNeg)) ((xs (x4 + (2 : Int32)).toNatClampNeg)))) (tys' := gl_T cp cd) (wr := (md_W h9 r cA uf ua us ++ [(qo, .inl (cO, 1, .inr (.inl o)))])) (ws1 := ll_W h0 g1 g2 rp rd cp cd h9 r cA qo cO ((fX4_run pf pa ((xs (x4 + (1 : Int32)).toNatClampNeg)) ((xs (x4 + (2 : Int32)).toNatClampNeg))).2.1) ((fX4_run pf pa ((xs (x4 + (1 : Int32)).toNatClampNeg)) ((xs (x4 + (2 : Int32)).toNatClampNeg))).2.2) df da ds uf ua us o) [0, 1, 2, 3, 4, 5, 6, 7, 8, 9, 10] [11, 12, 13, 14, 15, 16, 17, 18, 19, 20, 21, 22] [12, 13, 14, 15, 16, 17, 18, 19, 20, 21, 22, 0, 1, 2, 3, 4, 5, 6, 7, 8, 9, 10, 11] [0, 1, 2, 3, 4, 5, 6, 7] C (fun sz => kX4_run l dC dI af h0 g1 g2 rp rd cp cd sz pf pa df da ds ((xs (x4 + (1 : Int32)).toNatClampNeg)) ((xs (x4 + (2 : Int32)).toNatClampNeg))) (fun sz => fo_S_B _ _) (fun U u1 u2 => fo_S_sub hK.1.1 hw [0, 1, 2, 3, 4, 5, 6, 7, 8, 9, 10] rfl u1 u2) hw rfl rfl rfl rfl rfl (by decide) rfl rfl rfl rfl rfl rfl tw_methodLink_RL_107_yX4_run mbX4_run rfl ⟨rfl, rfl⟩ ⟨Nat.le_of_ble_eq_true rfl, Nat.le_of_ble_eq_true rfl⟩ hc0 hl.1 rfl (Nat.le_of_ble_eq_true rfl) dL_law_1182 (fun H locs hw => ?_)
  refine lv_aload_n hx hb dL_law_1185 rfl (lv_at hl 2 rfl) ?_
  refine lv_aload_n hx hb dL_law_1186 rfl (lv_at hl 0 rfl) ?_
  refine lv_iload hx hb dL_law_1187 (lv_at hl 4 rfl) ?_
  refine lv_iconst (v := 1) hx hb dL_law_1189 (by decide) ?_
  refine lv_iadd hx hb dL_law_1190 ?_
  refine va_sld hx hb hX hbl hbA hw.2.2.1 (sc_in hL hi (by decide)) dL_law_1191 ?_
  refine lv_aload_n hx hb dL_law_1192 rfl (lv_at hl 0 rfl) ?_
  refine lv_iload hx hb dL_law_1193 (lv_at hl 4 rfl) ?_
  refine lv_iconst (v := 2) hx hb dL_law_1195 (by decide) ?_
  refine lv_iadd hx hb dL_law_1196 ?_
  refine va_sld hx hb hX hbl hbA hw.2.2.1 (sc_in hL hi (by decide)) dL_law_1197 ?_
  refine hx_xi (Wf := (fun u => md_W h9 r cA u.1 u.2.1 u.2.2)) (u0 := (uf, ua, us)) (F := (fX5_run uf ua us ((xs (x4 + (1 : Int32)).toNatClampNeg)) ((xs (x4 + (2 : Int32)).toNatClampNeg)))) (tys' := md_T cA) (wr := (gl_W h0 g1 g2 rp rd cp cd ((fX4_run pf pa ((xs (x4 + (1 : Int32)).toNatClampNeg)) ((xs (x4 + (2 : Int32)).toNatClampNeg))).2.1) ((fX4_run pf pa ((xs (x4 + (1 : Int32)).toNatClampNeg)) ((xs (x4 + (2 : Int32)).toNatClampNeg))).2.2) df da ds ++ [(qo, .inl (cO, 1, .inr (.inl o)))])) (ws1 := ll_W h0 g1 g2 rp rd cp cd h9 r cA qo cO ((fX4_run pf pa ((xs (x4 + (1 : Int32)).toNatClampNeg)) ((xs (x4 + (2 : Int32)).toNatClampNeg))).2.1) ((fX4_run pf pa ((xs (x4 + (1 : Int32)).toNatClampNeg)) ((xs (x4 + (2 : Int32)).toNatClampNeg))).2.2) df da ds ((fX5_run uf ua us ((xs (x4 + (1 : Int32)).toNatClampNeg)) ((xs (x4 + (2 : Int32)).toNatClampNeg))).2.1) ((fX5_run uf ua us ((xs (x4 + (1 : Int32)).toNatClampNeg)) ((xs (x4 + (2 : Int32)).toNatClampNeg))).2.2.1) ((fX5_run uf ua us ((xs (x4 + (1 : Int32)).toNatClampNeg)) ((xs (x4 + (2 : Int32)).toNatClampNeg))).2.2.2) o) [11, 12, 13, 14, 15, 16, 17, 18, 19, 20, 21] [0, 1, 2, 3, 4, 5, 6, 7, 8, 9, 10, 22] [0, 1, 2, 3, 4, 5, 6, 7, 8, 9, 10, 12, 13, 14, 15, 16, 17, 18, 19, 20, 21, 22, 11] [8, 9, 10, 11, 12, 13, 14, 15, 16, 17] C (fun sz => kX5_run l dC dI h9 r cA sz uf ua us ((xs (x4 + (1 : Int32)).toNatClampNeg)) ((xs (x4 + (2 : Int32)).toNatClampNeg)) hr.2.2.2.1) (fun _ => bx_B_true) (fun _ _ _ => trivial) hw rfl rfl rfl rfl rfl (by decide) rfl rfl rfl rfl rfl rfl tw_methodLink_RL_110_yX5_run mbX5_run rfl ⟨rfl, rfl⟩ ⟨Nat.le_of_ble_eq_true rfl, Nat.le_of_ble_eq_true rfl⟩ hc0 hl.1 rfl (Nat.le_of_ble_eq_true rfl) dL_law_1198 (fun H locs hw => ?_)
  refine lv_icmp_eq (tgt := 1232) hx hb dL_law_1201 (by decide) (fun cq => ?_) (fun cq => absurd (c_run (us := us) hr _ _).1 cq)
  refine W.widen (k := cells + 1) (n := slots + 6) (Nat.le_succ _) (Nat.le_add_right _ 6) ?_
  exact k _ _ _ _ _ _ _ _ _ _ _ _ (c_run (us := us) hr _ _).2 hw hl
set_option maxRecDepth 20000 in
theorem cs_15 {p : Program} {l : Launch} {e : Env} {s : State} {m : MethodId} {below : List Frame} {meth : Method} {c : Code} {b L : Nat} {xs : Nat → Int32} {af ad : Nat} {dC : Nat → ClassId} {dI : Nat → Nat → Nat} {h0 g1 g2 : Nat} {rp rd : Nat → Nat} {cp cd : Nat → ClassId} {h9 : Nat} {r : Nat → Nat} {cA : Nat → ClassId} {qo : Nat} {cO : ClassId} {pf : Nat → Int32} {pa : Nat → Nat → Int32} {df : Nat → Int32} {da : Nat → Nat → Int32} {ds : Nat → Int64} {uf : Nat → Int32} {ua : Nat → Nat → Int32} {us o : Nat → Int64} {H : Heap} {locs : List Loc} {ls : Array Slot} {x4 : Int32} {cells slots : Nat} {Q : State → Prop} (hl0 : l.stackTraces = false) (X : lx p s m meth c b L xs af ad) (hL : L ≤ 4096) (hi : 0 ≤ x4.toInt ∧ x4.toInt + 8 ≤ L) (hr : rl pf pa df da uf ua) (hw : hW (dC, dI) (ll_T cp cd cA cO) (fun q => s.heap.size ≤ q) s H locs (ll_W h0 g1 g2 rp rd cp cd h9 r cA qo cO pf pa df da ds uf ua us o)) (hl : lv_has ls 8 [(0, .ref b), (1, .ref h0), (2, .ref h9), (3, .ref qo), (4, .int x4)]) (hcs : cells + 1 ≤ 3101 ∧ slots + 6 ≤ 119854) (k : ll_C p l e s m below meth c b dC dI h0 g1 g2 rp rd cp cd h9 r cA qo cO x4 cells slots Q) : W p l e room_1 s m #[Value.ref b] below meth c H locs cells slots Q (F0 m 1206 ls []) := by
  obtain ⟨C, hX, hbl, hK, hNw⟩ := id X
  obtain ⟨hx, hb, hml, hrt, hlocks, hown, hts⟩ := id C
  have hbA : ¬ s.heap.size ≤ b := Nat.not_le.mpr hbl
  have hc0 : cells ≤ room_1.cells ∧ slots ≤ room_1.slots := ⟨by show cells ≤ 3101; omega, by show slots ≤ 119854; omega⟩
  have hc1 : cells + 1 ≤ room_1.cells ∧ slots + 6 ≤ room_1.slots := hcs
  refine lv_aload_n hx hb dL_law_1206 rfl (lv_at hl 1 rfl) ?_
  refine bx_vn C (kX4_next l dC dI h0 g1 g2 rp rd cp cd pf pa df da ds) (fun a U g mk q => ⟨rd_B _ _ _ U _ rfl (Vm.Alike.refl U.vm) q.1, va_Nw.same rfl rfl q.2⟩) (fun U u1 u2 => ⟨hw_rd hw u1 u2.alike [0, 1, 2, 3, 4, 5, 6, 7, 8, 9, 10] [0, 1, 2, 3, 4, 5, 6, 7] rfl rfl, va_Nw.warmF u2 hNw⟩) (fun U u1 u2 => hw_obk (q0 := 0) hw rfl rfl u1 u2) tw_methodLink_RL_111_yX4_next mbX4_next rfl ⟨rfl, rfl⟩ ⟨Nat.le_of_ble_eq_true rfl, Nat.le_of_ble_eq_true rfl⟩ hc0 hl.1 rfl (Nat.le_of_ble_eq_true rfl) dL_law_1207 ?_
  refine lv_aload_n hx hb dL_law_1210 rfl (lv_at hl 2 rfl) ?_
  refine bx_vi C (kX5_next l dC dI h9 r cA uf ua us) (rd_B _ _ _) (fun U u1 u2 => hw_rd hw u1 u2 [11, 12, 13, 14, 15, 16, 17, 18, 19, 20, 21] [8, 9, 10, 11, 12, 13, 14, 15, 16, 17] rfl rfl) (fun U u1 u2 => hw_obk (q0 := 11) hw rfl rfl u1 u2) tw_methodLink_RL_114_yX5_next mbX5_next rfl ⟨rfl, rfl⟩ ⟨Nat.le_of_ble_eq_true rfl, Nat.le_of_ble_eq_true rfl⟩ hc0 hl.1 rfl (Nat.le_of_ble_eq_true rfl) dL_law_1211 ?_
  refine lv_icmp_eq (tgt := 1232) hx hb dL_law_1214 (by decide) (fun cq => ?_) (fun cq => absurd hr.1.2 cq)
  refine W.widen (k := cells + 1) (n := slots + 6) (Nat.le_succ _) (Nat.le_add_right _ 6) ?_
  exact k _ _ _ _ _ _ _ _ _ _ _ _ hr hw hl
set_option maxRecDepth 20000 in
theorem cs_16 {p : Program} {l : Launch} {e : Env} {s : State} {m : MethodId} {below : List Frame} {meth : Method} {c : Code} {b L : Nat} {xs : Nat → Int32} {af ad : Nat} {dC : Nat → ClassId} {dI : Nat → Nat → Nat} {h0 g1 g2 : Nat} {rp rd : Nat → Nat} {cp cd : Nat → ClassId} {h9 : Nat} {r : Nat → Nat} {cA : Nat → ClassId} {qo : Nat} {cO : ClassId} {pf : Nat → Int32} {pa : Nat → Nat → Int32} {df : Nat → Int32} {da : Nat → Nat → Int32} {ds : Nat → Int64} {uf : Nat → Int32} {ua : Nat → Nat → Int32} {us o : Nat → Int64} {H : Heap} {locs : List Loc} {ls : Array Slot} {x4 : Int32} {cells slots : Nat} {Q : State → Prop} (hl0 : l.stackTraces = false) (X : lx p s m meth c b L xs af ad) (hL : L ≤ 4096) (hi : 0 ≤ x4.toInt ∧ x4.toInt + 8 ≤ L) (hr : rl pf pa df da uf ua) (hw : hW (dC, dI) (ll_T cp cd cA cO) (fun q => s.heap.size ≤ q) s H locs (ll_W h0 g1 g2 rp rd cp cd h9 r cA qo cO pf pa df da ds uf ua us o)) (hl : lv_has ls 8 [(0, .ref b), (1, .ref h0), (2, .ref h9), (3, .ref qo), (4, .int x4)]) (hcs : cells + 1 ≤ 3101 ∧ slots + 6 ≤ 119854) (k : ll_C p l e s m below meth c b dC dI h0 g1 g2 rp rd cp cd h9 r cA qo cO x4 cells slots Q) : W p l e room_1 s m #[Value.ref b] below meth c H locs cells slots Q (F0 m 1219 ls []) := by
  obtain ⟨C, hX, hbl, hK, hNw⟩ := id X
  obtain ⟨hx, hb, hml, hrt, hlocks, hown, hts⟩ := id C
  have hbA : ¬ s.heap.size ≤ b := Nat.not_le.mpr hbl
  have hc0 : cells ≤ room_1.cells ∧ slots ≤ room_1.slots := ⟨by show cells ≤ 3101; omega, by show slots ≤ 119854; omega⟩
  have hc1 : cells + 1 ≤ room_1.cells ∧ slots + 6 ≤ room_1.slots := hcs
  refine lv_aload_n hx hb dL_law_1219 rfl (lv_at hl 1 rfl) ?_
  refine hx_xi (Wf := (fun u => gl_W h0 g1 g2 rp rd cp cd u.1 u.2.1 u.2.2 da ds)) (u0 := (pf, pa, df)) (F := (fX4_clear pf pa df)) (tys' := gl_T cp cd) (wr := (md_W h9 r cA uf ua us ++ [(qo, .inl (cO, 1, .inr (.inl o)))])) (ws1 := ll_W h0 g1 g2 rp rd cp cd h9 r cA qo cO ((fX4_clear pf pa df).2.1) ((fX4_clear pf pa df).2.2.1) ((fX4_clear pf pa df).2.2.2) da ds uf ua us o) [0, 1, 2, 3, 4, 5, 6, 7, 8, 9, 10] [11, 12, 13, 14, 15, 16, 17, 18, 19, 20, 21, 22] [12, 13, 14, 15, 16, 17, 18, 19, 20, 21, 22, 0, 1, 2, 3, 4, 5, 6, 7, 8, 9, 10, 11] [0, 1, 2, 3, 4, 5, 6, 7] C (fun sz => kX4_clear l dC dI h0 g1 g2 rp rd cp cd sz pf pa df da ds) (fun _ => bx_B_true) (fun _ _ _ => trivial) hw rfl rfl rfl rfl rfl (by decide) rfl rfl rfl rfl rfl rfl tw_methodLink_RL_115_yX4_clear mbX4_clear rfl ⟨rfl, rfl⟩ ⟨Nat.le_of_ble_eq_true rfl, Nat.le_of_ble_eq_true rfl⟩ hc0 hl.1 rfl (Nat.le_of_ble_eq_true rfl) dL_law_1220 (fun H locs hw => ?_)
  refine lv_aload_n hx hb dL_law_1223 rfl (lv_at hl 2 rfl) ?_
  refine hx_xi (Wf := (fun u => md_W h9 r cA u.1 u.2 us)) (u0 := (uf, ua)) (F := (fX5_clear uf ua)) (tys' := md_T cA) (wr := (gl_W h0 g1 g2 rp rd cp cd ((fX4_clear pf pa df).2.1) ((fX4_clear pf pa df).2.2.1) ((fX4_clear pf pa df).2.2.2) da ds ++ [(qo, .inl (cO, 1, .inr (.inl o)))])) (ws1 := ll_W h0 g1 g2 rp rd cp cd h9 r cA qo cO ((fX4_clear pf pa df).2.1) ((fX4_clear pf pa df).2.2.1) ((fX4_clear pf pa df).2.2.2) da ds ((fX5_clear uf ua).2.1) ((fX5_clear uf ua).2.2) us o) [11, 12, 13, 14, 15, 16, 17, 18, 19, 20, 21] [0, 1, 2, 3, 4, 5, 6, 7, 8, 9, 10, 22] [0, 1, 2, 3, 4, 5, 6, 7, 8, 9, 10, 12, 13, 14, 15, 16, 17, 18, 19, 20, 21, 22, 11] [8, 9, 10, 11, 12, 13, 14, 15, 16, 17] C (fun sz => kX5_clear l dC dI h9 r cA sz uf ua us) (fun _ => bx_B_true) (fun _ _ _ => trivial) hw rfl rfl rfl rfl rfl (by decide) rfl rfl rfl rfl rfl rfl tw_methodLink_RL_118_yX5_clear mbX5_clear rfl ⟨rfl, rfl⟩ ⟨Nat.le_of_ble_eq_true rfl, Nat.le_of_ble_eq_true rfl⟩ hc0 hl.1 rfl (Nat.le_of_ble_eq_true rfl) dL_law_1224 (fun H locs hw => ?_)
  refine lv_icmp_eq (tgt := 1232) hx hb dL_law_1227 (by decide) (fun cq => ?_) (fun cq => absurd (c_clear hr).1 cq)
  refine W.widen (k := cells + 1) (n := slots + 6) (Nat.le_succ _) (Nat.le_add_right _ 6) ?_
  exact k _ _ _ _ _ _ _ _ _ _ _ _ (c_clear hr).2 hw hl
