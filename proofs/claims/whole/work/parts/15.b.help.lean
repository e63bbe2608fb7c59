abbrev rmL_act : Room := { frames := 10, cells := 1, slots := 6, locals := 340 }
set_option maxRecDepth 20000 in
theorem kL_act (l : Launch) (hl0 : l.stackTraces = false) (dC : Nat → ClassId) (dI : Nat → Nat → Nat) (af ad : Nat) (h0 g1 g2 : Nat) (rp rd : Nat → Nat) (cp cd : Nat → ClassId) (sz : Nat) (pf : Nat → Int32) (pa : Nat → Nat → Int32) (df : Nat → Int32) (da : Nat → Nat → Int32) (ds : Nat → Int64) (qo : Nat) (cO : ClassId) (o : Nat → Int64) (x1 : Int32) (x2 : Int32) (x3 : Int32) (x4 : Int32) : Met l yL_act (Cond.codeWith yL_act cL_act 7 (some .int) [(0, 14, 17, 13)] :: bw) rmL_act (hPc [.ref h0, .int x1, .int x2, .int x3, .int x4, .ref qo] (dC, dI) (lo_T cp cd cO) (lo_W h0 g1 g2 rp rd cp cd pf pa df da ds qo cO o) sz (fun U => xk_K af ad (va_A (lo_W h0 g1 g2 rp rd cp cd pf pa df da ds qo cO o) sz) U)) (va_Qi (fun r (u : (Nat → Int64)) => (ac_in x1 24 ∧ r = 0 ∧ u = vp_updL o 0 (fX4_act x1 x2 x3 x4).toInt64) ∨ (¬ ac_in x1 24 ∧ r = 1 ∧ u = o)) (hBk (dC, dI) (lo_T cp cd cO) (va_A (lo_W h0 g1 g2 rp rd cp cd pf pa df da ds qo cO o) sz) (fun u => lo_W h0 g1 g2 rp rd cp cd pf pa df da ds qo cO u)) (va_A (lo_W h0 g1 g2 rp rd cp cd pf pa df da ds qo cO o) sz)) 1 6 (va_A (lo_W h0 g1 g2 rp rd cp cd pf pa df da ds qo cO o) sz) := by
  refine cz_ent (by decide) _ _ (Nat.le_of_ble_eq_true rfl) rfl ?_
  intro p e s m below meth c ls C htab hl hw hsz hK
  obtain ⟨hx, hb, hml, hr, hlocks, hown, hts⟩ := id C
  refine lv_aload hx hb dL_act_0 (lv_at hl 5 rfl) ?_
  refine lv_iconst (v := 0) hx hb dL_act_2 (by decide) ?_
  refine lv_aload_n hx hb dL_act_3 rfl (lv_at hl 0 rfl) ?_
  refine lv_iload_n hx hb dL_act_4 rfl (lv_at hl 1 rfl) ?_
  refine lv_iload_n hx hb dL_act_5 rfl (lv_at hl 2 rfl) ?_
  refine lv_iload_n hx hb dL_act_6 rfl (lv_at hl 3 rfl) ?_
  refine lv_iload hx hb dL_act_7 (lv_at hl 4 rfl) ?_
  refine vx_calli (vx_runV (nL := 7) (As := [.int x1, .int x2, .int x3, .int x4]) (rest := [.int 0, .ref qo]) (Ts := bw) (n := 4) (C := RX4) ⟨hx, hb, hml, hown, hts⟩ (kX4_act l hl0 af ad h0 x1 x2 x3 x4) (cwV 4 hts (gw_V tw_methodLink_RL_7_yX4_act mbX4_act) rfl rfl rfl mbX4_act.2 ⟨Nat.le_of_ble_eq_true rfl, Nat.le_of_ble_eq_true rfl⟩) ⟨fun a U g mk q => ⟨q.1, xk_same q.2 rfl rfl⟩, va_recv (ci := 5) (q0 := 0) hw.2.2.2.1 hw.1 rfl rfl, fun U hU hWu => ⟨rfl, xk_to hK hw.2.2.1 (fun _ q => q.elim) hU hWu⟩⟩ rfl rfl hl.1 rfl (lv_room (Nat.le_of_ble_eq_true rfl)) dL_act_9 ⟨Nat.le_of_ble_eq_true rfl, Nat.le_of_ble_eq_true rfl⟩) hw.2.2.1 (fun _ _ h => h.elim) (fun _ h => h.elim) (fun _ _ h => h.elim) (fun F ce q9 u t H1 locs1 ht hal hpx hBX hz1 hk1 hS1 hq9 hce hcl => ?_) (fun r u t H1 locs1 ht hal hpost hB hz1 hk1 hS1 => ?_)
  · cases hBX
    have hw := hw_grow hw hk1 hS1
    refine cz_catch (name := "java/lang/IllegalArgumentException") (E := "java/lang/IllegalArgumentException") hown ⟨0, 14, 17, 13⟩ htab (by decide) (by decide) (hts _ tw_classLink_RL_13_java_lang_IllegalArgumentException) (ex_wd (List.mem_append_left _ xI_cast) (State.WarmedH.refl s) (hK.2.1 _ (List.mem_append_left _ xI_cast))) hq9 hce hcl ?_
    refine lv_astore (lv' := [(6, .ref q9), (0, .ref h0), (1, .int x1), (2, .int x2), (3, .int x3), (4, .int x4), (5, .ref qo)]) hx hb dL_act_17 hl (by decide) rfl (fun ls hl => ?_)
    refine lv_iconst (v := 1) hx hb dL_act_19 (by decide) ?_
    exact W.iret (v := 1) hx hb hr (fun t ht hWt => ⟨⟨_, o, rfl, Or.inr ⟨hpx, rfl, rfl⟩, by rw [ht]; exact hw.1, va_K.moved hWt.alike hw.2.2.2.1, hw.2.1⟩, hw.2.2.1.F ht⟩) hw.2.2.1.2.2 dL_act_20 hlocks
  · obtain ⟨hin, hrv⟩ := hpost
    have hw := hw_grow hw hk1 hS1
    refine bx_i2l hx hb dL_act_12 ?_
    refine hx_last (ws' := (lo_W h0 g1 g2 rp rd cp cd pf pa df da ds qo cO (vp_updL o 0 r.toInt64))) hx hb hw 11 8 rfl rfl (vi_in (by decide) (by decide)) dL_act_13 rfl (fun H locs hw => ?_)
    refine lv_goto (tgt := 21) hx hb dL_act_14 (by decide) ?_
    refine lv_iconst (v := 0) hx hb dL_act_21 (by decide) ?_
    exact W.iret (v := 0) hx hb hr (fun t ht hWt => ⟨⟨_, (vp_updL o 0 r.toInt64), rfl, Or.inl ⟨hin, rfl, by rw [hrv]⟩, by rw [ht]; exact hw.1, va_K.moved hWt.alike hw.2.2.2.1, hw.2.1⟩, hw.2.2.1.F ht⟩) hw.2.2.1.2.2 dL_act_22 hlocks
abbrev rmL_wide : Room := { frames := 10, cells := 1, slots := 6, locals := 340 }
set_option maxRecDepth 20000 in
theorem kL_wide (l : Launch) (hl0 : l.stackTraces = false) (dC : Nat → ClassId) (dI : Nat → Nat → Nat) (af ad : Nat) (h0 g1 g2 : Nat) (rp rd : Nat → Nat) (cp cd : Nat → ClassId) (sz : Nat) (pf : Nat → Int32) (pa : Nat → Nat → Int32) (df : Nat → Int32) (da : Nat → Nat → Int32) (ds : Nat → Int64) (qo : Nat) (cO : ClassId) (o : Nat → Int64) (x1 : Int32) (x2 : Int64) (x4 : Int64) (x6 : Int64) : Met l yL_wide (Cond.codeWith yL_wide cL_wide 10 (some .int) [(0, 14, 17, 13)] :: bw) rmL_wide (hPc [.ref h0, .int x1, .long x2, .long x4, .long x6, .ref qo] (dC, dI) (lo_T cp cd cO) (lo_W h0 g1 g2 rp rd cp cd pf pa df da ds qo cO o) sz (fun U => xk_K af ad (va_A (lo_W h0 g1 g2 rp rd cp cd pf pa df da ds qo cO o) sz) U)) (va_Qi (fun r (u : (Nat → Int64)) => (ac_in x1 24 ∧ r = 0 ∧ u = vp_updL o 0 (fX4_wide x1 x2 x4 x6)) ∨ (¬ ac_in x1 24 ∧ r = 1 ∧ u = o)) (hBk (dC, dI) (lo_T cp cd cO) (va_A (lo_W h0 g1 g2 rp rd cp cd pf pa df da ds qo cO o) sz) (fun u => lo_W h0 g1 g2 rp rd cp cd pf pa df da ds qo cO u)) (va_A (lo_W h0 g1 g2 rp rd cp cd pf pa df da ds qo cO o) sz)) 1 6 (va_A (lo_W h0 g1 g2 rp rd cp cd pf pa df da ds qo cO o) sz) := by
  refine cz_ent (by decide) _ _ (Nat.le_of_ble_eq_true rfl) rfl ?_
  intro p e s m below meth c ls C htab hl hw hsz hK
  obtain ⟨hx, hb, hml, hr, hlocks, hown, hts⟩ := id C
  refine lv_aload hx hb dL_wide_0 (lv_at hl 5 rfl) ?_
  refine lv_iconst (v := 0) hx hb dL_wide_2 (by decide) ?_
  refine lv_aload_n hx hb dL_wide_3 rfl (lv_at hl 0 rfl) ?_
  refine lv_iload_n hx hb dL_wide_4 rfl (lv_at hl 1 rfl) ?_
  refine lv_lload_n hx hb dL_wide_5 rfl (lv_at hl 2 rfl) ?_
  refine lv_lload hx hb dL_wide_6 (lv_at hl 3 rfl) ?_
  refine lv_lload hx hb dL_wide_8 (lv_at hl 4 rfl) ?_
  refine vx_calll (vx_runV (nL := 10) (As := [.int x1, .long x2, .long x4, .long x6]) (rest := [.int 0, .ref qo]) (Ts := bw) (n := 4) (C := RX4) ⟨hx, hb, hml, hown, hts⟩ (kX4_wide l hl0 af ad h0 x1 x2 x4 x6) (cwV 4 hts (gw_V tw_methodLink_RL_15_yX4_wide mbX4_wide) rfl rfl rfl mbX4_wide.2 ⟨Nat.le_of_ble_eq_true rfl, Nat.le_of_ble_eq_true rfl⟩) ⟨fun a U g mk q => ⟨q.1, xk_same q.2 rfl rfl⟩, va_recv (ci := 5) (q0 := 0) hw.2.2.2.1 hw.1 rfl rfl, fun U hU hWu => ⟨rfl, xk_to hK hw.2.2.1 (fun _ q => q.elim) hU hWu⟩⟩ rfl rfl hl.1 rfl (lv_room (Nat.le_of_ble_eq_true rfl)) dL_wide_10 ⟨Nat.le_of_ble_eq_true rfl, Nat.le_of_ble_eq_true rfl⟩) hw.2.2.1 (fun _ _ h => h.elim) (fun _ h => h.elim) (fun _ _ h => h.elim) (fun F ce q9 u t H1 locs1 ht hal hpx hBX hz1 hk1 hS1 hq9 hce hcl => ?_) (fun r u t H1 locs1 ht hal hpost hB hz1 hk1 hS1 => ?_)
  · cases hBX
    have hw := hw_grow hw hk1 hS1
    refine cz_catch (name := "java/lang/IllegalArgumentException") (E := "java/lang/IllegalArgumentException") hown ⟨0, 14, 17, 13⟩ htab (by decide) (by decide) (hts _ tw_classLink_RL_13_java_lang_IllegalArgumentException) (ex_wd (List.mem_append_left _ xI_cast) (State.WarmedH.refl s) (hK.2.1 _ (List.mem_append_left _ xI_cast))) hq9 hce hcl ?_
    refine lv_astore (lv' := [(9, .ref q9), (0, .ref h0), (1, .int x1), (2, .long x2), (4, .long x4), (6, .long x6), (8, .ref qo)]) hx hb dL_wide_17 hl (by decide) rfl (fun ls hl => ?_)
    refine lv_iconst (v := 1) hx hb dL_wide_19 (by decide) ?_
    exact W.iret (v := 1) hx hb hr (fun t ht hWt => ⟨⟨_, o, rfl, Or.inr ⟨hpx, rfl, rfl⟩, by rw [ht]; exact hw.1, va_K.moved hWt.alike hw.2.2.2.1, hw.2.1⟩, hw.2.2.1.F ht⟩) hw.2.2.1.2.2 dL_wide_20 hlocks
  · obtain ⟨hin, hrv⟩ := hpost
    have hw := hw_grow hw hk1 hS1
    refine hx_last (ws' := (lo_W h0 g1 g2 rp rd cp cd pf pa df da ds qo cO (vp_updL o 0 r))) hx hb hw 11 8 rfl rfl (vi_in (by decide) (by decide)) dL_wide_13 rfl (fun H locs hw => ?_)
    refine lv_goto (tgt := 21) hx hb dL_wide_14 (by decide) ?_
    refine lv_iconst (v := 0) hx hb dL_wide_21 (by decide) ?_
    exact W.iret (v := 0) hx hb hr (fun t ht hWt => ⟨⟨_, (vp_updL o 0 r), rfl, Or.inl ⟨hin, rfl, by rw [hrv]⟩, by rw [ht]; exact hw.1, va_K.moved hWt.alike hw.2.2.2.1, hw.2.1⟩, hw.2.2.1.F ht⟩) hw.2.2.1.2.2 dL_wide_22 hlocks
abbrev rmL_test : Room := { frames := 10, cells := 1, slots := 6, locals := 340 }
set_option maxRecDepth 20000 in
theorem kL_test (l : Launch) (hl0 : l.stackTraces = false) (dC : Nat → ClassId) (dI : Nat → Nat → Nat) (af ad : Nat) (h0 g1 g2 : Nat) (rp rd : Nat → Nat) (cp cd : Nat → ClassId) (sz : Nat) (pf : Nat → Int32) (pa : Nat → Nat → Int32) (df : Nat → Int32) (da : Nat → Nat → Int32) (ds : Nat → Int64) (qo : Nat) (cO : ClassId) (o : Nat → Int64) (x1 : Int32) (x2 : Int32) (x3 : Int32) (x4 : Int32) : Met l yL_test (Cond.codeWith yL_test cL_test 7 (some .int) [(0, 14, 17, 13)] :: bw) rmL_test (hPc [.ref h0, .int x1, .int x2, .int x3, .int x4, .ref qo] (dC, dI) (lo_T cp cd cO) (lo_W h0 g1 g2 rp rd cp cd pf pa df da ds qo cO o) sz (fun U => xk_K af ad (va_A (lo_W h0 g1 g2 rp rd cp cd pf pa df da ds qo cO o) sz) U)) (va_Qi (fun r (u : (Nat → Int64)) => (ac_in x1 8 ∧ r = 0 ∧ u = vp_updL o 0 (fX4_test x1 x2 x3 x4).toInt64) ∨ (¬ ac_in x1 8 ∧ r = 1 ∧ u = o)) (hBk (dC, dI) (lo_T cp cd cO) (va_A (lo_W h0 g1 g2 rp rd cp cd pf pa df da ds qo cO o) sz) (fun u => lo_W h0 g1 g2 rp rd cp cd pf pa df da ds qo cO u)) (va_A (lo_W h0 g1 g2 rp rd cp cd pf pa df da ds qo cO o) sz)) 1 6 (va_A (lo_W h0 g1 g2 rp rd cp cd pf pa df da ds qo cO o) sz) := by
  refine cz_ent (by decide) _ _ (Nat.le_of_ble_eq_true rfl) rfl ?_
  intro p e s m below meth c ls C htab hl hw hsz hK
  obtain ⟨hx, hb, hml, hr, hlocks, hown, hts⟩ := id C
  refine lv_aload hx hb dL_test_0 (lv_at hl 5 rfl) ?_
  refine lv_iconst (v := 0) hx hb dL_test_2 (by decide) ?_
  refine lv_aload_n hx hb dL_test_3 rfl (lv_at hl 0 rfl) ?_
  refine lv_iload_n hx hb dL_test_4 rfl (lv_at hl 1 rfl) ?_
  refine lv_iload_n hx hb dL_test_5 rfl (lv_at hl 2 rfl) ?_
  refine lv_iload_n hx hb dL_test_6 rfl (lv_at hl 3 rfl) ?_
  refine lv_iload hx hb dL_test_7 (lv_at hl 4 rfl) ?_
  refine vx_calli (vx_runV (nL := 7) (As := [.int x1, .int x2, .int x3, .int x4]) (rest := [.int 0, .ref qo]) (Ts := bw) (n := 4) (C := RX4) ⟨hx, hb, hml, hown, hts⟩ (kX4_test l hl0 af ad h0 x1 x2 x3 x4) (cwV 4 hts (gw_V tw_methodLink_RL_19_yX4_test mbX4_test) rfl rfl rfl mbX4_test.2 ⟨Nat.le_of_ble_eq_true rfl, Nat.le_of_ble_eq_true rfl⟩) ⟨fun a U g mk q => ⟨q.1, xk_same q.2 rfl rfl⟩, va_recv (ci := 5) (q0 := 0) hw.2.2.2.1 hw.1 rfl rfl, fun U hU hWu => ⟨rfl, xk_to hK hw.2.2.1 (fun _ q => q.elim) hU hWu⟩⟩ rfl rfl hl.1 rfl (lv_room (Nat.le_of_ble_eq_true rfl)) dL_test_9 ⟨Nat.le_of_ble_eq_true rfl, Nat.le_of_ble_eq_true rfl⟩) hw.2.2.1 (fun _ _ h => h.elim) (fun _ h => h.elim) (fun _ _ h => h.elim) (fun F ce q9 u t H1 locs1 ht hal hpx hBX hz1 hk1 hS1 hq9 hce hcl => ?_) (fun r u t H1 locs1 ht hal hpost hB hz1 hk1 hS1 => ?_)
  · cases hBX
    have hw := hw_grow hw hk1 hS1
    refine cz_catch (name := "java/lang/IllegalArgumentException") (E := "java/lang/IllegalArgumentException") hown ⟨0, 14, 17, 13⟩ htab (by decide) (by decide) (hts _ tw_classLink_RL_13_java_lang_IllegalArgumentException) (ex_wd (List.mem_append_left _ xI_cast) (State.WarmedH.refl s) (hK.2.1 _ (List.mem_append_left _ xI_cast))) hq9 hce hcl ?_
    refine lv_astore (lv' := [(6, .ref q9), (0, .ref h0), (1, .int x1), (2, .int x2), (3, .int x3), (4, .int x4), (5, .ref qo)]) hx hb dL_test_17 hl (by decide) rfl (fun ls hl => ?_)
    refine lv_iconst (v := 1) hx hb dL_test_19 (by decide) ?_
    exact W.iret (v := 1) hx hb hr (fun t ht hWt => ⟨⟨_, o, rfl, Or.inr ⟨hpx, rfl, rfl⟩, by rw [ht]; exact hw.1, va_K.moved hWt.alike hw.2.2.2.1, hw.2.1⟩, hw.2.2.1.F ht⟩) hw.2.2.1.2.2 dL_test_20 hlocks
  · obtain ⟨hin, hrv⟩ := hpost
    have hw := hw_grow hw hk1 hS1
    refine bx_i2l hx hb dL_test_12 ?_
    refine hx_last (ws' := (lo_W h0 g1 g2 rp rd cp cd pf pa df da ds qo cO (vp_updL o 0 r.toInt64))) hx hb hw 11 8 rfl rfl (vi_in (by decide) (by decide)) dL_test_13 rfl (fun H locs hw => ?_)
    refine lv_goto (tgt := 21) hx hb dL_test_14 (by decide) ?_
    refine lv_iconst (v := 0) hx hb dL_test_21 (by decide) ?_
    exact W.iret (v := 0) hx hb hr (fun t ht hWt => ⟨⟨_, (vp_updL o 0 r.toInt64), rfl, Or.inl ⟨hin, rfl, by rw [hrv]⟩, by rw [ht]; exact hw.1, va_K.moved hWt.alike hw.2.2.2.1, hw.2.1⟩, hw.2.2.1.F ht⟩) hw.2.2.1.2.2 dL_test_22 hlocks
abbrev rmL_wideTest : Room := { frames := 10, cells := 1, slots := 6, locals := 340 }
set_option maxRecDepth 20000 in
theorem kL_wideTest (l : Launch) (hl0 : l.stackTraces = false) (dC : Nat → ClassId) (dI : Nat → Nat → Nat) (af ad : Nat) (h0 g1 g2 : Nat) (rp rd : Nat → Nat) (cp cd : Nat → ClassId) (sz : Nat) (pf : Nat → Int32) (pa : Nat → Nat → Int32) (df : Nat → Int32) (da : Nat → Nat → Int32) (ds : Nat → Int64) (qo : Nat) (cO : ClassId) (o : Nat → Int64) (x1 : Int32) (x2 : Int64) (x4 : Int64) (x6 : Int64) : Met l yL_wideTest (Cond.codeWith yL_wideTest cL_wideTest 10 (some .int) [(0, 15, 18, 13)] :: bw) rmL_wideTest (hPc [.ref h0, .int x1, .long x2, .long x4, .long x6, .ref qo] (dC, dI) (lo_T cp cd cO) (lo_W h0 g1 g2 rp rd cp cd pf pa df da ds qo cO o) sz (fun U => xk_K af ad (va_A (lo_W h0 g1 g2 rp rd cp cd pf pa df da ds qo cO o) sz) U)) (va_Qi (fun r (u : (Nat → Int64)) => (ac_in x1 8 ∧ r = 0 ∧ u = vp_updL o 0 (fX4_wideTest x1 x2 x4 x6).toInt64) ∨ (¬ ac_in x1 8 ∧ r = 1 ∧ u = o)) (hBk (dC, dI) (lo_T cp cd cO) (va_A (lo_W h0 g1 g2 rp rd cp cd pf pa df da ds qo cO o) sz) (fun u => lo_W h0 g1 g2 rp rd cp cd pf pa df da ds qo cO u)) (va_A (lo_W h0 g1 g2 rp rd cp cd pf pa df da ds qo cO o) sz)) 1 6 (va_A (lo_W h0 g1 g2 rp rd cp cd pf pa df da ds qo cO o) sz) := by
  refine cz_ent (by decide) _ _ (Nat.le_of_ble_eq_true rfl) rfl ?_
  intro p e s m below meth c ls C htab hl hw hsz hK
  obtain ⟨hx, hb, hml, hr, hlocks, hown, hts⟩ := id C
  refine lv_aload hx hb dL_wideTest_0 (lv_at hl 5 rfl) ?_
  refine lv_iconst (v := 0) hx hb dL_wideTest_2 (by decide) ?_
  refine lv_aload_n hx hb dL_wideTest_3 rfl (lv_at hl 0 rfl) ?_
  refine lv_iload_n hx hb dL_wideTest_4 rfl (lv_at hl 1 rfl) ?_
  refine lv_lload_n hx hb dL_wideTest_5 rfl (lv_at hl 2 rfl) ?_
  refine lv_lload hx hb dL_wideTest_6 (lv_at hl 3 rfl) ?_
  refine lv_lload hx hb dL_wideTest_8 (lv_at hl 4 rfl) ?_
  refine vx_calli (vx_runV (nL := 10) (As := [.int x1, .long x2, .long x4, .long x6]) (rest := [.int 0, .ref qo]) (Ts := bw) (n := 4) (C := RX4) ⟨hx, hb, hml, hown, hts⟩ (kX4_wideTest l hl0 af ad h0 x1 x2 x4 x6) (cwV 4 hts (gw_V tw_methodLink_RL_22_yX4_wideTest mbX4_wideTest) rfl rfl rfl mbX4_wideTest.2 ⟨Nat.le_of_ble_eq_true rfl, Nat.le_of_ble_eq_true rfl⟩) ⟨fun a U g mk q => ⟨q.1, xk_same q.2 rfl rfl⟩, va_recv (ci := 5) (q0 := 0) hw.2.2.2.1 hw.1 rfl rfl, fun U hU hWu => ⟨rfl, xk_to hK hw.2.2.1 (fun _ q => q.elim) hU hWu⟩⟩ rfl rfl hl.1 rfl (lv_room (Nat.le_of_ble_eq_true rfl)) dL_wideTest_10 ⟨Nat.le_of_ble_eq_true rfl, Nat.le_of_ble_eq_true rfl⟩) hw.2.2.1 (fun _ _ h => h.elim) (fun _ h => h.elim) (fun _ _ h => h.elim) (fun F ce q9 u t H1 locs1 ht hal hpx hBX hz1 hk1 hS1 hq9 hce hcl => ?_) (fun r u t H1 locs1 ht hal hpost hB hz1 hk1 hS1 => ?_)
  · cases hBX
    have hw := hw_grow hw hk1 hS1
    refine cz_catch (name := "java/lang/IllegalArgumentException") (E := "java/lang/IllegalArgumentException") hown ⟨0, 15, 18, 13⟩ htab (by decide) (by decide) (hts _ tw_classLink_RL_13_java_lang_IllegalArgumentException) (ex_wd (List.mem_append_left _ xI_cast) (State.WarmedH.refl s) (hK.2.1 _ (List.mem_append_left _ xI_cast))) hq9 hce hcl ?_
    refine lv_astore (lv' := [(9, .ref q9), (0, .ref h0), (1, .int x1), (2, .long x2), (4, .long x4), (6, .long x6), (8, .ref qo)]) hx hb dL_wideTest_18 hl (by decide) rfl (fun ls hl => ?_)
    refine lv_iconst (v := 1) hx hb dL_wideTest_20 (by decide) ?_
    exact W.iret (v := 1) hx hb hr (fun t ht hWt => ⟨⟨_, o, rfl, Or.inr ⟨hpx, rfl, rfl⟩, by rw [ht]; exact hw.1, va_K.moved hWt.alike hw.2.2.2.1, hw.2.1⟩, hw.2.2.1.F ht⟩) hw.2.2.1.2.2 dL_wideTest_21 hlocks
  · obtain ⟨hin, hrv⟩ := hpost
    have hw := hw_grow hw hk1 hS1
    refine bx_i2l hx hb dL_wideTest_13 ?_
    refine hx_last (ws' := (lo_W h0 g1 g2 rp rd cp cd pf pa df da ds qo cO (vp_updL o 0 r.toInt64))) hx hb hw 11 8 rfl rfl (vi_in (by decide) (by decide)) dL_wideTest_14 rfl (fun H locs hw => ?_)
    refine lv_goto (tgt := 22) hx hb dL_wideTest_15 (by decide) ?_
    refine lv_iconst (v := 0) hx hb dL_wideTest_22 (by decide) ?_
    exact W.iret (v := 0) hx hb hr (fun t ht hWt => ⟨⟨_, (vp_updL o 0 r.toInt64), rfl, Or.inl ⟨hin, rfl, by rw [hrv]⟩, by rw [ht]; exact hw.1, va_K.moved hWt.alike hw.2.2.2.1, hw.2.1⟩, hw.2.2.1.F ht⟩) hw.2.2.1.2.2 dL_wideTest_23 hlocks
abbrev rmL_set : Room := { frames := 10, cells := 1, slots := 6, locals := 340 }
set_option maxRecDepth 20000 in
theorem kL_set (l : Launch) (hl0 : l.stackTraces = false) (dC : Nat → ClassId) (dI : Nat → Nat → Nat) (af ad : Nat) (h0 g1 g2 : Nat) (rp rd : Nat → Nat) (cp cd : Nat → ClassId) (sz : Nat) (pf : Nat → Int32) (pa : Nat → Nat → Int32) (df : Nat → Int32) (da : Nat → Nat → Int32) (ds : Nat → Int64) (qo : Nat) (cO : ClassId) (o : Nat → Int64) (x1 : Int32) (x2 : Int32) : Met l yL_set (Cond.codeWith yL_set cL_set 5 (some .int) [(0, 10, 13, 30)] :: bw) rmL_set (hPc [.ref h0, .int x1, .int x2, .ref qo] (dC, dI) (lo_T cp cd cO) (lo_W h0 g1 g2 rp rd cp cd pf pa df da ds qo cO o) sz (fun U => xk_K af ad (va_A (lo_W h0 g1 g2 rp rd cp cd pf pa df da ds qo cO o) sz) U)) (va_Qi (fun r (u : (Nat → Nat → Int32) × (Nat → Int64)) => ((¬ fX3_isWord x1 = 0) ∧ r = 0 ∧ u = ((fX3_replaced pa x1 x2).2, vp_updL o 0 (fX3_replaced pa x1 x2).1.toInt64)) ∨ (¬ (¬ fX3_isWord x1 = 0) ∧ r = 1 ∧ u = (pa, o))) (hBk (dC, dI) (lo_T cp cd cO) (va_A (lo_W h0 g1 g2 rp rd cp cd pf pa df da ds qo cO o) sz) (fun u => lo_W h0 g1 g2 rp rd cp cd pf u.1 df da ds qo cO u.2)) (va_A (lo_W h0 g1 g2 rp rd cp cd pf pa df da ds qo cO o) sz)) 1 6 (va_A (lo_W h0 g1 g2 rp rd cp cd pf pa df da ds qo cO o) sz) := by
  refine cz_ent (by decide) _ _ (Nat.le_of_ble_eq_true rfl) rfl ?_
  intro p e s m below meth c ls C htab hl hw hsz hK
  obtain ⟨hx, hb, hml, hr, hlocks, hown, hts⟩ := id C
  refine lv_aload_n hx hb dL_set_0 rfl (lv_at hl 3 rfl) ?_
  refine lv_iconst (v := 0) hx hb dL_set_1 (by decide) ?_
  refine lv_aload_n hx hb dL_set_2 rfl (lv_at hl 0 rfl) ?_
  refine lv_iload_n hx hb dL_set_3 rfl (lv_at hl 1 rfl) ?_
  refine lv_iload_n hx hb dL_set_4 rfl (lv_at hl 2 rfl) ?_
  have hFc := hw_fr hw [0, 1, 2, 3, 4, 5, 6, 7, 8, 9, 10] (w1 := gl_W h0 g1 g2 rp rd cp cd pf pa df da ds) rfl
  have hPc := hw.1.sub (ws' := gl_W h0 g1 g2 rp rd cp cd pf pa df da ds) [0, 1, 2, 3, 4, 5, 6, 7, 8, 9, 10] rfl
  have hDc := hw.2.1.sub (ws' := gl_W h0 g1 g2 rp rd cp cd pf pa df da ds) [0, 1, 2, 3, 4, 5, 6, 7, 8, 9, 10] (by decide) rfl
  have hKc := hw.2.2.2.1.sub (tys' := gl_T cp cd) [0, 1, 2, 3, 4, 5, 6, 7] rfl
  refine vx_calli (vx_runV (nL := 5) (As := [.int x1, .int x2]) (rest := [.int 0, .ref qo]) (Ts := bw) (n := 2) (C := RX4) ⟨hx, hb, hml, hown, hts⟩ (kX4_set l hl0 dC dI h0 g1 g2 rp rd cp cd s.heap.size pf pa df da ds x1 x2) (cwV 2 hts (gw_V tw_methodLink_RL_26_yX4_set mbX4_set) rfl rfl rfl mbX4_set.2 ⟨Nat.le_of_ble_eq_true rfl, Nat.le_of_ble_eq_true rfl⟩) ⟨fun a U g mk q => ⟨q.1, ⟨q.2.1.1, q.2.1.2.1, va_K.moved (u := U) (U := U.calling g mk a) (Vm.Alike.refl U.vm) q.2.1.2.2.1, q.2.1.2.2.2⟩, ex_same q.2.2 rfl rfl⟩, va_recv (ci := 5) (q0 := 0) hw.2.2.2.1 hw.1 rfl rfl, fun U hU hWu => ⟨rfl, ⟨by rw [hU], by rw [hU]; exact hPc, va_K.moved hWu.alike hKc, hDc.weaken (fun _ _ _ _ => trivial)⟩, ex_to hK.2 hw.2.2.1 hFc hU hWu⟩⟩ rfl rfl hl.1 rfl (lv_room (Nat.le_of_ble_eq_true rfl)) dL_set_5 ⟨Nat.le_of_ble_eq_true rfl, Nat.le_of_ble_eq_true rfl⟩) hw.2.2.1 (fun q _ h => hFc q h) hFc (fun _ _ h => h.elim) (fun F ce q9 u t H1 locs1 ht hal hpx hBX hz1 hk1 hS1 hq9 hce hcl => ?_) (fun r u t H1 locs1 ht hal hpost hB hz1 hk1 hS1 => ?_)
  · cases hBX
    have hw := hw_grow hw hk1 hS1
    refine cz_catch (name := "java/lang/ArrayIndexOutOfBoundsException") (E := "java/lang/ArrayIndexOutOfBoundsException") hown ⟨0, 10, 13, 30⟩ htab (by decide) (by decide) (hts _ tw_classLink_RL_30_java_lang_ArrayIndexOutOfBoundsException) (ex_wd (List.mem_append_right _ xA_cast) (State.WarmedH.refl s) (hK.2.1 _ (List.mem_append_right _ xA_cast))) hq9 hce hcl ?_
    refine lv_astore (lv' := [(4, .ref q9), (0, .ref h0), (1, .int x1), (2, .int x2), (3, .ref qo)]) hx hb dL_set_13 hl (by decide) rfl (fun ls hl => ?_)
    refine lv_iconst (v := 1) hx hb dL_set_15 (by decide) ?_
    exact W.iret (v := 1) hx hb hr (fun t ht hWt => ⟨⟨_, (pa, o), rfl, Or.inr ⟨(fun q => q hpx), rfl, rfl⟩, by rw [ht]; exact hw.1, va_K.moved hWt.alike hw.2.2.2.1, hw.2.1⟩, hw.2.2.1.F ht⟩) hw.2.2.1.2.2 dL_set_16 hlocks
  · obtain ⟨hin, hrv⟩ := hpost
    obtain ⟨hP1, hK1, hD1⟩ := hB
    rw [ht] at hP1
    obtain ⟨hP2, hD2⟩ := va_join (wr := [(qo, .inl (cO, 1, .inr (.inl o)))]) (w1 := gl_W h0 g1 g2 rp rd cp cd pf u df da ds) hw.1 hw.2.1 [0, 1, 2, 3, 4, 5, 6, 7, 8, 9, 10] [11] rfl rfl (by decide) (by decide) hk1 hFc hP1 hD1
    have hw : hW (dC, dI) (lo_T cp cd cO) (va_A (lo_W h0 g1 g2 rp rd cp cd pf pa df da ds qo cO o) sz) s H1 locs1 (lo_W h0 g1 g2 rp rd cp cd pf u df da ds qo cO o) := ⟨hP2.sub [1, 2, 3, 4, 5, 6, 7, 8, 9, 10, 11, 0] rfl, hD2.sub [1, 2, 3, 4, 5, 6, 7, 8, 9, 10, 11, 0] (by decide) rfl, hS1, hw.2.2.2.1, hw.2.2.2.2⟩
    refine bx_i2l hx hb dL_set_8 ?_
    refine hx_last (ws' := (lo_W h0 g1 g2 rp rd cp cd pf u df da ds qo cO (vp_updL o 0 r.toInt64))) hx hb hw 11 8 rfl rfl (vi_in (by decide) (by decide)) dL_set_9 rfl (fun H locs hw => ?_)
    refine lv_goto (tgt := 17) hx hb dL_set_10 (by decide) ?_
    refine lv_iconst (v := 0) hx hb dL_set_17 (by decide) ?_
    exact W.iret (v := 0) hx hb hr (fun t ht hWt => ⟨⟨_, (u, vp_updL o 0 r.toInt64), rfl, Or.inl ⟨hin, rfl, by rw [show u = (fX3_replaced pa x1 x2).2 from congrArg Prod.snd hrv, show r = (fX3_replaced pa x1 x2).1 from congrArg Prod.fst hrv]⟩, by rw [ht]; exact hw.1, va_K.moved hWt.alike hw.2.2.2.1, hw.2.1⟩, hw.2.2.1.F ht⟩) hw.2.2.1.2.2 dL_set_18 hlocks
abbrev rmL_word : Room := { frames := 10, cells := 1, slots := 6, locals := 340 }
set_option maxRecDepth 20000 in
theorem kL_word (l : Launch) (hl0 : l.stackTraces = false) (dC : Nat → ClassId) (dI : Nat → Nat → Nat) (af ad : Nat) (h0 g1 g2 : Nat) (rp rd : Nat → Nat) (cp cd : Nat → ClassId) (sz : Nat) (pf : Nat → Int32) (pa : Nat → Nat → Int32) (df : Nat → Int32) (da : Nat → Nat → Int32) (ds : Nat → Int64) (qo : Nat) (cO : ClassId) (o : Nat → Int64) (x1 : Int32) : Met l yL_word (Cond.codeWith yL_word cL_word 4 (some .int) [(0, 9, 12, 30)] :: bw) rmL_word (hPc [.ref h0, .int x1, .ref qo] (dC, dI) (lo_T cp cd cO) (lo_W h0 g1 g2 rp rd cp cd pf pa df da ds qo cO o) sz (fun U => xk_K af ad (va_A (lo_W h0 g1 g2 rp rd cp cd pf pa df da ds qo cO o) sz) U)) (va_Qi (fun r (u : (Nat → Int64)) => ((¬ fX3_isWord x1 = 0) ∧ r = 0 ∧ u = vp_updL o 0 (fX3_wordAt pa x1).toInt64) ∨ (¬ (¬ fX3_isWord x1 = 0) ∧ r = 1 ∧ u = o)) (hBk (dC, dI) (lo_T cp cd cO) (va_A (lo_W h0 g1 g2 rp rd cp cd pf pa df da ds qo cO o) sz) (fun u => lo_W h0 g1 g2 rp rd cp cd pf pa df da ds qo cO u)) (va_A (lo_W h0 g1 g2 rp rd cp cd pf pa df da ds qo cO o) sz)) 1 6 (va_A (lo_W h0 g1 g2 rp rd cp cd pf pa df da ds qo cO o) sz) := by
  refine cz_ent (by decide) _ _ (Nat.le_of_ble_eq_true rfl) rfl ?_
  intro p e s m below meth c ls C htab hl hw hsz hK
  obtain ⟨hx, hb, hml, hr, hlocks, hown, hts⟩ := id C
  refine lv_aload_n hx hb dL_word_0 rfl (lv_at hl 2 rfl) ?_
  refine lv_iconst (v := 0) hx hb dL_word_1 (by decide) ?_
  refine lv_aload_n hx hb dL_word_2 rfl (lv_at hl 0 rfl) ?_
  refine lv_iload_n hx hb dL_word_3 rfl (lv_at hl 1 rfl) ?_
  refine vx_calli (vx_runV (nL := 4) (As := [.int x1]) (rest := [.int 0, .ref qo]) (Ts := bw) (n := 1) (C := RX4) ⟨hx, hb, hml, hown, hts⟩ (kX4_word l hl0 dC dI h0 g1 g2 rp rd cp cd pf pa df da ds x1) (cwV 1 hts (gw_V tw_methodLink_RL_32_yX4_word mbX4_word) rfl rfl rfl mbX4_word.2 ⟨Nat.le_of_ble_eq_true rfl, Nat.le_of_ble_eq_true rfl⟩) ⟨fun a U g mk q => ⟨q.1, rd_B _ _ _ U _ rfl (Vm.Alike.refl U.vm) q.2.1, ex_same q.2.2 rfl rfl⟩, va_recv (ci := 5) (q0 := 0) hw.2.2.2.1 hw.1 rfl rfl, fun U hU hWu => ⟨rfl, hw_rd hw hU hWu.alike [0, 1, 2, 3, 4, 5, 6, 7, 8, 9, 10] [0, 1, 2, 3, 4, 5, 6, 7] rfl rfl, ex_to hK.2 hw.2.2.1 (fun _ q => q.elim) hU hWu⟩⟩ rfl rfl hl.1 rfl (lv_room (Nat.le_of_ble_eq_true rfl)) dL_word_4 ⟨Nat.le_of_ble_eq_true rfl, Nat.le_of_ble_eq_true rfl⟩) hw.2.2.1 (fun _ _ h => h.elim) (fun _ h => h.elim) (fun _ _ h => h.elim) (fun F ce q9 u t H1 locs1 ht hal hpx hBX hz1 hk1 hS1 hq9 hce hcl => ?_) (fun r u t H1 locs1 ht hal hpost hB hz1 hk1 hS1 => ?_)
  · cases hBX
    have hw := hw_grow hw hk1 hS1
    refine cz_catch (name := "java/lang/ArrayIndexOutOfBoundsException") (E := "java/lang/ArrayIndexOutOfBoundsException") hown ⟨0, 9, 12, 30⟩ htab (by decide) (by decide) (hts _ tw_classLink_RL_30_java_lang_ArrayIndexOutOfBoundsException) (ex_wd (List.mem_append_right _ xA_cast) (State.WarmedH.refl s) (hK.2.1 _ (List.mem_append_right _ xA_cast))) hq9 hce hcl ?_
    refine lv_astore_n (lv' := [(3, .ref q9), (0, .ref h0), (1, .int x1), (2, .ref qo)]) hx hb dL_word_12 rfl hl (by decide) rfl (fun ls hl => ?_)
    refine lv_iconst (v := 1) hx hb dL_word_13 (by decide) ?_
    exact W.iret (v := 1) hx hb hr (fun t ht hWt => ⟨⟨_, o, rfl, Or.inr ⟨hpx, rfl, rfl⟩, by rw [ht]; exact hw.1, va_K.moved hWt.alike hw.2.2.2.1, hw.2.1⟩, hw.2.2.1.F ht⟩) hw.2.2.1.2.2 dL_word_14 hlocks
  · obtain ⟨hin, hrv⟩ := hpost
    have hw := hw_grow hw hk1 hS1
    refine bx_i2l hx hb dL_word_7 ?_
    refine hx_last (ws' := (lo_W h0 g1 g2 rp rd cp cd pf pa df da ds qo cO (vp_updL o 0 r.toInt64))) hx hb hw 11 8 rfl rfl (vi_in (by decide) (by decide)) dL_word_8 rfl (fun H locs hw => ?_)
    refine lv_goto (tgt := 15) hx hb dL_word_9 (by decide) ?_
    refine lv_iconst (v := 0) hx hb dL_word_15 (by decide) ?_
    exact W.iret (v := 0) hx hb hr (fun t ht hWt => ⟨⟨_, (vp_updL o 0 r.toInt64), rfl, Or.inl ⟨hin, rfl, by rw [hrv]⟩, by rw [ht]; exact hw.1, va_K.moved hWt.alike hw.2.2.2.1, hw.2.1⟩, hw.2.2.1.F ht⟩) hw.2.2.1.2.2 dL_word_16 hlocks
