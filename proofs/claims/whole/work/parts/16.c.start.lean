set_option maxRecDepth 20000 in
theorem ll_loop {p : Program} {l : Launch} {e : Env} {s : State} {m : MethodId} {below : List Frame} {meth : Method} {c : Code} {b L : Nat} {xs : Nat → Int32} {af ad : Nat} {dC : Nat → ClassId} {dI : Nat → Nat → Nat} {h0 g1 g2 : Nat} {rp rd : Nat → Nat} {cp cd : Nat → ClassId} {h9 : Nat} {r : Nat → Nat} {cA : Nat → ClassId} {qo : Nat} {cO : ClassId} (hl0 : l.stackTraces = false) (X : lx p s m meth c b L xs af ad) (hL : L ≤ 4096) :
    ∀ (n i : Nat) (pf : Nat → Int32) (pa : Nat → Nat → Int32) (df : Nat → Int32) (da : Nat → Nat → Int32) (ds : Nat → Int64) (uf : Nat → Int32) (ua : Nat → Nat → Int32) (us o : Nat → Int64) (H : Heap) (locs : List Loc) (ls : Array Slot) (x4 : Int32) (cells slots : Nat), 513 - i < n → i ≤ 513 → x4.toInt = 8 * i → cells = 23 + i → slots = 1034 + 6 * i → rl pf pa df da uf ua → hW (dC, dI) (ll_T cp cd cA cO) (fun q => s.heap.size ≤ q) s H locs (ll_W h0 g1 g2 rp rd cp cd h9 r cA qo cO pf pa df da ds uf ua us o) → lv_has ls 8 [(0, .ref b), (1, .ref h0), (2, .ref h9), (3, .ref qo), (4, .int x4)] → W p l e room_1 s m #[Value.ref b] below meth c H locs cells slots (lw_Z below #[Value.ref b] s) (F0 m 23 ls []) := by
  obtain ⟨C, hX, hbl, hK, hNw⟩ := id X
  obtain ⟨hx, hb, hml, hrt, hlocks, hown, hts⟩ := id C
  have hbA : ¬ s.heap.size ≤ b := Nat.not_le.mpr hbl
  have e8 : (8 : Int32).toInt = 8 := by decide
  have eL : (Int32.ofNat L).toInt = L := by rw [Int32.toInt_ofNat_of_lt (by omega)]
  have eL8 : (Int32.ofNat L - (8 : Int32)).toInt = (L : Int) - 8 := by rw [mi_sub (by omega) (by omega), eL, e8]
  intro n
  induction n with
  | zero => intro i _ _ _ _ _ _ _ _ _ _ _ _ _ _ _ h; omega
  | succ n ih =>
    intro i pf pa df da ds uf ua us o H locs ls x4 cells slots hn hi5 hx4 hce hsl hr hw hl
    refine lv_iload hx hb dL_law_23 (lv_at hl 4 rfl) ?_
    refine lv_aload_n hx hb dL_law_25 rfl (lv_at hl 0 rfl) ?_
    refine va_slen hx hb hX hbl hbA hw.2.2.1 dL_law_26 ?_
    refine lv_bipush (v := 8) hx hb dL_law_27 (by decide) ?_
    refine lv_isub hx hb dL_law_29 ?_
    refine lv_icmp_gt (tgt := 1238) hx hb dL_law_30 (by decide) (fun cq => ?_) (fun cq => ?_)
    · refine lv_iconst (v := 1) hx hb dL_law_1238 (by decide) ?_
      refine va_forget (fun q hq => hw.2.2.1.2.2 q hq) ?_
      refine W.widen (k := 3101) (n := 119854) (by omega) (by omega) ?_
      exact lw_ret hx hb hrt hlocks dL_law_1239
    · rw [mi_lt, eL8] at cq
      have hi : 0 ≤ x4.toInt ∧ x4.toInt + 8 ≤ L := by omega
      have hcs : cells + 1 ≤ 3101 ∧ slots + 6 ≤ 119854 := by omega
      have k : ll_C p l e s m below meth c b dC dI h0 g1 g2 rp rd cp cd h9 r cA qo cO x4 cells slots (lw_Z below #[Value.ref b] s) := by
        intro pf pa df da ds uf ua us o H locs ls hr hw hl
        refine lv_iinc (v := x4 + (8 : Int32)) (lv' := [(4, .int (x4 + (8 : Int32))), (0, .ref b), (1, .ref h0), (2, .ref h9), (3, .ref qo)]) hx hb dL_law_1232 hl (k := 4) rfl rfl (by decide) rfl (fun ls hl => ?_)
        refine lv_goto (tgt := 23) hx hb dL_law_1235 (by decide) ?_
        exact ih (i + 1) pf pa df da ds uf ua us o H locs ls (x4 + (8 : Int32)) (cells + 1) (slots + 6) (by omega) (by omega) (by rw [mi_add (by omega) (by omega), e8]; omega) (by omega) (by omega) hr hw (lv_sub hl [1, 2, 3, 4, 0] rfl)
      refine lv_aload_n hx hb dL_law_33 rfl (lv_at hl 0 rfl) ?_
      refine lv_iload hx hb dL_law_34 (lv_at hl 4 rfl) ?_
      refine va_sld hx hb hX hbl hbA hw.2.2.1 (vp_in_iff.mpr ⟨hi.1, by omega⟩) dL_law_36 ?_
      refine lv_bipush (v := 31) hx hb dL_law_37 (by decide) ?_
      refine lv_iand hx hb dL_law_39 ?_
      by_cases z0 : (xs x4.toNatClampNeg &&& (31 : Int32)) = 0
      · refine lv_tableIn (tgt := 124) hx hb dL_law_40 (by rw [z0]; decide) (by rw [z0]; decide) (by rw [z0]; rfl) (by decide) ?_
        exact cs_0 hl0 X hL hi hr hw hl hcs k
      by_cases z1 : (xs x4.toNatClampNeg &&& (31 : Int32)) = 1
      · refine lv_tableIn (tgt := 216) hx hb dL_law_40 (by rw [z1]; decide) (by rw [z1]; decide) (by rw [z1]; rfl) (by decide) ?_
        exact cs_1 hl0 X hL hi hr hw hl hcs k
      by_cases z2 : (xs x4.toNatClampNeg &&& (31 : Int32)) = 2
      · refine lv_tableIn (tgt := 407) hx hb dL_law_40 (by rw [z2]; decide) (by rw [z2]; decide) (by rw [z2]; rfl) (by decide) ?_
        exact cs_2 hl0 X hL hi hr hw hl hcs k
      by_cases z3 : (xs x4.toNatClampNeg &&& (31 : Int32)) = 3
      · refine lv_tableIn (tgt := 499) hx hb dL_law_40 (by rw [z3]; decide) (by rw [z3]; decide) (by rw [z3]; rfl) (by decide) ?_
        exact cs_3 hl0 X hL hi hr hw hl hcs k
      by_cases z4 : (xs x4.toNatClampNeg &&& (31 : Int32)) = 4
      · refine lv_tableIn (tgt := 691) hx hb dL_law_40 (by rw [z4]; decide) (by rw [z4]; decide) (by rw [z4]; rfl) (by decide) ?_
        exact cs_4 hl0 X hL hi hr hw hl hcs k
      by_cases z5 : (xs x4.toNatClampNeg &&& (31 : Int32)) = 5
      · refine lv_tableIn (tgt := 717) hx hb dL_law_40 (by rw [z5]; decide) (by rw [z5]; decide) (by rw [z5]; rfl) (by decide) ?_
        exact cs_5 hl0 X hL hi hr hw hl hcs k
      by_cases z6 : (xs x4.toNatClampNeg &&& (31 : Int32)) = 6
      · refine lv_tableIn (tgt := 774) hx hb dL_law_40 (by rw [z6]; decide) (by rw [z6]; decide) (by rw [z6]; rfl) (by decide) ?_
        exact cs_6 hl0 X hL hi hr hw hl hcs k
      by_cases z7 : (xs x4.toNatClampNeg &&& (31 : Int32)) = 7
      · refine lv_tableIn (tgt := 859) hx hb dL_law_40 (by rw [z7]; decide) (by rw [z7]; decide) (by rw [z7]; rfl) (by decide) ?_
        exact cs_7 hl0 X hL hi hr hw hl hcs k
      by_cases z8 : (xs x4.toNatClampNeg &&& (31 : Int32)) = 8
      · refine lv_tableIn (tgt := 897) hx hb dL_law_40 (by rw [z8]; decide) (by rw [z8]; decide) (by rw [z8]; rfl) (by decide) ?_
        exact cs_8 hl0 X hL hi hr hw hl hcs k
      by_cases z9 : (xs x4.toNatClampNeg &&& (31 : Int32)) = 9
      · refine lv_tableIn (tgt := 934) hx hb dL_law_40 (by rw [z9]; decide) (by rw [z9]; decide) (by rw [z9]; rfl) (by decide) ?_
        exact cs_9 hl0 X hL hi hr hw hl hcs k
      by_cases z10 : (xs x4.toNatClampNeg &&& (31 : Int32)) = 10
      · refine lv_tableIn (tgt := 959) hx hb dL_law_40 (by rw [z10]; decide) (by rw [z10]; decide) (by rw [z10]; rfl) (by decide) ?_
        exact cs_10 hl0 X hL hi hr hw hl hcs k
      by_cases z11 : (xs x4.toNatClampNeg &&& (31 : Int32)) = 11
      · refine lv_tableIn (tgt := 1027) hx hb dL_law_40 (by rw [z11]; decide) (by rw [z11]; decide) (by rw [z11]; rfl) (by decide) ?_
        exact cs_11 hl0 X hL hi hr hw hl hcs k
      by_cases z12 : (xs x4.toNatClampNeg &&& (31 : Int32)) = 12
      · refine lv_tableIn (tgt := 1083) hx hb dL_law_40 (by rw [z12]; decide) (by rw [z12]; decide) (by rw [z12]; rfl) (by decide) ?_
        exact cs_12 hl0 X hL hi hr hw hl hcs k
      by_cases z13 : (xs x4.toNatClampNeg &&& (31 : Int32)) = 13
      · refine lv_tableIn (tgt := 1156) hx hb dL_law_40 (by rw [z13]; decide) (by rw [z13]; decide) (by rw [z13]; rfl) (by decide) ?_
        exact cs_13 hl0 X hL hi hr hw hl hcs k
      by_cases z14 : (xs x4.toNatClampNeg &&& (31 : Int32)) = 14
      · refine lv_tableIn (tgt := 1169) hx hb dL_law_40 (by rw [z14]; decide) (by rw [z14]; decide) (by rw [z14]; rfl) (by decide) ?_
        exact cs_14 hl0 X hL hi hr hw hl hcs k
      by_cases z15 : (xs x4.toNatClampNeg &&& (31 : Int32)) = 15
      · refine lv_tableIn (tgt := 1206) hx hb dL_law_40 (by rw [z15]; decide) (by rw [z15]; decide) (by rw [z15]; rfl) (by decide) ?_
        exact cs_15 hl0 X hL hi hr hw hl hcs k
      by_cases z16 : (xs x4.toNatClampNeg &&& (31 : Int32)) = 16
      · refine lv_tableIn (tgt := 1219) hx hb dL_law_40 (by rw [z16]; decide) (by rw [z16]; decide) (by rw [z16]; rfl) (by decide) ?_
        exact cs_16 hl0 X hL hi hr hw hl hcs k
      refine lv_tableOut (tgt := 1232) hx hb dL_law_40 (sw_out (0) (16) (fun n h1 h2 => ?_)) (by decide) ?_
      · rcases (show n = 0 ∨ n = 1 ∨ n = 2 ∨ n = 3 ∨ n = 4 ∨ n = 5 ∨ n = 6 ∨ n = 7 ∨ n = 8 ∨ n = 9 ∨ n = 10 ∨ n = 11 ∨ n = 12 ∨ n = 13 ∨ n = 14 ∨ n = 15 ∨ n = 16 by omega) with rfl | rfl | rfl | rfl | rfl | rfl | rfl | rfl | rfl | rfl | rfl | rfl | rfl | rfl | rfl | rfl | rfl
        · exact z0
        · exact z1
        · exact z2
        · exact z3
        · exact z4
        · exact z5
        · exact z6
        · exact z7
        · exact z8
        · exact z9
        · exact z10
        · exact z11
        · exact z12
        · exact z13
        · exact z14
        · exact z15
        · exact z16
      refine W.widen (k := cells + 1) (n := slots + 6) (Nat.le_succ _) (Nat.le_add_right _ 6) ?_
      exact k _ _ _ _ _ _ _ _ _ _ _ _ hr hw hl
set_option maxRecDepth 20000 in
/-- from the entry, for every script of at most 4096 ints, the law comes to its end with true -/
theorem whole_start {p : Program} {e : Env} {s : State} {m : MethodId} {below : List Frame} {meth : Method} {c : Code} (l : Launch) (hl0 : l.stackTraces = false) {b L : Nat} {xs : Nat → Int32} (hL : L ≤ 4096) (C0 : lw_At p s m meth c b L xs) : W p l e room_1 s m #[Value.ref b] below meth c s.heap [] 0 0 (lw_Z below #[Value.ref b] s) (entryFrame m ([Value.ref b] : List Value).toArray 8) := by
  obtain ⟨hx, hb, hr, hml, hown, hall, hX, hbl, hlocks, hgv⟩ := id C0
  obtain ⟨af, ad, hfo⟩ := st_fo hall hgv
  have hexK := st_ex hall hgv
  have hts : ∀ w ∈ bw, w.before #[Value.ref b] s = true := fun w h => hall w (List.mem_filter.mp h).1
  have C : bx_C p s m #[Value.ref b] meth c cL_law 8 ret RL := ⟨hx, hb, hml, hr, hlocks, hown, hts⟩
  have X : lx p s m meth c b L xs af ad := ⟨C, hX, hbl, ⟨hfo, hexK⟩, st_N hall⟩
  obtain ⟨c0, i0, hk0⟩ := u_known (C := RJ0) (T := TJ0) (N := 2) (n := 4) hall (fun w h => of_decide_eq_true (List.all_eq_true.mp (show (u_ws RJ0 TJ0 2).all (fun w => decide (w ∈ lw_tbl)) = true by decide +kernel) w h)) (hall (.instantiable RJ0 4) (by decide +kernel))
  obtain ⟨c1, i1, hk1⟩ := u_known (C := RJx00060) (T := TJx00060) (N := 6) (n := 6) hall (fun w h => of_decide_eq_true (List.all_eq_true.mp (show (u_ws RJx00060 TJx00060 6).all (fun w => decide (w ∈ lw_tbl)) = true by decide +kernel) w h)) (hall (.instantiable RJx00060 6) (by decide +kernel))
  obtain ⟨c2, i2, hk2⟩ := u_known (C := RX1) (T := TX1) (N := 3) (n := 3) hall (fun w h => of_decide_eq_true (List.all_eq_true.mp (show (u_ws RX1 TX1 3).all (fun w => decide (w ∈ lw_tbl)) = true by decide +kernel) w h)) (hall (.instantiable RX1 3) (by decide +kernel))
  obtain ⟨c3, i3, hk3⟩ := u_known (C := RX2) (T := TX2) (N := 0) (n := 11) hall (fun w h => of_decide_eq_true (List.all_eq_true.mp (show (u_ws RX2 TX2 0).all (fun w => decide (w ∈ lw_tbl)) = true by decide +kernel) w h)) (hall (.instantiable RX2 11) (by decide +kernel))
  obtain ⟨c4, i4, hk4⟩ := u_known (C := RX3) (T := TX3) (N := 8) (n := 8) hall (fun w h => of_decide_eq_true (List.all_eq_true.mp (show (u_ws RX3 TX3 8).all (fun w => decide (w ∈ lw_tbl)) = true by decide +kernel) w h)) (hall (.instantiable RX3 8) (by decide +kernel))
  obtain ⟨c5, i5, hk5⟩ := u_known (C := RX4) (T := TX4) (N := 2) (n := 2) hall (fun w h => of_decide_eq_true (List.all_eq_true.mp (show (u_ws RX4 TX4 2).all (fun w => decide (w ∈ lw_tbl)) = true by decide +kernel) w h)) (hall (.instantiable RX4 2) (by decide +kernel))
  obtain ⟨c6, i6, hk6⟩ := u_known (C := RX5) (T := TX5) (N := 15) (n := 15) hall (fun w h => of_decide_eq_true (List.all_eq_true.mp (show (u_ws RX5 TX5 15).all (fun w => decide (w ∈ lw_tbl)) = true by decide +kernel) w h)) (hall (.instantiable RX5 15) (by decide +kernel))
  obtain ⟨dC, dI, hKc⟩ : ∃ (dC : Nat → ClassId) (dI : Nat → Nat → Nat), ∀ (k : Nat) (q : vw_C), vwCl[k]? = some q → u_Kn s q.1 q.2.1 q.2.2 (dC k) (dI k) := by
    refine ⟨fun k => match k with | 0 => c0 | 1 => c1 | 2 => c2 | 3 => c3 | 4 => c4 | 5 => c5 | _ => c6, fun k => match k with | 0 => i0 | 1 => i1 | 2 => i2 | 3 => i3 | 4 => i4 | 5 => i5 | _ => i6, ?_⟩
    intro k q hq
    match k, hq with
    | 0, hq => cases hq; exact hk0
    | 1, hq => cases hq; exact hk1
    | 2, hq => cases hq; exact hk2
    | 3, hq => cases hq; exact hk3
    | 4, hq => cases hq; exact hk4
    | 5, hq => cases hq; exact hk5
    | 6, hq => cases hq; exact hk6
    | k + 7, hq => simp at hq
  have hw : hW (dC, dI) [] (fun q : Nat => s.heap.size ≤ q) s s.heap [] [] := ⟨fun k q h => by simp at h, ⟨fun i j p q h => by simp at h, fun k q h => by simp at h⟩, va_S.rf, ⟨hKc, fun k q h => by simp at h⟩, fun _ h => h⟩
  have hl := lv_entry ([.ref b]) (n := 8) (Nat.le_of_ble_eq_true rfl)
  rw [lg_entry_eq]
  generalize (lg_sl ([.ref b]) ++ List.replicate (8 - (lg_sl ([.ref b])).length) Slot.unset).toArray = ls at hl ⊢
  have hl : lv_has ls 8 [(0, .ref b)] := hl
  refine hx_new (ci := 5) (fs := [.null, .null]) hx hb hts inX4 tyX4 tyX4_ok hown tw_classLink_RL_8_RX4 tw_instantiable_RX4_2 tw_initialized_RX4 hw rfl (fun j hj => by rcases (show j = 0 ∨ j = 1 by omega) with rfl | rfl <;> rfl) (Nat.le_of_ble_eq_true rfl) (Nat.le_of_ble_eq_true rfl) dL_law_0 (fun h0 H hw => ?_)
  refine W.widen (k := 1) (n := 2) (Nat.le_of_ble_eq_true rfl) (Nat.le_of_ble_eq_true rfl) ?_
  refine lv_dup hx hb dL_law_3 rfl ?_
  refine hx_ctor (wr := []) (S := gl_S) (Tf := fun u => gl_inT u) (Wf := fun u => gl_in h0 u) [0] [] C (fun z => kX4_init l dC dI h0 z) hw rfl rfl rfl rfl rfl (by decide) tw_methodLink_RL_36_yX4_init tw_code_yX4_init tw_initialized_RX4 tw_instanceMethod_yX4_init rfl (by decide +kernel) ⟨rfl, rfl⟩ ⟨Nat.le_of_ble_eq_true rfl, Nat.le_of_ble_eq_true rfl⟩ ⟨Nat.le_of_ble_eq_true rfl, Nat.le_of_ble_eq_true rfl⟩ hl.1 rfl (Nat.le_of_ble_eq_true rfl) dL_law_4 (fun u H locs hw => ?_)
  obtain ⟨g1, g2, rp, rd, cp, cd⟩ := u
  refine W.widen (k := 11) (n := 320) (Nat.le_of_ble_eq_true rfl) (Nat.le_of_ble_eq_true rfl) ?_
  have hw : hW (dC, dI) (gl_T cp cd) (fun q : Nat => s.heap.size ≤ q) s H locs (gl_W h0 g1 g2 rp rd cp cd pf0 az0 nf0 az0 sz0) := hw
  refine lv_astore_n (lv' := [(1, .ref h0), (0, .ref b)]) hx hb dL_law_7 rfl hl (by decide) rfl (fun ls hl => ?_)
  refine hx_new (ci := 6) (fs := [.null, .int 0, .null, .null, .null, .null, .null, .int 0, .int 0, .null, .null, .int 0, .null, .int 0, .null]) hx hb hts inX5 tyX5 tyX5_ok hown tw_classLink_RL_37_RX5 tw_instantiable_RX5_15 tw_initialized_RX5 hw rfl (fun j hj => by rcases (show j = 0 ∨ j = 1 ∨ j = 2 ∨ j = 3 ∨ j = 4 ∨ j = 5 ∨ j = 6 ∨ j = 7 ∨ j = 8 ∨ j = 9 ∨ j = 10 ∨ j = 11 ∨ j = 12 ∨ j = 13 ∨ j = 14 by omega) with rfl | rfl | rfl | rfl | rfl | rfl | rfl | rfl | rfl | rfl | rfl | rfl | rfl | rfl | rfl <;> rfl) (Nat.le_of_ble_eq_true rfl) (Nat.le_of_ble_eq_true rfl) dL_law_8 (fun h9 H hw => ?_)
  refine W.widen (k := 12) (n := 335) (Nat.le_of_ble_eq_true rfl) (Nat.le_of_ble_eq_true rfl) ?_
  refine lv_dup hx hb dL_law_11 rfl ?_
  refine hx_ctor (wr := gl_W h0 g1 g2 rp rd cp cd pf0 az0 nf0 az0 sz0) (S := (Nat → Nat) × (Nat → ClassId)) (Tf := fun u => md_T u.2) (Wf := fun u => md_W h9 u.1 u.2 pf0 az0 sz0) [11] [0, 1, 2, 3, 4, 5, 6, 7, 8, 9, 10] C (fun z => kX5_init l dC dI h9 z) hw rfl rfl rfl rfl rfl (by decide) tw_methodLink_RL_39_yX5_init tw_code_yX5_init tw_initialized_RX5 tw_instanceMethod_yX5_init rfl (by decide +kernel) ⟨rfl, rfl⟩ ⟨Nat.le_of_ble_eq_true rfl, Nat.le_of_ble_eq_true rfl⟩ ⟨Nat.le_of_ble_eq_true rfl, Nat.le_of_ble_eq_true rfl⟩ hl.1 rfl (Nat.le_of_ble_eq_true rfl) dL_law_12 (fun u H locs hw => ?_)
  obtain ⟨r, cA⟩ := u
  refine W.widen (k := 22) (n := 1033) (Nat.le_of_ble_eq_true rfl) (Nat.le_of_ble_eq_true rfl) ?_
  refine lv_astore_n (lv' := [(2, .ref h9), (1, .ref h0), (0, .ref b)]) hx hb dL_law_15 rfl hl (by decide) rfl (fun ls hl => ?_)
  refine lv_iconst (v := 1) hx hb dL_law_16 (by decide) ?_
  refine hx_newa (ty := .long) (a0 := (1, .inr (.inl (fun _ => 0)))) (N' := 1) hx hb hts tw_arrayClass_long rfl hw (fun _ => rfl) (by decide) (by decide) (by decide) (Nat.le_of_ble_eq_true rfl) (Nat.le_of_ble_eq_true rfl) dL_law_17 (fun qo cO H hw => ?_)
  refine W.widen (k := 23) (n := 1034) (Nat.le_of_ble_eq_true rfl) (Nat.le_of_ble_eq_true rfl) ?_
  refine lv_astore_n (lv' := [(3, .ref qo), (2, .ref h9), (1, .ref h0), (0, .ref b)]) hx hb dL_law_19 rfl hl (by decide) rfl (fun ls hl => ?_)
  refine lv_iconst (v := 0) hx hb dL_law_20 (by decide) ?_
  refine lv_istore (lv' := [(4, .int 0), (3, .ref qo), (2, .ref h9), (1, .ref h0), (0, .ref b)]) hx hb dL_law_21 hl (by decide) rfl (fun ls hl => ?_)
  have hw : hW (dC, dI) (ll_T cp cd cA cO) (fun q : Nat => s.heap.size ≤ q) s H locs (ll_W h0 g1 g2 rp rd cp cd h9 r cA qo cO pf0 az0 nf0 az0 sz0 pf0 az0 sz0 sz0) := hw
  exact ll_loop hl0 X hL 514 0 pf0 az0 nf0 az0 sz0 pf0 az0 sz0 sz0 H locs ls 0 23 1034 (by decide) (by decide) (by decide) rfl rfl rl_0 hw (lv_sub hl [4, 3, 2, 1, 0] rfl)
