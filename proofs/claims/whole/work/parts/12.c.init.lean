theorem gw_I {y : MethodName} {bytes : ByteArray} {maxL : Nat} {ret : Option FieldType} (h : Cond.code y bytes maxL ret ∈ bw) : GoodIn bw (Cond.code y bytes maxL ret :: bw) := by
  intro w hw
  rcases List.mem_cons.mp hw with rfl | hw
  · exact bw_good h
  · exact bw_good hw
section CT
variable {p : Program} {l : Launch} {e : Env} {R : Room} {s : State} {m : MethodId} {args : Array Value} {below : List Frame} {meth : Method} {c : Code} {H : Heap} {locs : List Loc} {cells slots : Nat} {Q : State → Prop}
variable {cc : ByteArray} {pc : Nat} {ls : Array Slot} {rest : List Value} {D : va_G} {tys : List (ClassId × FieldType)} {Rg : Nat → Prop} {ws wr : va_W}
theorem hx_new (hx : p.tables.exec = Jvm.exec) (hb : c.code = cc) (hts : ∀ w ∈ bw, w.before args s = true) {own CL : String} {T : u_T} {N ci index : Nat} (hin : ∀ w ∈ u_ws CL T N, w ∈ bw) (ty : Nat → FieldType) (hty : ∀ k, k < N → parseFieldDescriptor (T k).2.2.1 = some (ty k)) (hown : s.vm.findClass own = some m.cls) (hcl : Cond.classLink own index CL ∈ bw) (hinst : Cond.instantiable CL N ∈ bw) (hini : Cond.initialized CL ∈ bw)
    (hw : hW D tys Rg s H locs ws) (hc : vwCl[ci]? = some (CL, T, N)) {fs : List Value} (hfs : ∀ j, j < N → defaultValue (ty j) = vp_V fs j) (hcells : cells + 1 ≤ R.cells) (hslots : slots + N ≤ R.slots) (hdg : decode cc pc = .ok (.new index, 3))
    (kk : ∀ (q : Nat) (H : Heap), hW D tys Rg s H locs (ws ++ [(q, .inr (ci, fs))]) → W p l e R s m args below meth c H locs (cells + 1) (slots + N) Q (F0 m (pc + 3) ls (.ref q :: rest))) : W p l e R s m args below meth c H locs cells slots Q (F0 m pc ls rest) := by
  obtain ⟨hP, hD, hS, hK, hA⟩ := hw
  exact va_new hx hb hts hin ty hty hown (hts _ hcl) (hts _ hinst) (hts _ hini) hK hP hD hS hA hc hfs hcells hslots hdg (fun q H1 hP hD hS => kk q H1 ⟨hP, hD, hS, hK, hA⟩)
/-- a constructor's call: its cell is the last of this world; what it leaves goes behind the rest -/
theorem hx_ctor {S : Type} {Tf : S → List (ClassId × FieldType)} {Wf : S → va_W} {y : MethodName} {bytes : ByteArray} {maxL n index a ci mc ms : Nat} {rt : Option FieldType} {rm : Room} {own : String} {st0 fs : List Value} (isC isR : List Nat)
    (C : bx_C p s m args meth c cc n rt own) (hM : ∀ sz, Met l y (Cond.code y bytes maxL none :: bw) rm (hPc [.ref a] D [] [(a, .inr (ci, fs))] sz (fun _ => True)) (va_Qv (fun _ : S => True) (fun u t => va_P D vwCl (Wf u) t.heap ∧ va_K D vwCl (Tf u) t ∧ va_D (va_A [(a, .inr (ci, fs))] sz) (Wf u)) (va_A [(a, .inr (ci, fs))] sz)) mc ms (va_A [(a, .inr (ci, fs))] sz))
    (hw : hW D tys Rg s H locs ws) (hC : isC.map (fun i => ws[i]?) = ([(a, .inr (ci, fs))] : va_W).map some) (hC2 : isC.filterMap (fun i => ws[i]?) = [(a, .inr (ci, fs))]) (hC3 : va_nd isC = true) (hRr : isR.map (fun i => ws[i]?) = wr.map some) (hRn : va_nd isR = true) (hdis : ∀ i ∈ isR, i ∉ isC)
    (hk : Cond.methodLink own index y ∈ bw) (hcode : Cond.code y bytes maxL none ∈ bw) (hini : Cond.initialized y.cls ∈ bw) (hinst : Cond.instanceMethod y ∈ bw) (hy1 : y.name = "<init>") (hd : y.cls ≠ "java/lang/invoke/MethodHandle" ∧ y.cls ≠ "java/lang/invoke/VarHandle" ∧ (parseMethodDescriptor y.desc).map (fun d => d.parameters.length) = some 0) (hrc : rm.cells = mc ∧ rm.slots = ms)
    (hR : rm.frames + 1 ≤ R.frames ∧ 8 + (maxL + 11) + rm.locals ≤ R.locals) (hcs : cells + mc ≤ R.cells ∧ slots + ms ≤ R.slots) (hl : ls.size = n) (hst : st0 = .ref a :: rest) (hWd : (rest.map fun v => v.category).sum ≤ 8) (hdg : decode cc pc = .ok (.invokespecial index, 3))
    (k : ∀ (u : S) (H : Heap) (locs : List Loc), hW D (tys ++ Tf u) Rg s H locs (wr ++ Wf u) → W p l e R s m args below meth c H locs (cells + mc) (slots + ms) Q (F0 m (pc + 3) ls rest)) : W p l e R s m args below meth c H locs cells slots Q (F0 m pc ls st0) := by
  obtain ⟨hx, hb, hml, -, -, hown, hts⟩ := C
  have hFc := hw_fr hw isC hC
  obtain ⟨hP, hD, hS, hK, hA⟩ := hw
  have hPc := hP.sub isC hC2
  have hDc := hD.sub isC hC3 hC
  have hKc := hK.sub (tys' := []) [] rfl
  refine va_callv (va_runI (nL := n) (As := []) (rest := rest) (Ts := bw) (n := 0) ⟨hx, hb, hml, hown, hts⟩ (hM H.size) (cwI 0 hts (gw_I hcode) rfl hrc.1 hrc.2 (hts _ hini) (hts _ hk) (hts _ hinst) hy1 hd hR) ⟨fun a U g mk q => ⟨q.1, ⟨q.2.1.1, q.2.1.2.1, va_K.moved (u := U) (U := U.calling g mk a) (Vm.Alike.refl U.vm) q.2.1.2.2.1, q.2.1.2.2.2⟩, trivial⟩, fun U hU hW => ⟨rfl, ⟨by rw [hU], by rw [hU]; exact hPc, va_K.moved hW.alike hKc, hDc.weaken (fun _ _ _ _ => trivial)⟩, trivial⟩⟩ rfl rfl hl hst (lv_room hWd) hdg hcs) hS (fun q _ h => hFc q h) hFc (fun u t H1 locs1 ht hvm _ hB hz1 hk1 hS1 => ?_)
  obtain ⟨hP1, hK1, hD1⟩ := hB
  rw [ht] at hP1
  have hK1 := va_K.moved hvm.symm hK1
  obtain ⟨hP2, hD2⟩ := va_join (wr := wr) (w1 := Wf u) hP hD isC isR hC hRr hRn hdis hk1 hFc hP1 hD1
  exact k u H1 locs1 ⟨hP2, hD2, hS1, hK.app hK1, hA⟩
end CT
abbrev gl_S : Type := Nat × Nat × (Nat → Nat) × (Nat → Nat) × (Nat → ClassId) × (Nat → ClassId)
def gl_in (h0 : Nat) (u : gl_S) : va_W := gl_W h0 u.1 u.2.1 u.2.2.1 u.2.2.2.1 u.2.2.2.2.1 u.2.2.2.2.2 pf0 az0 nf0 az0 sz0
def gl_inT (u : gl_S) : List (ClassId × FieldType) := gl_T u.2.2.2.2.1 u.2.2.2.2.2
theorem in_Q_eq (D : va_G) (Tf : (Nat → ClassId) → List (ClassId × FieldType)) (Wf : (Nat → Nat) → (Nat → ClassId) → va_W) (Rg : Nat → Prop) : in_Q D Tf Wf Rg = va_Qv (fun _ : (Nat → Nat) × (Nat → ClassId) => True) (fun u t => va_P D vwCl (Wf u.1 u.2) t.heap ∧ va_K D vwCl (Tf u.2) t ∧ va_D Rg (Wf u.1 u.2)) Rg := rfl
abbrev rmX4_init : Room := { frames := 2, cells := 10, slots := 318, locals := 60 }
set_option maxRecDepth 20000 in
theorem kX4_init (l : Launch) (dC : Nat → ClassId) (dI : Nat → Nat → Nat) (h0 sz : Nat) : Met l yX4_init (Cond.code yX4_init cX4_init 1 none :: bw) rmX4_init (hPc [.ref h0] (dC, dI) [] [(h0, .inr (5, [.null, .null]))] sz (fun _ => True)) (va_Qv (fun _ : gl_S => True) (fun u t => va_P (dC, dI) vwCl (gl_in h0 u) t.heap ∧ va_K (dC, dI) vwCl (gl_inT u) t ∧ va_D (va_A [(h0, .inr (5, [.null, .null]))] sz) (gl_in h0 u)) (va_A [(h0, .inr (5, [.null, .null]))] sz)) 10 318 (va_A [(h0, .inr (5, [.null, .null]))] sz) := by
  refine hx_entN (by decide) _ _ (Nat.le_of_ble_eq_true rfl) rfl ?_
  intro p e s m below meth c ls C hin hl hw hsz _
  obtain ⟨hx, hb, hml, hr, hlocks, hown, hts⟩ := id C
  generalize hgl : ([] : List Loc) = locs at hw ⊢
  refine lv_aload_n hx hb dX4_init_0 rfl (lv_at hl 0 rfl) ?_
  refine W.objInit hx hb hown (hts _ tw_methodLink_RX4_1_objectInit) (hts _ tw_instanceMethod_objectInit) (hts _ tw_code_objectInit) rfl (by rw [hml]; exact hl.1) rfl dX4_init_1 (Nat.le_of_ble_eq_true rfl) (Nat.le_of_ble_eq_true rfl) ?_
  refine W.eq (g2 := F0 m 4 ls []) rfl ?_
  refine lv_aload_n hx hb dX4_init_4 rfl (lv_at hl 0 rfl) ?_
  refine hx_new (ci := 4) (fs := [.null, .null, .null, .null, .null, .null, .int 0, .int 0]) hx hb hts inX3 tyX3 tyX3_ok hown tw_classLink_RX4_7_RX3 tw_instantiable_RX3_8 tw_initialized_RX3 hw rfl (fun j hj => by rcases (show j = 0 ∨ j = 1 ∨ j = 2 ∨ j = 3 ∨ j = 4 ∨ j = 5 ∨ j = 6 ∨ j = 7 by omega) with rfl | rfl | rfl | rfl | rfl | rfl | rfl | rfl <;> rfl) (Nat.le_of_ble_eq_true rfl) (Nat.le_of_ble_eq_true rfl) dX4_init_5 (fun g1 H hw => ?_)
  refine W.widen (k := 1) (n := 8) (Nat.le_of_ble_eq_true rfl) (Nat.le_of_ble_eq_true rfl) ?_
  refine lv_dup hx hb dX4_init_8 rfl ?_
  refine hx_ctor (wr := [(h0, .inr (5, [.null, .null]))]) (S := (Nat → Nat) × (Nat → ClassId)) (Tf := fun u => pg_T u.2) (Wf := fun u => pg_W g1 u.1 u.2 pf0 az0) [1] [0] C (fun z => kX3_init l dC dI g1 z) hw rfl rfl rfl rfl rfl (by decide) tw_methodLink_RX4_9_yX3_init tw_code_yX3_init tw_initialized_RX3 tw_instanceMethod_yX3_init rfl (by decide +kernel) ⟨rfl, rfl⟩ ⟨Nat.le_of_ble_eq_true rfl, Nat.le_of_ble_eq_true rfl⟩ ⟨Nat.le_of_ble_eq_true rfl, Nat.le_of_ble_eq_true rfl⟩ hl.1 rfl (Nat.le_of_ble_eq_true rfl) dX4_init_9 (fun u H locs hw => ?_)
  obtain ⟨rp, cp⟩ := u
  refine W.widen (k := 7) (n := 224) (Nat.le_of_ble_eq_true rfl) (Nat.le_of_ble_eq_true rfl) ?_
  have hw : hW (dC, dI) (pg_T cp) (va_A [(h0, .inr (5, [.null, .null]))] sz) s H locs ((h0, .inr (5, [.null, .null])) :: pg_W g1 rp cp pf0 az0) := hw
  refine hx_putF (ws' := (h0, .inr (5, [.ref g1, .null])) :: pg_W g1 rp cp pf0 az0) (ty := .object "GlulxFloats$Program") hx hb hts inX4 tyX4 tyX4_ok nmX4 hown hw 0 rfl rfl 0 (by decide) tw_fieldLink_RX4_10_GlulxFloats_program_LGlulxFloats_Program rfl rfl hin rfl (by decide +kernel) rfl rfl (Nat.le_of_ble_eq_true rfl) dX4_init_12 rfl (fun H locs hw => ?_)
  refine lv_aload_n hx hb dX4_init_15 rfl (lv_at hl 0 rfl) ?_
  refine hx_new (ci := 2) (fs := [.null, .int 0, .null]) hx hb hts inX1 tyX1 tyX1_ok hown tw_classLink_RX4_16_RX1 tw_instantiable_RX1_3 tw_initialized_RX1 hw rfl (fun j hj => by rcases (show j = 0 ∨ j = 1 ∨ j = 2 by omega) with rfl | rfl | rfl <;> rfl) (Nat.le_of_ble_eq_true rfl) (Nat.le_of_ble_eq_true rfl) dX4_init_16 (fun g2 H hw => ?_)
  refine W.widen (k := 8) (n := 227) (Nat.le_of_ble_eq_true rfl) (Nat.le_of_ble_eq_true rfl) ?_
  refine lv_dup hx hb dX4_init_19 rfl ?_
  refine hx_ctor (wr := (h0, .inr (5, [.ref g1, .null])) :: pg_W g1 rp cp pf0 az0) (S := (Nat → Nat) × (Nat → ClassId)) (Tf := fun u => dg_T u.2) (Wf := fun u => dg_W g2 u.1 u.2 nf0 az0 sz0) [8] [0, 1, 2, 3, 4, 5, 6, 7] C (fun z => kX1_init l dC dI g2 z) hw rfl rfl rfl rfl rfl (by decide) tw_methodLink_RX4_18_yX1_init tw_code_yX1_init tw_initialized_RX1 tw_instanceMethod_yX1_init rfl (by decide +kernel) ⟨rfl, rfl⟩ ⟨Nat.le_of_ble_eq_true rfl, Nat.le_of_ble_eq_true rfl⟩ ⟨Nat.le_of_ble_eq_true rfl, Nat.le_of_ble_eq_true rfl⟩ hl.1 rfl (Nat.le_of_ble_eq_true rfl) dX4_init_20 (fun u H locs hw => ?_)
  obtain ⟨rd, cd⟩ := u
  refine W.widen (k := 10) (n := 318) (Nat.le_of_ble_eq_true rfl) (Nat.le_of_ble_eq_true rfl) ?_
  refine hx_putF (ws' := gl_W h0 g1 g2 rp rd cp cd pf0 az0 nf0 az0 sz0) (ty := .object "GlulxFloats$Digits") hx hb hts inX4 tyX4 tyX4_ok nmX4 hown hw 0 rfl rfl 1 (by decide) tw_fieldLink_RX4_19_GlulxFloats_digits_LGlulxFloats_Digits rfl rfl hin rfl (by decide +kernel) rfl rfl (Nat.le_of_ble_eq_true rfl) dX4_init_23 rfl (fun H locs hw => ?_)
  exact W.vret hx hb hr (fun t ht hWt => ⟨⟨(g1, g2, rp, rd, cp, cd), rfl, trivial, by rw [ht]; exact hw.1, va_K.moved hWt.alike hw.2.2.2.1, hw.2.1⟩, hw.2.2.1.F ht⟩) hw.2.2.1.2.2 dX4_init_26 hlocks
