/-! ===== OWN ROWS: what every walk uses ===== -/
/-- what a body knows of the machine and of its own method -/
def bx_C (p : Program) (s : State) (m : MethodId) (args : Array Value) (meth : Method) (c : Code) (cc : ByteArray) (n : Nat) (rt : Option FieldType) (own : String) : Prop :=
  p.tables.exec = Jvm.exec ∧ c.code = cc ∧ c.maxLocals = n ∧ meth.sig.returnType = rt ∧ meth.locks = false ∧ s.vm.findClass own = some m.cls ∧ ∀ w ∈ bw, w.before args s = true
theorem bw_good {w : Cond} (h : w ∈ bw) : w ∈ bw ∧ ((w.onTables && w.keeps) = true ∨ ∃ ty, w = .arrayClass ty) := ⟨h, good_of_word (List.mem_filter.mp h).2⟩
/-- the words that a call of a static method, of an object's method, wants -/
def mb_S (y : MethodName) (bytes : ByteArray) (maxL : Nat) (ret : Option FieldType) (n : Nat) : Prop := Cond.static y ∈ bw ∧ Cond.initialized y.cls ∈ bw ∧ Cond.code y bytes maxL ret ∈ bw ∧ y.cls ≠ "java/lang/invoke/MethodHandle" ∧ y.cls ≠ "java/lang/invoke/VarHandle" ∧ (parseMethodDescriptor y.desc).map (fun d => d.parameters.length) = some n
def mb_V (C : String) (y : MethodName) (bytes : ByteArray) (maxL : Nat) (ret : Option FieldType) (n : Nat) : Prop := (Cond.instanceMethod y ∈ bw ∧ Cond.selects C y y ∈ bw ∧ Cond.initialized C ∈ bw ∧ Cond.code y bytes maxL ret ∈ bw) ∧ y.cls = C ∧ y.cls ≠ "java/lang/invoke/MethodHandle" ∧ y.cls ≠ "java/lang/invoke/VarHandle" ∧ (parseMethodDescriptor y.desc).map (fun d => d.parameters.length) = some n
theorem gw_S {own : String} {index maxL n : Nat} {y : MethodName} {bytes : ByteArray} {ret : Option FieldType} (hk : Cond.methodLink own index y ∈ bw) (h : mb_S y bytes maxL ret n) : GoodIn bw (va_wsS own index y (Cond.code y bytes maxL ret :: bw)) := by
  intro w hw
  obtain ⟨h1, h2, h3, -⟩ := h
  simp only [va_wsS, List.mem_append, List.mem_cons, List.not_mem_nil, or_false] at hw
  rcases hw with (rfl | rfl | rfl) | rfl | hw
  · exact bw_good hk
  · exact bw_good h1
  · exact bw_good h2
  · exact bw_good h3
  · exact bw_good hw
theorem gw_V {own C : String} {index maxL n : Nat} {y : MethodName} {bytes : ByteArray} {ret : Option FieldType} (hk : Cond.methodLink own index y ∈ bw) (h : mb_V C y bytes maxL ret n) : GoodIn bw (wsV own index C y (Cond.code y bytes maxL ret :: bw)) := by
  intro w hw
  obtain ⟨⟨h1, h2, h3, h4⟩, -⟩ := h
  simp only [wsV, List.mem_append, List.mem_cons, List.not_mem_nil, or_false] at hw
  rcases hw with (rfl | rfl | rfl | rfl) | rfl | hw
  · exact bw_good hk
  · exact bw_good h1
  · exact bw_good h2
  · exact bw_good h3
  · exact bw_good h4
  · exact bw_good hw
/-- a fact that the heap and the tables alone decide -/
def bx_B (K : State → Prop) : Prop := ∀ U T : State, T.heap = U.heap → U.vm.Alike T.vm → K U → K T
theorem bx_B_true : bx_B (fun _ => True) := fun _ _ _ _ _ => trivial
/-- an object of kind C lies at a -/
def ob_K (C : String) (a : Nat) (U : State) : Prop := ∃ cell : Cell, U.heap[a]? = some cell ∧ cell.vm.isStatics = false ∧ U.vm.findClass C = some cell.cls
theorem ob_B (C : String) (a : Nat) : bx_B (ob_K C a) := by
  intro U T hh hv h
  obtain ⟨cell, h1, h2, h3⟩ := h
  exact ⟨cell, by rw [hh]; exact h1, h2, by rw [hv.findClass]; exact h3⟩
/-- Java's shifts and rests -/
def ji_shl (x y : Int32) : Int32 := x <<< (y &&& 31)
def ji_shr (x y : Int32) : Int32 := x >>> (y &&& 31)
def ji_ushr (x y : Int32) : Int32 := (x.toUInt32 >>> (y.toUInt32 &&& Int32.toUInt32 31)).toInt32
def jl_shl (x : Int64) (y : Int32) : Int64 := x <<< (y.toInt64 &&& 63)
def jl_shr (x : Int64) (y : Int32) : Int64 := x >>> (y.toInt64 &&& 63)
def jl_ushr (x : Int64) (y : Int32) : Int64 := (x.toUInt64 >>> (y.toInt64.toUInt64 &&& Int64.toUInt64 63)).toInt64
def ji_rem (x y : Int32) : Int32 := x - x / y * y
def jl_rem (x y : Int64) : Int64 := x - x / y * y
def ji_max (x y : Int32) : Int32 := if x < y then y else x
def ji_min (x y : Int32) : Int32 := if y < x then y else x
def jl_max (x y : Int64) : Int64 := if y < x then x else y
def jl_min (x y : Int64) : Int64 := if y < x then y else x
def jl_abs (x : Int64) : Int64 := if 0 < x then x else -x
def ji_byte (x : Int32) : Int32 := x.toInt8.toInt32
section BX
variable {p : Program} {l : Launch} {e : Env} {R : Room} {s : State} {m : MethodId} {args : Array Value} {below : List Frame} {meth : Method} {c : Code} {H : Heap} {locs : List Loc} {cells slots : Nat} {Q : State → Prop}
variable {cc : ByteArray} {pc : Nat} {ls : Array Slot} {rest : List Value}
theorem bx_ishl (hexec : p.tables.exec = Jvm.exec) (hb : c.code = cc) {x y : Int32} (hdg : decode cc pc = .ok (.ishl, 1)) (k : W p l e R s m args below meth c H locs cells slots Q (F0 m (pc + 1) ls (.int (ji_shl x y) :: rest))) : W p l e R s m args below meth c H locs cells slots Q (F0 m pc ls (.int y :: .int x :: rest)) := lv_ishl hexec hb hdg k
theorem bx_ishr (hexec : p.tables.exec = Jvm.exec) (hb : c.code = cc) {x y : Int32} (hdg : decode cc pc = .ok (.ishr, 1)) (k : W p l e R s m args below meth c H locs cells slots Q (F0 m (pc + 1) ls (.int (ji_shr x y) :: rest))) : W p l e R s m args below meth c H locs cells slots Q (F0 m pc ls (.int y :: .int x :: rest)) := lv_ishr hexec hb hdg k
theorem bx_iushr (hexec : p.tables.exec = Jvm.exec) (hb : c.code = cc) {x y : Int32} (hdg : decode cc pc = .ok (.iushr, 1)) (k : W p l e R s m args below meth c H locs cells slots Q (F0 m (pc + 1) ls (.int (ji_ushr x y) :: rest))) : W p l e R s m args below meth c H locs cells slots Q (F0 m pc ls (.int y :: .int x :: rest)) := lv_iushr hexec hb hdg rfl k
theorem bx_lshl (hexec : p.tables.exec = Jvm.exec) (hb : c.code = cc) {x : Int64} {y : Int32} (hdg : decode cc pc = .ok (.lshl, 1)) (k : W p l e R s m args below meth c H locs cells slots Q (F0 m (pc + 1) ls (.long (jl_shl x y) :: rest))) : W p l e R s m args below meth c H locs cells slots Q (F0 m pc ls (.int y :: .long x :: rest)) := lv_lshl hexec hb hdg rfl k
theorem bx_lshr (hexec : p.tables.exec = Jvm.exec) (hb : c.code = cc) {x : Int64} {y : Int32} (hdg : decode cc pc = .ok (.lshr, 1)) (k : W p l e R s m args below meth c H locs cells slots Q (F0 m (pc + 1) ls (.long (jl_shr x y) :: rest))) : W p l e R s m args below meth c H locs cells slots Q (F0 m pc ls (.int y :: .long x :: rest)) := lv_lshr hexec hb hdg rfl k
theorem bx_lushr (hexec : p.tables.exec = Jvm.exec) (hb : c.code = cc) {x : Int64} {y : Int32} (hdg : decode cc pc = .ok (.lushr, 1)) (k : W p l e R s m args below meth c H locs cells slots Q (F0 m (pc + 1) ls (.long (jl_ushr x y) :: rest))) : W p l e R s m args below meth c H locs cells slots Q (F0 m pc ls (.int y :: .long x :: rest)) := lv_lushr hexec hb hdg rfl k
theorem bx_irem (hexec : p.tables.exec = Jvm.exec) (hb : c.code = cc) {x y : Int32} (hdg : decode cc pc = .ok (.irem, 1)) (hne : ¬ y = 0) (k : W p l e R s m args below meth c H locs cells slots Q (F0 m (pc + 1) ls (.int (ji_rem x y) :: rest))) : W p l e R s m args below meth c H locs cells slots Q (F0 m pc ls (.int y :: .int x :: rest)) := lv_irem hexec hb hdg hne k
theorem bx_lrem (hexec : p.tables.exec = Jvm.exec) (hb : c.code = cc) {x y : Int64} (hdg : decode cc pc = .ok (.lrem, 1)) (hne : ¬ y = 0) (k : W p l e R s m args below meth c H locs cells slots Q (F0 m (pc + 1) ls (.long (jl_rem x y) :: rest))) : W p l e R s m args below meth c H locs cells slots Q (F0 m pc ls (.long y :: .long x :: rest)) := lv_lrem hexec hb hdg hne k
theorem bx_i2l (hexec : p.tables.exec = Jvm.exec) (hb : c.code = cc) {x : Int32} (hdg : decode cc pc = .ok (.i2l, 1)) (k : W p l e R s m args below meth c H locs cells slots Q (F0 m (pc + 1) ls (.long x.toInt64 :: rest))) : W p l e R s m args below meth c H locs cells slots Q (F0 m pc ls (.int x :: rest)) := lv_i2l hexec hb hdg rfl k
theorem bx_l2i (hexec : p.tables.exec = Jvm.exec) (hb : c.code = cc) {x : Int64} (hdg : decode cc pc = .ok (.l2i, 1)) (k : W p l e R s m args below meth c H locs cells slots Q (F0 m (pc + 1) ls (.int x.toInt32 :: rest))) : W p l e R s m args below meth c H locs cells slots Q (F0 m pc ls (.long x :: rest)) := lv_l2i hexec hb hdg rfl k
theorem bx_i2b (hexec : p.tables.exec = Jvm.exec) (hb : c.code = cc) {x : Int32} (hdg : decode cc pc = .ok (.i2b, 1)) (k : W p l e R s m args below meth c H locs cells slots Q (F0 m (pc + 1) ls (.int (ji_byte x) :: rest))) : W p l e R s m args below meth c H locs cells slots Q (F0 m pc ls (.int x :: rest)) := lv_i2b hexec hb hdg rfl k
/-- lcmp and the branch behind it -/
theorem bx_lc_eq (hexec : p.tables.exec = Jvm.exec) (hb : c.code = cc) {x y : Int64} {off : Int} {tgt : Nat} (hd0 : decode cc pc = .ok (.lcmp, 1)) (hdg : decode cc (pc + 1) = .ok (.ifCond .eq off, 3)) (ht : ((pc + 1 : Nat) : Int) + off = (tgt : Int))
    (kt : x = y → W p l e R s m args below meth c H locs cells slots Q (F0 m tgt ls rest)) (kf : ¬ x = y → W p l e R s m args below meth c H locs cells slots Q (F0 m (pc + 4) ls rest)) : W p l e R s m args below meth c H locs cells slots Q (F0 m pc ls (.long y :: .long x :: rest)) :=
  W.lcmp hexec hb hd0 (lv_if_eq hexec hb hdg ht (fun h => kt ((lg_cmp_eq x y).mp h)) (fun h => kf (fun q => h ((lg_cmp_eq x y).mpr q))))
theorem bx_lc_ne (hexec : p.tables.exec = Jvm.exec) (hb : c.code = cc) {x y : Int64} {off : Int} {tgt : Nat} (hd0 : decode cc pc = .ok (.lcmp, 1)) (hdg : decode cc (pc + 1) = .ok (.ifCond .ne off, 3)) (ht : ((pc + 1 : Nat) : Int) + off = (tgt : Int))
    (kt : ¬ x = y → W p l e R s m args below meth c H locs cells slots Q (F0 m tgt ls rest)) (kf : x = y → W p l e R s m args below meth c H locs cells slots Q (F0 m (pc + 4) ls rest)) : W p l e R s m args below meth c H locs cells slots Q (F0 m pc ls (.long y :: .long x :: rest)) :=
  W.lcmp hexec hb hd0 (lv_if_ne hexec hb hdg ht (fun h => kt (fun q => h ((lg_cmp_eq x y).mpr q))) (fun h => kf ((lg_cmp_eq x y).mp h)))
theorem bx_lc_lt (hexec : p.tables.exec = Jvm.exec) (hb : c.code = cc) {x y : Int64} {off : Int} {tgt : Nat} (hd0 : decode cc pc = .ok (.lcmp, 1)) (hdg : decode cc (pc + 1) = .ok (.ifCond .lt off, 3)) (ht : ((pc + 1 : Nat) : Int) + off = (tgt : Int))
    (kt : x < y → W p l e R s m args below meth c H locs cells slots Q (F0 m tgt ls rest)) (kf : ¬ x < y → W p l e R s m args below meth c H locs cells slots Q (F0 m (pc + 4) ls rest)) : W p l e R s m args below meth c H locs cells slots Q (F0 m pc ls (.long y :: .long x :: rest)) :=
  W.lcmp hexec hb hd0 (lv_if_lt hexec hb hdg ht (fun h => kt ((lg_cmp_lt x y).mp h)) (fun h => kf (fun q => h ((lg_cmp_lt x y).mpr q))))
theorem bx_lc_ge (hexec : p.tables.exec = Jvm.exec) (hb : c.code = cc) {x y : Int64} {off : Int} {tgt : Nat} (hd0 : decode cc pc = .ok (.lcmp, 1)) (hdg : decode cc (pc + 1) = .ok (.ifCond .ge off, 3)) (ht : ((pc + 1 : Nat) : Int) + off = (tgt : Int))
    (kt : y ≤ x → W p l e R s m args below meth c H locs cells slots Q (F0 m tgt ls rest)) (kf : ¬ y ≤ x → W p l e R s m args below meth c H locs cells slots Q (F0 m (pc + 4) ls rest)) : W p l e R s m args below meth c H locs cells slots Q (F0 m pc ls (.long y :: .long x :: rest)) :=
  W.lcmp hexec hb hd0 (lv_if_ge hexec hb hdg ht (fun h => kt ((lg_cmp_ge x y).mp h)) (fun h => kf (fun q => h ((lg_cmp_ge x y).mpr q))))
theorem bx_lc_gt (hexec : p.tables.exec = Jvm.exec) (hb : c.code = cc) {x y : Int64} {off : Int} {tgt : Nat} (hd0 : decode cc pc = .ok (.lcmp, 1)) (hdg : decode cc (pc + 1) = .ok (.ifCond .gt off, 3)) (ht : ((pc + 1 : Nat) : Int) + off = (tgt : Int))
    (kt : y < x → W p l e R s m args below meth c H locs cells slots Q (F0 m tgt ls rest)) (kf : ¬ y < x → W p l e R s m args below meth c H locs cells slots Q (F0 m (pc + 4) ls rest)) : W p l e R s m args below meth c H locs cells slots Q (F0 m pc ls (.long y :: .long x :: rest)) :=
  W.lcmp hexec hb hd0 (lv_if_gt hexec hb hdg ht (fun h => kt ((lg_cmp_gt x y).mp h)) (fun h => kf (fun q => h ((lg_cmp_gt x y).mpr q))))
theorem bx_lc_le (hexec : p.tables.exec = Jvm.exec) (hb : c.code = cc) {x y : Int64} {off : Int} {tgt : Nat} (hd0 : decode cc pc = .ok (.lcmp, 1)) (hdg : decode cc (pc + 1) = .ok (.ifCond .le off, 3)) (ht : ((pc + 1 : Nat) : Int) + off = (tgt : Int))
    (kt : x ≤ y → W p l e R s m args below meth c H locs cells slots Q (F0 m tgt ls rest)) (kf : ¬ x ≤ y → W p l e R s m args below meth c H locs cells slots Q (F0 m (pc + 4) ls rest)) : W p l e R s m args below meth c H locs cells slots Q (F0 m pc ls (.long y :: .long x :: rest)) :=
  W.lcmp hexec hb hd0 (lv_if_le hexec hb hdg ht (fun h => kt ((lg_cmp_le x y).mp h)) (fun h => kf (fun q => h ((lg_cmp_le x y).mpr q))))
/-- the value on top in another form -/
theorem bx_as {v0 v : Value} (h : v0 = v) (k : W p l e R s m args below meth c H locs cells slots Q (F0 m pc ls (v :: rest))) : W p l e R s m args below meth c H locs cells slots Q (F0 m pc ls (v0 :: rest)) := h ▸ k
/-- a call of a static method that leaves the heap as it is -/
theorem bx_si {y : MethodName} {bytes : ByteArray} {maxL n nA index : Nat} {ret rt : Option FieldType} {rm : Room} {own : String} {As : List Value} {K : State → Prop} {v : Int32} {st0 : List Value}
    (C : bx_C p s m args meth c cc n rt own) (hM : Met l y (Cond.code y bytes maxL ret :: bw) rm (va_Pc As K) (vp_Si (fun r => r = v)) 0 0 (fun _ => False)) (hB : bx_B K) (hKH : ∀ U : State, U.heap = H → s.vm.Alike U.vm → K U)
    (hk : Cond.methodLink own index y ∈ bw) (hmb : mb_S y bytes maxL ret nA) (hn : As.length = nA) (hrc : rm.cells = 0 ∧ rm.slots = 0)
    (hR : rm.frames + 1 ≤ R.frames ∧ 8 + (maxL + 11) + rm.locals ≤ R.locals) (hcs : cells ≤ R.cells ∧ slots ≤ R.slots) (hl : ls.size = n) (hst : st0 = As.reverse ++ rest) (hW : (rest.map fun v => v.category).sum ≤ 8) (hdg : decode cc pc = .ok (.invokestatic index, 3))
    (k : W p l e R s m args below meth c H locs cells slots Q (F0 m (pc + 3) ls (.int v :: rest))) : W p l e R s m args below meth c H locs cells slots Q (F0 m pc ls st0) := by
  obtain ⟨hx, hb, hml, -, -, hown, hts⟩ := C
  refine vp_callSi (W.runS (nL := n) (As := As) (rest := rest) (Ts := bw) (n := nA) ⟨hx, hb, hml, hown, hts⟩ hM (va_cwS nA hts (gw_S hk hmb) rfl hrc.1 hrc.2 hmb.2.2.2 hR) ⟨fun a U g mk q => ⟨q.1, hB U _ rfl (Vm.Alike.refl U.vm) q.2⟩, fun U hU hW => ⟨rfl, hKH U hU hW.alike⟩⟩ rfl hn hl hst (lv_room hW) hdg hcs) (fun r hr => ?_)
  subst hr
  exact k
theorem bx_sl {y : MethodName} {bytes : ByteArray} {maxL n nA index : Nat} {ret rt : Option FieldType} {rm : Room} {own : String} {As : List Value} {K : State → Prop} {v : Int64} {st0 : List Value}
    (C : bx_C p s m args meth c cc n rt own) (hM : Met l y (Cond.code y bytes maxL ret :: bw) rm (va_Pc As K) (vp_Sl (fun r => r = v)) 0 0 (fun _ => False)) (hB : bx_B K) (hKH : ∀ U : State, U.heap = H → s.vm.Alike U.vm → K U)
    (hk : Cond.methodLink own index y ∈ bw) (hmb : mb_S y bytes maxL ret nA) (hn : As.length = nA) (hrc : rm.cells = 0 ∧ rm.slots = 0)
    (hR : rm.frames + 1 ≤ R.frames ∧ 8 + (maxL + 11) + rm.locals ≤ R.locals) (hcs : cells ≤ R.cells ∧ slots ≤ R.slots) (hl : ls.size = n) (hst : st0 = As.reverse ++ rest) (hW : (rest.map fun v => v.category).sum ≤ 8) (hdg : decode cc pc = .ok (.invokestatic index, 3))
    (k : W p l e R s m args below meth c H locs cells slots Q (F0 m (pc + 3) ls (.long v :: rest))) : W p l e R s m args below meth c H locs cells slots Q (F0 m pc ls st0) := by
  obtain ⟨hx, hb, hml, -, -, hown, hts⟩ := C
  refine vp_callSl (W.runS (nL := n) (As := As) (rest := rest) (Ts := bw) (n := nA) ⟨hx, hb, hml, hown, hts⟩ hM (va_cwS nA hts (gw_S hk hmb) rfl hrc.1 hrc.2 hmb.2.2.2 hR) ⟨fun a U g mk q => ⟨q.1, hB U _ rfl (Vm.Alike.refl U.vm) q.2⟩, fun U hU hW => ⟨rfl, hKH U hU hW.alike⟩⟩ rfl hn hl hst (lv_room hW) hdg hcs) (fun r hr => ?_)
  subst hr
  exact k
/-- a call of an object's method that leaves the heap as it is -/
theorem bx_vi {y : MethodName} {bytes : ByteArray} {maxL n nA index a : Nat} {ret rt : Option FieldType} {rm : Room} {own CL : String} {As : List Value} {K : State → Prop} {v : Int32} {st0 : List Value}
    (C : bx_C p s m args meth c cc n rt own) (hM : Met l y (Cond.code y bytes maxL ret :: bw) rm (va_Pc (.ref a :: As) K) (vp_Si (fun r => r = v)) 0 0 (fun _ => False)) (hB : bx_B K) (hKH : ∀ U : State, U.heap = H → s.vm.Alike U.vm → K U) (hO : ∀ U : State, U.heap = H → s.vm.Alike U.vm → ob_K CL a U)
    (hk : Cond.methodLink own index y ∈ bw) (hmb : mb_V CL y bytes maxL ret nA) (hn : As.length = nA) (hrc : rm.cells = 0 ∧ rm.slots = 0)
    (hR : rm.frames + 1 ≤ R.frames ∧ 8 + (maxL + 11) + rm.locals ≤ R.locals) (hcs : cells ≤ R.cells ∧ slots ≤ R.slots) (hl : ls.size = n) (hst : st0 = As.reverse ++ .ref a :: rest) (hW : (rest.map fun v => v.category).sum ≤ 8) (hdg : decode cc pc = .ok (.invokevirtual index, 3))
    (k : W p l e R s m args below meth c H locs cells slots Q (F0 m (pc + 3) ls (.int v :: rest))) : W p l e R s m args below meth c H locs cells slots Q (F0 m pc ls st0) := by
  obtain ⟨hx, hb, hml, -, -, hown, hts⟩ := C
  refine vp_callSi (W.runV (nL := n) (As := As) (rest := rest) (Ts := bw) (n := nA) ⟨hx, hb, hml, hown, hts⟩ hM (cwV nA hts (gw_V hk hmb) rfl hrc.1 hrc.2 hmb.2 hR) ⟨fun a U g mk q => ⟨q.1, hB U _ rfl (Vm.Alike.refl U.vm) q.2⟩, ?_, fun U hU hW => ⟨rfl, hKH U hU hW.alike⟩⟩ rfl hn hl hst (lv_room hW) hdg hcs) (fun r hr => ?_)
  · exact hO { s with heap := H } rfl (Vm.Alike.refl s.vm)
  subst hr
  exact k
theorem bx_vl {y : MethodName} {bytes : ByteArray} {maxL n nA index a : Nat} {ret rt : Option FieldType} {rm : Room} {own CL : String} {As : List Value} {K : State → Prop} {v : Int64} {st0 : List Value}
    (C : bx_C p s m args meth c cc n rt own) (hM : Met l y (Cond.code y bytes maxL ret :: bw) rm (va_Pc (.ref a :: As) K) (vp_Sl (fun r => r = v)) 0 0 (fun _ => False)) (hB : bx_B K) (hKH : ∀ U : State, U.heap = H → s.vm.Alike U.vm → K U) (hO : ∀ U : State, U.heap = H → s.vm.Alike U.vm → ob_K CL a U)
    (hk : Cond.methodLink own index y ∈ bw) (hmb : mb_V CL y bytes maxL ret nA) (hn : As.length = nA) (hrc : rm.cells = 0 ∧ rm.slots = 0)
    (hR : rm.frames + 1 ≤ R.frames ∧ 8 + (maxL + 11) + rm.locals ≤ R.locals) (hcs : cells ≤ R.cells ∧ slots ≤ R.slots) (hl : ls.size = n) (hst : st0 = As.reverse ++ .ref a :: rest) (hW : (rest.map fun v => v.category).sum ≤ 8) (hdg : decode cc pc = .ok (.invokevirtual index, 3))
    (k : W p l e R s m args below meth c H locs cells slots Q (F0 m (pc + 3) ls (.long v :: rest))) : W p l e R s m args below meth c H locs cells slots Q (F0 m pc ls st0) := by
  obtain ⟨hx, hb, hml, -, -, hown, hts⟩ := C
  refine vp_callSl (W.runV (nL := n) (As := As) (rest := rest) (Ts := bw) (n := nA) ⟨hx, hb, hml, hown, hts⟩ hM (cwV nA hts (gw_V hk hmb) rfl hrc.1 hrc.2 hmb.2 hR) ⟨fun a U g mk q => ⟨q.1, hB U _ rfl (Vm.Alike.refl U.vm) q.2⟩, ?_, fun U hU hW => ⟨rfl, hKH U hU hW.alike⟩⟩ rfl hn hl hst (lv_room hW) hdg hcs) (fun r hr => ?_)
  · exact hO { s with heap := H } rfl (Vm.Alike.refl s.vm)
  subst hr
  exact k
end BX
/-- the entry of a method that leaves the heap as it is -/
theorem bx_ent {l : Launch} {y : MethodName} {rm : Room} {K : State → Prop} {Qc : Array Value → State → Outcome → State → Prop} {cc : ByteArray} {maxL : Nat} {ret : Option FieldType} (hy : plainName y.cls = true) (As : List Value) (lv : List (Nat × Value)) (hlen : (lg_sl As).length ≤ maxL) (hlv : lv_args 0 As = lv)
    (body : ∀ (p : Program) (e : Env) (s : State) (m : MethodId) (below : List Frame) (meth : Method) (c : Code) (ls : Array Slot), bx_C p s m As.toArray meth c cc maxL ret y.cls → lv_has ls maxL lv → K s → W p l e rm s m As.toArray below meth c s.heap [] 0 0 (MQ below Qc As.toArray s 0 0 (fun _ => False)) (F0 m 0 ls [])) :
    Met l y (Cond.code y cc maxL ret :: bw) rm (va_Pc As K) Qc 0 0 (fun _ => False) := by
  refine Met.ofW (cc := cc) (maxL := maxL) (ret := ret) hy rfl ?_
  intro p e s m args below meth c s₁ B hml hv
  obtain ⟨rfl, hK⟩ := hv
  have hl := lv_entry As (n := maxL) hlen
  rw [lg_entry_eq]
  generalize (lg_sl As ++ List.replicate (maxL - (lg_sl As).length) Slot.unset).toArray = ls at hl ⊢
  rw [hlv] at hl
  have hts := atoms_spec (ws := Cond.code y cc maxL ret :: bw) B.pre
  exact body p e s m below meth c ls ⟨B.exec, B.bytes, hml, B.returns, B.notSynchronized, findClass_of_methodNamed B.named, fun w hw => hts w (List.mem_cons_of_mem _ hw)⟩ hl hK
/-- 0 or 1 -/
def ji_z (v : Int32) : Prop := v = 0 ∨ v = 1
theorem ji_z0 : ji_z 0 := Or.inl rfl
theorem ji_z1 : ji_z 1 := Or.inr rfl
theorem ji_z_narrow {v : Int32} (h : ji_z v) : narrow .boolean (.int v) = .int v := by
  rcases h with rfl | rfl <;> rfl
theorem ji_z_ite {c : Prop} [Decidable c] {a b : Int32} (ha : ji_z a) (hb : ji_z b) : ji_z (if c then a else b) := by
  split
  · exact ha
  · exact hb
/-- counters -/
theorem lp_up {k B : Int32} {n : Nat} (h : ¬ B ≤ k) (hn : (B.toInt - k.toInt).toNat < n + 1) : (B.toInt - (k + 1).toInt).toNat < n := by
  have h1 : k.toInt < B.toInt := by
    rcases Int.lt_or_le k.toInt B.toInt with q | q
    · exact q
    · exact absurd (Int32.le_iff_toInt_le.mpr q) h
  have h2 : B.toInt < 2 ^ 31 := Int32.toInt_lt B
  have h3 : -2 ^ 31 ≤ k.toInt := Int32.le_toInt k
  have h4 : (k + 1).toInt = k.toInt + 1 := by
    rw [Int32.toInt_add]
    show (k.toInt + 1).bmod (2 ^ 32) = k.toInt + 1
    rw [Int.bmod_eq_of_le] <;> omega
  rw [h4]
  omega
theorem lp_dn {k : Int32} {n : Nat} (h : 0 ≤ k) (hn : (k.toInt + 1).toNat < n + 1) : ((k + (-1)).toInt + 1).toNat < n := by
  have h1 : 0 ≤ k.toInt := Int32.le_iff_toInt_le.mp h
  have h2 : k.toInt < 2 ^ 31 := Int32.toInt_lt k
  have h4 : (k + (-1)).toInt = k.toInt + -1 := by
    rw [Int32.toInt_add]
    show (k.toInt + -1).bmod (2 ^ 32) = k.toInt + -1
    rw [Int.bmod_eq_of_le] <;> omega
  rw [h4]
  omega
/-- behind a table of branches -/
theorem sw_out {x : Int32} (lo hi : Int) (h : ∀ n : Int, lo ≤ n → n ≤ hi → ¬ x = Int32.ofInt n) : x.toInt < lo ∨ hi < x.toInt := by
  rcases Int.lt_or_le x.toInt lo with q | q
  · exact Or.inl q
  rcases Int.lt_or_le hi x.toInt with r | r
  · exact Or.inr r
  exact absurd (Int32.ofInt_toInt x).symm (h x.toInt q r)
/-- the two forms: their fields -/
def fo_fraction (w : Bool) : Int32 := if w then 52 else 23
def fo_bias (w : Bool) : Int32 := if w then 1023 else 127
def fo_top (w : Bool) : Int32 := if w then 2047 else 255
def fo_spare (w : Bool) : Int32 := if w then 0 else 32
def fo_sign (w : Bool) : Int64 := if w then -9223372036854775808 else 2147483648
def fo_one (w : Bool) : Int64 := if w then 4607182418800017408 else 1065353216
def fo_infinity (w : Bool) : Int64 := if w then 9218868437227405312 else 2139095040
def fo_nan (w : Bool) : Int64 := if w then 9221120237041090560 else 2143289344
def fo_G (n d : String) (v : Value) (a : Nat) (U : State) : Prop := va_OF RX2 n d v a (fun _ => False) U U.heap
theorem fo_G_B (n d : String) (v : Value) (a : Nat) : bx_B (fo_G n d v a) := by
  intro U T hh hv h
  unfold fo_G at h ⊢
  rw [hh]
  exact va_OF.moved hv h
def fo_K (w : Bool) (a : Nat) (U : State) : Prop := ob_K RX2 a U ∧ fo_G "fraction" "I" (.int (fo_fraction w)) a U ∧ fo_G "bias" "I" (.int (fo_bias w)) a U ∧ fo_G "top" "I" (.int (fo_top w)) a U ∧ fo_G "spare" "I" (.int (fo_spare w)) a U ∧ fo_G "sign" "J" (.long (fo_sign w)) a U ∧ fo_G "one" "J" (.long (fo_one w)) a U ∧ fo_G "infinity" "J" (.long (fo_infinity w)) a U ∧ fo_G "nan" "J" (.long (fo_nan w)) a U
theorem fo_B (w : Bool) (a : Nat) : bx_B (fo_K w a) := by
  intro U T hh hv h
  obtain ⟨h0, h1, h2, h3, h4, h5, h6, h7, h8⟩ := h
  exact ⟨ob_B _ _ U T hh hv h0, fo_G_B _ _ _ _ U T hh hv h1, fo_G_B _ _ _ _ U T hh hv h2, fo_G_B _ _ _ _ U T hh hv h3, fo_G_B _ _ _ _ U T hh hv h4, fo_G_B _ _ _ _ U T hh hv h5, fo_G_B _ _ _ _ U T hh hv h6, fo_G_B _ _ _ _ U T hh hv h7, fo_G_B _ _ _ _ U T hh hv h8⟩
theorem fo_fraction_K {w : Bool} {a : Nat} {s : State} (h : fo_K w a s) : va_OF RX2 "fraction" "I" (.int (fo_fraction w)) a (fun _ => False) s s.heap := h.2.1
theorem fo_bias_K {w : Bool} {a : Nat} {s : State} (h : fo_K w a s) : va_OF RX2 "bias" "I" (.int (fo_bias w)) a (fun _ => False) s s.heap := h.2.2.1
theorem fo_top_K {w : Bool} {a : Nat} {s : State} (h : fo_K w a s) : va_OF RX2 "top" "I" (.int (fo_top w)) a (fun _ => False) s s.heap := h.2.2.2.1
theorem fo_spare_K {w : Bool} {a : Nat} {s : State} (h : fo_K w a s) : va_OF RX2 "spare" "I" (.int (fo_spare w)) a (fun _ => False) s s.heap := h.2.2.2.2.1
theorem fo_sign_K {w : Bool} {a : Nat} {s : State} (h : fo_K w a s) : va_OF RX2 "sign" "J" (.long (fo_sign w)) a (fun _ => False) s s.heap := h.2.2.2.2.2.1
theorem fo_one_K {w : Bool} {a : Nat} {s : State} (h : fo_K w a s) : va_OF RX2 "one" "J" (.long (fo_one w)) a (fun _ => False) s s.heap := h.2.2.2.2.2.2.1
theorem fo_infinity_K {w : Bool} {a : Nat} {s : State} (h : fo_K w a s) : va_OF RX2 "infinity" "J" (.long (fo_infinity w)) a (fun _ => False) s s.heap := h.2.2.2.2.2.2.2.1
theorem fo_nan_K {w : Bool} {a : Nat} {s : State} (h : fo_K w a s) : va_OF RX2 "nan" "J" (.long (fo_nan w)) a (fun _ => False) s s.heap := h.2.2.2.2.2.2.2.2
theorem lp_st {k c B : Int32} {n : Nat} (h : ¬ B ≤ k) (hc : 0 < c.toInt ∧ c.toInt < 100) (hB : B.toInt < 1000) (hn : (B.toInt - k.toInt).toNat < n + 1) : (B.toInt - (k + c).toInt).toNat < n := by
  have h1 : k.toInt < B.toInt := by
    rcases Int.lt_or_le k.toInt B.toInt with q | q
    · exact q
    · exact absurd (Int32.le_iff_toInt_le.mpr q) h
  have h3 : -2 ^ 31 ≤ k.toInt := Int32.le_toInt k
  have h4 : (k + c).toInt = k.toInt + c.toInt := by
    rw [Int32.toInt_add, Int.bmod_eq_of_le] <;> omega
  rw [h4]
  omega
theorem lp_sb {k c : Int32} {n : Nat} (h : ¬ k ≤ 0) (hc : 0 < c.toInt ∧ c.toInt < 100) (hn : (k.toInt).toNat < n + 1) : ((k - c).toInt).toNat < n := by
  have h1 : 0 < k.toInt := by
    rcases Int.lt_or_le 0 k.toInt with q | q
    · exact q
    · exact absurd (Int32.le_iff_toInt_le.mpr q) h
  have h3 : k.toInt < 2 ^ 31 := Int32.toInt_lt k
  have h4 : (k - c).toInt = k.toInt - c.toInt := by
    rw [Int32.toInt_sub, Int.bmod_eq_of_le] <;> omega
  rw [h4]
  omega
theorem lp_pw {x : Int64} {k : Int32} {n : Nat} (h : ¬ x ≤ k.toInt64) (hp : x.toInt ≤ 1000) (hn : (x.toInt - k.toInt).toNat < n + 1) : (x.toInt - (k + 1).toInt).toNat < n := by
  have h1 : k.toInt < x.toInt := by
    rcases Int.lt_or_le k.toInt x.toInt with q | q
    · exact q
    · exact absurd (Int64.le_iff_toInt_le.mpr (by rw [Int32.toInt_toInt64]; exact q)) h
  have h3 : -2 ^ 31 ≤ k.toInt := Int32.le_toInt k
  have h4 : (k + 1).toInt = k.toInt + 1 := by
    rw [Int32.toInt_add]
    show (k.toInt + 1).bmod (2 ^ 32) = k.toInt + 1
    rw [Int.bmod_eq_of_le] <;> omega
  rw [h4]
  omega
theorem sd_and31 (b : Int64) : (b &&& 31).toBitVec.toNat ≤ 31 := by
  rw [Int64.toBitVec_and, BitVec.toNat_and]
  exact Nat.and_le_right
theorem sd_and31I (b : Int64) : 0 ≤ (b &&& 31).toInt ∧ (b &&& 31).toInt ≤ 31 := by
  have h := sd_and31 b
  rw [k2_int (by omega)]
  omega
theorem sd_pow1 (b : Int64) : (b &&& 31).toInt ≤ 1000 := by
  have h := sd_and31I b
  omega
theorem sd_pow2 (b : Int64) : (32 - (b &&& 31)).toInt ≤ 1000 := by
  have h := sd_and31I b
  rw [Int64.toInt_sub]
  show (32 - (b &&& 31).toInt).bmod (2 ^ 64) ≤ 1000
  rw [Int.bmod_eq_of_le] <;> omega
