/-! ===== OWN ROWS: methods that write ===== -/
def hW (D : va_G) (tys : List (ClassId × FieldType)) (Rg : Nat → Prop) (s : State) (H : Heap) (locs : List Loc) (ws : va_W) : Prop := va_P D vwCl ws H ∧ va_D Rg ws ∧ va_S Rg s.heap H locs ∧ va_K D vwCl tys s ∧ ∀ q : Nat, s.heap.size ≤ q → Rg q
def hPc (As : List Value) (D : va_G) (tys : List (ClassId × FieldType)) (ws : va_W) (sz : Nat) (K : State → Prop) : Array Value → State → Prop := va_Pc As (fun U => (U.heap.size = sz ∧ va_P D vwCl ws U.heap ∧ va_K D vwCl tys U ∧ va_D (fun _ => True) ws) ∧ K U)
def hBk {S : Type} (D : va_G) (tys : List (ClassId × FieldType)) (Rg : Nat → Prop) (Wf : S → va_W) (u : S) (t : State) : Prop := va_P D vwCl (Wf u) t.heap ∧ va_K D vwCl tys t ∧ va_D Rg (Wf u)
/-- a world that is only read -/
def rd_K (D : va_G) (tys : List (ClassId × FieldType)) (ws : va_W) (U : State) : Prop := va_P D vwCl ws U.heap ∧ va_K D vwCl tys U
theorem rd_B (D : va_G) (tys : List (ClassId × FieldType)) (ws : va_W) : bx_B (rd_K D tys ws) := by
  intro U T hh hv h
  exact ⟨by rw [hh]; exact h.1, va_K.moved hv h.2⟩
theorem rd_of {D : va_G} {tys : List (ClassId × FieldType)} {Rg : Nat → Prop} {s : State} {H : Heap} {locs : List Loc} {ws : va_W} (hw : hW D tys Rg s H locs ws) {U : State} (hU : U.heap = H) (hv : s.vm.Alike U.vm) : rd_K D tys ws U := ⟨by rw [hU]; exact hw.1, va_K.moved hv hw.2.2.2.1⟩
theorem rd_ob {D : va_G} {tys : List (ClassId × FieldType)} {ws : va_W} {a ci N : Nat} {fs : List Value} {CL : String} {T : u_T} {U : State} (h : rd_K D tys ws U) (he : ws[0]? = some (a, .inr (ci, fs))) (hc : vwCl[ci]? = some (CL, T, N)) : ob_K CL a U := va_recv h.2 h.1 hc he
theorem hw_ob {D : va_G} {tys : List (ClassId × FieldType)} {Rg : Nat → Prop} {s : State} {H : Heap} {locs : List Loc} {ws : va_W} {a ci N : Nat} {fs : List Value} {CL : String} {T : u_T} (hw : hW D tys Rg s H locs ws) (he : ws[0]? = some (a, .inr (ci, fs))) (hc : vwCl[ci]? = some (CL, T, N)) (U : State) (hU : U.heap = H) (hv : s.vm.Alike U.vm) : ob_K CL a U := rd_ob (rd_of hw hU hv) he hc
theorem hw_free {D : va_G} {tys : List (ClassId × FieldType)} {Rg : Nat → Prop} {s : State} {H : Heap} {locs : List Loc} {ws : va_W} (hw : hW D tys Rg s H locs ws) : ∀ q, va_A ws H.size q → Rg q := by
  intro q h
  rcases h with ⟨k, e, hk⟩ | h
  · exact hw.2.1.2 k (q, e) hk
  · exact hw.2.2.2.2 q (Nat.le_trans hw.2.2.1.1 h)
section HX
variable {p : Program} {l : Launch} {e : Env} {R : Room} {s : State} {m : MethodId} {args : Array Value} {below : List Frame} {meth : Method} {c : Code} {H : Heap} {locs : List Loc} {cells slots : Nat} {Q : State → Prop}
variable {cc : ByteArray} {pc : Nat} {ls : Array Slot} {rest : List Value} {D : va_G} {tys : List (ClassId × FieldType)} {Rg : Nat → Prop} {ws ws' : va_W}
theorem hx_iald (hx : p.tables.exec = Jvm.exec) (hb : c.code = cc) (hP : va_P D vwCl ws H) (hK : va_K D vwCl tys s) (q0 t0 : Nat) {a : Nat} {cA : ClassId} {n : Nat} {f : Nat → Int32} (ha : ws[q0]? = some (a, .inl (cA, n, .inl f))) (ht : tys[t0]? = some (cA, .int)) {i : Int32} (hin : vp_in i n) (hdg : decode cc pc = .ok (.iaload, 1))
    (k : W p l e R s m args below meth c H locs cells slots Q (F0 m (pc + 1) ls (.int (f i.toNatClampNeg) :: rest))) : W p l e R s m args below meth c H locs cells slots Q (F0 m pc ls (.int i :: .ref a :: rest)) := va_iald hx hb hK hP q0 t0 ha ht hin hdg k
theorem hx_bald (hx : p.tables.exec = Jvm.exec) (hb : c.code = cc) (hP : va_P D vwCl ws H) (hK : va_K D vwCl tys s) (q0 t0 : Nat) {a : Nat} {cA : ClassId} {n : Nat} {f : Nat → Int32} (ha : ws[q0]? = some (a, .inl (cA, n, .inl f))) (ht : tys[t0]? = some (cA, .byte)) {i : Int32} (hin : vp_in i n) (hdg : decode cc pc = .ok (.baload, 1))
    (k : W p l e R s m args below meth c H locs cells slots Q (F0 m (pc + 1) ls (.int (f i.toNatClampNeg) :: rest))) : W p l e R s m args below meth c H locs cells slots Q (F0 m pc ls (.int i :: .ref a :: rest)) := va_bald hx hb hK hP q0 t0 ha ht hin hdg k
theorem hx_lald (hx : p.tables.exec = Jvm.exec) (hb : c.code = cc) (hP : va_P D vwCl ws H) (hK : va_K D vwCl tys s) (q0 t0 : Nat) {a : Nat} {cA : ClassId} {n : Nat} {f : Nat → Int64} (ha : ws[q0]? = some (a, .inl (cA, n, .inr (.inl f)))) (ht : tys[t0]? = some (cA, .long)) {i : Int32} (hin : vp_in i n) (hdg : decode cc pc = .ok (.laload, 1))
    (k : W p l e R s m args below meth c H locs cells slots Q (F0 m (pc + 1) ls (.long (f i.toNatClampNeg) :: rest))) : W p l e R s m args below meth c H locs cells slots Q (F0 m pc ls (.int i :: .ref a :: rest)) := va_lald hx hb hK hP q0 t0 ha ht hin hdg k
theorem hx_iast (hx : p.tables.exec = Jvm.exec) (hb : c.code = cc) (hw : hW D tys Rg s H locs ws) (q0 t0 : Nat) {a : Nat} {cA : ClassId} {n : Nat} {f : Nat → Int32} (ha : ws[q0]? = some (a, .inl (cA, n, .inl f))) (ht : tys[t0]? = some (cA, .int)) {i x : Int32} (hin : vp_in i n) (hdg : decode cc pc = .ok (.iastore, 1)) (hs : ws.set q0 (a, .inl (cA, n, .inl (upd f i.toNatClampNeg x))) = ws')
    (k : ∀ (H : Heap) (locs : List Loc), hW D tys Rg s H locs ws' → W p l e R s m args below meth c H locs cells slots Q (F0 m (pc + 1) ls rest)) : W p l e R s m args below meth c H locs cells slots Q (F0 m pc ls (.int x :: .int i :: .ref a :: rest)) := by
  obtain ⟨hP, hD, hS, hK, hA⟩ := hw
  subst hs
  exact va_iast hx hb hK hP hD hS q0 t0 ha ht hin hdg (fun H1 locs1 hP hD hS => k H1 locs1 ⟨hP, hD, hS, hK, hA⟩)
theorem hx_bast (hx : p.tables.exec = Jvm.exec) (hb : c.code = cc) (hw : hW D tys Rg s H locs ws) (q0 t0 : Nat) {a : Nat} {cA : ClassId} {n : Nat} {f : Nat → Int32} (ha : ws[q0]? = some (a, .inl (cA, n, .inl f))) (ht : tys[t0]? = some (cA, .byte)) {i x : Int32} (hin : vp_in i n) (hdg : decode cc pc = .ok (.bastore, 1)) (hs : ws.set q0 (a, .inl (cA, n, .inl (upd f i.toNatClampNeg (ji_byte x)))) = ws')
    (k : ∀ (H : Heap) (locs : List Loc), hW D tys Rg s H locs ws' → W p l e R s m args below meth c H locs cells slots Q (F0 m (pc + 1) ls rest)) : W p l e R s m args below meth c H locs cells slots Q (F0 m pc ls (.int x :: .int i :: .ref a :: rest)) := by
  obtain ⟨hP, hD, hS, hK, hA⟩ := hw
  subst hs
  exact va_bast hx hb hK hP hD hS q0 t0 ha ht hin hdg (fun H1 locs1 hP hD hS => k H1 locs1 ⟨hP, hD, hS, hK, hA⟩)
theorem hx_last (hx : p.tables.exec = Jvm.exec) (hb : c.code = cc) (hw : hW D tys Rg s H locs ws) (q0 t0 : Nat) {a : Nat} {cA : ClassId} {n : Nat} {f : Nat → Int64} (ha : ws[q0]? = some (a, .inl (cA, n, .inr (.inl f)))) (ht : tys[t0]? = some (cA, .long)) {i : Int32} {x : Int64} (hin : vp_in i n) (hdg : decode cc pc = .ok (.lastore, 1)) (hs : ws.set q0 (a, .inl (cA, n, .inr (.inl (vp_updL f i.toNatClampNeg x)))) = ws')
    (k : ∀ (H : Heap) (locs : List Loc), hW D tys Rg s H locs ws' → W p l e R s m args below meth c H locs cells slots Q (F0 m (pc + 1) ls rest)) : W p l e R s m args below meth c H locs cells slots Q (F0 m pc ls (.long x :: .int i :: .ref a :: rest)) := by
  obtain ⟨hP, hD, hS, hK, hA⟩ := hw
  subst hs
  exact va_last hx hb hK hP hD hS q0 t0 ha ht hin hdg (fun H1 locs1 hP hD hS => k H1 locs1 ⟨hP, hD, hS, hK, hA⟩)
theorem hx_alen (hx : p.tables.exec = Jvm.exec) (hb : c.code = cc) (hP : va_P D vwCl ws H) (hK : va_K D vwCl tys s) (q0 t0 : Nat) {a : Nat} {cA : ClassId} {x : vp_A} (ha : ws[q0]? = some (a, .inl (cA, x))) {ty : FieldType} (ht : tys[t0]? = some (cA, ty)) {v : Int32} (hv : Int32.ofNat x.1 = v) (hdg : decode cc pc = .ok (.arraylength, 1))
    (k : W p l e R s m args below meth c H locs cells slots Q (F0 m (pc + 1) ls (.int v :: rest))) : W p l e R s m args below meth c H locs cells slots Q (F0 m pc ls (.ref a :: rest)) := va_alen hx hb hK hP q0 t0 ha ht hv hdg k
theorem hx_get (hx : p.tables.exec = Jvm.exec) (hb : c.code = cc) (hts : ∀ w ∈ bw, w.before args s = true) {own ref CL : String} {T : u_T} {N ci index : Nat} (hin : ∀ w ∈ u_ws CL T N, w ∈ bw) (hown : s.vm.findClass own = some m.cls) (hP : va_P D vwCl ws H) (hK : va_K D vwCl tys s) (q0 : Nat) {a : Nat} {fs : List Value} (he : ws[q0]? = some (a, .inr (ci, fs))) (hc : vwCl[ci]? = some (CL, T, N)) (k : Nat) (hk : k < N) (hlink : Cond.fieldLink own index ref (T k).2.1 (T k).2.2.1 ∈ bw) (hsame : (T k).1 = ref) {v : Value} (hv : fs[k]? = some v) (hdg : decode cc pc = .ok (.getfield index, 3))
    (kk : W p l e R s m args below meth c H locs cells slots Q (F0 m (pc + 3) ls (v :: rest))) : W p l e R s m args below meth c H locs cells slots Q (F0 m pc ls (.ref a :: rest)) :=
  va_get hx hb hts hin hown hK hP q0 he hc k hk (hts _ hlink) (fun x h => by rw [← hsame]; exact h) hv hdg kk
theorem hx_put (hx : p.tables.exec = Jvm.exec) (hb : c.code = cc) (hts : ∀ w ∈ bw, w.before args s = true) {own ref CL : String} {T : u_T} {N ci index : Nat} (hin : ∀ w ∈ u_ws CL T N, w ∈ bw) (ty0 : Nat → FieldType) (hty : ∀ k, k < N → parseFieldDescriptor (T k).2.2.1 = some (ty0 k)) (hnm : ∀ a, a < N → ∀ b, b < N → a ≠ b → (T a).2.1 ≠ (T b).2.1) (hown : s.vm.findClass own = some m.cls) (hw : hW D tys Rg s H locs ws) (q0 : Nat) {a : Nat} {fs : List Value} (he : ws[q0]? = some (a, .inr (ci, fs))) (hc : vwCl[ci]? = some (CL, T, N)) (k : Nat) (hk : k < N) (hlink : Cond.fieldLink own index ref (T k).2.1 (T k).2.2.1 ∈ bw) (hsame : (T k).1 = ref) (hfin : (T k).2.2.2 = false) {v : Int32} (hd : parseFieldDescriptor (T k).2.2.1 = some .int) (hl : k < fs.length) (hdg : decode cc pc = .ok (.putfield index, 3)) (hs : ws.set q0 (a, .inr (ci, fs.set k (.int v))) = ws')
    (kk : ∀ (H : Heap) (locs : List Loc), hW D tys Rg s H locs ws' → W p l e R s m args below meth c H locs cells slots Q (F0 m (pc + 3) ls rest)) : W p l e R s m args below meth c H locs cells slots Q (F0 m pc ls (.int v :: .ref a :: rest)) := by
  obtain ⟨hP, hD, hS, hK, hA⟩ := hw
  subst hs
  exact va_put hx hb hts hin ty0 hty hnm hown hK hP hD hS q0 he hc k hk (hts _ hlink) (fun x h => by rw [← hsame]; exact h) hfin hd rfl rfl hl hdg (fun H1 locs1 hP hD hS => kk H1 locs1 ⟨hP, hD, hS, hK, hA⟩)
/-- ends -/
theorem hx_lret {S : Type} {Wf : S → va_W} {post : Int64 × S → Prop} {v : Int64} {u : S} (hx : p.tables.exec = Jvm.exec) (hb : c.code = cc) (hr : meth.sig.returnType = some .long) (hlocks : meth.locks = false) (hw : hW D tys Rg s H locs (Wf u)) (hq : post (v, u)) (d : decode cc pc = .ok (.lreturn, 1)) :
    W p l e R s m args below meth c H locs cells slots (MQ below (va_Ql (fun r u => post (r, u)) (hBk D tys Rg Wf) Rg) args s cells slots Rg) (F0 m pc ls [.long v]) :=
  W.lret (v := v) hx hb hr (fun t ht hW => ⟨⟨v, u, rfl, hq, by rw [ht]; exact hw.1, va_K.moved hW.alike hw.2.2.2.1, hw.2.1⟩, hw.2.2.1.F ht⟩) hw.2.2.1.2.2 d hlocks
theorem hx_iret {S : Type} {Wf : S → va_W} {post : Int32 × S → Prop} {v : Int32} {u : S} (hx : p.tables.exec = Jvm.exec) (hb : c.code = cc) (hr : meth.sig.returnType = some .int) (hlocks : meth.locks = false) (hw : hW D tys Rg s H locs (Wf u)) (hq : post (v, u)) (d : decode cc pc = .ok (.ireturn, 1)) :
    W p l e R s m args below meth c H locs cells slots (MQ below (va_Qi (fun r u => post (r, u)) (hBk D tys Rg Wf) Rg) args s cells slots Rg) (F0 m pc ls [.int v]) :=
  W.iret (v := v) hx hb hr (fun t ht hW => ⟨⟨v, u, rfl, hq, by rw [ht]; exact hw.1, va_K.moved hW.alike hw.2.2.2.1, hw.2.1⟩, hw.2.2.1.F ht⟩) hw.2.2.1.2.2 d hlocks
theorem hx_zret {S : Type} {Wf : S → va_W} {post : Int32 × S → Prop} {v : Int32} {u : S} (hx : p.tables.exec = Jvm.exec) (hb : c.code = cc) (hr : meth.sig.returnType = some .boolean) (hlocks : meth.locks = false) (hz : ji_z v) (hw : hW D tys Rg s H locs (Wf u)) (hq : post (v, u)) (d : decode cc pc = .ok (.ireturn, 1)) :
    W p l e R s m args below meth c H locs cells slots (MQ below (va_Qi (fun r u => post (r, u)) (hBk D tys Rg Wf) Rg) args s cells slots Rg) (F0 m pc ls [.int v]) :=
  W.zret (v := v) hx hb hr (ji_z_narrow hz) (fun t ht hW => ⟨⟨v, u, rfl, hq, by rw [ht]; exact hw.1, va_K.moved hW.alike hw.2.2.2.1, hw.2.1⟩, hw.2.2.1.F ht⟩) hw.2.2.1.2.2 d hlocks
theorem hx_vret {S : Type} {Wf : S → va_W} {post : S → Prop} {u : S} (hx : p.tables.exec = Jvm.exec) (hb : c.code = cc) (hr : meth.sig.returnType = none) (hlocks : meth.locks = false) (hw : hW D tys Rg s H locs (Wf u)) (hq : post u) (d : decode cc pc = .ok (.return_, 1)) :
    W p l e R s m args below meth c H locs cells slots (MQ below (va_Qv post (hBk D tys Rg Wf) Rg) args s cells slots Rg) (F0 m pc ls []) :=
  W.vret hx hb hr (fun t ht hW => ⟨⟨u, rfl, hq, by rw [ht]; exact hw.1, va_K.moved hW.alike hw.2.2.2.1, hw.2.1⟩, hw.2.2.1.F ht⟩) hw.2.2.1.2.2 d hlocks
/-- calls of a method of the same world -/
theorem hx_cl {S : Type} {Wf : S → va_W} {u0 : S} {F : Int64 × S} {y : MethodName} {bytes : ByteArray} {maxL n nA index a ci N : Nat} {ret rt : Option FieldType} {rm : Room} {own CL : String} {As : List Value} {K : Nat → State → Prop} {st0 fs : List Value} {T : u_T}
    (C : bx_C p s m args meth c cc n rt own) (hM : ∀ sz, Met l y (Cond.code y bytes maxL ret :: bw) rm (hPc (.ref a :: As) D tys (Wf u0) sz (K sz)) (va_Ql (fun r u => (r, u) = F) (hBk D tys (va_A (Wf u0) sz) Wf) (va_A (Wf u0) sz)) 0 0 (va_A (Wf u0) sz)) (hBl : ∀ sz, bx_B (K sz)) (hKH : ∀ U : State, U.heap = H → s.vm.Alike U.vm → K H.size U)
    (hw : hW D tys Rg s H locs (Wf u0)) (he : (Wf u0)[0]? = some (a, .inr (ci, fs))) (hc : vwCl[ci]? = some (CL, T, N)) (hk : Cond.methodLink own index y ∈ bw) (hmb : mb_V CL y bytes maxL ret nA) (hn : As.length = nA) (hrc : rm.cells = 0 ∧ rm.slots = 0)
    (hR : rm.frames + 1 ≤ R.frames ∧ 8 + (maxL + 11) + rm.locals ≤ R.locals) (hcs : cells ≤ R.cells ∧ slots ≤ R.slots) (hl : ls.size = n) (hst : st0 = As.reverse ++ .ref a :: rest) (hWd : (rest.map fun v => v.category).sum ≤ 8) (hdg : decode cc pc = .ok (.invokevirtual index, 3))
    (k : ∀ (H : Heap) (locs : List Loc), hW D tys Rg s H locs (Wf F.2) → W p l e R s m args below meth c H locs cells slots Q (F0 m (pc + 3) ls (.long F.1 :: rest))) : W p l e R s m args below meth c H locs cells slots Q (F0 m pc ls st0) := by
  obtain ⟨hx, hb, hml, -, -, hown, hts⟩ := C
  have hFc := hw_free hw
  obtain ⟨hP, hD, hS, hK, hA⟩ := hw
  refine va_calll (va_runV (nL := n) (As := As) (rest := rest) (Ts := bw) (n := nA) ⟨hx, hb, hml, hown, hts⟩ (hM H.size) (cwV nA hts (gw_V hk hmb) rfl hrc.1 hrc.2 hmb.2 hR) ⟨fun a U g mk q => ⟨q.1, ⟨q.2.1.1, q.2.1.2.1, va_K.moved (u := U) (U := U.calling g mk a) (Vm.Alike.refl U.vm) q.2.1.2.2.1, q.2.1.2.2.2⟩, hBl _ U _ rfl (Vm.Alike.refl U.vm) q.2.2⟩, va_recv hK hP hc he, fun U hU hW => ⟨rfl, ⟨by rw [hU], by rw [hU]; exact hP, va_K.moved hW.alike hK, hD.weaken (fun _ _ _ _ => trivial)⟩, hKH U hU hW.alike⟩⟩ rfl hn hl hst (lv_room hWd) hdg hcs) hS (fun q _ h => hFc q h) hFc (fun r u t H1 locs1 ht hvm hpost hB hz1 hk1 hS1 => ?_)
  obtain ⟨hP1, hK1, hD1⟩ := hB
  rw [ht] at hP1
  subst hpost
  exact k H1 locs1 ⟨hP1, hD1.weaken (fun _ q _ h => hFc q.1 h), hS1, hK, hA⟩
theorem hx_ci {S : Type} {Wf : S → va_W} {u0 : S} {F : Int32 × S} {y : MethodName} {bytes : ByteArray} {maxL n nA index a ci N : Nat} {ret rt : Option FieldType} {rm : Room} {own CL : String} {As : List Value} {K : Nat → State → Prop} {st0 fs : List Value} {T : u_T}
    (C : bx_C p s m args meth c cc n rt own) (hM : ∀ sz, Met l y (Cond.code y bytes maxL ret :: bw) rm (hPc (.ref a :: As) D tys (Wf u0) sz (K sz)) (va_Qi (fun r u => (r, u) = F) (hBk D tys (va_A (Wf u0) sz) Wf) (va_A (Wf u0) sz)) 0 0 (va_A (Wf u0) sz)) (hBl : ∀ sz, bx_B (K sz)) (hKH : ∀ U : State, U.heap = H → s.vm.Alike U.vm → K H.size U)
    (hw : hW D tys Rg s H locs (Wf u0)) (he : (Wf u0)[0]? = some (a, .inr (ci, fs))) (hc : vwCl[ci]? = some (CL, T, N)) (hk : Cond.methodLink own index y ∈ bw) (hmb : mb_V CL y bytes maxL ret nA) (hn : As.length = nA) (hrc : rm.cells = 0 ∧ rm.slots = 0)
    (hR : rm.frames + 1 ≤ R.frames ∧ 8 + (maxL + 11) + rm.locals ≤ R.locals) (hcs : cells ≤ R.cells ∧ slots ≤ R.slots) (hl : ls.size = n) (hst : st0 = As.reverse ++ .ref a :: rest) (hWd : (rest.map fun v => v.category).sum ≤ 8) (hdg : decode cc pc = .ok (.invokevirtual index, 3))
    (k : ∀ (H : Heap) (locs : List Loc), hW D tys Rg s H locs (Wf F.2) → W p l e R s m args below meth c H locs cells slots Q (F0 m (pc + 3) ls (.int F.1 :: rest))) : W p l e R s m args below meth c H locs cells slots Q (F0 m pc ls st0) := by
  obtain ⟨hx, hb, hml, -, -, hown, hts⟩ := C
  have hFc := hw_free hw
  obtain ⟨hP, hD, hS, hK, hA⟩ := hw
  refine va_calli (va_runV (nL := n) (As := As) (rest := rest) (Ts := bw) (n := nA) ⟨hx, hb, hml, hown, hts⟩ (hM H.size) (cwV nA hts (gw_V hk hmb) rfl hrc.1 hrc.2 hmb.2 hR) ⟨fun a U g mk q => ⟨q.1, ⟨q.2.1.1, q.2.1.2.1, va_K.moved (u := U) (U := U.calling g mk a) (Vm.Alike.refl U.vm) q.2.1.2.2.1, q.2.1.2.2.2⟩, hBl _ U _ rfl (Vm.Alike.refl U.vm) q.2.2⟩, va_recv hK hP hc he, fun U hU hW => ⟨rfl, ⟨by rw [hU], by rw [hU]; exact hP, va_K.moved hW.alike hK, hD.weaken (fun _ _ _ _ => trivial)⟩, hKH U hU hW.alike⟩⟩ rfl hn hl hst (lv_room hWd) hdg hcs) hS (fun q _ h => hFc q h) hFc (fun r u t H1 locs1 ht hvm hpost hB hz1 hk1 hS1 => ?_)
  obtain ⟨hP1, hK1, hD1⟩ := hB
  rw [ht] at hP1
  subst hpost
  exact k H1 locs1 ⟨hP1, hD1.weaken (fun _ q _ h => hFc q.1 h), hS1, hK, hA⟩
theorem hx_cv {S : Type} {Wf : S → va_W} {u0 : S} {F : S} {y : MethodName} {bytes : ByteArray} {maxL n nA index a ci N : Nat} {ret rt : Option FieldType} {rm : Room} {own CL : String} {As : List Value} {K : Nat → State → Prop} {st0 fs : List Value} {T : u_T}
    (C : bx_C p s m args meth c cc n rt own) (hM : ∀ sz, Met l y (Cond.code y bytes maxL ret :: bw) rm (hPc (.ref a :: As) D tys (Wf u0) sz (K sz)) (va_Qv (fun u => u = F) (hBk D tys (va_A (Wf u0) sz) Wf) (va_A (Wf u0) sz)) 0 0 (va_A (Wf u0) sz)) (hBl : ∀ sz, bx_B (K sz)) (hKH : ∀ U : State, U.heap = H → s.vm.Alike U.vm → K H.size U)
    (hw : hW D tys Rg s H locs (Wf u0)) (he : (Wf u0)[0]? = some (a, .inr (ci, fs))) (hc : vwCl[ci]? = some (CL, T, N)) (hk : Cond.methodLink own index y ∈ bw) (hmb : mb_V CL y bytes maxL ret nA) (hn : As.length = nA) (hrc : rm.cells = 0 ∧ rm.slots = 0)
    (hR : rm.frames + 1 ≤ R.frames ∧ 8 + (maxL + 11) + rm.locals ≤ R.locals) (hcs : cells ≤ R.cells ∧ slots ≤ R.slots) (hl : ls.size = n) (hst : st0 = As.reverse ++ .ref a :: rest) (hWd : (rest.map fun v => v.category).sum ≤ 8) (hdg : decode cc pc = .ok (.invokevirtual index, 3))
    (k : ∀ (H : Heap) (locs : List Loc), hW D tys Rg s H locs (Wf F) → W p l e R s m args below meth c H locs cells slots Q (F0 m (pc + 3) ls rest)) : W p l e R s m args below meth c H locs cells slots Q (F0 m pc ls st0) := by
  obtain ⟨hx, hb, hml, -, -, hown, hts⟩ := C
  have hFc := hw_free hw
  obtain ⟨hP, hD, hS, hK, hA⟩ := hw
  refine va_callv (va_runV (nL := n) (As := As) (rest := rest) (Ts := bw) (n := nA) ⟨hx, hb, hml, hown, hts⟩ (hM H.size) (cwV nA hts (gw_V hk hmb) rfl hrc.1 hrc.2 hmb.2 hR) ⟨fun a U g mk q => ⟨q.1, ⟨q.2.1.1, q.2.1.2.1, va_K.moved (u := U) (U := U.calling g mk a) (Vm.Alike.refl U.vm) q.2.1.2.2.1, q.2.1.2.2.2⟩, hBl _ U _ rfl (Vm.Alike.refl U.vm) q.2.2⟩, va_recv hK hP hc he, fun U hU hW => ⟨rfl, ⟨by rw [hU], by rw [hU]; exact hP, va_K.moved hW.alike hK, hD.weaken (fun _ _ _ _ => trivial)⟩, hKH U hU hW.alike⟩⟩ rfl hn hl hst (lv_room hWd) hdg hcs) hS (fun q _ h => hFc q h) hFc (fun u t H1 locs1 ht hvm hpost hB hz1 hk1 hS1 => ?_)
  obtain ⟨hP1, hK1, hD1⟩ := hB
  rw [ht] at hP1
  subst hpost
  exact k H1 locs1 ⟨hP1, hD1.weaken (fun _ q _ h => hFc q.1 h), hS1, hK, hA⟩
end HX
/-- the entry of a method that writes -/
theorem hx_ent {l : Launch} {y : MethodName} {rm : Room} {K : State → Prop} {Qc : Array Value → State → Outcome → State → Prop} {cc : ByteArray} {maxL : Nat} {ret : Option FieldType} {D : va_G} {tys : List (ClassId × FieldType)} {ws : va_W} {sz : Nat} (hy : plainName y.cls = true) (As : List Value) (lv : List (Nat × Value)) (hlen : (lg_sl As).length ≤ maxL) (hlv : lv_args 0 As = lv)
    (body : ∀ (p : Program) (e : Env) (s : State) (m : MethodId) (below : List Frame) (meth : Method) (c : Code) (ls : Array Slot), bx_C p s m As.toArray meth c cc maxL ret y.cls → lv_has ls maxL lv → hW D tys (va_A ws sz) s s.heap [] ws → s.heap.size = sz → K s → W p l e rm s m As.toArray below meth c s.heap [] 0 0 (MQ below Qc As.toArray s 0 0 (va_A ws sz)) (F0 m 0 ls [])) :
    Met l y (Cond.code y cc maxL ret :: bw) rm (hPc As D tys ws sz K) Qc 0 0 (va_A ws sz) := by
  refine Met.ofW (cc := cc) (maxL := maxL) (ret := ret) hy rfl ?_
  intro p e s m args below meth c s₁ B hml hv
  obtain ⟨rfl, ⟨hsz, hP, hKc, hD⟩, hK⟩ := hv
  have hl := lv_entry As (n := maxL) hlen
  rw [lg_entry_eq]
  generalize (lg_sl As ++ List.replicate (maxL - (lg_sl As).length) Slot.unset).toArray = ls at hl ⊢
  rw [hlv] at hl
  have hts := atoms_spec (ws := Cond.code y cc maxL ret :: bw) B.pre
  exact body p e s m below meth c ls ⟨B.exec, B.bytes, hml, B.returns, B.notSynchronized, findClass_of_methodNamed B.named, fun w hw => hts w (List.mem_cons_of_mem _ hw)⟩ hl ⟨hP, hD.self, va_S.rf, hKc, fun q h => Or.inr (by rw [← hsz]; exact h)⟩ hsz hK
/-- the worlds -/
def md_W (h0 : Nat) (r : Nat → Nat) (cA : Nat → ClassId) (uf : Nat → Int32) (ua : Nat → Nat → Int32) (us : Nat → Int64) : va_W :=
  [(h0, .inr (6, [.ref (r 0), .int (uf 1), .ref (r 2), .ref (r 3), .ref (r 4), .ref (r 5), .ref (r 6), .int (uf 7), .int (uf 8), .ref (r 9), .ref (r 10), .int (uf 11), .ref (r 12), .int (uf 13), .ref (r 14)])), (r 0, .inl (cA 0, 16, .inl (ua 0))), (r 2, .inl (cA 2, 40, .inl (ua 2))), (r 3, .inl (cA 3, 40, .inl (ua 3))), (r 4, .inl (cA 4, 40, .inl (ua 4))), (r 5, .inl (cA 5, 40, .inl (ua 5))), (r 6, .inl (cA 6, 40, .inl (ua 6))), (r 9, .inl (cA 9, 290, .inr (.inl us))), (r 10, .inl (cA 10, 120, .inl (ua 10))), (r 12, .inl (cA 12, 60, .inl (ua 12))), (r 14, .inl (cA 14, 12, .inl (ua 14)))]
def md_T (cA : Nat → ClassId) : List (ClassId × FieldType) := [(cA 0, .int), (cA 2, .int), (cA 3, .int), (cA 4, .int), (cA 5, .int), (cA 6, .int), (cA 9, .long), (cA 10, .byte), (cA 12, .int), (cA 14, .int)]
def dg_W (h0 : Nat) (r : Nat → Nat) (cA : Nat → ClassId) (uf : Nat → Int32) (ua : Nat → Nat → Int32) (us : Nat → Int64) : va_W :=
  [(h0, .inr (2, [.ref (r 0), .int (uf 1), .ref (r 2)])), (r 0, .inl (cA 0, 81, .inl (ua 0))), (r 2, .inl (cA 2, 10, .inr (.inl us)))]
def dg_T (cA : Nat → ClassId) : List (ClassId × FieldType) := [(cA 0, .byte), (cA 2, .long)]
def pg_W (h0 : Nat) (r : Nat → Nat) (cA : Nat → ClassId) (uf : Nat → Int32) (ua : Nat → Nat → Int32) : va_W :=
  [(h0, .inr (4, [.ref (r 0), .ref (r 1), .ref (r 2), .ref (r 3), .ref (r 4), .ref (r 5), .int (uf 6), .int (uf 7)])), (r 0, .inl (cA 0, 16, .inl (ua 0))), (r 1, .inl (cA 1, 40, .inl (ua 1))), (r 2, .inl (cA 2, 40, .inl (ua 2))), (r 3, .inl (cA 3, 40, .inl (ua 3))), (r 4, .inl (cA 4, 40, .inl (ua 4))), (r 5, .inl (cA 5, 40, .inl (ua 5)))]
def pg_T (cA : Nat → ClassId) : List (ClassId × FieldType) := [(cA 0, .int), (cA 1, .int), (cA 2, .int), (cA 3, .int), (cA 4, .int), (cA 5, .int)]
theorem bw_all {ws : List Cond} (h : ws.all (fun w => decide (w ∈ lw_tbl) && goodWord w) = true) : ∀ w ∈ ws, w ∈ bw := by
  intro w hw
  have h1 := List.all_eq_true.mp h w hw
  simp only [Bool.and_eq_true, decide_eq_true_eq] at h1
  exact bw_in h1.1 h1.2
set_option maxRecDepth 20000 in
theorem inX1 : ∀ w ∈ u_ws RX1 TX1 3, w ∈ bw := bw_all (by decide +kernel)
set_option maxRecDepth 20000 in
theorem inX3 : ∀ w ∈ u_ws RX3 TX3 8, w ∈ bw := bw_all (by decide +kernel)
set_option maxRecDepth 20000 in
theorem inX4 : ∀ w ∈ u_ws RX4 TX4 2, w ∈ bw := bw_all (by decide +kernel)
set_option maxRecDepth 20000 in
theorem inX5 : ∀ w ∈ u_ws RX5 TX5 15, w ∈ bw := bw_all (by decide +kernel)
/-- places -/
theorem vi_lt {k : Int32} {B : Int32} {n : Nat} (h0 : 0 ≤ k.toInt) (h : ¬ B ≤ k) (hB : B.toInt ≤ n) : vp_in k n := by
  rw [vp_in_iff]
  refine ⟨h0, ?_⟩
  rcases Int.lt_or_le k.toInt B.toInt with q | q
  · omega
  · exact absurd (Int32.le_iff_toInt_le.mpr q) h
theorem vi_in {k : Int32} {n : Nat} (h0 : 0 ≤ k.toInt) (h : k.toInt < n) : vp_in k n := vp_in_iff.mpr ⟨h0, h⟩
theorem li_up {k B : Int32} (h : ¬ B ≤ k) (hi : 0 ≤ k.toInt) : 0 ≤ (k + 1).toInt := by
  have h1 : k.toInt < B.toInt := by
    rcases Int.lt_or_le k.toInt B.toInt with q | q
    · exact q
    · exact absurd (Int32.le_iff_toInt_le.mpr q) h
  have h2 : B.toInt < 2 ^ 31 := Int32.toInt_lt B
  have h4 : (k + 1).toInt = k.toInt + 1 := by
    rw [Int32.toInt_add]
    show (k.toInt + 1).bmod (2 ^ 32) = k.toInt + 1
    rw [Int.bmod_eq_of_le] <;> omega
  omega
