theorem gw_SW {own : String} {index maxL : Nat} {y : MethodName} {bytes : ByteArray} {ret : Option FieldType} {hh : List (Nat × Nat × Nat × Nat)} (hk : Cond.methodLink own index y ∈ bw) (h1 : Cond.static y ∈ bw) (h2 : Cond.initialized y.cls ∈ bw) (h3 : Cond.codeWith y bytes maxL ret hh ∈ bw) : GoodIn bw (va_wsS own index y (Cond.codeWith y bytes maxL ret hh :: bw)) := by
  intro w hw
  simp only [va_wsS, List.mem_append, List.mem_cons, List.not_mem_nil, or_false] at hw
  rcases hw with (rfl | rfl | rfl) | rfl | hw
  · exact bw_good hk
  · exact bw_good h1
  · exact bw_good h2
  · exact bw_good h3
  · exact bw_good hw
section LX
variable {p : Program} {l : Launch} {e : Env} {R : Room} {s : State} {m : MethodId} {args : Array Value} {below : List Frame} {meth : Method} {c : Code} {H : Heap} {locs : List Loc} {cells slots : Nat} {Q : State → Prop}
variable {cc : ByteArray} {pc : Nat} {ls : Array Slot} {rest : List Value} {D : va_G} {tys tys' : List (ClassId × FieldType)} {Rg : Nat → Prop} {ws ws1 wr wC : va_W}
/-- a call of a static helper of the law -/
theorem hx_h {S : Type} {Wf Gn : S → va_W} {Pst : Int32 → S → Prop} {y : MethodName} {bytes : ByteArray} {maxL n nA index mc ms : Nat} {ret rt : Option FieldType} {hh : List (Nat × Nat × Nat × Nat)} {rm : Room} {own : String} {As : List Value} {K : Nat → State → Prop} {st0 : List Value} (isC isR isN isT : List Nat)
    (C : bx_C p s m args meth c cc n rt own) (hM : ∀ sz, Met l y (Cond.codeWith y bytes maxL ret hh :: bw) rm (hPc As D tys' wC sz (K sz)) (va_Qi Pst (hBk D tys' (va_A wC sz) Wf) (va_A wC sz)) mc ms (va_A wC sz)) (hBl : ∀ (z : Nat) (a : Array Value) (U : State) (g : JFrame) (mk : MethodId), K z U → K z (U.calling g mk a)) (hKH : ∀ U : State, U.heap = H → s.WarmedH U.vm → K H.size U)
    (hw : hW D tys Rg s H locs ws) (hC : isC.map (fun i => ws[i]?) = wC.map some) (hC2 : isC.filterMap (fun i => ws[i]?) = wC) (hC3 : va_nd isC = true) (hRr : isR.map (fun i => ws[i]?) = wr.map some) (hRn : va_nd isR = true) (hdis : ∀ i ∈ isR, i ∉ isC) (hT : isT.filterMap (fun i => tys[i]?) = tys')
    (hN1 : ∀ u, isN.filterMap (fun i => (wr ++ Wf u)[i]?) = Gn u) (hN2 : va_nd isN = true) (hN3 : ∀ u, isN.map (fun i => (wr ++ Wf u)[i]?) = (Gn u).map some)
    (hk : Cond.methodLink own index y ∈ bw) (h1 : Cond.static y ∈ bw) (h2 : Cond.initialized y.cls ∈ bw) (h3 : Cond.codeWith y bytes maxL ret hh ∈ bw) (hd : y.cls ≠ "java/lang/invoke/MethodHandle" ∧ y.cls ≠ "java/lang/invoke/VarHandle" ∧ (parseMethodDescriptor y.desc).map (fun d => d.parameters.length) = some nA) (hn : As.length = nA) (hrc : rm.cells = mc ∧ rm.slots = ms)
    (hR : rm.frames + 1 ≤ R.frames ∧ 8 + (maxL + 11) + rm.locals ≤ R.locals) (hcs : cells + mc ≤ R.cells ∧ slots + ms ≤ R.slots) (hl : ls.size = n) (hst : st0 = As.reverse ++ rest) (hWd : (rest.map fun v => v.category).sum ≤ 8) (hdg : decode cc pc = .ok (.invokestatic index, 3))
    (k : ∀ (r : Int32) (u : S) (H : Heap) (locs : List Loc), Pst r u → hW D tys Rg s H locs (Gn u) → W p l e R s m args below meth c H locs (cells + mc) (slots + ms) Q (F0 m (pc + 3) ls (.int r :: rest))) : W p l e R s m args below meth c H locs cells slots Q (F0 m pc ls st0) := by
  obtain ⟨hx, hb, hml, -, -, hown, hts⟩ := C
  have hFc := hw_fr hw isC hC
  obtain ⟨hP, hD, hS, hK, hA⟩ := hw
  have hPc := hP.sub isC hC2
  have hDc := hD.sub isC hC3 hC
  have hKc := hK.sub isT hT
  refine va_calli (vx_runSW (nL := n) (As := As) (rest := rest) (Ts := bw) (n := nA) ⟨hx, hb, hml, hown, hts⟩ (hM H.size) (vx_cwSW nA hts (gw_SW hk h1 h2 h3) rfl hrc.1 hrc.2 hd hR) ⟨fun a U g mk q => ⟨q.1, ⟨q.2.1.1, q.2.1.2.1, va_K.moved (u := U) (U := U.calling g mk a) (Vm.Alike.refl U.vm) q.2.1.2.2.1, q.2.1.2.2.2⟩, hBl _ a U g mk q.2.2⟩, fun U hU hW => ⟨rfl, ⟨by rw [hU], by rw [hU]; exact hPc, va_K.moved hW.alike hKc, hDc.weaken (fun _ _ _ _ => trivial)⟩, hKH U hU hW⟩⟩ rfl hn hl hst (lv_room hWd) hdg hcs) hS (fun q _ h => hFc q h) hFc (fun r u t H1 locs1 ht hvm hpost hB hz1 hk1 hS1 => ?_)
  obtain ⟨hP1, hK1, hD1⟩ := hB
  rw [ht] at hP1
  obtain ⟨hP2, hD2⟩ := va_join (wr := wr) (w1 := Wf u) hP hD isC isR hC hRr hRn hdis hk1 hFc hP1 hD1
  exact k r u H1 locs1 hpost ⟨hP2.sub isN (hN1 u), hD2.sub isN hN2 (hN3 u), hS1, hK, hA⟩
theorem hx_xl {S : Type} {Wf : S → va_W} {u0 : S} {F : Int64 × S} {y : MethodName} {bytes : ByteArray} {maxL n nA index a ci N : Nat} {ret rt : Option FieldType} {rm : Room} {own CL : String} {As : List Value} {K : Nat → State → Prop} {st0 fs : List Value} {T : u_T} (isC isR isN isT : List Nat)
    (C : bx_C p s m args meth c cc n rt own) (hM : ∀ sz, Met l y (Cond.code y bytes maxL ret :: bw) rm (hPc (.ref a :: As) D tys' (Wf u0) sz (K sz)) (va_Ql (fun r u => (r, u) = F) (hBk D tys' (va_A (Wf u0) sz) Wf) (va_A (Wf u0) sz)) 0 0 (va_A (Wf u0) sz)) (hBl : ∀ sz, bx_B (K sz)) (hKH : ∀ U : State, U.heap = H → s.vm.Alike U.vm → K H.size U)
    (hw : hW D tys Rg s H locs ws) (hC : isC.map (fun i => ws[i]?) = (Wf u0).map some) (hC2 : isC.filterMap (fun i => ws[i]?) = Wf u0) (hC3 : va_nd isC = true) (hRr : isR.map (fun i => ws[i]?) = wr.map some) (hRn : va_nd isR = true) (hdis : ∀ i ∈ isR, i ∉ isC) (hT : isT.filterMap (fun i => tys[i]?) = tys')
    (hN1 : isN.filterMap (fun i => (wr ++ Wf F.2)[i]?) = ws1) (hN2 : va_nd isN = true) (hN3 : isN.map (fun i => (wr ++ Wf F.2)[i]?) = ws1.map some)
    (he : (Wf u0)[0]? = some (a, .inr (ci, fs))) (hc : vwCl[ci]? = some (CL, T, N)) (hk : Cond.methodLink own index y ∈ bw) (hmb : mb_V CL y bytes maxL ret nA) (hn : As.length = nA) (hrc : rm.cells = 0 ∧ rm.slots = 0)
    (hR : rm.frames + 1 ≤ R.frames ∧ 8 + (maxL + 11) + rm.locals ≤ R.locals) (hcs : cells ≤ R.cells ∧ slots ≤ R.slots) (hl : ls.size = n) (hst : st0 = As.reverse ++ .ref a :: rest) (hWd : (rest.map fun v => v.category).sum ≤ 8) (hdg : decode cc pc = .ok (.invokevirtual index, 3))
    (k : ∀ (H : Heap) (locs : List Loc), hW D tys Rg s H locs ws1 → W p l e R s m args below meth c H locs cells slots Q (F0 m (pc + 3) ls (.long F.1 :: rest))) : W p l e R s m args below meth c H locs cells slots Q (F0 m pc ls st0) := by
  obtain ⟨hx, hb, hml, -, -, hown, hts⟩ := C
  have hFc := hw_fr hw isC hC
  obtain ⟨hP, hD, hS, hK, hA⟩ := hw
  have hPc := hP.sub isC hC2
  have hDc := hD.sub isC hC3 hC
  have hKc := hK.sub isT hT
  refine va_calll (va_runV (nL := n) (As := As) (rest := rest) (Ts := bw) (n := nA) ⟨hx, hb, hml, hown, hts⟩ (hM H.size) (cwV nA hts (gw_V hk hmb) rfl hrc.1 hrc.2 hmb.2 hR) ⟨fun a U g mk q => ⟨q.1, ⟨q.2.1.1, q.2.1.2.1, va_K.moved (u := U) (U := U.calling g mk a) (Vm.Alike.refl U.vm) q.2.1.2.2.1, q.2.1.2.2.2⟩, hBl _ U _ rfl (Vm.Alike.refl U.vm) q.2.2⟩, va_recv hKc hPc hc he, fun U hU hW => ⟨rfl, ⟨by rw [hU], by rw [hU]; exact hPc, va_K.moved hW.alike hKc, hDc.weaken (fun _ _ _ _ => trivial)⟩, hKH U hU hW.alike⟩⟩ rfl hn hl hst (lv_room hWd) hdg hcs) hS (fun q _ h => hFc q h) hFc (fun r u t H1 locs1 ht hvm hpost hB hz1 hk1 hS1 => ?_)
  obtain ⟨hP1, hK1, hD1⟩ := hB
  rw [ht] at hP1
  subst hpost
  obtain ⟨hP2, hD2⟩ := va_join (wr := wr) (w1 := Wf u) hP hD isC isR hC hRr hRn hdis hk1 hFc hP1 hD1
  exact k H1 locs1 ⟨hP2.sub isN hN1, hD2.sub isN hN2 hN3, hS1, hK, hA⟩
theorem hw_obk {a q0 ci N : Nat} {fs : List Value} {CL : String} {T : u_T} (hw : hW D tys Rg s H locs ws) (he : ws[q0]? = some (a, .inr (ci, fs))) (hc : vwCl[ci]? = some (CL, T, N)) {U : State} (hU : U.heap = H) (hv : s.vm.Alike U.vm) : ob_K CL a U := va_recv (va_K.moved hv hw.2.2.2.1) (by rw [hU]; exact hw.1) hc he
/-- next() of the class: its nest's word goes along with the tables -/
theorem bx_vn {y : MethodName} {bytes : ByteArray} {maxL n nA index a : Nat} {ret rt : Option FieldType} {rm : Room} {own CL : String} {As : List Value} {K : State → Prop} {v : Int32} {st0 : List Value}
    (C : bx_C p s m args meth c cc n rt own) (hM : Met l y (Cond.code y bytes maxL ret :: bw) rm (va_Pc (.ref a :: As) K) (vp_Si (fun r => r = v)) 0 0 (fun _ => False)) (hB : ∀ (a : Array Value) (U : State) (g : JFrame) (mk : MethodId), K U → K (U.calling g mk a)) (hKH : ∀ U : State, U.heap = H → s.WarmedH U.vm → K U) (hO : ∀ U : State, U.heap = H → s.vm.Alike U.vm → ob_K CL a U)
    (hk : Cond.methodLink own index y ∈ bw) (hmb : mb_V CL y bytes maxL ret nA) (hn : As.length = nA) (hrc : rm.cells = 0 ∧ rm.slots = 0)
    (hR : rm.frames + 1 ≤ R.frames ∧ 8 + (maxL + 11) + rm.locals ≤ R.locals) (hcs : cells ≤ R.cells ∧ slots ≤ R.slots) (hl : ls.size = n) (hst : st0 = As.reverse ++ .ref a :: rest) (hW : (rest.map fun v => v.category).sum ≤ 8) (hdg : decode cc pc = .ok (.invokevirtual index, 3))
    (k : W p l e R s m args below meth c H locs cells slots Q (F0 m (pc + 3) ls (.int v :: rest))) : W p l e R s m args below meth c H locs cells slots Q (F0 m pc ls st0) := by
  obtain ⟨hx, hb, hml, -, -, hown, hts⟩ := C
  refine vp_callSi (W.runV (nL := n) (As := As) (rest := rest) (Ts := bw) (n := nA) ⟨hx, hb, hml, hown, hts⟩ hM (cwV nA hts (gw_V hk hmb) rfl hrc.1 hrc.2 hmb.2 hR) ⟨fun a U g mk q => ⟨q.1, hB a U g mk q.2⟩, ?_, fun U hU hW => ⟨rfl, hKH U hU hW⟩⟩ rfl hn hl hst (lv_room hW) hdg hcs) (fun r hr => ?_)
  · exact hO { s with heap := H } rfl (Vm.Alike.refl s.vm)
  subst hr
  exact k
end LX
/-- both worlds and the row between them -/
def ll_W (h0 g1 g2 : Nat) (rp rd : Nat → Nat) (cp cd : Nat → ClassId) (h9 : Nat) (r : Nat → Nat) (cA : Nat → ClassId) (qo : Nat) (cO : ClassId) (pf : Nat → Int32) (pa : Nat → Nat → Int32) (df : Nat → Int32) (da : Nat → Nat → Int32) (ds : Nat → Int64) (uf : Nat → Int32) (ua : Nat → Nat → Int32) (us : Nat → Int64) (o : Nat → Int64) : va_W := gl_W h0 g1 g2 rp rd cp cd pf pa df da ds ++ (md_W h9 r cA uf ua us ++ [(qo, .inl (cO, 1, .inr (.inl o)))])
def ll_T (cp cd cA : Nat → ClassId) (cO : ClassId) : List (ClassId × FieldType) := gl_T cp cd ++ (md_T cA ++ [(cO, .long)])
/-- what holds between the two worlds -/
def rl (pf : Nat → Int32) (pa : Nat → Nat → Int32) (df : Nat → Int32) (da : Nat → Nat → Int32) (uf : Nat → Int32) (ua : Nat → Nat → Int32) : Prop :=
  (pf 6 = uf 1 ∧ pf 7 = uf 7) ∧ (∀ i : Nat, i < 16 → pa 0 i = ua 0 i) ∧ (∀ i : Nat, (i : Int) < (uf 1).toInt → pa 1 i = ua 2 i ∧ pa 2 i = ua 3 i ∧ pa 3 i = ua 4 i ∧ pa 4 i = ua 5 i ∧ pa 5 i = ua 6 i) ∧ ms_ok (uf 1) ua ∧ df 1 = uf 11 ∧ (0 ≤ (uf 11).toInt ∧ (uf 11).toInt ≤ 81) ∧ ∀ i : Nat, (i : Int) < (uf 11).toInt → da 0 i = ua 10 i
/-- what a case of the law knows -/
def lx (p : Program) (s : State) (m : MethodId) (meth : Method) (c : Code) (b L : Nat) (xs : Nat → Int32) (af ad : Nat) : Prop := bx_C p s m #[Value.ref b] meth c cL_law 8 ret RL ∧ va_X b L xs s s.heap ∧ b < s.heap.size ∧ xk_K af ad (fun q => s.heap.size ≤ q) s ∧ va_Nw wN s
theorem sc_in {x4 k : Int32} {L : Nat} (hL : L ≤ 4096) (h : 0 ≤ x4.toInt ∧ x4.toInt + 8 ≤ L) (hk : 0 ≤ k.toInt ∧ k.toInt ≤ 7) : vp_in (x4 + k) L := by
  rw [vp_in_iff, sd_add (by omega) (by omega)]
  omega
