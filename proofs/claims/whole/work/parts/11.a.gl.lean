/-- the object with its two worlds -/
def gl_W (h0 g1 g2 : Nat) (rp rd : Nat → Nat) (cp cd : Nat → ClassId) (pf : Nat → Int32) (pa : Nat → Nat → Int32) (df : Nat → Int32) (da : Nat → Nat → Int32) (ds : Nat → Int64) : va_W :=
  (h0, .inr (5, [.ref g1, .ref g2])) :: (pg_W g1 rp cp pf pa ++ dg_W g2 rd cd df da ds)
def gl_T (cp cd : Nat → ClassId) : List (ClassId × FieldType) := pg_T cp ++ dg_T cd
section GL
variable {p : Program} {l : Launch} {e : Env} {R : Room} {s : State} {m : MethodId} {args : Array Value} {below : List Frame} {meth : Method} {c : Code} {H : Heap} {locs : List Loc} {cells slots : Nat} {Q : State → Prop}
variable {cc : ByteArray} {pc : Nat} {ls : Array Slot} {rest : List Value} {D : va_G} {tys tys' : List (ClassId × FieldType)} {Rg : Nat → Prop} {ws ws1 wr : va_W}
theorem hw_rd (hw : hW D tys Rg s H locs ws) {U : State} (hU : U.heap = H) (hv : s.vm.Alike U.vm) (isC isT : List Nat) {w1 : va_W} (hC : isC.filterMap (fun i => ws[i]?) = w1) (hT : isT.filterMap (fun i => tys[i]?) = tys') : rd_K D tys' w1 U := ⟨by rw [hU]; exact hw.1.sub isC hC, va_K.moved hv (hw.2.2.2.1.sub isT hT)⟩
theorem rd_rd (hw : rd_K D tys ws s) {U : State} (hU : U.heap = s.heap) (hv : s.vm.Alike U.vm) (isC isT : List Nat) {w1 : va_W} (hC : isC.filterMap (fun i => ws[i]?) = w1) (hT : isT.filterMap (fun i => tys[i]?) = tys') : rd_K D tys' w1 U := ⟨by rw [hU]; exact hw.1.sub isC hC, va_K.moved hv (hw.2.sub isT hT)⟩
theorem hw_fr (hw : hW D tys Rg s H locs ws) (isC : List Nat) {w1 : va_W} (hC : isC.map (fun i => ws[i]?) = w1.map some) : ∀ q, va_A w1 H.size q → Rg q := va_free hw.2.1 hw.2.2.1 hw.2.2.2.2 isC hC
/-- calls of a method whose world is a part of this one -/
theorem hx_xi {S : Type} {Wf : S → va_W} {u0 : S} {F : Int32 × S} {y : MethodName} {bytes : ByteArray} {maxL n nA index a ci N : Nat} {ret rt : Option FieldType} {rm : Room} {own CL : String} {As : List Value} {K : Nat → State → Prop} {st0 fs : List Value} {T : u_T} (isC isR isN isT : List Nat)
    (C : bx_C p s m args meth c cc n rt own) (hM : ∀ sz, Met l y (Cond.code y bytes maxL ret :: bw) rm (hPc (.ref a :: As) D tys' (Wf u0) sz (K sz)) (va_Qi (fun r u => (r, u) = F) (hBk D tys' (va_A (Wf u0) sz) Wf) (va_A (Wf u0) sz)) 0 0 (va_A (Wf u0) sz)) (hBl : ∀ sz, bx_B (K sz)) (hKH : ∀ U : State, U.heap = H → s.vm.Alike U.vm → K H.size U)
    (hw : hW D tys Rg s H locs ws) (hC : isC.map (fun i => ws[i]?) = (Wf u0).map some) (hC2 : isC.filterMap (fun i => ws[i]?) = Wf u0) (hC3 : va_nd isC = true) (hRr : isR.map (fun i => ws[i]?) = wr.map some) (hRn : va_nd isR = true) (hdis : ∀ i ∈ isR, i ∉ isC) (hT : isT.filterMap (fun i => tys[i]?) = tys')
    (hN1 : isN.filterMap (fun i => (wr ++ Wf F.2)[i]?) = ws1) (hN2 : va_nd isN = true) (hN3 : isN.map (fun i => (wr ++ Wf F.2)[i]?) = ws1.map some)
    (he : (Wf u0)[0]? = some (a, .inr (ci, fs))) (hc : vwCl[ci]? = some (CL, T, N)) (hk : Cond.methodLink own index y ∈ bw) (hmb : mb_V CL y bytes maxL ret nA) (hn : As.length = nA) (hrc : rm.cells = 0 ∧ rm.slots = 0)
    (hR : rm.frames + 1 ≤ R.frames ∧ 8 + (maxL + 11) + rm.locals ≤ R.locals) (hcs : cells ≤ R.cells ∧ slots ≤ R.slots) (hl : ls.size = n) (hst : st0 = As.reverse ++ .ref a :: rest) (hWd : (rest.map fun v => v.category).sum ≤ 8) (hdg : decode cc pc = .ok (.invokevirtual index, 3))
    (k : ∀ (H : Heap) (locs : List Loc), hW D tys Rg s H locs ws1 → W p l e R s m args below meth c H locs cells slots Q (F0 m (pc + 3) ls (.int F.1 :: rest))) : W p l e R s m args below meth c H locs cells slots Q (F0 m pc ls st0) := by
  obtain ⟨hx, hb, hml, -, -, hown, hts⟩ := C
  have hFc := hw_fr hw isC hC
  obtain ⟨hP, hD, hS, hK, hA⟩ := hw
  have hPc := hP.sub isC hC2
  have hDc := hD.sub isC hC3 hC
  have hKc := hK.sub isT hT
  refine va_calli (va_runV (nL := n) (As := As) (rest := rest) (Ts := bw) (n := nA) ⟨hx, hb, hml, hown, hts⟩ (hM H.size) (cwV nA hts (gw_V hk hmb) rfl hrc.1 hrc.2 hmb.2 hR) ⟨fun a U g mk q => ⟨q.1, ⟨q.2.1.1, q.2.1.2.1, va_K.moved (u := U) (U := U.calling g mk a) (Vm.Alike.refl U.vm) q.2.1.2.2.1, q.2.1.2.2.2⟩, hBl _ U _ rfl (Vm.Alike.refl U.vm) q.2.2⟩, va_recv hKc hPc hc he, fun U hU hW => ⟨rfl, ⟨by rw [hU], by rw [hU]; exact hPc, va_K.moved hW.alike hKc, hDc.weaken (fun _ _ _ _ => trivial)⟩, hKH U hU hW.alike⟩⟩ rfl hn hl hst (lv_room hWd) hdg hcs) hS (fun q _ h => hFc q h) hFc (fun r u t H1 locs1 ht hvm hpost hB hz1 hk1 hS1 => ?_)
  obtain ⟨hP1, hK1, hD1⟩ := hB
  rw [ht] at hP1
  subst hpost
  obtain ⟨hP2, hD2⟩ := va_join (wr := wr) (w1 := Wf u) hP hD isC isR hC hRr hRn hdis hk1 hFc hP1 hD1
  exact k H1 locs1 ⟨hP2.sub isN hN1, hD2.sub isN hN2 hN3, hS1, hK, hA⟩
theorem hx_xv {S : Type} {Wf : S → va_W} {u0 : S} {F : S} {y : MethodName} {bytes : ByteArray} {maxL n nA index a ci N : Nat} {ret rt : Option FieldType} {rm : Room} {own CL : String} {As : List Value} {K : Nat → State → Prop} {st0 fs : List Value} {T : u_T} (isC isR isN isT : List Nat)
    (C : bx_C p s m args meth c cc n rt own) (hM : ∀ sz, Met l y (Cond.code y bytes maxL ret :: bw) rm (hPc (.ref a :: As) D tys' (Wf u0) sz (K sz)) (va_Qv (fun u => u = F) (hBk D tys' (va_A (Wf u0) sz) Wf) (va_A (Wf u0) sz)) 0 0 (va_A (Wf u0) sz)) (hBl : ∀ sz, bx_B (K sz)) (hKH : ∀ U : State, U.heap = H → s.vm.Alike U.vm → K H.size U)
    (hw : hW D tys Rg s H locs ws) (hC : isC.map (fun i => ws[i]?) = (Wf u0).map some) (hC2 : isC.filterMap (fun i => ws[i]?) = Wf u0) (hC3 : va_nd isC = true) (hRr : isR.map (fun i => ws[i]?) = wr.map some) (hRn : va_nd isR = true) (hdis : ∀ i ∈ isR, i ∉ isC) (hT : isT.filterMap (fun i => tys[i]?) = tys')
    (hN1 : isN.filterMap (fun i => (wr ++ Wf F)[i]?) = ws1) (hN2 : va_nd isN = true) (hN3 : isN.map (fun i => (wr ++ Wf F)[i]?) = ws1.map some)
    (he : (Wf u0)[0]? = some (a, .inr (ci, fs))) (hc : vwCl[ci]? = some (CL, T, N)) (hk : Cond.methodLink own index y ∈ bw) (hmb : mb_V CL y bytes maxL ret nA) (hn : As.length = nA) (hrc : rm.cells = 0 ∧ rm.slots = 0)
    (hR : rm.frames + 1 ≤ R.frames ∧ 8 + (maxL + 11) + rm.locals ≤ R.locals) (hcs : cells ≤ R.cells ∧ slots ≤ R.slots) (hl : ls.size = n) (hst : st0 = As.reverse ++ .ref a :: rest) (hWd : (rest.map fun v => v.category).sum ≤ 8) (hdg : decode cc pc = .ok (.invokevirtual index, 3))
    (k : ∀ (H : Heap) (locs : List Loc), hW D tys Rg s H locs ws1 → W p l e R s m args below meth c H locs cells slots Q (F0 m (pc + 3) ls rest)) : W p l e R s m args below meth c H locs cells slots Q (F0 m pc ls st0) := by
  obtain ⟨hx, hb, hml, -, -, hown, hts⟩ := C
  have hFc := hw_fr hw isC hC
  obtain ⟨hP, hD, hS, hK, hA⟩ := hw
  have hPc := hP.sub isC hC2
  have hDc := hD.sub isC hC3 hC
  have hKc := hK.sub isT hT
  refine va_callv (va_runV (nL := n) (As := As) (rest := rest) (Ts := bw) (n := nA) ⟨hx, hb, hml, hown, hts⟩ (hM H.size) (cwV nA hts (gw_V hk hmb) rfl hrc.1 hrc.2 hmb.2 hR) ⟨fun a U g mk q => ⟨q.1, ⟨q.2.1.1, q.2.1.2.1, va_K.moved (u := U) (U := U.calling g mk a) (Vm.Alike.refl U.vm) q.2.1.2.2.1, q.2.1.2.2.2⟩, hBl _ U _ rfl (Vm.Alike.refl U.vm) q.2.2⟩, va_recv hKc hPc hc he, fun U hU hW => ⟨rfl, ⟨by rw [hU], by rw [hU]; exact hPc, va_K.moved hW.alike hKc, hDc.weaken (fun _ _ _ _ => trivial)⟩, hKH U hU hW.alike⟩⟩ rfl hn hl hst (lv_room hWd) hdg hcs) hS (fun q _ h => hFc q h) hFc (fun u t H1 locs1 ht hvm hpost hB hz1 hk1 hS1 => ?_)
  obtain ⟨hP1, hK1, hD1⟩ := hB
  rw [ht] at hP1
  subst hpost
  obtain ⟨hP2, hD2⟩ := va_join (wr := wr) (w1 := Wf u) hP hD isC isR hC hRr hRn hdis hk1 hFc hP1 hD1
  exact k H1 locs1 ⟨hP2.sub isN hN1, hD2.sub isN hN2 hN3, hS1, hK, hA⟩
end GL
theorem fo_S_sub {af : Nat} {Rg : Nat → Prop} {D : va_G} {tys : List (ClassId × FieldType)} {s U : State} {H : Heap} {locs : List Loc} {ws w1 : va_W} (hF : fo_S af Rg s) (hw : hW D tys Rg s H locs ws) (isC : List Nat) (hC : isC.map (fun i => ws[i]?) = w1.map some) (hU : U.heap = H) (hv : s.vm.Alike U.vm) : fo_S af (va_A w1 H.size) U :=
  ⟨fo_Z_to hF.1 hw.2.2.1 (hw_fr hw isC hC) hU hv, fo_R_to hF.2 hw.2.2.1 (hw_fr hw isC hC) hU hv⟩
