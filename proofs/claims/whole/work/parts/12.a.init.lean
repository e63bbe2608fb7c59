section NW
variable {p : Program} {l : Launch} {e : Env} {R : Room} {s : State} {m : MethodId} {args : Array Value} {below : List Frame} {meth : Method} {c : Code} {H : Heap} {locs : List Loc} {cells slots : Nat} {Q : State → Prop}
variable {cc : ByteArray} {pc : Nat} {ls : Array Slot} {rest : List Value} {D : va_G} {tys : List (ClassId × FieldType)} {Rg : Nat → Prop} {ws ws' : va_W}
theorem hx_newa {atype : ArrayType} {ty : FieldType} (hx : p.tables.exec = Jvm.exec) (hb : c.code = cc) (hts : ∀ w ∈ bw, w.before args s = true) (harr : Cond.arrayClass ty ∈ bw) (hty : newarray.typeOf atype = ty) (hw : hW D tys Rg s H locs ws) {n : Int32} {N' : Nat} {a0 : vp_A} (ha : ∀ cA : ClassId, vp_cell cA a0 = arrV cA N' (fun _ => defaultValue ty)) (hn : ¬ n < 0) (hN : n.toNatClampNeg = N') (hbytes : N' * componentBytes ty ≤ 536870912) (hcells : cells + 1 ≤ R.cells) (hslots : slots + N' ≤ R.slots) (hdg : decode cc pc = .ok (.newarray atype, 2))
    (kk : ∀ (q : Nat) (cA : ClassId) (H : Heap), hW D (tys ++ [(cA, ty)]) Rg s H locs (ws ++ [(q, .inl (cA, a0))]) → W p l e R s m args below meth c H locs (cells + 1) (slots + N') Q (F0 m (pc + 2) ls (.ref q :: rest))) : W p l e R s m args below meth c H locs cells slots Q (F0 m pc ls (.int n :: rest)) := by
  obtain ⟨hP, hD, hS, hK, hA⟩ := hw
  subst hty
  exact va_newa hx hb (hts _ harr) rfl hK hP hD hS hA ha hn hN hbytes hcells hslots hdg (fun q cA H1 hK hP hD hS => kk q cA H1 ⟨hP, hD, hS, hK, hA⟩)
theorem hx_putF (hx : p.tables.exec = Jvm.exec) (hb : c.code = cc) (hts : ∀ w ∈ bw, w.before args s = true) {own ref CL : String} {T : u_T} {N ci index : Nat} (hin : ∀ w ∈ u_ws CL T N, w ∈ bw) (ty0 : Nat → FieldType) (hty : ∀ k, k < N → parseFieldDescriptor (T k).2.2.1 = some (ty0 k)) (hnm : ∀ a, a < N → ∀ b, b < N → a ≠ b → (T a).2.1 ≠ (T b).2.1) (hown : s.vm.findClass own = some m.cls) (hw : hW D tys Rg s H locs ws) (q0 : Nat) {a : Nat} {fs : List Value} (he : ws[q0]? = some (a, .inr (ci, fs))) (hc : vwCl[ci]? = some (CL, T, N)) (k : Nat) (hk : k < N) (hlink : Cond.fieldLink own index ref (T k).2.1 (T k).2.2.1 ∈ bw) (hsame : (T k).1 = ref) (hfin : (T k).2.2.2 = true) (hin2 : meth.name = "<init>") (hdecl : (T k).1 = own) {v : Nat} {ty : FieldType} (hd : parseFieldDescriptor (T k).2.2.1 = some ty) (hn : narrow ty (.ref v) = .ref v) (hfit : fits ty (.ref v) = true) (hl : k < fs.length) (hdg : decode cc pc = .ok (.putfield index, 3)) (hs : ws.set q0 (a, .inr (ci, fs.set k (.ref v))) = ws')
    (kk : ∀ (H : Heap) (locs : List Loc), hW D tys Rg s H locs ws' → W p l e R s m args below meth c H locs cells slots Q (F0 m (pc + 3) ls rest)) : W p l e R s m args below meth c H locs cells slots Q (F0 m pc ls (.ref v :: .ref a :: rest)) := by
  obtain ⟨hP, hD, hS, hK, hA⟩ := hw
  subst hs
  exact va_putF hx hb hts hin ty0 hty hnm hown hK hP hD hS q0 he hc k hk (hts _ hlink) (fun x h => by rw [← hsame]; exact h) hfin hin2 hdecl hd hn hfit hl hdg (fun H1 locs1 hP hD hS => kk H1 locs1 ⟨hP, hD, hS, hK, hA⟩)
end NW
/-- the entry of a method that makes cells -/
theorem hx_entN {l : Launch} {y : MethodName} {rm : Room} {K : State → Prop} {Qc : Array Value → State → Outcome → State → Prop} {cc : ByteArray} {maxL mc ms : Nat} {ret : Option FieldType} {D : va_G} {tys : List (ClassId × FieldType)} {ws : va_W} {sz : Nat} (hy : plainName y.cls = true) (As : List Value) (lv : List (Nat × Value)) (hlen : (lg_sl As).length ≤ maxL) (hlv : lv_args 0 As = lv)
    (body : ∀ (p : Program) (e : Env) (s : State) (m : MethodId) (below : List Frame) (meth : Method) (c : Code) (ls : Array Slot), bx_C p s m As.toArray meth c cc maxL ret y.cls → meth.name = y.name → lv_has ls maxL lv → hW D tys (va_A ws sz) s s.heap [] ws → s.heap.size = sz → K s → W p l e rm s m As.toArray below meth c s.heap [] 0 0 (MQ below Qc As.toArray s mc ms (va_A ws sz)) (F0 m 0 ls [])) :
    Met l y (Cond.code y cc maxL ret :: bw) rm (hPc As D tys ws sz K) Qc mc ms (va_A ws sz) := by
  refine Met.ofW (cc := cc) (maxL := maxL) (ret := ret) hy rfl ?_
  intro p e s m args below meth c s₁ B hml hv
  obtain ⟨rfl, ⟨hsz, hP, hKc, hD⟩, hK⟩ := hv
  have hl := lv_entry As (n := maxL) hlen
  rw [lg_entry_eq]
  generalize (lg_sl As ++ List.replicate (maxL - (lg_sl As).length) Slot.unset).toArray = ls at hl ⊢
  rw [hlv] at hl
  have hts := atoms_spec (ws := Cond.code y cc maxL ret :: bw) B.pre
  exact body p e s m below meth c ls ⟨B.exec, B.bytes, hml, B.returns, B.notSynchronized, findClass_of_methodNamed B.named, fun w hw => hts w (List.mem_cons_of_mem _ hw)⟩ (name_of_methodNamed B.named B.method).1 hl ⟨hP, hD.self, va_S.rf, hKc, fun q h => Or.inr (by rw [← hsz]; exact h)⟩ hsz hK
def pf0 : Nat → Int32 := fun k => if k = 7 then -109 else 0
def az0 : Nat → Nat → Int32 := fun _ _ => 0
def sz0 : Nat → Int64 := fun _ => 0
def nf0 : Nat → Int32 := fun _ => 0
/-- what a constructor of arrays leaves: where the rows lie, and their kinds -/
def in_Q (D : va_G) (Tf : (Nat → ClassId) → List (ClassId × FieldType)) (Wf : (Nat → Nat) → (Nat → ClassId) → va_W) (Rg : Nat → Prop) : Array Value → State → Outcome → State → Prop :=
  va_Qv (fun _ : (Nat → Nat) × (Nat → ClassId) => True) (fun u t => va_P D vwCl (Wf u.1 u.2) t.heap ∧ va_K D vwCl (Tf u.2) t ∧ va_D Rg (Wf u.1 u.2)) Rg
