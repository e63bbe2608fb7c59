/-- the law's own row beside the object's world -/
def lo_W (h0 g1 g2 : Nat) (rp rd : Nat → Nat) (cp cd : Nat → ClassId) (pf : Nat → Int32) (pa : Nat → Nat → Int32) (df : Nat → Int32) (da : Nat → Nat → Int32) (ds : Nat → Int64) (qo : Nat) (cO : ClassId) (o : Nat → Int64) : va_W := gl_W h0 g1 g2 rp rd cp cd pf pa df da ds ++ [(qo, .inl (cO, 1, .inr (.inl o)))]
def lo_T (cp cd : Nat → ClassId) (cO : ClassId) : List (ClassId × FieldType) := gl_T cp cd ++ [(cO, .long)]
theorem hw_grow {D : va_G} {tys : List (ClassId × FieldType)} {Rg : Nat → Prop} {s : State} {H H1 : Heap} {locs locs1 : List Loc} {ws : va_W} (hw : hW D tys Rg s H locs ws) (hk : ∀ q : Nat, q < H.size → ¬ (fun _ => False) q → H1[q]? = H[q]?) (hS : va_S Rg s.heap H1 locs1) : hW D tys Rg s H1 locs1 ws := by
  obtain ⟨hP, hD, -, hK, hA⟩ := hw
  refine ⟨?_, hD, hS, hK, hA⟩
  exact va_P.kept hP (fun k q hk9 => hk q.1 (vx_lt hP hk9) (fun h => h))
theorem cz_ent {l : Launch} {y : MethodName} {rm : Room} {K : State → Prop} {Qc : Array Value → State → Outcome → State → Prop} {cc : ByteArray} {maxL mc ms : Nat} {ret : Option FieldType} {hh : List (Nat × Nat × Nat × Nat)} {D : va_G} {tys : List (ClassId × FieldType)} {ws : va_W} {sz : Nat} (hy : plainName y.cls = true) (As : List Value) (lv : List (Nat × Value)) (hlen : (lg_sl As).length ≤ maxL) (hlv : lv_args 0 As = lv)
    (body : ∀ (p : Program) (e : Env) (s : State) (m : MethodId) (below : List Frame) (meth : Method) (c : Code) (ls : Array Slot), bx_C p s m As.toArray meth c cc maxL ret y.cls → c.exceptionTable.toList = tableOf hh → lv_has ls maxL lv → hW D tys (va_A ws sz) s s.heap [] ws → s.heap.size = sz → K s → W p l e rm s m As.toArray below meth c s.heap [] 0 0 (MQ below Qc As.toArray s mc ms (va_A ws sz)) (F0 m 0 ls [])) :
    Met l y (Cond.codeWith y cc maxL ret hh :: bw) rm (hPc As D tys ws sz K) Qc mc ms (va_A ws sz) := by
  refine va_MetW (cc := cc) (maxL := maxL) (ret := ret) (hh := hh) hy rfl ?_
  intro p e s m args below meth c s₁ B hml hv
  obtain ⟨rfl, ⟨hsz, hP, hKc, hD⟩, hK⟩ := hv
  have hl := lv_entry As (n := maxL) hlen
  rw [lg_entry_eq]
  generalize (lg_sl As ++ List.replicate (maxL - (lg_sl As).length) Slot.unset).toArray = ls at hl ⊢
  rw [hlv] at hl
  have hts := atoms_spec (ws := Cond.codeWith y cc maxL ret hh :: bw) B.pre
  have htab := vx_table (x := y) B (hts _ List.mem_cons_self)
  exact body p e s m below meth c ls ⟨B.exec, B.bytes, hml, B.returns, B.notSynchronized, findClass_of_methodNamed B.named, fun w hw => hts w (List.mem_cons_of_mem _ hw)⟩ htab hl ⟨hP, hD.self, va_S.rf, hKc, fun q h => Or.inr (by rw [← hsz]; exact h)⟩ hsz hK
theorem xI_cast : Cond.castable "java/lang/IllegalArgumentException" "java/lang/IllegalArgumentException" ∈ xI := by decide +kernel
theorem xA_cast : Cond.castable "java/lang/ArrayIndexOutOfBoundsException" "java/lang/ArrayIndexOutOfBoundsException" ∈ xA := by decide +kernel
