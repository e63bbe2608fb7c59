abbrev xI : List Cond := vx_atS RX4 27 "java/lang/IllegalArgumentException" ["java/lang/RuntimeException", "java/lang/Exception"]
abbrev xA : List Cond := vx_atS RX4 71 "java/lang/ArrayIndexOutOfBoundsException" ["java/lang/IndexOutOfBoundsException", "java/lang/RuntimeException", "java/lang/Exception"]
def xc_cd : Cond → Bool
  | .castable _ _ => true
  | .declares _ => true
  | _ => false
def xc_ok (w : Cond) : Bool := goodWord w || xc_cd w
theorem xc_warm {s U : State} (hW : s.WarmedH U.vm) : ∀ {w : Cond}, xc_cd w = true → va_Nw w s → va_Nw w U
  | .castable _ _, _, h => va_Nw.warmC hW h
  | .declares _, _, h => va_Nw.warmD hW h
set_option maxRecDepth 20000 in
theorem xI_ok : xI.all xc_ok = true := by decide +kernel
set_option maxRecDepth 20000 in
theorem xA_ok : xA.all xc_ok = true := by decide +kernel
set_option maxRecDepth 20000 in
theorem xI_in : ∀ w ∈ xI, w ∈ lw_tbl := fun w h => of_decide_eq_true (List.all_eq_true.mp (show xI.all (fun w => decide (w ∈ lw_tbl)) = true by decide +kernel) w h)
set_option maxRecDepth 20000 in
theorem xA_in : ∀ w ∈ xA, w ∈ lw_tbl := fun w h => of_decide_eq_true (List.all_eq_true.mp (show xA.all (fun w => decide (w ∈ lw_tbl)) = true by decide +kernel) w h)
set_option maxRecDepth 20000 in
theorem xI_ot : ∀ w ∈ Cond.classLink RX4 23 "java/lang/IllegalArgumentException" :: Cond.initialized "java/lang/IllegalArgumentException" :: xI, vx_ot w = true := by decide +kernel
set_option maxRecDepth 20000 in
theorem xA_ot : ∀ w ∈ Cond.classLink RX4 67 "java/lang/ArrayIndexOutOfBoundsException" :: Cond.initialized "java/lang/ArrayIndexOutOfBoundsException" :: xA, vx_ot w = true := by decide +kernel
theorem xc_on : ∀ {w : Cond}, xc_cd w = true → w.onTables = true
  | .castable _ _, _ => rfl
  | .declares _, _ => rfl
theorem xc_tab {w : Cond} (h : xc_ok w = true) {a a' : Array Value} {s U : State} (hW : s.WarmedH U.vm) (hb : w.before a s = true) : w.before a' U = true := by
  simp only [xc_ok, Bool.or_eq_true] at h
  rcases h with g | g
  · exact word_at hW (good_of_word g) hb
  · exact va_Nw.use (xc_on g) (xc_warm hW g (va_Nw.of (xc_on g) hb))
/-- what a throw wants of the state -/
def ex_K (Rg : Nat → Prop) (U : State) : Prop := (∀ w ∈ xI ++ xA, w.before #[] U = true) ∧ vx_Zq Bundle.tN "UNASSIGNED_STACK" Bundle.steD Rg U U.heap ∧ vx_Zq Bundle.tN "SUPPRESSED_SENTINEL" Bundle.listD Rg U U.heap ∧ (∃ a, vk_R RX4 25 "there is no such ACT" a U) ∧ (∃ a, vk_R RX4 45 "there is no such TEST" a U) ∧ ∃ a, vk_R RX4 69 "there is no such WORD" a U
theorem ex_wd {w : Cond} (h : w ∈ xI ++ xA) {a a' : Array Value} {s U : State} (hW : s.WarmedH U.vm) (hb : w.before a s = true) : w.before a' U = true := by
  rcases List.mem_append.mp h with h | h
  · exact xc_tab (List.all_eq_true.mp xI_ok w h) hW hb
  · exact xc_tab (List.all_eq_true.mp xA_ok w h) hW hb
theorem ex_to {Rg Rh : Nat → Prop} {s U : State} {H : Heap} {locs : List Loc} (h : ex_K Rg s) (hS : va_S Rg s.heap H locs) (hR : ∀ q, Rh q → Rg q) (hU : U.heap = H) (hW : s.WarmedH U.vm) : ex_K Rh U := by
  obtain ⟨h1, h2, h3, ⟨a4, h4⟩, ⟨a5, h5⟩, ⟨a6, h6⟩⟩ := h
  refine ⟨fun w hw => ex_wd hw hW (h1 w hw), ?_, ?_, ⟨a4, vk_R.warm hW h4⟩, ⟨a5, vk_R.warm hW h5⟩, ⟨a6, vk_R.warm hW h6⟩⟩
  · rw [hU]; exact vx_Zq.moved hW.alike (vx_Zq.narrow (vx_Zq.kept h2 hS.2.1) hR)
  · rw [hU]; exact vx_Zq.moved hW.alike (vx_Zq.narrow (vx_Zq.kept h3 hS.2.1) hR)
theorem ex_same {Rg : Nat → Prop} {s U : State} (h : ex_K Rg s) (hU : U.heap = s.heap) (hv : U.vm = s.vm) : ex_K Rg U := by
  obtain ⟨h1, h2, h3, ⟨a4, h4⟩, ⟨a5, h5⟩, ⟨a6, h6⟩⟩ := h
  refine ⟨fun w hw => ?_, ?_, ?_, ⟨a4, vk_R.same hv h4⟩, ⟨a5, vk_R.same hv h5⟩, ⟨a6, vk_R.same hv h6⟩⟩
  · exact ex_wd hw (s := s) (by rw [hv]; exact State.WarmedH.refl s) (h1 w hw)
  · rw [hU]; exact vx_Zq.moved (by rw [hv]; exact Vm.Alike.refl _) h2
  · rw [hU]; exact vx_Zq.moved (by rw [hv]; exact Vm.Alike.refl _) h3
/-- the two forms, by the statics -/
def fo_S2 (af ad : Nat) (Rg : Nat → Prop) (U : State) : Prop := fo_S af Rg U ∧ va_Z RX2 "DOUBLE" "LGlulxFloats$Form;" (.ref ad) Rg U U.heap ∧ fo_R true ad Rg U
theorem fo_S2_to {af ad : Nat} {Rg Rh : Nat → Prop} {s U : State} {H : Heap} {locs : List Loc} (h : fo_S2 af ad Rg s) (hS : va_S Rg s.heap H locs) (hR : ∀ q, Rh q → Rg q) (hU : U.heap = H) (hv : s.vm.Alike U.vm) : fo_S2 af ad Rh U :=
  ⟨⟨fo_Z_to h.1.1 hS hR hU hv, fo_R_to h.1.2 hS hR hU hv⟩, fo_Z_to h.2.1 hS hR hU hv, fo_R_to h.2.2 hS hR hU hv⟩
def xk_K (af ad : Nat) (Rg : Nat → Prop) (U : State) : Prop := fo_S2 af ad Rg U ∧ ex_K Rg U
theorem xk_to {af ad : Nat} {Rg Rh : Nat → Prop} {s U : State} {H : Heap} {locs : List Loc} (h : xk_K af ad Rg s) (hS : va_S Rg s.heap H locs) (hR : ∀ q, Rh q → Rg q) (hU : U.heap = H) (hW : s.WarmedH U.vm) : xk_K af ad Rh U := ⟨fo_S2_to h.1 hS hR hU hW.alike, ex_to h.2 hS hR hU hW⟩
theorem xk_same {af ad : Nat} {Rg : Nat → Prop} {s U : State} (h : xk_K af ad Rg s) (hU : U.heap = s.heap) (hv : U.vm = s.vm) : xk_K af ad Rg U := ⟨fo_S2_to h.1 (H := s.heap) (locs := []) va_S.rf (fun _ q => q) hU (by rw [hv]; exact Vm.Alike.refl _), ex_same h.2 hU hv⟩
def ac_in (x n : Int32) : Prop := ¬ x < 0 ∧ x < n
theorem fo_S2_B (af ad : Nat) (Rg : Nat → Prop) : bx_B (fo_S2 af ad Rg) := fun U T hh hv h => fo_S2_to h (H := U.heap) (locs := []) va_S.rf (fun _ q => q) hh hv
/-- the entry of a method that may throw -/
theorem vx_ent {l : Launch} {y : MethodName} {rm : Room} {K : State → Prop} {Qc : Array Value → State → Outcome → State → Prop} {XC : String → State → State → Prop} {cc : ByteArray} {maxL mc ms : Nat} {free : Nat → Prop} {ret : Option FieldType} (hy : plainName y.cls = true) (As : List Value) (lv : List (Nat × Value)) (hlen : (lg_sl As).length ≤ maxL) (hlv : lv_args 0 As = lv)
    (body : ∀ (p : Program) (e : Env) (s : State) (m : MethodId) (below : List Frame) (meth : Method) (c : Code) (ls : Array Slot), bx_C p s m As.toArray meth c cc maxL ret y.cls → (∀ x ∈ c.exceptionTable.toList, False) → lv_has ls maxL lv → K s → W p l e rm s m As.toArray below meth c s.heap [] 0 0 (vx_MQ below Qc XC As.toArray s mc ms free) (F0 m 0 ls [])) :
    vx_Met l y (Cond.code y cc maxL ret :: bw) rm (va_Pc As K) Qc XC mc ms free := by
  refine vx_ofW (cc := cc) (maxL := maxL) (ret := ret) hy rfl ?_
  intro p e s m args below meth c s₁ B hml htab hv
  obtain ⟨rfl, hK⟩ := hv
  have hl := lv_entry As (n := maxL) hlen
  rw [lg_entry_eq]
  generalize (lg_sl As ++ List.replicate (maxL - (lg_sl As).length) Slot.unset).toArray = ls at hl ⊢
  rw [hlv] at hl
  have hts := atoms_spec (ws := Cond.code y cc maxL ret :: bw) B.pre
  exact body p e s m below meth c ls ⟨B.exec, B.bytes, hml, B.returns, B.notSynchronized, findClass_of_methodNamed B.named, fun w hw => hts w (List.mem_cons_of_mem _ hw)⟩ htab hl hK
abbrev Qn (v : Int32) (P : Prop) : Array Value → State → Outcome → State → Prop := va_Qi (fun r (_ : Unit) => P ∧ r = v) (fun _ _ => True) (fun _ => False)
abbrev Ql1 (v : Int64) (P : Prop) : Array Value → State → Outcome → State → Prop := va_Ql (fun r (_ : Unit) => P ∧ r = v) (fun _ _ => True) (fun _ => False)
abbrev Xn (E : String) (P : Prop) : String → State → State → Prop := vx_X (fun _ : Unit => ¬ P) (fun F _ _ => F = E) (fun _ => False)
