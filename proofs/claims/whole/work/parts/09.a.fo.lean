def fo_R (w : Bool) (a : Nat) (Rg : Nat → Prop) (U : State) : Prop := va_O RX2 a Rg U U.heap ∧ va_OF RX2 "fraction" "I" (.int (fo_fraction w)) a Rg U U.heap ∧ va_OF RX2 "bias" "I" (.int (fo_bias w)) a Rg U U.heap ∧ va_OF RX2 "top" "I" (.int (fo_top w)) a Rg U U.heap ∧ va_OF RX2 "spare" "I" (.int (fo_spare w)) a Rg U U.heap ∧ va_OF RX2 "sign" "J" (.long (fo_sign w)) a Rg U U.heap ∧ va_OF RX2 "one" "J" (.long (fo_one w)) a Rg U U.heap ∧ va_OF RX2 "infinity" "J" (.long (fo_infinity w)) a Rg U U.heap ∧ va_OF RX2 "nan" "J" (.long (fo_nan w)) a Rg U U.heap
theorem fo_f1 {n d : String} {v : Value} {a : Nat} {Rg : Nat → Prop} {s U : State} {H : Heap} {locs : List Loc} (h : va_OF RX2 n d v a Rg s s.heap) (hS : va_S Rg s.heap H locs) (hU : U.heap = H) (hv : s.vm.Alike U.vm) : fo_G n d v a U := by
  unfold fo_G
  rw [hU]
  exact va_OF.moved hv (va_OF.narrow (va_OF.kept h hS.2.1) (fun _ q => q.elim))
theorem fo_f2 {n d : String} {v : Value} {a : Nat} {Rg Rh : Nat → Prop} {s U : State} {H : Heap} {locs : List Loc} (h : va_OF RX2 n d v a Rg s s.heap) (hS : va_S Rg s.heap H locs) (hR : ∀ q, Rh q → Rg q) (hU : U.heap = H) (hv : s.vm.Alike U.vm) : va_OF RX2 n d v a Rh U U.heap := by
  rw [hU]
  exact va_OF.moved hv (va_OF.narrow (va_OF.kept h hS.2.1) hR)
theorem fo_at {w : Bool} {a : Nat} {Rg : Nat → Prop} {s U : State} {H : Heap} {locs : List Loc} (h : fo_R w a Rg s) (hS : va_S Rg s.heap H locs) (hU : U.heap = H) (hv : s.vm.Alike U.vm) : fo_K w a U := by
  obtain ⟨h0, h1, h2, h3, h4, h5, h6, h7, h8⟩ := h
  refine ⟨?_, fo_f1 h1 hS hU hv, fo_f1 h2 hS hU hv, fo_f1 h3 hS hU hv, fo_f1 h4 hS hU hv, fo_f1 h5 hS hU hv, fo_f1 h6 hS hU hv, fo_f1 h7 hS hU hv, fo_f1 h8 hS hU hv⟩
  obtain ⟨cell, q1, q2, q3, q4⟩ := va_O.kept h0 hS.2.1
  exact ⟨cell, by rw [hU]; exact q1, q2, by rw [hv.findClass]; exact q3⟩
theorem fo_R_to {w : Bool} {a : Nat} {Rg Rh : Nat → Prop} {s U : State} {H : Heap} {locs : List Loc} (h : fo_R w a Rg s) (hS : va_S Rg s.heap H locs) (hR : ∀ q, Rh q → Rg q) (hU : U.heap = H) (hv : s.vm.Alike U.vm) : fo_R w a Rh U := by
  obtain ⟨h0, h1, h2, h3, h4, h5, h6, h7, h8⟩ := h
  exact ⟨by rw [hU]; exact va_O.moved hv (va_O.narrow (va_O.kept h0 hS.2.1) hR), fo_f2 h1 hS hR hU hv, fo_f2 h2 hS hR hU hv, fo_f2 h3 hS hR hU hv, fo_f2 h4 hS hR hU hv, fo_f2 h5 hS hR hU hv, fo_f2 h6 hS hR hU hv, fo_f2 h7 hS hR hU hv, fo_f2 h8 hS hR hU hv⟩
def fo_S (af : Nat) (Rg : Nat → Prop) (U : State) : Prop := va_Z RX2 "FLOAT" "LGlulxFloats$Form;" (.ref af) Rg U U.heap ∧ fo_R false af Rg U
theorem fo_Z_to {n d : String} {v : Value} {Rg Rh : Nat → Prop} {s U : State} {H : Heap} {locs : List Loc} (h : va_Z RX2 n d v Rg s s.heap) (hS : va_S Rg s.heap H locs) (hR : ∀ q, Rh q → Rg q) (hU : U.heap = H) (hv : s.vm.Alike U.vm) : va_Z RX2 n d v Rh U U.heap := by
  rw [hU]
  exact va_Z.moved hv (va_Z.narrow (va_Z.kept h hS.2.1) hR)
theorem fo_S_B (af : Nat) (Rg : Nat → Prop) : bx_B (fo_S af Rg) := by
  intro U T hh hv h
  exact ⟨fo_Z_to h.1 (H := U.heap) (locs := []) va_S.rf (fun _ q => q) hh hv, fo_R_to h.2 (H := U.heap) (locs := []) va_S.rf (fun _ q => q) hh hv⟩
theorem fo_S_at {af : Nat} {Rg : Nat → Prop} {D : va_G} {tys : List (ClassId × FieldType)} {s U : State} {H : Heap} {locs : List Loc} {ws : va_W} (hF : fo_S af Rg s) (hw : hW D tys Rg s H locs ws) (hU : U.heap = H) (hv : s.vm.Alike U.vm) : fo_S af (va_A ws H.size) U :=
  ⟨fo_Z_to hF.1 hw.2.2.1 (hw_free hw) hU hv, fo_R_to hF.2 hw.2.2.1 (hw_free hw) hU hv⟩
theorem sd_word {x : Int32} (h : ¬ fX3_isWord x = 0) : vp_in x 16 := by
  unfold fX3_isWord at h
  split at h
  · exact absurd rfl h
  split at h
  · exact absurd rfl h
  rename_i h1 h2
  exact vi_lt (sd_ge0 h1) h2 (by decide)
theorem sd_step {x : Int32} (h : ¬ fX3_isStep x = 0) : vp_in x 40 := by
  unfold fX3_isStep at h
  split at h
  · exact absurd rfl h
  split at h
  · exact absurd rfl h
  rename_i h1 h2
  exact vi_lt (sd_ge0 h1) h2 (by decide)
