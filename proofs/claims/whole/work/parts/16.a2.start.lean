/-- a field of one of the two forms, as the start gives it -/
theorem st_fI {args : Array Value} {s : State} {t : Term} {a : Nat} {n : String} {z : Int32} (ht : t.eval args s none [] s = some (.ref a)) (h : (Cond.eq (.field t RX2 n "I") (.int z)).before args s = true) : va_OF RX2 n "I" (.int z) a (fun q => s.heap.size ≤ q) s s.heap := vk_OFof ht (va_eqt h) (fun a h q => absurd q (Nat.not_le.mpr h))
theorem st_fJ {args : Array Value} {s : State} {t : Term} {a : Nat} {n : String} {z : Int64} (ht : t.eval args s none [] s = some (.ref a)) (h : (Cond.eq (.field t RX2 n "J") (.long z)).before args s = true) : va_OF RX2 n "J" (.long z) a (fun q => s.heap.size ≤ q) s s.heap := vk_OFof ht (va_eqtl h) (fun a h q => absurd q (Nat.not_le.mpr h))
theorem st_at {args : Array Value} {s : State} {t : Term} {nm : String} (h : (Cond.exactly t nm).before args s = true) : ∃ a, t.eval args s none [] s = some (.ref a) := by
  obtain ⟨a2, c, cA, kA, q1, -⟩ := Cond.exactly_spec (args := args) (first := s) (o := none) (s := s) (idx := []) (t := t) (cls := nm) h
  exact ⟨a2, q1⟩
abbrev tFl : Term := .static RX2 "FLOAT" "LGlulxFloats$Form;"
abbrev tDb : Term := .static RX2 "DOUBLE" "LGlulxFloats$Form;"
set_option maxRecDepth 20000 in
theorem st_fo {args : Array Value} {s : State} (hts : ∀ w ∈ lw_tbl, w.before args s = true) (hgv : (Jvm.Cond.and given_1 narrow_1).before args s = true) : ∃ af ad, fo_S2 af ad (fun q => s.heap.size ≤ q) s := by
  have hs := flat_of_before _ hgv
  have hA : ∀ a : Nat, a < s.heap.size → ¬ (fun q => s.heap.size ≤ q) a := fun a h q => absurd q (Nat.not_le.mpr h)
  have xf : (Cond.exactly tFl RX2).before args s = true := hs _ (by decide +kernel)
  have xd : (Cond.exactly tDb RX2).before args s = true := hs _ (by decide +kernel)
  obtain ⟨af, ef⟩ := st_at xf
  obtain ⟨ad, ed⟩ := st_at xd
  have f1 : (Cond.eq (.field tFl RX2 "fraction" "I") (.int 23)).before args s = true := hs _ (by decide +kernel)
  have f2 : (Cond.eq (.field tFl RX2 "bias" "I") (.int 127)).before args s = true := hs _ (by decide +kernel)
  have f3 : (Cond.eq (.field tFl RX2 "top" "I") (.int 255)).before args s = true := hs _ (by decide +kernel)
  have f4 : (Cond.eq (.field tFl RX2 "spare" "I") (.int 32)).before args s = true := hs _ (by decide +kernel)
  have f5 : (Cond.eq (.field tFl RX2 "sign" "J") (.long 2147483648)).before args s = true := hs _ (by decide +kernel)
  have f6 : (Cond.eq (.field tFl RX2 "one" "J") (.long 1065353216)).before args s = true := hs _ (by decide +kernel)
  have f7 : (Cond.eq (.field tFl RX2 "infinity" "J") (.long 2139095040)).before args s = true := hs _ (by decide +kernel)
  have f8 : (Cond.eq (.field tFl RX2 "nan" "J") (.long 2143289344)).before args s = true := hs _ (by decide +kernel)
  have g1 : (Cond.eq (.field tDb RX2 "fraction" "I") (.int 52)).before args s = true := hs _ (by decide +kernel)
  have g2 : (Cond.eq (.field tDb RX2 "bias" "I") (.int 1023)).before args s = true := hs _ (by decide +kernel)
  have g3 : (Cond.eq (.field tDb RX2 "top" "I") (.int 2047)).before args s = true := hs _ (by decide +kernel)
  have g4 : (Cond.eq (.field tDb RX2 "spare" "I") (.int 0)).before args s = true := hs _ (by decide +kernel)
  have g5 : (Cond.eq (.field tDb RX2 "sign" "J") (.long (-9223372036854775808))).before args s = true := hs _ (by decide +kernel)
  have g6 : (Cond.eq (.field tDb RX2 "one" "J") (.long 4607182418800017408)).before args s = true := hs _ (by decide +kernel)
  have g7 : (Cond.eq (.field tDb RX2 "infinity" "J") (.long 9218868437227405312)).before args s = true := hs _ (by decide +kernel)
  have g8 : (Cond.eq (.field tDb RX2 "nan" "J") (.long 9221120237041090560)).before args s = true := hs _ (by decide +kernel)
  have l1 : (Cond.laysStatic RX2 "FLOAT" "LGlulxFloats$Form;").before args s = true := hts _ (by decide +kernel)
  have l2 : (Cond.laysStatic RX2 "DOUBLE" "LGlulxFloats$Form;").before args s = true := hts _ (by decide +kernel)
  have i2 : (Cond.initialized RX2).before args s = true := hts _ (by decide +kernel)
  exact ⟨af, ad, ⟨va_Zof l1 i2 ef hA, va_Oof xf ef hA, st_fI ef f1, st_fI ef f2, st_fI ef f3, st_fI ef f4, st_fJ ef f5, st_fJ ef f6, st_fJ ef f7, st_fJ ef f8⟩, va_Zof l2 i2 ed hA, va_Oof xd ed hA, st_fI ed g1, st_fI ed g2, st_fI ed g3, st_fI ed g4, st_fJ ed g5, st_fJ ed g6, st_fJ ed g7, st_fJ ed g8⟩
set_option maxRecDepth 20000 in
theorem st_ex {args : Array Value} {s : State} (hts : ∀ w ∈ lw_tbl, w.before args s = true) (hgv : (Jvm.Cond.and given_1 narrow_1).before args s = true) : ex_K (fun q => s.heap.size ≤ q) s := by
  have hs := flat_of_before _ hgv
  have hA : ∀ a : Nat, a < s.heap.size → ¬ (fun q => s.heap.size ≤ q) a := fun a h q => absurd q (Nat.not_le.mpr h)
  have u1 : (Cond.isRef (.static Bundle.tN "UNASSIGNED_STACK" Bundle.steD)).before args s = true := hs _ (by decide +kernel)
  have u2 : (Cond.isRef (.static Bundle.tN "SUPPRESSED_SENTINEL" Bundle.listD)).before args s = true := hs _ (by decide +kernel)
  have l1 : (Cond.laysStatic Bundle.tN "UNASSIGNED_STACK" Bundle.steD).before args s = true := hts _ (by decide +kernel)
  have l2 : (Cond.laysStatic Bundle.tN "SUPPRESSED_SENTINEL" Bundle.listD).before args s = true := hts _ (by decide +kernel)
  have it : (Cond.initialized Bundle.tN).before args s = true := hts _ (by decide +kernel)
  have s1 : (Cond.exactly (.string RX4 25) "java/lang/String").before args s = true := hs _ (by decide +kernel)
  have s2 : (Cond.exactly (.string RX4 45) "java/lang/String").before args s = true := hs _ (by decide +kernel)
  have s3 : (Cond.exactly (.string RX4 69) "java/lang/String").before args s = true := hs _ (by decide +kernel)
  obtain ⟨a1, e1⟩ := st_at s1
  obtain ⟨a2, e2⟩ := st_at s2
  obtain ⟨a3, e3⟩ := st_at s3
  have r1 : (Cond.stringRef RX4 25 "there is no such ACT").before args s = true := hts _ (by decide +kernel)
  have r2 : (Cond.stringRef RX4 45 "there is no such TEST").before args s = true := hts _ (by decide +kernel)
  have r3 : (Cond.stringRef RX4 69 "there is no such WORD").before args s = true := hts _ (by decide +kernel)
  refine ⟨?_, vx_Zqof l1 it u1 hA, vx_Zqof l2 it u2 hA, ⟨a1, vk_R.of r1 e1⟩, ⟨a2, vk_R.of r2 e2⟩, ⟨a3, vk_R.of r3 e3⟩⟩
  intro w hw
  rcases List.mem_append.mp hw with h | h
  · exact xc_tab (List.all_eq_true.mp xI_ok w h) (State.WarmedH.refl s) (hts w (xI_in w h))
  · exact xc_tab (List.all_eq_true.mp xA_ok w h) (State.WarmedH.refl s) (hts w (xA_in w h))
theorem st_N {args : Array Value} {s : State} (hts : ∀ w ∈ lw_tbl, w.before args s = true) : va_Nw wN s := va_Nw.of rfl (hts wN (by decide +kernel))
theorem rl_0 : rl pf0 az0 nf0 az0 pf0 az0 := by
  refine ⟨⟨rfl, rfl⟩, fun _ _ => rfl, fun _ _ => ⟨rfl, rfl, rfl, rfl, rfl⟩, ⟨by decide, ?_⟩, rfl, by decide, fun _ _ => rfl⟩
  intro i hi
  exfalso
  have : (i : Int) < (0 : Int32).toInt := hi
  have e0 : (0 : Int32).toInt = 0 := by decide
  omega
