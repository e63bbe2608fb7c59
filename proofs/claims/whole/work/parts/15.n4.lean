/-! ===== MATH: printing, both alike ===== -/
/-- one part times ten -/
def f10 (v c : Int64) : Int64 := v * (10 : Int64) + c
/-- the parts behind the point times ten, as the class does it -/
def ff (us : Nat → Int64) : Int64 × (Nat → Int64) :=
  let p0 := f10 (us 0) 0
  let u1 := vp_updL us 0 (p0 &&& (4294967295 : Int64))
  let p1 := f10 (u1 1) (jl_ushr p0 (32 : Int32))
  let u2 := vp_updL u1 1 (p1 &&& (4294967295 : Int64))
  let p2 := f10 (u2 2) (jl_ushr p1 (32 : Int32))
  let u3 := vp_updL u2 2 (p2 &&& (4294967295 : Int64))
  let p3 := f10 (u3 3) (jl_ushr p2 (32 : Int32))
  let u4 := vp_updL u3 3 (p3 &&& (4294967295 : Int64))
  let p4 := f10 (u4 4) (jl_ushr p3 (32 : Int32))
  let u5 := vp_updL u4 4 (p4 &&& (4294967295 : Int64))
  (jl_ushr p4 (32 : Int32), u5)
theorem pf_step (x1 : Int32) (n : Nat) (df : Nat → Int32) (da : Nat → Nat → Int32) (ds : Nat → Int64) (x2 : Int32) : gX1_putFraction_2 x1 (n + 1) df da ds x2 = if x1 ≤ x2 then (df, da, ds, x2) else gX1_putFraction_2 x1 n (fX1_put df da ((48 : Int32) + (ff ds).1.toInt32)).1 (fX1_put df da ((48 : Int32) + (ff ds).1.toInt32)).2 (ff ds).2 (x2 + 1) := rfl
theorem f10_v {v c : Int64} (hv : un v < 4294967296) (hc : un c < 10) : un (f10 v c) = un v * 10 + un c ∧ un (f10 v c &&& (4294967295 : Int64)) = (un v * 10 + un c) % 4294967296 ∧ un (jl_ushr (f10 v c) (32 : Int32)) = (un v * 10 + un c) / 4294967296 := by
  have h : un (f10 v c) = un v * 10 + un c := by
    unfold f10
    rw [un_add, un_mul, show un (10 : Int64) = 10 from by decide, Nat.mod_eq_of_lt (by omega : un v * 10 < 18446744073709551616), Nat.mod_eq_of_lt (by omega)]
  refine ⟨h, ?_, ?_⟩
  · rw [un_and, show un (4294967295 : Int64) = 2 ^ 32 - 1 from by decide, Nat.and_two_pow_sub_one_eq_mod, h]
  · rw [un_ushr' (k := 32) (by decide) (by decide), h]
theorem ff_v {us : Nat → Int64} (hp : prt us) : prt (ff us).2 ∧ un (ff us).1 = 10 * pv us 5 / 2 ^ 160 ∧ pv (ff us).2 5 = 10 * pv us 5 % 2 ^ 160 ∧ un (ff us).1 ≤ 9 := by
  have a0 := hp 0 (by decide)
  have a1 := hp 1 (by decide)
  have a2 := hp 2 (by decide)
  have a3 := hp 3 (by decide)
  have a4 := hp 4 (by decide)
  obtain ⟨_, p0a, p0b⟩ := f10_v a0 (show un (0 : Int64) < 10 by decide)
  have z0 : un (0 : Int64) = 0 := by decide
  rw [z0] at p0a p0b
  generalize hP0 : f10 (us 0) 0 = P0 at *
  obtain ⟨_, p1a, p1b⟩ := f10_v (c := jl_ushr P0 (32 : Int32)) a1 (by omega)
  generalize hP1 : f10 (us 1) (jl_ushr P0 (32 : Int32)) = P1 at *
  obtain ⟨_, p2a, p2b⟩ := f10_v (c := jl_ushr P1 (32 : Int32)) a2 (by omega)
  generalize hP2 : f10 (us 2) (jl_ushr P1 (32 : Int32)) = P2 at *
  obtain ⟨_, p3a, p3b⟩ := f10_v (c := jl_ushr P2 (32 : Int32)) a3 (by omega)
  generalize hP3 : f10 (us 3) (jl_ushr P2 (32 : Int32)) = P3 at *
  obtain ⟨_, p4a, p4b⟩ := f10_v (c := jl_ushr P3 (32 : Int32)) a4 (by omega)
  generalize hP4 : f10 (us 4) (jl_ushr P3 (32 : Int32)) = P4 at *
  have e : ff us = (jl_ushr P4 (32 : Int32), vp_updL (vp_updL (vp_updL (vp_updL (vp_updL us 0 (P0 &&& (4294967295 : Int64))) 1 (P1 &&& (4294967295 : Int64))) 2 (P2 &&& (4294967295 : Int64))) 3 (P3 &&& (4294967295 : Int64))) 4 (P4 &&& (4294967295 : Int64))) := by
    rw [← hP4, ← hP3, ← hP2, ← hP1, ← hP0]
    rfl
  rw [e]
  have v0 : (vp_updL (vp_updL (vp_updL (vp_updL (vp_updL us 0 (P0 &&& (4294967295 : Int64))) 1 (P1 &&& (4294967295 : Int64))) 2 (P2 &&& (4294967295 : Int64))) 3 (P3 &&& (4294967295 : Int64))) 4 (P4 &&& (4294967295 : Int64))) 0 = (P0 &&& (4294967295 : Int64)) := rfl
  have v1 : (vp_updL (vp_updL (vp_updL (vp_updL (vp_updL us 0 (P0 &&& (4294967295 : Int64))) 1 (P1 &&& (4294967295 : Int64))) 2 (P2 &&& (4294967295 : Int64))) 3 (P3 &&& (4294967295 : Int64))) 4 (P4 &&& (4294967295 : Int64))) 1 = (P1 &&& (4294967295 : Int64)) := rfl
  have v2 : (vp_updL (vp_updL (vp_updL (vp_updL (vp_updL us 0 (P0 &&& (4294967295 : Int64))) 1 (P1 &&& (4294967295 : Int64))) 2 (P2 &&& (4294967295 : Int64))) 3 (P3 &&& (4294967295 : Int64))) 4 (P4 &&& (4294967295 : Int64))) 2 = (P2 &&& (4294967295 : Int64)) := rfl
  have v3 : (vp_updL (vp_updL (vp_updL (vp_updL (vp_updL us 0 (P0 &&& (4294967295 : Int64))) 1 (P1 &&& (4294967295 : Int64))) 2 (P2 &&& (4294967295 : Int64))) 3 (P3 &&& (4294967295 : Int64))) 4 (P4 &&& (4294967295 : Int64))) 3 = (P3 &&& (4294967295 : Int64)) := rfl
  have v4 : (vp_updL (vp_updL (vp_updL (vp_updL (vp_updL us 0 (P0 &&& (4294967295 : Int64))) 1 (P1 &&& (4294967295 : Int64))) 2 (P2 &&& (4294967295 : Int64))) 3 (P3 &&& (4294967295 : Int64))) 4 (P4 &&& (4294967295 : Int64))) 4 = (P4 &&& (4294967295 : Int64)) := rfl
  have vh : ∀ i, 5 ≤ i → (vp_updL (vp_updL (vp_updL (vp_updL (vp_updL us 0 (P0 &&& (4294967295 : Int64))) 1 (P1 &&& (4294967295 : Int64))) 2 (P2 &&& (4294967295 : Int64))) 3 (P3 &&& (4294967295 : Int64))) 4 (P4 &&& (4294967295 : Int64))) i = us i := by
    intro i hi
    unfold vp_updL
    rw [if_neg (by omega), if_neg (by omega), if_neg (by omega), if_neg (by omega), if_neg (by omega)]
  generalize (vp_updL (vp_updL (vp_updL (vp_updL (vp_updL us 0 (P0 &&& (4294967295 : Int64))) 1 (P1 &&& (4294967295 : Int64))) 2 (P2 &&& (4294967295 : Int64))) 3 (P3 &&& (4294967295 : Int64))) 4 (P4 &&& (4294967295 : Int64))) = vs at *
  have hpv : pv us 5 = un (us 0) + un (us 1) * 2 ^ 32 + un (us 2) * 2 ^ 64 + un (us 3) * 2 ^ 96 + un (us 4) * 2 ^ 128 := by
    show 0 + un (us 0) * 2 ^ 0 + un (us 1) * 2 ^ 32 + un (us 2) * 2 ^ 64 + un (us 3) * 2 ^ 96 + un (us 4) * 2 ^ 128 = _
    omega
  have hpw : pv vs 5 = un (vs 0) + un (vs 1) * 2 ^ 32 + un (vs 2) * 2 ^ 64 + un (vs 3) * 2 ^ 96 + un (vs 4) * 2 ^ 128 := by
    show 0 + un (vs 0) * 2 ^ 0 + un (vs 1) * 2 ^ 32 + un (vs 2) * 2 ^ 64 + un (vs 3) * 2 ^ 96 + un (vs 4) * 2 ^ 128 = _
    omega
  rw [v0, v1, v2, v3, v4] at hpw
  have hd : un (jl_ushr P4 (32 : Int32)) ≤ 9 := by omega
  have hprt : prt vs := by
    intro i hi
    by_cases c : 5 ≤ i
    · rw [vh i c]
      exact hp i hi
    · have : i = 0 ∨ i = 1 ∨ i = 2 ∨ i = 3 ∨ i = 4 := by omega
      rcases this with q | q | q | q | q <;> subst q
      · rw [v0]; omega
      · rw [v1]; omega
      · rw [v2]; omega
      · rw [v3]; omega
      · rw [v4]; omega
  have hl := pv5_lt hprt
  have key : un (jl_ushr P4 (32 : Int32)) * 2 ^ 160 + pv vs 5 = 10 * pv us 5 := by
    rw [hpw, hpv]
    clear hprt hl hpw hpv e v0 v1 v2 v3 v4 vh hP0 hP1 hP2 hP3 hP4 hp
    omega
  dsimp only
  refine ⟨hprt, ?_, ?_, hd⟩
  · omega
  · omega
