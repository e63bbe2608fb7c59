theorem md_done_k {ua : Nat → Nat → Int32} {us : Nat → Int64} {x : Int32} {k : Nat} (hk : k ≠ 0) : (fX5_done ua us x).2.1 k = ua k := by
  unfold fX5_done
  repeat' split
  all_goals first | rfl | (simp only [va_up, if_neg hk])
theorem md_keep {n : Int32} {ua : Nat → Nat → Int32} {us : Nat → Int64} {x : Int32} (h : ms_ok n ua) : ms_ok n (fX5_done ua us x).2.1 := by
  refine ⟨h.1, fun i hi => ?_⟩
  rw [md_done_k (by decide), md_done_k (by decide), md_done_k (by decide), md_done_k (by decide), md_done_k (by decide)]
  exact h.2 i hi
