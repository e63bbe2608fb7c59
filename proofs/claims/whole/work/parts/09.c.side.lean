theorem sd_there {uf : Nat → Int32} {x : Int32} (h : ¬ fX3_isThere uf x = 0) : vp_in x 40 := by
  unfold fX3_isThere at h
  split at h
  · exact absurd rfl h
  · rename_i h1
    exact sd_step h1
