theorem sd_mulpos {us : Nat → Int64} {x9 x1 : Int64} {x5 : Int32} (hi : x5 = 0 → 0 ≤ x9.toInt) (h1 : x5 = 0 → 0 ≤ x1.toInt) : x5 = 0 → 0 ≤ ((fX5_multiply us x9 x1 x5).1).toInt := by
  sorry
theorem sd_rest0 {a b : Int64} {w : Int32} (h : w = 0 → 0 ≤ a.toInt) (hb : w = 0 → 0 ≤ b.toInt) : w = 0 → 0 ≤ (fX5_rest a b w).toInt := by
  sorry
