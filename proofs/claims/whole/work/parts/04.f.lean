def fX0_zeros_87 (x2 : Int32) (x3 : Int64) : Int32 :=
  if (0 : Int64) ≤ x3 then (x2 + (1 : Int32))
  else x2
def fX0_zeros_71 (x2 : Int32) (x3 : Int64) : Int32 :=
  if (jl_ushr x3 (62 : Int32)) = (0 : Int64) then fX0_zeros_87 (x2 + 2) (jl_shl x3 (2 : Int32))
  else fX0_zeros_87 x2 x3
def fX0_zeros_55 (x2 : Int32) (x3 : Int64) : Int32 :=
  if (jl_ushr x3 (60 : Int32)) = (0 : Int64) then fX0_zeros_71 (x2 + 4) (jl_shl x3 (4 : Int32))
  else fX0_zeros_71 x2 x3
def fX0_zeros_38 (x2 : Int32) (x3 : Int64) : Int32 :=
  if (jl_ushr x3 (56 : Int32)) = (0 : Int64) then fX0_zeros_55 (x2 + 8) (jl_shl x3 (8 : Int32))
  else fX0_zeros_55 x2 x3
def fX0_zeros_21 (x2 : Int32) (x3 : Int64) : Int32 :=
  if (jl_ushr x3 (48 : Int32)) = (0 : Int64) then fX0_zeros_38 (x2 + 16) (jl_shl x3 (16 : Int32))
  else fX0_zeros_38 x2 x3
def fX0_zeros (x0 : Int64) : Int32 :=
  if (jl_ushr x0 (32 : Int32)) = (0 : Int64) then fX0_zeros_21 ((0 : Int32) + 32) (jl_shl x0 (32 : Int32))
  else fX0_zeros_21 (0 : Int32) x0
def fX0_isBelow (x0 : Int64) (x2 : Int64) : Int32 :=
  if (x2 + (-9223372036854775808 : Int64)) ≤ (x0 + (-9223372036854775808 : Int64)) then (0 : Int32)
  else (1 : Int32)
theorem zX0_isBelow (x0 : Int64) (x2 : Int64) : ji_z (fX0_isBelow x0 x2) := by
  unfold fX0_isBelow
  repeat' (first | with_reducible exact ji_z0 | with_reducible exact ji_z1 | with_reducible refine ji_z_ite ?_ ?_ | with_reducible assumption)
def fX0_upperProduct_40 (x4 : Int64) (x6 : Int64) (x8 : Int64) (s0 : Int64) : Int64 :=
  (((x4 * x8) + (jl_ushr s0 (32 : Int32))) + (jl_ushr ((x6 * x8) + (s0 &&& (4294967295 : Int64))) (32 : Int32)))
def fX0_upperProduct (x0 : Int64) (x2 : Int64) : Int64 :=
  fX0_upperProduct_40 (jl_ushr x0 (32 : Int32)) (x0 &&& (4294967295 : Int64)) (jl_ushr x2 (32 : Int32)) (((jl_ushr x0 (32 : Int32)) * (x2 &&& (4294967295 : Int64))) + (jl_ushr ((x0 &&& (4294967295 : Int64)) * (x2 &&& (4294967295 : Int64))) (32 : Int32)))
def fX0_loweredLow (x0 : Int64) (x2 : Int64) (x4 : Int32) : Int64 :=
  if x4 = 0 then x2
  else if (64 : Int32) ≤ x4 then if x4 = (64 : Int32) then if x2 = (0 : Int64) then (x0 ||| (0 : Int32).toInt64)
        else (x0 ||| (1 : Int32).toInt64)
      else if (128 : Int32) ≤ x4 then if (x0 ||| x2) = (0 : Int64) then (0 : Int64)
          else (1 : Int64)
        else if ((jl_shl x0 ((128 : Int32) - x4)) ||| x2) = (0 : Int64) then ((jl_ushr x0 (x4 - (64 : Int32))) ||| (0 : Int32).toInt64)
          else ((jl_ushr x0 (x4 - (64 : Int32))) ||| (1 : Int32).toInt64)
    else if (jl_shl x2 ((64 : Int32) - x4)) = (0 : Int64) then (((jl_shl x0 ((64 : Int32) - x4)) ||| (jl_ushr x2 x4)) ||| (0 : Int32).toInt64)
      else (((jl_shl x0 ((64 : Int32) - x4)) ||| (jl_ushr x2 x4)) ||| (1 : Int32).toInt64)
def fX0_lowered (x0 : Int64) (x2 : Int32) : Int64 :=
  (fX0_loweredLow (0 : Int64) x0 x2)
def fX0_loweredHigh (x0 : Int64) (x2 : Int32) : Int64 :=
  if (64 : Int32) ≤ x2 then (0 : Int64)
  else (jl_ushr x0 x2)
def fX0_negatedHigh (x0 : Int64) (x2 : Int64) : Int64 :=
  if x2 = (0 : Int64) then (-x0)
  else (x0 ^^^ (-1 : Int64))
def fX2_size (w : Bool) (x1 : Int64) : Int64 :=
  (x1 &&& ((fo_sign w) - (1 : Int64)))
def fX2_isNan (w : Bool) (x1 : Int64) : Int32 :=
  if (fX2_size w x1) ≤ (fo_infinity w) then (0 : Int32)
  else (1 : Int32)
theorem zX2_isNan (w : Bool) (x1 : Int64) : ji_z (fX2_isNan w x1) := by
  unfold fX2_isNan
  repeat' (first | with_reducible exact ji_z0 | with_reducible exact ji_z1 | with_reducible refine ji_z_ite ?_ ?_ | with_reducible assumption)
def fX2_isInfinite (w : Bool) (x1 : Int64) : Int32 :=
  if (fX2_size w x1) = (fo_infinity w) then (1 : Int32)
  else (0 : Int32)
theorem zX2_isInfinite (w : Bool) (x1 : Int64) : ji_z (fX2_isInfinite w x1) := by
  unfold fX2_isInfinite
  repeat' (first | with_reducible exact ji_z0 | with_reducible exact ji_z1 | with_reducible refine ji_z_ite ?_ ?_ | with_reducible assumption)
def fX2_isZero (w : Bool) (x1 : Int64) : Int32 :=
  if (fX2_size w x1) = (0 : Int64) then (1 : Int32)
  else (0 : Int32)
theorem zX2_isZero (w : Bool) (x1 : Int64) : ji_z (fX2_isZero w x1) := by
  unfold fX2_isZero
  repeat' (first | with_reducible exact ji_z0 | with_reducible exact ji_z1 | with_reducible refine ji_z_ite ?_ ?_ | with_reducible assumption)
def fX2_biased (w : Bool) (x1 : Int64) : Int32 :=
  ((jl_ushr x1 (fo_fraction w)).toInt32 &&& (fo_top w))
def fX2_scale (w : Bool) (x1 : Int64) : Int32 :=
  (((ji_max (fX2_biased w x1) (1 : Int32)) - (fo_bias w)) - (fo_fraction w))
def fX2_plain (w : Bool) (x1 : Int64) : Int64 :=
  if (fX2_biased w x1) = 0 then (x1 &&& ((jl_shl (1 : Int64) (fo_fraction w)) - (1 : Int64)))
  else ((x1 &&& ((jl_shl (1 : Int64) (fo_fraction w)) - (1 : Int64))) ||| (jl_shl (1 : Int64) (fo_fraction w)))
def fX2_isNegative (w : Bool) (x1 : Int64) : Int32 :=
  if (x1 &&& (fo_sign w)) = (0 : Int64) then (0 : Int32)
  else (1 : Int32)
theorem zX2_isNegative (w : Bool) (x1 : Int64) : ji_z (fX2_isNegative w x1) := by
  unfold fX2_isNegative
  repeat' (first | with_reducible exact ji_z0 | with_reducible exact ji_z1 | with_reducible refine ji_z_ite ?_ ?_ | with_reducible assumption)
def fX2_rounded_158 (w : Bool) (x8 : Int32) (x9 : Int64) (x12 : Int64) : Int64 :=
  (x9 ||| ((jl_shl (((ji_max x8 (1 : Int32)) - (1 : Int32)).toInt64) (fo_fraction w)) + x12))
def fX2_rounded_152 (w : Bool) (x8 : Int32) (x9 : Int64) (x12 : Int64) : Int64 :=
  fX2_rounded_158 w x8 x9 (x12 + (1 : Int64))
def fX2_rounded_90 (w : Bool) (x6 : Int64) (x8 : Int32) (x9 : Int64) (s0 : Int32) : Int64 :=
  if s0 ≤ (63 : Int32) then if (jl_shl (1 : Int64) (s0 - (1 : Int32))) < (x6 - (jl_shl (jl_ushr x6 s0) s0)) then fX2_rounded_152 w x8 x9 (jl_ushr x6 s0)
    else if (x6 - (jl_shl (jl_ushr x6 s0) s0)) = (jl_shl (1 : Int64) (s0 - (1 : Int32))) then if ((jl_ushr x6 s0) &&& (1 : Int64)) = (0 : Int64) then fX2_rounded_158 w x8 x9 (jl_ushr x6 s0)
        else fX2_rounded_152 w x8 x9 (jl_ushr x6 s0)
      else fX2_rounded_158 w x8 x9 (jl_ushr x6 s0)
  else x9
def fX2_rounded_55 (w : Bool) (x6 : Int64) (x8 : Int32) (s0 : Int64) : Int64 :=
  if x8 < (fo_top w) then fX2_rounded_90 w x6 x8 s0 (((62 : Int32) - (fo_fraction w)) + (ji_max ((1 : Int32) - x8) (0 : Int32)))
  else (s0 ||| (fo_infinity w))
def fX2_rounded_27 (w : Bool) (x1 : Int32) (x2 : Int32) (x5 : Int32) (s0 : Int64) : Int64 :=
  if x1 = 0 then fX2_rounded_55 w s0 (((x2 + (63 : Int32)) - x5) + (fo_bias w)) (0 : Int64)
  else fX2_rounded_55 w s0 (((x2 + (63 : Int32)) - x5) + (fo_bias w)) (fo_sign w)
def fX2_rounded (w : Bool) (x1 : Int32) (x2 : Int32) (x3 : Int64) : Int64 :=
  if (fX0_zeros x3) = 0 then fX2_rounded_27 w x1 x2 (fX0_zeros x3) ((jl_ushr x3 (1 : Int32)) ||| (x3 &&& (1 : Int64)))
  else fX2_rounded_27 w x1 x2 (fX0_zeros x3) (jl_shl x3 ((fX0_zeros x3) - (1 : Int32)))
def fX2_sum_205 (w : Bool) (x5 : Int32) (x6 : Int32) (x11 : Int64) (s1 : Int32) : Int64 :=
  (fX2_rounded w s1 (x6 - x5) (jl_abs x11))
def fX2_sum_180 (w : Bool) (x5 : Int32) (x6 : Int32) (s0 : Int64) (s1 : Int64) : Int64 :=
  if (s0 + s1) = (0 : Int64) then (0 : Int64)
  else if (0 : Int64) ≤ (s0 + s1) then fX2_sum_205 w x5 x6 (s0 + s1) (0 : Int32)
    else fX2_sum_205 w x5 x6 (s0 + s1) (1 : Int32)
def fX2_sum_164 (w : Bool) (x3 : Int64) (x5 : Int32) (x6 : Int32) (x9 : Int64) (s0 : Int64) : Int64 :=
  if (fX2_isNegative w x3) = 0 then fX2_sum_180 w x5 x6 s0 x9
  else fX2_sum_180 w x5 x6 s0 (-x9)
def fX2_sum_146 (w : Bool) (x1 : Int64) (x3 : Int64) (x5 : Int32) (x6 : Int32) (x7 : Int64) (s0 : Int64) : Int64 :=
  if (fX2_isNegative w x1) = 0 then fX2_sum_164 w x3 x5 x6 s0 x7
  else fX2_sum_164 w x3 x5 x6 s0 (-x7)
def fX2_sum_125 (w : Bool) (x1 : Int64) (x3 : Int64) (x5 : Int32) (x6 : Int32) (s0 : Int64) : Int64 :=
  fX2_sum_146 w x1 x3 x5 x6 s0 (fX0_lowered (jl_shl (fX2_plain w x3) x5) (x6 - (fX2_scale w x3)))
def fX2_sum_82 (w : Bool) (x1 : Int64) (x3 : Int64) : Int64 :=
  fX2_sum_125 w x1 x3 ((61 : Int32) - (fo_fraction w)) (ji_max (fX2_scale w x1) (fX2_scale w x3)) (fX0_lowered (jl_shl (fX2_plain w x1) ((61 : Int32) - (fo_fraction w))) ((ji_max (fX2_scale w x1) (fX2_scale w x3)) - (fX2_scale w x1)))
def fX2_sum (w : Bool) (x1 : Int64) (x3 : Int64) : Int64 :=
  if (fX2_isNan w x1) = 0 then if (fX2_isNan w x3) = 0 then if (fX2_isInfinite w x1) = 0 then if (fX2_isInfinite w x3) = 0 then if (fX2_isZero w x1) = 0 then fX2_sum_82 w x1 x3
          else if (fX2_isZero w x3) = 0 then fX2_sum_82 w x1 x3
            else (x1 &&& x3)
        else x3
      else if (fX2_isInfinite w x3) = 0 then x1
        else if x1 = x3 then x1
          else (fo_nan w)
    else (fo_nan w)
  else (fo_nan w)
def fX2_product_47 (w : Bool) (x1 : Int64) (x3 : Int64) (x5 : Int64) : Int64 :=
  if (fX2_isZero w x1) = 0 then if (fX2_isZero w x3) = 0 then (x5 ||| (fo_infinity w))
    else (fo_nan w)
  else (fo_nan w)
def fX2_product_178 (w : Bool) (x1 : Int64) (x3 : Int64) (x11 : Int32) (x12 : Int32) (x13 : Int64) (s1 : Int32) : Int64 :=
  (fX2_rounded w s1 (((((fX2_scale w x1) - x11) + (fX2_scale w x3)) - x12) + (64 : Int32)) x13)
def fX2_product_161 (w : Bool) (x1 : Int64) (x3 : Int64) (x5 : Int64) (x11 : Int32) (x12 : Int32) (s0 : Int64) (s1 : Int32) : Int64 :=
  if x5 = (0 : Int64) then fX2_product_178 w x1 x3 x11 x12 (s0 ||| s1.toInt64) (0 : Int32)
  else fX2_product_178 w x1 x3 x11 x12 (s0 ||| s1.toInt64) (1 : Int32)
def fX2_product (w : Bool) (x1 : Int64) (x3 : Int64) : Int64 :=
  if (fX2_isNan w x1) = 0 then if (fX2_isNan w x3) = 0 then if (fX2_isInfinite w x1) = 0 then if (fX2_isInfinite w x3) = 0 then if (fX2_isZero w x1) = 0 then if (fX2_isZero w x3) = 0 then if ((jl_shl (fX2_plain w x1) (fX0_zeros (fX2_plain w x1))) * (jl_shl (fX2_plain w x3) (fX0_zeros (fX2_plain w x3)))) = (0 : Int64) then fX2_product_161 w x1 x3 ((x1 ^^^ x3) &&& (fo_sign w)) (fX0_zeros (fX2_plain w x1)) (fX0_zeros (fX2_plain w x3)) (fX0_upperProduct (jl_shl (fX2_plain w x1) (fX0_zeros (fX2_plain w x1))) (jl_shl (fX2_plain w x3) (fX0_zeros (fX2_plain w x3)))) (0 : Int32)
              else fX2_product_161 w x1 x3 ((x1 ^^^ x3) &&& (fo_sign w)) (fX0_zeros (fX2_plain w x1)) (fX0_zeros (fX2_plain w x3)) (fX0_upperProduct (jl_shl (fX2_plain w x1) (fX0_zeros (fX2_plain w x1))) (jl_shl (fX2_plain w x3) (fX0_zeros (fX2_plain w x3)))) (1 : Int32)
            else ((x1 ^^^ x3) &&& (fo_sign w))
          else ((x1 ^^^ x3) &&& (fo_sign w))
        else fX2_product_47 w x1 x3 ((x1 ^^^ x3) &&& (fo_sign w))
      else fX2_product_47 w x1 x3 ((x1 ^^^ x3) &&& (fo_sign w))
    else (fo_nan w)
  else (fo_nan w)
def gX2_divided_117 (w : Bool) (x8 : Int64) (x15 : Int32) : Nat → Int64 → Int64 → Int32 → Int32 → Int64 × Int64 × Int32 × Int32
  | 0, x6, x12, x14, x16 => (x6, x12, x14, x16)
  | n + 1, x6, x12, x14, x16 =>
  if ((fo_fraction w) + (3 : Int32)) ≤ x16 then (x6, x12, x14, x16)
  else gX2_divided_117 w x8 x15 n (jl_rem (jl_shl x6 x15) x8) ((jl_shl x12 x15) ||| ((jl_shl x6 x15) / x8)) (x14 - x15) (x16 + x15)
def fX2_divided_194 (w : Bool) (s1 : Int32) (s2 : Int32) (s3 : Int64) (s4 : Int32) : Int64 :=
  (fX2_rounded w s1 s2 (s3 ||| s4.toInt64))
def fX2_divided_172 (w : Bool) (x1 : Int32) (x6 : Int64) (x12 : Int64) (x14 : Int32) : Int64 :=
  if x6 = (0 : Int64) then fX2_divided_194 w x1 (x14 - (1 : Int32)) (jl_shl x12 (1 : Int32)) (0 : Int32)
  else fX2_divided_194 w x1 (x14 - (1 : Int32)) (jl_shl x12 (1 : Int32)) (1 : Int32)
def fX2_divided_59 (w : Bool) (x1 : Int32) (x2 : Int64) (x4 : Int64) (x6 : Int64) (x8 : Int64) (x10 : Int32) (x11 : Int32) : Int64 :=
  if x8 = (0 : Int64) then (fo_nan w)
  else fX2_divided_172 w x1 (gX2_divided_117 w x8 ((62 : Int32) - (fo_fraction w)) (Nat.succ ((Int32.toInt ((fo_fraction w) + (3 : Int32)) - Int32.toInt (0 : Int32)).toNat)) (jl_rem x6 x8) (x6 / x8) ((((fX2_scale w x2) - x10) - (fX2_scale w x4)) + x11) (0 : Int32)).1 (gX2_divided_117 w x8 ((62 : Int32) - (fo_fraction w)) (Nat.succ ((Int32.toInt ((fo_fraction w) + (3 : Int32)) - Int32.toInt (0 : Int32)).toNat)) (jl_rem x6 x8) (x6 / x8) ((((fX2_scale w x2) - x10) - (fX2_scale w x4)) + x11) (0 : Int32)).2.1 (gX2_divided_117 w x8 ((62 : Int32) - (fo_fraction w)) (Nat.succ ((Int32.toInt ((fo_fraction w) + (3 : Int32)) - Int32.toInt (0 : Int32)).toNat)) (jl_rem x6 x8) (x6 / x8) ((((fX2_scale w x2) - x10) - (fX2_scale w x4)) + x11) (0 : Int32)).2.2.1
def fX2_divided (w : Bool) (x1 : Int32) (x2 : Int64) (x4 : Int64) : Int64 :=
  fX2_divided_59 w x1 x2 x4 (jl_shl (fX2_plain w x2) ((fX0_zeros (fX2_plain w x2)) - ((63 : Int32) - (fo_fraction w)))) (jl_shl (fX2_plain w x4) ((fX0_zeros (fX2_plain w x4)) - ((63 : Int32) - (fo_fraction w)))) ((fX0_zeros (fX2_plain w x2)) - ((63 : Int32) - (fo_fraction w))) ((fX0_zeros (fX2_plain w x4)) - ((63 : Int32) - (fo_fraction w)))
def fX2_quotient_119 (w : Bool) (x1 : Int64) (x3 : Int64) (s1 : Int32) : Int64 :=
  (fX2_divided w s1 x1 x3)
def fX2_quotient_53 (w : Bool) (x1 : Int64) (x3 : Int64) : Int64 :=
  if (fX2_isInfinite w x1) = 0 then if (fX2_isZero w x3) = 0 then if (fX2_isInfinite w x3) = 0 then if (fX2_isZero w x1) = 0 then if ((x1 ^^^ x3) &&& (fo_sign w)) = (0 : Int64) then fX2_quotient_119 w x1 x3 (0 : Int32)
          else fX2_quotient_119 w x1 x3 (1 : Int32)
        else ((x1 ^^^ x3) &&& (fo_sign w))
      else ((x1 ^^^ x3) &&& (fo_sign w))
    else (((x1 ^^^ x3) &&& (fo_sign w)) ||| (fo_infinity w))
  else (((x1 ^^^ x3) &&& (fo_sign w)) ||| (fo_infinity w))
def fX2_quotient_32 (w : Bool) (x1 : Int64) (x3 : Int64) : Int64 :=
  if (fX2_isZero w x1) = 0 then fX2_quotient_53 w x1 x3
  else if (fX2_isZero w x3) = 0 then fX2_quotient_53 w x1 x3
    else (fo_nan w)
def fX2_quotient (w : Bool) (x1 : Int64) (x3 : Int64) : Int64 :=
  if (fX2_isNan w x1) = 0 then if (fX2_isNan w x3) = 0 then if (fX2_isInfinite w x1) = 0 then fX2_quotient_32 w x1 x3
      else if (fX2_isInfinite w x3) = 0 then fX2_quotient_32 w x1 x3
        else (fo_nan w)
    else (fo_nan w)
  else (fo_nan w)
def gX2_rest_112 (w : Bool) (x5 : Int64) (x9 : Int32) : Nat → Int64 → Int32 → Int64 × Int32
  | 0, x7, x10 => (x7, x10)
  | n + 1, x7, x10 =>
  if x10 ≤ 0 then (x7, x10)
  else gX2_rest_112 w x5 x9 n (jl_rem (jl_shl x7 (ji_min x10 x9)) x5) (x10 - x9)
def fX2_rest_142 (w : Bool) (x1 : Int64) (x3 : Int64) (x7 : Int64) : Int64 :=
  if x7 = (0 : Int64) then (x1 &&& (fo_sign w))
  else (fX2_rounded w (fX2_isNegative w x1) (fX2_scale w x3) x7)
def fX2_rest (w : Bool) (x1 : Int64) (x3 : Int64) : Int64 :=
  if (fX2_isNan w x1) = 0 then if (fX2_isNan w x3) = 0 then if (fX2_isInfinite w x1) = 0 then if (fX2_isZero w x3) = 0 then if (fX2_isInfinite w x3) = 0 then if (fX2_size w x3) ≤ (fX2_size w x1) then if (fX2_plain w x3) = (0 : Int64) then (fo_nan w)
              else fX2_rest_142 w x1 x3 (gX2_rest_112 w (fX2_plain w x3) ((62 : Int32) - (fo_fraction w)) (Nat.succ ((Int32.toInt ((fX2_scale w x1) - (fX2_scale w x3))).toNat)) (jl_rem (fX2_plain w x1) (fX2_plain w x3)) ((fX2_scale w x1) - (fX2_scale w x3))).1
            else x1
          else x1
        else (fo_nan w)
      else (fo_nan w)
    else (fo_nan w)
  else (fo_nan w)
def gX2_root_91 (w : Bool) (x6 : Int32) : Nat → Int64 → Int64 → Int64 → Int32 → Int64 × Int64 × Int64 × Int32
  | 0, x4, x7, x9, x11 => (x4, x7, x9, x11)
  | n + 1, x4, x7, x9, x11 =>
  if x6 ≤ x11 then (x4, x7, x9, x11)
  else if ((jl_shl x9 (2 : Int32)) ||| (jl_ushr x4 (62 : Int32))) < ((jl_shl x7 (2 : Int32)) ||| (1 : Int64)) then gX2_root_91 w x6 n (jl_shl x4 (2 : Int32)) (jl_shl x7 (1 : Int32)) ((jl_shl x9 (2 : Int32)) ||| (jl_ushr x4 (62 : Int32))) (x11 + 1)
    else gX2_root_91 w x6 n (jl_shl x4 (2 : Int32)) ((jl_shl x7 (1 : Int32)) ||| (1 : Int64)) (((jl_shl x9 (2 : Int32)) ||| (jl_ushr x4 (62 : Int32))) - ((jl_shl x7 (2 : Int32)) ||| (1 : Int64))) (x11 + 1)
def fX2_root_199 (w : Bool) (s1 : Int32) (s2 : Int32) (s3 : Int64) (s4 : Int32) : Int64 :=
  (fX2_rounded w s1 s2 (s3 ||| s4.toInt64))
def fX2_root_172 (w : Bool) (x4 : Int64) (x7 : Int64) (x9 : Int64) (s0 : Int32) : Int64 :=
  if (x9 ||| x4) = (0 : Int64) then fX2_root_199 w (0 : Int32) (s0 - (1 : Int32)) (jl_shl x7 (1 : Int32)) (0 : Int32)
  else fX2_root_199 w (0 : Int32) (s0 - (1 : Int32)) (jl_shl x7 (1 : Int32)) (1 : Int32)
def fX2_root_157 (w : Bool) (x1 : Int64) (x3 : Int32) (x4 : Int64) (x6 : Int32) (x7 : Int64) (x9 : Int64) : Int64 :=
  fX2_root_172 w x4 x7 x9 (((((fX2_scale w x1) - x3) / (2 : Int32)) + (32 : Int32)) - x6)
def fX2_root_65 (w : Bool) (x1 : Int64) (x3 : Int32) : Int64 :=
  fX2_root_157 w x1 x3 (gX2_root_91 w ((fo_fraction w) + (3 : Int32)) (Nat.succ ((Int32.toInt (((fo_fraction w) + (3 : Int32))) - Int32.toInt (0 : Int32)).toNat)) (jl_shl (fX2_plain w x1) x3) (0 : Int64) (0 : Int64) (0 : Int32)).1 ((fo_fraction w) + (3 : Int32)) (gX2_root_91 w ((fo_fraction w) + (3 : Int32)) (Nat.succ ((Int32.toInt (((fo_fraction w) + (3 : Int32))) - Int32.toInt (0 : Int32)).toNat)) (jl_shl (fX2_plain w x1) x3) (0 : Int64) (0 : Int64) (0 : Int32)).2.1 (gX2_root_91 w ((fo_fraction w) + (3 : Int32)) (Nat.succ ((Int32.toInt (((fo_fraction w) + (3 : Int32))) - Int32.toInt (0 : Int32)).toNat)) (jl_shl (fX2_plain w x1) x3) (0 : Int64) (0 : Int64) (0 : Int32)).2.2.1
def fX2_root (w : Bool) (x1 : Int64) : Int64 :=
  if (fX2_isZero w x1) = 0 then if (fX2_isNan w x1) = 0 then if (fX2_isNegative w x1) = 0 then if (fX2_isInfinite w x1) = 0 then if (((fX2_scale w x1) - (fX0_zeros (fX2_plain w x1))) &&& (1 : Int32)) = 0 then fX2_root_65 w x1 (fX0_zeros (fX2_plain w x1))
          else fX2_root_65 w x1 ((fX0_zeros (fX2_plain w x1)) + (-1))
        else x1
      else (fo_nan w)
    else (fo_nan w)
  else x1
def fX2_whole_260 (w : Bool) (x7 : Int64) (x9 : Int64) (s0 : Int32) : Int64 :=
  if s0 = 0 then x9
  else (x9 + x7)
def fX2_whole_252 (w : Bool) (x7 : Int64) (x9 : Int64) (s0 : Int32) (s1 : Int32) : Int64 :=
  if s0 = s1 then fX2_whole_260 w x7 x9 (1 : Int32)
  else fX2_whole_260 w x7 x9 (0 : Int32)
def fX2_whole_240 (w : Bool) (x5 : Int64) (x7 : Int64) (x9 : Int64) (s0 : Int32) : Int64 :=
  if x5 = (0 : Int64) then fX2_whole_252 w x7 x9 s0 (1 : Int32)
  else fX2_whole_252 w x7 x9 s0 (0 : Int32)
def fX2_whole_223 (w : Bool) (x7 : Int64) (x9 : Int64) : Int64 :=
  fX2_whole_260 w x7 x9 (1 : Int32)
def fX2_whole_227 (w : Bool) (x7 : Int64) (x9 : Int64) : Int64 :=
  fX2_whole_260 w x7 x9 (0 : Int32)
def fX2_whole_191 (w : Bool) (x3 : Int32) (x5 : Int64) (x7 : Int64) (x9 : Int64) (x11 : Int64) (s0 : Int32) : Int64 :=
  if x3 = (2 : Int32) then if (jl_shr x7 (1 : Int32)) < x11 then fX2_whole_223 w x7 x9
    else if x11 = (jl_shr x7 (1 : Int32)) then if s0 = 0 then fX2_whole_227 w x7 x9
        else fX2_whole_223 w x7 x9
      else fX2_whole_227 w x7 x9
  else if x3 = 0 then fX2_whole_240 w x5 x7 x9 (1 : Int32)
    else fX2_whole_240 w x5 x7 x9 (0 : Int32)
def fX2_whole_159 (w : Bool) (x1 : Int64) (x3 : Int32) (x5 : Int64) (x7 : Int64) (s0 : Int64) : Int64 :=
  if (x1 - s0) = (0 : Int64) then x1
  else if (s0 &&& x7) = (0 : Int64) then fX2_whole_191 w x3 x5 x7 s0 (x1 - s0) (0 : Int32)
    else fX2_whole_191 w x3 x5 x7 s0 (x1 - s0) (1 : Int32)
def fX2_whole_123 (w : Bool) (x5 : Int64) (s0 : Int32) : Int64 :=
  if s0 = 0 then x5
  else (x5 ||| (fo_one w))
def fX2_whole_115 (w : Bool) (x5 : Int64) (s0 : Int32) (s1 : Int32) : Int64 :=
  if s0 = s1 then fX2_whole_123 w x5 (1 : Int32)
  else fX2_whole_123 w x5 (0 : Int32)
def fX2_whole_103 (w : Bool) (x5 : Int64) (s0 : Int32) : Int64 :=
  if x5 = (0 : Int64) then fX2_whole_115 w x5 s0 (1 : Int32)
  else fX2_whole_115 w x5 s0 (0 : Int32)
def fX2_whole (w : Bool) (x1 : Int64) (x3 : Int32) : Int64 :=
  if (fX2_isNan w x1) = 0 then if (fo_fraction w) ≤ ((fX2_biased w x1) - (fo_bias w)) then x1
    else if (fX2_isZero w x1) = 0 then if 0 ≤ ((fX2_biased w x1) - (fo_bias w)) then fX2_whole_159 w x1 x3 (x1 &&& (fo_sign w)) (jl_shl (1 : Int64) ((fo_fraction w) - ((fX2_biased w x1) - (fo_bias w)))) (x1 &&& (-(jl_shl (1 : Int64) ((fo_fraction w) - ((fX2_biased w x1) - (fo_bias w))))))
        else if x3 = (2 : Int32) then if (fX2_size w x1) ≤ ((fo_one w) - (jl_shl (1 : Int64) (fo_fraction w))) then fX2_whole_123 w (x1 &&& (fo_sign w)) (0 : Int32)
            else fX2_whole_123 w (x1 &&& (fo_sign w)) (1 : Int32)
          else if x3 = 0 then fX2_whole_103 w (x1 &&& (fo_sign w)) (1 : Int32)
            else fX2_whole_103 w (x1 &&& (fo_sign w)) (0 : Int32)
      else x1
  else (fo_nan w)
def fX2_rank (w : Bool) (x1 : Int64) : Int64 :=
  if (fX2_isNegative w x1) = 0 then (fX2_size w x1)
  else (-(fX2_size w x1))
def fX2_lesser (w : Bool) (x1 : Int64) (x3 : Int64) : Int64 :=
  if (fX2_isNan w x1) = 0 then if (fX2_isNan w x3) = 0 then if (fX2_rank w x1) < (fX2_rank w x3) then x1
      else if (fX2_rank w x1) = (fX2_rank w x3) then if (fX2_isNegative w x1) = 0 then x3
          else x1
        else x3
    else (fo_nan w)
  else (fo_nan w)
def fX2_greater (w : Bool) (x1 : Int64) (x3 : Int64) : Int64 :=
  if (fX2_isNan w x1) = 0 then if (fX2_isNan w x3) = 0 then if (fX2_rank w x3) < (fX2_rank w x1) then x1
      else if (fX2_rank w x1) = (fX2_rank w x3) then if (fX2_isNegative w x1) = 0 then x1
          else x3
        else x3
    else (fo_nan w)
  else (fo_nan w)
def gX2_power_9 (w : Bool) (x1 : Int64) (x3 : Int64) : Nat → Int64 → Int32 → Int64 × Int32
  | 0, x5, x7 => (x5, x7)
  | n + 1, x5, x7 =>
  if x3 ≤ x7.toInt64 then (x5, x7)
  else gX2_power_9 w x1 x3 n (fX2_product w x5 x1) (x7 + 1)
def fX2_power_32 (w : Bool) (x5 : Int64) : Int64 :=
  x5
def fX2_power (w : Bool) (x1 : Int64) (x3 : Int64) : Int64 :=
  fX2_power_32 w (gX2_power_9 w x1 x3 (Nat.succ ((x3.toInt - Int32.toInt (0 : Int32)).toNat)) (fo_one w) (0 : Int32)).1
def fX2_scaled (w : Bool) (x1 : Int64) (x3 : Int64) : Int64 :=
  if (fX2_isNan w x1) = 0 then if (fX2_isInfinite w x1) = 0 then if (fX2_isZero w x1) = 0 then (fX2_rounded w (fX2_isNegative w x1) ((fX2_scale w x1) + (jl_max (-5000 : Int64) (jl_min (5000 : Int64) x3)).toInt32) (fX2_plain w x1))
      else x1
    else x1
  else (fo_nan w)
def fX2_above (w : Bool) (x1 : Int64) : Int64 :=
  if (fX2_isNan w x1) = 0 then if (fX2_isZero w x1) = 0 then if x1 = (fo_infinity w) then x1
      else if (fX2_isNegative w x1) = 0 then (x1 + (1 : Int64))
        else (x1 - (1 : Int64))
    else (1 : Int64)
  else (fo_nan w)
def fX2_gap (w : Bool) (x1 : Int64) : Int64 :=
  if (fX2_isNan w x1) = 0 then if (fX2_isInfinite w x1) = 0 then (fX2_rounded w (0 : Int32) (fX2_scale w x1) (1 : Int64))
    else (fo_infinity w)
  else (fo_nan w)
def fX2_fusedFinite_331 (w : Bool) (x22 : Int32) (x25 : Int32) (x26 : Int64) (x28 : Int64) (s0 : Int32) : Int64 :=
  (fX2_rounded w x25 (x22 + s0) (fX0_loweredLow x28 x26 s0))
def fX2_fusedFinite_300 (w : Bool) (x22 : Int32) (x25 : Int32) (x26 : Int64) (x28 : Int64) : Int64 :=
  if (x28 ||| x26) = (0 : Int64) then (0 : Int64)
  else if x28 = (0 : Int64) then fX2_fusedFinite_331 w x22 x25 x26 x28 (0 : Int32)
    else fX2_fusedFinite_331 w x22 x25 x26 x28 ((64 : Int32) - (fX0_zeros x28))
def fX2_fusedFinite_284 (w : Bool) (x22 : Int32) (x26 : Int64) (x28 : Int64) (s0 : Int32) : Int64 :=
  fX2_fusedFinite_300 w x22 s0 (-x26) (fX0_negatedHigh x28 x26)
def fX2_fusedFinite_263 (w : Bool) (x22 : Int32) (x25 : Int32) (x26 : Int64) (s0 : Int64) (s1 : Int32) : Int64 :=
  if (0 : Int64) ≤ (s0 + s1.toInt64) then fX2_fusedFinite_300 w x22 x25 x26 (s0 + s1.toInt64)
  else if x25 = 0 then fX2_fusedFinite_284 w x22 x26 (s0 + s1.toInt64) (1 : Int32)
    else fX2_fusedFinite_284 w x22 x26 (s0 + s1.toInt64) (0 : Int32)
def fX2_fusedFinite_236 (w : Bool) (x14 : Int64) (x16 : Int64) (x19 : Int64) (x22 : Int32) (x23 : Int64) (x25 : Int32) : Int64 :=
  if (fX0_isBelow (x16 + x23) x16) = 0 then fX2_fusedFinite_263 w x22 x25 (x16 + x23) (x14 + x19) (0 : Int32)
  else fX2_fusedFinite_263 w x22 x25 (x16 + x23) (x14 + x19) (1 : Int32)
def fX2_fusedFinite_209 (w : Bool) (x5 : Int64) (x14 : Int64) (x16 : Int64) (x19 : Int64) (x22 : Int32) (x23 : Int64) (s0 : Int32) : Int64 :=
  if (fX2_isNegative w x5) = s0 then fX2_fusedFinite_236 w x14 x16 x19 x22 x23 s0
  else fX2_fusedFinite_236 w x14 x16 (fX0_negatedHigh x19 x23) x22 (-x23) s0
def fX2_fusedFinite_138 (w : Bool) (x1 : Int64) (x3 : Int64) (x5 : Int64) (x14 : Int64) (x16 : Int64) (x18 : Int32) (x19 : Int64) (x21 : Int32) (s0 : Int32) : Int64 :=
  if (fX2_isNegative w x1) = (fX2_isNegative w x3) then fX2_fusedFinite_209 w x5 (fX0_loweredHigh x14 (s0 - x18)) (fX0_loweredLow x14 x16 (s0 - x18)) (fX0_loweredHigh x19 (s0 - x21)) s0 (fX0_loweredLow x19 (0 : Int64) (s0 - x21)) (0 : Int32)
  else fX2_fusedFinite_209 w x5 (fX0_loweredHigh x14 (s0 - x18)) (fX0_loweredLow x14 x16 (s0 - x18)) (fX0_loweredHigh x19 (s0 - x21)) s0 (fX0_loweredLow x19 (0 : Int64) (s0 - x21)) (1 : Int32)
def fX2_fusedFinite_100 (w : Bool) (x1 : Int64) (x3 : Int64) (x5 : Int64) (x13 : Int32) (x14 : Int64) (x16 : Int64) (s0 : Int32) : Int64 :=
  fX2_fusedFinite_138 w x1 x3 x5 x14 x16 s0 (jl_ushr (jl_shl (fX2_plain w x5) x13) (2 : Int32)) ((((fX2_scale w x5) - x13) - (64 : Int32)) + (2 : Int32)) (ji_max s0 ((((fX2_scale w x5) - x13) - (64 : Int32)) + (2 : Int32)))
def fX2_fusedFinite_60 (w : Bool) (x1 : Int64) (x3 : Int64) (x5 : Int64) (x7 : Int64) (x9 : Int64) (x11 : Int32) (x12 : Int32) (x13 : Int32) (s0 : Int64) : Int64 :=
  fX2_fusedFinite_100 w x1 x3 x5 x13 (jl_ushr s0 (2 : Int32)) (fX0_loweredLow s0 (x7 * x9) (2 : Int32)) (((((fX2_scale w x1) - x11) + (fX2_scale w x3)) - x12) + (2 : Int32))
def fX2_fusedFinite (w : Bool) (x1 : Int64) (x3 : Int64) (x5 : Int64) : Int64 :=
  fX2_fusedFinite_60 w x1 x3 x5 (jl_shl (fX2_plain w x1) (fX0_zeros (fX2_plain w x1))) (jl_shl (fX2_plain w x3) (fX0_zeros (fX2_plain w x3))) (fX0_zeros (fX2_plain w x1)) (fX0_zeros (fX2_plain w x3)) (fX0_zeros (fX2_plain w x5)) (fX0_upperProduct (jl_shl (fX2_plain w x1) (fX0_zeros (fX2_plain w x1))) (jl_shl (fX2_plain w x3) (fX0_zeros (fX2_plain w x3))))
def fX2_fused_62 (w : Bool) (x1 : Int64) (x3 : Int64) (x5 : Int64) : Int64 :=
  (fX2_sum w (fX2_product w x1 x3) x5)
def fX2_fused (w : Bool) (x1 : Int64) (x3 : Int64) (x5 : Int64) : Int64 :=
  if (fX2_isNan w x1) = 0 then if (fX2_isNan w x3) = 0 then if (fX2_isNan w x5) = 0 then if (fX2_isInfinite w x1) = 0 then if (fX2_isInfinite w x3) = 0 then if (fX2_isZero w x1) = 0 then if (fX2_isZero w x3) = 0 then if (fX2_isInfinite w x5) = 0 then if (fX2_isZero w x5) = 0 then (fX2_fusedFinite w x1 x3 x5)
                  else (fX2_product w x1 x3)
                else x5
              else fX2_fused_62 w x1 x3 x5
            else fX2_fused_62 w x1 x3 x5
          else fX2_fused_62 w x1 x3 x5
        else fX2_fused_62 w x1 x3 x5
      else (fo_nan w)
    else (fo_nan w)
  else (fo_nan w)
def fX2_ofWhole_18 (w : Bool) (x1 : Int32) (s1 : Int32) : Int64 :=
  (fX2_rounded w s1 (0 : Int32) (jl_abs x1.toInt64))
def fX2_ofWhole (w : Bool) (x1 : Int32) : Int64 :=
  if x1 = 0 then (0 : Int64)
  else if 0 ≤ x1 then fX2_ofWhole_18 w x1 (0 : Int32)
    else fX2_ofWhole_18 w x1 (1 : Int32)
def fX2_cut_76 (w : Bool) (x1 : Int64) (s0 : Int64) : Int64 :=
  if (fX2_isNegative w x1) = 0 then s0
  else (-s0)
def fX2_cut (w : Bool) (x1 : Int64) : Int64 :=
  if 0 ≤ ((fX2_biased w x1) - (fo_bias w)) then if ((fX2_biased w x1) - (fo_bias w)) < (31 : Int32) then if (fo_fraction w) ≤ ((fX2_biased w x1) - (fo_bias w)) then fX2_cut_76 w x1 (jl_shl (fX2_plain w x1) (((fX2_biased w x1) - (fo_bias w)) - (fo_fraction w)))
      else fX2_cut_76 w x1 (jl_ushr (fX2_plain w x1) ((fo_fraction w) - ((fX2_biased w x1) - (fo_bias w))))
    else if (fX2_isNegative w x1) = 0 then (2147483647 : Int64)
      else (-2147483648 : Int64)
  else (0 : Int64)
def fX2_acted (w : Bool) (x1 : Int32) (x2 : Int64) (x4 : Int64) (x6 : Int64) : Int64 :=
  if x1 = 0 then (fX2_sum w x2 x4)
  else if x1 = 1 then (fX2_sum w x2 (x4 ^^^ (fo_sign w)))
  else if x1 = 2 then (fX2_product w x2 x4)
  else if x1 = 3 then (fX2_quotient w x2 x4)
  else if x1 = 4 then (fX2_rest w x2 x4)
  else if x1 = 5 then (fX2_quotient w (fX2_sum w x2 ((fX2_rest w x2 x4) ^^^ (fo_sign w))) x4)
  else if x1 = 6 then (fX2_root w x2)
  else if x1 = 7 then (fX2_whole w x2 (0 : Int32))
  else if x1 = 8 then (fX2_whole w x2 (1 : Int32))
  else if x1 = 9 then (fX2_whole w x2 (2 : Int32))
  else if x1 = 10 then (fX2_lesser w x2 x4)
  else if x1 = 11 then (fX2_greater w x2 x4)
  else if x1 = 12 then (fX2_size w x2)
  else if x1 = 13 then (x2 ^^^ (fo_sign w))
  else if x1 = 14 then if (x4 &&& (32 : Int64)) = (0 : Int64) then (fX2_power w x2 (x4 &&& (31 : Int64)))
  else (fX2_quotient w (fo_one w) (fX2_power w x2 ((32 : Int64) - (x4 &&& (31 : Int64)))))
  else if x1 = 15 then (fX2_scaled w x2 (jl_shr (jl_shl x4 (fo_spare w)) (fo_spare w)))
  else if x1 = 16 then (fX2_above w x2)
  else if x1 = 17 then ((fX2_size w x2) ||| (x4 &&& (fo_sign w)))
  else if x1 = 18 then (fX2_gap w x2)
  else if x1 = 19 then ((fX2_biased w x2) - (fo_bias w)).toInt64
  else if x1 = 20 then (fX2_fused w x2 x4 x6)
  else if x1 = 21 then (fX2_ofWhole w x2.toInt32)
  else if x1 = 22 then (fX2_cut w x2)
  else if x1 = 23 then if (fX2_isNan w x2) = 0 then (fX2_cut w (fX2_whole w x2 (2 : Int32)))
  else (fX2_cut w x2)
  else (fo_nan w)
def fX2_isNear_55 (w : Bool) (x1 : Int64) (x3 : Int64) (x5 : Int64) : Int32 :=
  if (fX2_isInfinite w x5) = 0 then if (fX2_size w x5) < (fX2_size w (fX2_sum w x1 (x3 ^^^ (fo_sign w)))) then (0 : Int32)
    else (1 : Int32)
  else (1 : Int32)
theorem zX2_isNear_55 (w : Bool) (x1 : Int64) (x3 : Int64) (x5 : Int64) : ji_z (fX2_isNear_55 w x1 x3 x5) := by
  unfold fX2_isNear_55
  repeat' (first | with_reducible exact ji_z0 | with_reducible exact ji_z1 | with_reducible refine ji_z_ite ?_ ?_ | with_reducible assumption | with_reducible exact zX2_isNan .. | with_reducible exact zX2_isInfinite ..)
def fX2_isNear (w : Bool) (x1 : Int64) (x3 : Int64) (x5 : Int64) : Int32 :=
  if (fX2_isNan w x1) = 0 then if (fX2_isNan w x3) = 0 then if (fX2_isNan w x5) = 0 then if (fX2_isInfinite w x1) = 0 then fX2_isNear_55 w x1 x3 x5
        else if (fX2_isInfinite w x3) = 0 then fX2_isNear_55 w x1 x3 x5
          else if x1 = x3 then (1 : Int32)
            else (0 : Int32)
      else (0 : Int32)
    else (0 : Int32)
  else (0 : Int32)
theorem zX2_isNear (w : Bool) (x1 : Int64) (x3 : Int64) (x5 : Int64) : ji_z (fX2_isNear w x1 x3 x5) := by
  unfold fX2_isNear
  repeat' (first | with_reducible exact ji_z0 | with_reducible exact ji_z1 | with_reducible refine ji_z_ite ?_ ?_ | with_reducible assumption | with_reducible exact zX2_isNan .. | with_reducible exact zX2_isInfinite .. | with_reducible exact zX2_isNear_55 ..)
def fX2_holds_22 (w : Bool) (x1 : Int32) (x2 : Int64) (x4 : Int64) (x6 : Int64) (s0 : Int32) : Int32 :=
  if x1 = 0 then (fX2_isNear w x2 x4 x6)
  else if x1 = 1 then if (fX2_isNear w x2 x4 x6) = 0 then (1 : Int32)
  else (0 : Int32)
  else if x1 = 2 then if s0 = 0 then (0 : Int32)
  else if (fX2_rank w x4) ≤ (fX2_rank w x2) then (0 : Int32)
    else (1 : Int32)
  else if x1 = 3 then if s0 = 0 then (0 : Int32)
  else if (fX2_rank w x4) < (fX2_rank w x2) then (0 : Int32)
    else (1 : Int32)
  else if x1 = 4 then if s0 = 0 then (0 : Int32)
  else if (fX2_rank w x2) ≤ (fX2_rank w x4) then (0 : Int32)
    else (1 : Int32)
  else if x1 = 5 then if s0 = 0 then (0 : Int32)
  else if (fX2_rank w x2) < (fX2_rank w x4) then (0 : Int32)
    else (1 : Int32)
  else if x1 = 6 then (fX2_isNan w x2)
  else if x1 = 7 then (fX2_isInfinite w x2)
  else (0 : Int32)
theorem zX2_holds_22 (w : Bool) (x1 : Int32) (x2 : Int64) (x4 : Int64) (x6 : Int64) (s0 : Int32) : ji_z (fX2_holds_22 w x1 x2 x4 x6 s0) := by
  unfold fX2_holds_22
  repeat' (first | with_reducible exact ji_z0 | with_reducible exact ji_z1 | with_reducible refine ji_z_ite ?_ ?_ | with_reducible assumption | with_reducible exact zX2_isNan .. | with_reducible exact zX2_isNear .. | with_reducible exact zX2_isInfinite ..)
def fX2_holds_21 (w : Bool) (x1 : Int32) (x2 : Int64) (x4 : Int64) (x6 : Int64) : Int32 :=
  fX2_holds_22 w x1 x2 x4 x6 (0 : Int32)
theorem zX2_holds_21 (w : Bool) (x1 : Int32) (x2 : Int64) (x4 : Int64) (x6 : Int64) : ji_z (fX2_holds_21 w x1 x2 x4 x6) := by
  unfold fX2_holds_21
  repeat' (first | with_reducible exact ji_z0 | with_reducible exact ji_z1 | with_reducible refine ji_z_ite ?_ ?_ | with_reducible assumption | with_reducible exact zX2_isNan .. | with_reducible exact zX2_isNear .. | with_reducible exact zX2_isInfinite .. | with_reducible exact zX2_holds_22 ..)
def fX2_holds (w : Bool) (x1 : Int32) (x2 : Int64) (x4 : Int64) (x6 : Int64) : Int32 :=
  if (fX2_isNan w x2) = 0 then if (fX2_isNan w x4) = 0 then fX2_holds_22 w x1 x2 x4 x6 (1 : Int32)
    else fX2_holds_21 w x1 x2 x4 x6
  else fX2_holds_21 w x1 x2 x4 x6
theorem zX2_holds (w : Bool) (x1 : Int32) (x2 : Int64) (x4 : Int64) (x6 : Int64) : ji_z (fX2_holds w x1 x2 x4 x6) := by
  unfold fX2_holds
  repeat' (first | with_reducible exact ji_z0 | with_reducible exact ji_z1 | with_reducible refine ji_z_ite ?_ ?_ | with_reducible assumption | with_reducible exact zX2_isNan .. | with_reducible exact zX2_isNear .. | with_reducible exact zX2_isInfinite .. | with_reducible exact zX2_holds_22 .. | with_reducible exact zX2_holds_21 ..)
def fX2_converted_29 (w : Bool) (w1 : Bool) (x2 : Int64) (s0 : Int64) : Int64 :=
  if (fX2_isInfinite w1 x2) = 0 then if (fX2_isZero w1 x2) = 0 then (fX2_rounded w (fX2_isNegative w1 x2) (fX2_scale w1 x2) (fX2_plain w1 x2))
    else s0
  else (s0 ||| (fo_infinity w))
def fX2_converted (w : Bool) (w1 : Bool) (x2 : Int64) : Int64 :=
  if (fX2_isNan w1 x2) = 0 then if (fX2_isNegative w1 x2) = 0 then fX2_converted_29 w w1 x2 (0 : Int64)
    else fX2_converted_29 w w1 x2 (fo_sign w)
  else (fo_nan w)
def fX3_isWord (x0 : Int32) : Int32 :=
  if x0 < 0 then (0 : Int32)
  else if (16 : Int32) ≤ x0 then (0 : Int32)
    else (1 : Int32)
theorem zX3_isWord (x0 : Int32) : ji_z (fX3_isWord x0) := by
  unfold fX3_isWord
  repeat' (first | with_reducible exact ji_z0 | with_reducible exact ji_z1 | with_reducible refine ji_z_ite ?_ ?_ | with_reducible assumption)
def fX3_isStep (x0 : Int32) : Int32 :=
  if x0 < 0 then (0 : Int32)
  else if (40 : Int32) ≤ x0 then (0 : Int32)
    else (1 : Int32)
theorem zX3_isStep (x0 : Int32) : ji_z (fX3_isStep x0) := by
  unfold fX3_isStep
  repeat' (first | with_reducible exact ji_z0 | with_reducible exact ji_z1 | with_reducible refine ji_z_ite ?_ ?_ | with_reducible assumption)
def fX3_isAct (x0 : Int32) : Int32 :=
  if x0 < 0 then (0 : Int32)
  else if (24 : Int32) ≤ x0 then (0 : Int32)
    else (1 : Int32)
theorem zX3_isAct (x0 : Int32) : ji_z (fX3_isAct x0) := by
  unfold fX3_isAct
  repeat' (first | with_reducible exact ji_z0 | with_reducible exact ji_z1 | with_reducible refine ji_z_ite ?_ ?_ | with_reducible assumption)
def fX3_isJump (x0 : Int32) : Int32 :=
  if x0 < (30 : Int32) then (0 : Int32)
  else if (38 : Int32) ≤ x0 then (0 : Int32)
    else (1 : Int32)
theorem zX3_isJump (x0 : Int32) : ji_z (fX3_isJump x0) := by
  unfold fX3_isJump
  repeat' (first | with_reducible exact ji_z0 | with_reducible exact ji_z1 | with_reducible refine ji_z_ite ?_ ?_ | with_reducible assumption)
def fX3_fits_32 (x2 : Int32) (x3 : Int32) (x4 : Int32) (s0 : Int32) : Int32 :=
  if s0 = 0 then (0 : Int32)
  else if (fX3_isWord x2) = 0 then (0 : Int32)
    else if (fX3_isWord x3) = 0 then (0 : Int32)
      else if (fX3_isWord x4) = 0 then (0 : Int32)
        else (1 : Int32)
theorem zX3_fits_32 (x2 : Int32) (x3 : Int32) (x4 : Int32) (s0 : Int32) : ji_z (fX3_fits_32 x2 x3 x4 s0) := by
  unfold fX3_fits_32
  repeat' (first | with_reducible exact ji_z0 | with_reducible exact ji_z1 | with_reducible refine ji_z_ite ?_ ?_ | with_reducible assumption | with_reducible exact zX3_isAct .. | with_reducible exact zX3_isJump .. | with_reducible exact zX3_isWord .. | with_reducible exact zX3_isStep ..)
def fX3_fits_14 (x0 : Int32) (x1 : Int32) (x2 : Int32) (x3 : Int32) (x4 : Int32) : Int32 :=
  if (fX3_isAct x0) = 0 then fX3_fits_32 x2 x3 x4 (fX3_isStep x1)
  else fX3_fits_32 x2 x3 x4 (fX3_isWord x1)
theorem zX3_fits_14 (x0 : Int32) (x1 : Int32) (x2 : Int32) (x3 : Int32) (x4 : Int32) : ji_z (fX3_fits_14 x0 x1 x2 x3 x4) := by
  unfold fX3_fits_14
  repeat' (first | with_reducible exact ji_z0 | with_reducible exact ji_z1 | with_reducible refine ji_z_ite ?_ ?_ | with_reducible assumption | with_reducible exact zX3_isAct .. | with_reducible exact zX3_isJump .. | with_reducible exact zX3_isWord .. | with_reducible exact zX3_isStep .. | with_reducible exact zX3_fits_32 ..)
def fX3_fits (x0 : Int32) (x1 : Int32) (x2 : Int32) (x3 : Int32) (x4 : Int32) : Int32 :=
  if (fX3_isAct x0) = 0 then if (fX3_isJump x0) = 0 then if x0 = 40 then (1 : Int32)
      else if x0 = 41 then (fX3_isWord x1)
      else if x0 = 42 then if (fX3_isWord x1) = 0 then (0 : Int32)
      else if (fX3_isWord x2) = 0 then (0 : Int32)
        else if (fX3_isWord x3) = 0 then (0 : Int32)
          else (1 : Int32)
      else if x0 = 43 then (fX3_isStep x1)
      else (0 : Int32)
    else fX3_fits_14 x0 x1 x2 x3 x4
  else fX3_fits_14 x0 x1 x2 x3 x4
theorem zX3_fits (x0 : Int32) (x1 : Int32) (x2 : Int32) (x3 : Int32) (x4 : Int32) : ji_z (fX3_fits x0 x1 x2 x3 x4) := by
  unfold fX3_fits
  repeat' (first | with_reducible exact ji_z0 | with_reducible exact ji_z1 | with_reducible refine ji_z_ite ?_ ?_ | with_reducible assumption | with_reducible exact zX3_isAct .. | with_reducible exact zX3_isJump .. | with_reducible exact zX3_isWord .. | with_reducible exact zX3_isStep .. | with_reducible exact zX3_fits_32 .. | with_reducible exact zX3_fits_14 ..)
def fX4_half (x1 : Int64) (x3 : Int32) : Int32 :=
  if x3 = 0 then x1.toInt32
  else (jl_ushr x1 (32 : Int32)).toInt32
def fX4_join (x1 : Int32) (x2 : Int32) : Int64 :=
  ((jl_shl x1.toInt64 (32 : Int32)) ||| (x2.toInt64 &&& (4294967295 : Int64)))
def fX5_in (x0 : Int32) (x1 : Int32) (x2 : Int32) : Int32 :=
  if x0 < x1 then (0 : Int32)
  else if x2 < x0 then (0 : Int32)
    else (1 : Int32)
theorem zX5_in (x0 : Int32) (x1 : Int32) (x2 : Int32) : ji_z (fX5_in x0 x1 x2) := by
  unfold fX5_in
  repeat' (first | with_reducible exact ji_z0 | with_reducible exact ji_z1 | with_reducible refine ji_z_ite ?_ ?_ | with_reducible assumption)
def fX5_mantissa (x0 : Int32) : Int32 :=
  if x0 = 0 then (23 : Int32)
  else (52 : Int32)
def fX5_top (x0 : Int32) : Int32 :=
  if x0 = 0 then (255 : Int32)
  else (2047 : Int32)
def fX5_bias (x0 : Int32) : Int32 :=
  if x0 = 0 then (127 : Int32)
  else (1023 : Int32)
def fX5_signBit (x0 : Int32) : Int64 :=
  if x0 = 0 then (2147483648 : Int64)
  else (-9223372036854775808 : Int64)
def fX5_nan (x0 : Int32) : Int64 :=
  if x0 = 0 then (2143289344 : Int64)
  else (9221120237041090560 : Int64)
def fX5_infinite (x0 : Int32) (x1 : Int32) : Int64 :=
  if x0 = 0 then ((jl_shl ((fX5_top x1).toInt64) (fX5_mantissa x1)) ||| (0 : Int64))
  else ((jl_shl ((fX5_top x1).toInt64) (fX5_mantissa x1)) ||| (fX5_signBit x1))
def fX5_isNegative (x0 : Int64) (x2 : Int32) : Int32 :=
  if (x0 &&& (fX5_signBit x2)) = (0 : Int64) then (0 : Int32)
  else (1 : Int32)
theorem zX5_isNegative (x0 : Int64) (x2 : Int32) : ji_z (fX5_isNegative x0 x2) := by
  unfold fX5_isNegative
  repeat' (first | with_reducible exact ji_z0 | with_reducible exact ji_z1 | with_reducible refine ji_z_ite ?_ ?_ | with_reducible assumption)
def fX5_size (x0 : Int64) (x2 : Int32) : Int64 :=
  (x0 &&& ((fX5_signBit x2) ^^^ (-1 : Int64)))
def fX5_isNan (x0 : Int64) (x2 : Int32) : Int32 :=
  if (fX5_size x0 x2) ≤ (fX5_infinite (0 : Int32) x2) then (0 : Int32)
  else (1 : Int32)
theorem zX5_isNan (x0 : Int64) (x2 : Int32) : ji_z (fX5_isNan x0 x2) := by
  unfold fX5_isNan
  repeat' (first | with_reducible exact ji_z0 | with_reducible exact ji_z1 | with_reducible refine ji_z_ite ?_ ?_ | with_reducible assumption)
def fX5_isInfinite (x0 : Int64) (x2 : Int32) : Int32 :=
  if (fX5_size x0 x2) = (fX5_infinite (0 : Int32) x2) then (1 : Int32)
  else (0 : Int32)
theorem zX5_isInfinite (x0 : Int64) (x2 : Int32) : ji_z (fX5_isInfinite x0 x2) := by
  unfold fX5_isInfinite
  repeat' (first | with_reducible exact ji_z0 | with_reducible exact ji_z1 | with_reducible refine ji_z_ite ?_ ?_ | with_reducible assumption)
def fX5_isZero (x0 : Int64) (x2 : Int32) : Int32 :=
  if (fX5_size x0 x2) = (0 : Int64) then (1 : Int32)
  else (0 : Int32)
theorem zX5_isZero (x0 : Int64) (x2 : Int32) : ji_z (fX5_isZero x0 x2) := by
  unfold fX5_isZero
  repeat' (first | with_reducible exact ji_z0 | with_reducible exact ji_z1 | with_reducible refine ji_z_ite ?_ ?_ | with_reducible assumption)
def fX5_exponentBits (x0 : Int64) (x2 : Int32) : Int32 :=
  (jl_ushr (fX5_size x0 x2) (fX5_mantissa x2)).toInt32
def fX5_digitsOf_14 (x0 : Int64) (x2 : Int32) (s0 : Int64) : Int64 :=
  if (fX5_exponentBits x0 x2) = 0 then s0
  else (s0 ||| (jl_shl (1 : Int64) (fX5_mantissa x2)))
def fX5_digitsOf (x0 : Int64) (x2 : Int32) : Int64 :=
  fX5_digitsOf_14 x0 x2 ((fX5_size x0 x2) &&& ((jl_shl (1 : Int64) (fX5_mantissa x2)) - (1 : Int64)))
def fX5_exponentOf_15 (x2 : Int32) (s0 : Int32) : Int32 :=
  ((s0 - (fX5_bias x2)) - (fX5_mantissa x2))
def fX5_exponentOf (x0 : Int64) (x2 : Int32) : Int32 :=
  if (fX5_exponentBits x0 x2) = 0 then fX5_exponentOf_15 x2 (1 : Int32)
  else fX5_exponentOf_15 x2 (fX5_exponentBits x0 x2)
def gX5_bitsOf_2 (x0 : Int64) : Nat → Int32 → Int32
  | 0, x2 => x2
  | n + 1, x2 =>
  if (63 : Int32) ≤ x2 then x2
  else if (jl_ushr x0 x2) = (0 : Int64) then x2
    else gX5_bitsOf_2 x0 n (x2 + 1)
def fX5_bitsOf_22 (x2 : Int32) : Int32 :=
  x2
def fX5_bitsOf (x0 : Int64) : Int32 :=
  fX5_bitsOf_22 (gX5_bitsOf_2 x0 (Nat.succ ((Int32.toInt (63) - Int32.toInt (0 : Int32)).toNat)) (0 : Int32))
def fX5_rounded_251 (x5 : Int32) (x6 : Int64) (x11 : Int64) (x13 : Int32) : Int64 :=
  if (jl_shl (1 : Int64) (fX5_mantissa x5)) ≤ x11 then if ((x13 + (fX5_bias x5)) + (fX5_mantissa x5)) < (fX5_top x5) then ((x6 ||| (jl_shl (((x13 + (fX5_bias x5)) + (fX5_mantissa x5)).toInt64) (fX5_mantissa x5))) ||| (x11 &&& ((jl_shl (1 : Int64) (fX5_mantissa x5)) - (1 : Int64))))
    else (x6 ||| (fX5_infinite (0 : Int32) x5))
  else (x6 ||| x11)
def fX5_rounded_232 (x5 : Int32) (x6 : Int64) (x8 : Int32) (x11 : Int64) (x13 : Int32) : Int64 :=
  if x11 = (jl_shl (1 : Int64) x8) then fX5_rounded_251 x5 x6 (jl_ushr x11 (1 : Int32)) (x13 + 1)
  else fX5_rounded_251 x5 x6 x11 x13
def fX5_rounded_207 (x3 : Int32) (x5 : Int32) (x6 : Int64) (x8 : Int32) (x10 : Int32) (s0 : Int64) (s1 : Int64) : Int64 :=
  fX5_rounded_232 x5 x6 x8 (s0 + s1) (x3 + x10)
def fX5_rounded_193 (x3 : Int32) (x5 : Int32) (x6 : Int64) (x8 : Int32) (x10 : Int32) (x11 : Int64) (s0 : Int32) : Int64 :=
  if s0 = 0 then fX5_rounded_207 x3 x5 x6 x8 x10 x11 (0 : Int64)
  else fX5_rounded_207 x3 x5 x6 x8 x10 x11 (1 : Int64)
def fX5_rounded_192 (x3 : Int32) (x5 : Int32) (x6 : Int64) (x8 : Int32) (x10 : Int32) (x11 : Int64) : Int64 :=
  fX5_rounded_193 x3 x5 x6 x8 x10 x11 (0 : Int32)
def fX5_rounded_188 (x3 : Int32) (x5 : Int32) (x6 : Int64) (x8 : Int32) (x10 : Int32) (x11 : Int64) : Int64 :=
  fX5_rounded_193 x3 x5 x6 x8 x10 x11 (1 : Int32)
def fX5_rounded_151 (x3 : Int32) (x4 : Int32) (x5 : Int32) (x6 : Int64) (x8 : Int32) (x10 : Int32) (x11 : Int64) (x14 : Int32) (x15 : Int64) (s0 : Int64) : Int64 :=
  if x14 = 0 then if s0 < x15 then fX5_rounded_188 x3 x5 x6 x8 x10 x11
    else if x15 = s0 then if x4 = 0 then if (x11 &&& (1 : Int64)) = (1 : Int64) then fX5_rounded_188 x3 x5 x6 x8 x10 x11
          else fX5_rounded_192 x3 x5 x6 x8 x10 x11
        else fX5_rounded_188 x3 x5 x6 x8 x10 x11
      else fX5_rounded_192 x3 x5 x6 x8 x10 x11
  else fX5_rounded_192 x3 x5 x6 x8 x10 x11
def fX5_rounded_134 (x3 : Int32) (x4 : Int32) (x5 : Int32) (x6 : Int64) (x8 : Int32) (x10 : Int32) (x11 : Int64) (x14 : Int32) (s0 : Int64) : Int64 :=
  if x14 = 0 then fX5_rounded_151 x3 x4 x5 x6 x8 x10 x11 x14 s0 (jl_shl (1 : Int64) (x10 - (1 : Int32)))
  else fX5_rounded_151 x3 x4 x5 x6 x8 x10 x11 x14 s0 (0 : Int64)
def fX5_rounded_115 (x1 : Int64) (x3 : Int32) (x4 : Int32) (x5 : Int32) (x6 : Int64) (x8 : Int32) (x10 : Int32) (x14 : Int32) (s0 : Int64) : Int64 :=
  if x14 = 0 then fX5_rounded_134 x3 x4 x5 x6 x8 x10 s0 x14 (x1 &&& ((jl_shl (1 : Int64) x10) - (1 : Int64)))
  else fX5_rounded_134 x3 x4 x5 x6 x8 x10 s0 x14 x1
def fX5_rounded_100 (x1 : Int64) (x3 : Int32) (x4 : Int32) (x5 : Int32) (x6 : Int64) (x8 : Int32) (x10 : Int32) (s0 : Int32) : Int64 :=
  if s0 = 0 then fX5_rounded_115 x1 x3 x4 x5 x6 x8 x10 s0 (jl_ushr x1 x10)
  else fX5_rounded_115 x1 x3 x4 x5 x6 x8 x10 s0 (0 : Int64)
def fX5_rounded_75 (x1 : Int64) (x3 : Int32) (x4 : Int32) (x5 : Int32) (x6 : Int64) (x8 : Int32) (s0 : Int32) : Int64 :=
  if s0 ≤ 0 then fX5_rounded_232 x5 x6 x8 (jl_shl x1 (-s0)) (x3 + s0)
  else if s0 ≤ (62 : Int32) then fX5_rounded_100 x1 x3 x4 x5 x6 x8 s0 (0 : Int32)
    else fX5_rounded_100 x1 x3 x4 x5 x6 x8 s0 (1 : Int32)
def fX5_rounded_13 (x1 : Int64) (x3 : Int32) (x4 : Int32) (x5 : Int32) (s0 : Int64) : Int64 :=
  if x1 = (0 : Int64) then s0
  else if (((1 : Int32) - (fX5_bias x5)) - (fX5_mantissa x5)) ≤ (x3 + ((fX5_bitsOf x1) - ((fX5_mantissa x5) + (1 : Int32)))) then fX5_rounded_75 x1 x3 x4 x5 s0 ((fX5_mantissa x5) + (1 : Int32)) ((fX5_bitsOf x1) - ((fX5_mantissa x5) + (1 : Int32)))
    else fX5_rounded_75 x1 x3 x4 x5 s0 ((fX5_mantissa x5) + (1 : Int32)) ((((1 : Int32) - (fX5_bias x5)) - (fX5_mantissa x5)) - x3)
def fX5_rounded (x0 : Int32) (x1 : Int64) (x3 : Int32) (x4 : Int32) (x5 : Int32) : Int64 :=
  if x0 = 0 then fX5_rounded_13 x1 x3 x4 x5 (0 : Int64)
  else fX5_rounded_13 x1 x3 x4 x5 (fX5_signBit x5)
def fX5_bits (x0 : Int32) : Int64 :=
  (x0.toInt64 &&& (4294967295 : Int64))
def fX5_negated (x1 : Int64) (x3 : Int32) : Int64 :=
  (x1 ^^^ (fX5_signBit x3))
def fX5_divide_112 (x5 : Int32) (x6 : Int32) : Int64 :=
  (fX5_infinite x6 x5)
def gX5_divide_238 (x12 : Int64) : Nat → Int64 → Int64 → Int32 → Int64 × Int64 × Int32
  | 0, x10, x17, x19 => (x10, x17, x19)
  | n + 1, x10, x17, x19 =>
  if (58 : Int32) ≤ x19 then (x10, x17, x19)
  else if x10 < x12 then gX5_divide_238 x12 n (jl_shl x10 (1 : Int32)) (jl_shl x17 (1 : Int32)) (x19 + 1)
    else gX5_divide_238 x12 n (jl_shl (x10 - x12) (1 : Int32)) ((jl_shl x17 (1 : Int32)) + (1 : Int64)) (x19 + 1)
def fX5_divide_305 (x5 : Int32) (s0 : Int32) (s1 : Int64) (s2 : Int32) (s3 : Int32) : Int64 :=
  (fX5_rounded s0 s1 s2 s3 x5)
def fX5_divide_284 (x5 : Int32) (x6 : Int32) (x10 : Int64) (x14 : Int32) (x17 : Int64) : Int64 :=
  if x10 = (0 : Int64) then fX5_divide_305 x5 x6 x17 (x14 - (57 : Int32)) (0 : Int32)
  else fX5_divide_305 x5 x6 x17 (x14 - (57 : Int32)) (1 : Int32)
def fX5_divide_213 (x5 : Int32) (x6 : Int32) (x12 : Int64) (x14 : Int32) (x15 : Int32) (x16 : Int32) (s0 : Int64) : Int64 :=
  fX5_divide_284 x5 x6 (gX5_divide_238 (jl_shl x12 x16) (Nat.succ ((Int32.toInt (58) - Int32.toInt (0 : Int32)).toNat)) s0 (0 : Int64) (0 : Int32)).1 (x14 + (x16 - x15)) (gX5_divide_238 (jl_shl x12 x16) (Nat.succ ((Int32.toInt (58) - Int32.toInt (0 : Int32)).toNat)) s0 (0 : Int64) (0 : Int32)).2.1
def fX5_divide_134 (x1 : Int64) (x3 : Int64) (x5 : Int32) (x6 : Int32) (s0 : Int64) : Int64 :=
  if (fX5_isZero x1 x5) = 0 then if (fX5_isInfinite x3 x5) = 0 then fX5_divide_213 x5 x6 (fX5_digitsOf x3 x5) ((fX5_exponentOf x1 x5) - (fX5_exponentOf x3 x5)) ((53 : Int32) - (fX5_bitsOf (fX5_digitsOf x1 x5))) ((53 : Int32) - (fX5_bitsOf (fX5_digitsOf x3 x5))) (jl_shl (fX5_digitsOf x1 x5) ((53 : Int32) - (fX5_bitsOf (fX5_digitsOf x1 x5))))
    else s0
  else s0
def fX5_divide_81 (x1 : Int64) (x3 : Int64) (x5 : Int32) (x6 : Int32) (s0 : Int32) : Int64 :=
  if s0 = 0 then if (fX5_isInfinite x1 x5) = 0 then if (fX5_isZero x3 x5) = 0 then if x6 = 0 then fX5_divide_134 x1 x3 x5 x6 (0 : Int64)
        else fX5_divide_134 x1 x3 x5 x6 (fX5_signBit x5)
      else fX5_divide_112 x5 x6
    else fX5_divide_112 x5 x6
  else (fX5_nan x5)
def fX5_divide_76 (x1 : Int64) (x3 : Int64) (x5 : Int32) (x6 : Int32) : Int64 :=
  fX5_divide_81 x1 x3 x5 x6 (1 : Int32)
def fX5_divide_80 (x1 : Int64) (x3 : Int64) (x5 : Int32) (x6 : Int32) : Int64 :=
  fX5_divide_81 x1 x3 x5 x6 (0 : Int32)
def fX5_divide_58 (x1 : Int64) (x3 : Int64) (x5 : Int32) (x6 : Int32) : Int64 :=
  if (fX5_isZero x1 x5) = 0 then fX5_divide_80 x1 x3 x5 x6
  else if (fX5_isZero x3 x5) = 0 then fX5_divide_80 x1 x3 x5 x6
    else fX5_divide_76 x1 x3 x5 x6
def fX5_divide_20 (x1 : Int64) (x3 : Int64) (x5 : Int32) (s0 : Int32) : Int64 :=
  if (fX5_isNan x1 x5) = 0 then if (fX5_isNan x3 x5) = 0 then if (fX5_isInfinite x1 x5) = 0 then fX5_divide_58 x1 x3 x5 s0
      else if (fX5_isInfinite x3 x5) = 0 then fX5_divide_58 x1 x3 x5 s0
        else fX5_divide_76 x1 x3 x5 s0
    else fX5_divide_76 x1 x3 x5 s0
  else fX5_divide_76 x1 x3 x5 s0
def fX5_divide (x1 : Int64) (x3 : Int64) (x5 : Int32) : Int64 :=
  if (fX5_isNegative x1 x5) = (fX5_isNegative x3 x5) then fX5_divide_20 x1 x3 x5 (0 : Int32)
  else fX5_divide_20 x1 x3 x5 (1 : Int32)
def fX5_root_24 (x3 : Int32) : Int64 :=
  (fX5_nan x3)
def gX5_root_114 (x4 : Int64) : Nat → Int64 → Int64 → Int32 → Int64 × Int64 × Int32
  | 0, x8, x10, x12 => (x8, x10, x12)
  | n + 1, x8, x10, x12 =>
  if (57 : Int32) ≤ x12 then (x8, x10, x12)
  else if ((54 : Int32) - ((2 : Int32) * x12)) < 0 then if ((jl_shl x10 (2 : Int32)) ||| (0 : Int64)) < ((jl_shl x8 (2 : Int32)) ||| (1 : Int64)) then gX5_root_114 x4 n (jl_shl x8 (1 : Int32)) ((jl_shl x10 (2 : Int32)) ||| (0 : Int64)) (x12 + 1)
      else gX5_root_114 x4 n ((jl_shl x8 (1 : Int32)) + (1 : Int64)) (((jl_shl x10 (2 : Int32)) ||| (0 : Int64)) - ((jl_shl x8 (2 : Int32)) ||| (1 : Int64))) (x12 + 1)
    else if ((jl_shl x10 (2 : Int32)) ||| ((jl_ushr x4 ((54 : Int32) - ((2 : Int32) * x12))) &&& (3 : Int64))) < ((jl_shl x8 (2 : Int32)) ||| (1 : Int64)) then gX5_root_114 x4 n (jl_shl x8 (1 : Int32)) ((jl_shl x10 (2 : Int32)) ||| ((jl_ushr x4 ((54 : Int32) - ((2 : Int32) * x12))) &&& (3 : Int64))) (x12 + 1)
      else gX5_root_114 x4 n ((jl_shl x8 (1 : Int32)) + (1 : Int64)) (((jl_shl x10 (2 : Int32)) ||| ((jl_ushr x4 ((54 : Int32) - ((2 : Int32) * x12))) &&& (3 : Int64))) - ((jl_shl x8 (2 : Int32)) ||| (1 : Int64))) (x12 + 1)
def fX5_root_222 (x3 : Int32) (s0 : Int32) (s1 : Int64) (s2 : Int32) (s3 : Int32) : Int64 :=
  (fX5_rounded s0 s1 s2 s3 x3)
def fX5_root_200 (x3 : Int32) (x6 : Int32) (x8 : Int64) (x10 : Int64) : Int64 :=
  if x10 = (0 : Int64) then fX5_root_222 x3 (0 : Int32) x8 ((x6 - (58 : Int32)) / (2 : Int32)) (0 : Int32)
  else fX5_root_222 x3 (0 : Int32) x8 ((x6 - (58 : Int32)) / (2 : Int32)) (1 : Int32)
def fX5_root_88 (x3 : Int32) (x4 : Int64) (x6 : Int32) (s0 : Int32) (s1 : Int32) : Int64 :=
  fX5_root_200 x3 (x6 - (s0 + s1)) (gX5_root_114 (jl_shl x4 (s0 + s1)) (Nat.succ ((Int32.toInt (57) - Int32.toInt (0 : Int32)).toNat)) (0 : Int64) (0 : Int64) (0 : Int32)).1 (gX5_root_114 (jl_shl x4 (s0 + s1)) (Nat.succ ((Int32.toInt (57) - Int32.toInt (0 : Int32)).toNat)) (0 : Int64) (0 : Int64) (0 : Int32)).2.1
def fX5_root_29 (x1 : Int64) (x3 : Int32) : Int64 :=
  if (fX5_isZero x1 x3) = 0 then if (fX5_isInfinite x1 x3) = 0 then if (ji_rem ((fX5_exponentOf x1 x3) - ((54 : Int32) - (fX5_bitsOf (fX5_digitsOf x1 x3)))) (2 : Int32)) = 0 then fX5_root_88 x3 (fX5_digitsOf x1 x3) (fX5_exponentOf x1 x3) ((54 : Int32) - (fX5_bitsOf (fX5_digitsOf x1 x3))) (0 : Int32)
      else fX5_root_88 x3 (fX5_digitsOf x1 x3) (fX5_exponentOf x1 x3) ((54 : Int32) - (fX5_bitsOf (fX5_digitsOf x1 x3))) (1 : Int32)
    else x1
  else x1
def fX5_root (x1 : Int64) (x3 : Int32) : Int64 :=
  if (fX5_isNan x1 x3) = 0 then if (fX5_isNegative x1 x3) = 0 then fX5_root_29 x1 x3
    else if (fX5_isZero x1 x3) = 0 then fX5_root_24 x3
      else fX5_root_29 x1 x3
  else fX5_root_24 x3
def fX5_whole_218 (x1 : Int64) (x4 : Int32) (s0 : Int64) (s1 : Int64) : Int64 :=
  (fX5_rounded (fX5_isNegative x1 x4) (s0 + s1) (0 : Int32) (0 : Int32) x4)
def fX5_whole_217 (x1 : Int64) (x4 : Int32) (s0 : Int64) : Int64 :=
  fX5_whole_218 x1 x4 s0 (0 : Int64)
def fX5_whole_197 (x1 : Int64) (x4 : Int32) (x9 : Int64) (x11 : Int64) (s0 : Int32) : Int64 :=
  if s0 = 0 then fX5_whole_217 x1 x4 x9
  else if x11 = (0 : Int64) then fX5_whole_217 x1 x4 x9
    else fX5_whole_218 x1 x4 x9 (1 : Int64)
def fX5_whole_196 (x1 : Int64) (x4 : Int32) (x9 : Int64) (x11 : Int64) : Int64 :=
  fX5_whole_197 x1 x4 x9 x11 (0 : Int32)
def fX5_whole_192 (x1 : Int64) (x4 : Int32) (x9 : Int64) (x11 : Int64) : Int64 :=
  fX5_whole_197 x1 x4 x9 x11 (1 : Int32)
def fX5_whole_125 (x1 : Int64) (x3 : Int32) (x4 : Int32) (x9 : Int64) (x11 : Int64) (s0 : Int64) : Int64 :=
  if x3 = 0 then if (fX5_isNegative x1 x4) = 0 then fX5_whole_197 x1 x4 x9 x11 (1 : Int32)
    else fX5_whole_197 x1 x4 x9 x11 (0 : Int32)
  else if x3 = (1 : Int32) then fX5_whole_197 x1 x4 x9 x11 (fX5_isNegative x1 x4)
    else if x3 = (2 : Int32) then if s0 < x11 then fX5_whole_192 x1 x4 x9 x11
        else if x11 = s0 then if (x9 &&& (1 : Int64)) = (1 : Int64) then fX5_whole_192 x1 x4 x9 x11
            else fX5_whole_196 x1 x4 x9 x11
          else fX5_whole_196 x1 x4 x9 x11
      else fX5_whole_196 x1 x4 x9 x11
def fX5_whole_104 (x1 : Int64) (x3 : Int32) (x4 : Int32) (x8 : Int32) (x9 : Int64) (s0 : Int64) : Int64 :=
  if x8 ≤ (62 : Int32) then fX5_whole_125 x1 x3 x4 x9 s0 (jl_shl (1 : Int64) (x8 - (1 : Int32)))
  else fX5_whole_125 x1 x3 x4 x9 s0 (4611686018427387904 : Int64)
def fX5_whole_81 (x1 : Int64) (x3 : Int32) (x4 : Int32) (x6 : Int64) (x8 : Int32) (s0 : Int64) : Int64 :=
  if x8 ≤ (62 : Int32) then fX5_whole_104 x1 x3 x4 x8 s0 (x6 &&& ((jl_shl (1 : Int64) x8) - (1 : Int64)))
  else fX5_whole_104 x1 x3 x4 x8 s0 x6
def fX5_whole_34 (x1 : Int64) (x3 : Int32) (x4 : Int32) (s0 : Int32) : Int64 :=
  if 0 ≤ s0 then x1
  else if (fX5_isZero x1 x4) = 0 then if (-s0) ≤ (62 : Int32) then fX5_whole_81 x1 x3 x4 (fX5_digitsOf x1 x4) (-s0) (jl_ushr (fX5_digitsOf x1 x4) (-s0))
      else fX5_whole_81 x1 x3 x4 (fX5_digitsOf x1 x4) (-s0) (0 : Int64)
    else x1
def fX5_whole (x1 : Int64) (x3 : Int32) (x4 : Int32) : Int64 :=
  if (fX5_isNan x1 x4) = 0 then if (fX5_isInfinite x1 x4) = 0 then fX5_whole_34 x1 x3 x4 (fX5_exponentOf x1 x4)
    else fX5_whole_34 x1 x3 x4 (0 : Int32)
  else (fX5_nan x4)
def fX5_toWhole_115 (x5 : Int32) (x6 : Int32) (s0 : Int64) : Int32 :=
  if s0 ≤ (2147483647 : Int64) then if x5 = 0 then s0.toInt32
    else (-s0).toInt32
  else x6
def fX5_toWhole_20 (x1 : Int64) (x3 : Int32) (x4 : Int32) (x5 : Int32) (s0 : Int32) : Int32 :=
  if (fX5_isNan x1 x4) = 0 then if (fX5_isInfinite x1 x4) = 0 then if (fX5_digitsOf (fX5_whole x1 x3 x4) x4) = (0 : Int64) then (0 : Int32)
      else if ((fX5_bitsOf (fX5_digitsOf (fX5_whole x1 x3 x4) x4)) + (fX5_exponentOf (fX5_whole x1 x3 x4) x4)) ≤ (32 : Int32) then if (fX5_exponentOf (fX5_whole x1 x3 x4) x4) < 0 then fX5_toWhole_115 x5 s0 (jl_ushr (fX5_digitsOf (fX5_whole x1 x3 x4) x4) (-(fX5_exponentOf (fX5_whole x1 x3 x4) x4)))
          else fX5_toWhole_115 x5 s0 (jl_shl (fX5_digitsOf (fX5_whole x1 x3 x4) x4) (fX5_exponentOf (fX5_whole x1 x3 x4) x4))
        else s0
    else s0
  else s0
def fX5_toWhole (x1 : Int64) (x3 : Int32) (x4 : Int32) : Int32 :=
  if (fX5_isNegative x1 x4) = 0 then fX5_toWhole_20 x1 x3 x4 (fX5_isNegative x1 x4) (2147483647 : Int32)
  else fX5_toWhole_20 x1 x3 x4 (fX5_isNegative x1 x4) (-2147483648 : Int32)
def fX5_order_52 (x6 : Int64) (s0 : Int64) : Int32 :=
  if s0 ≤ x6 then if x6 = s0 then (0 : Int32)
    else (1 : Int32)
  else (-1 : Int32)
def fX5_order_25 (x3 : Int64) (x5 : Int32) (s0 : Int64) : Int32 :=
  if (fX5_isNegative x3 x5) = 0 then fX5_order_52 s0 (fX5_size x3 x5)
  else fX5_order_52 s0 (-(fX5_size x3 x5))
def fX5_order (x1 : Int64) (x3 : Int64) (x5 : Int32) : Int32 :=
  if (fX5_isNegative x1 x5) = 0 then fX5_order_25 x3 x5 (fX5_size x1 x5)
  else fX5_order_25 x3 x5 (-(fX5_size x1 x5))
def fX5_lesser_18 (x6 : Int32) : Int64 :=
  (fX5_nan x6)
def fX5_lesser_58 (x1 : Int64) (x3 : Int64) (x5 : Int32) (s0 : Int32) : Int64 :=
  if s0 = x5 then x3
  else x1
def fX5_lesser (x1 : Int64) (x3 : Int64) (x5 : Int32) (x6 : Int32) : Int64 :=
  if (fX5_isNan x1 x6) = 0 then if (fX5_isNan x3 x6) = 0 then if (fX5_order x1 x3 x6) = 0 then fX5_lesser_58 x1 x3 x5 (fX5_isNegative x1 x6)
      else if 0 ≤ (fX5_order x1 x3 x6) then fX5_lesser_58 x1 x3 x5 (0 : Int32)
        else fX5_lesser_58 x1 x3 x5 (1 : Int32)
    else fX5_lesser_18 x6
  else fX5_lesser_18 x6
def fX5_scaled_64 (x1 : Int64) (x5 : Int32) (s0 : Int64) : Int64 :=
  (fX5_rounded (fX5_isNegative x1 x5) (fX5_digitsOf x1 x5) ((fX5_exponentOf x1 x5) + s0.toInt32) (0 : Int32) x5)
def fX5_scaled (x1 : Int64) (x3 : Int64) (x5 : Int32) : Int64 :=
  if (fX5_isNan x1 x5) = 0 then if (fX5_isInfinite x1 x5) = 0 then if (fX5_isZero x1 x5) = 0 then if x3 ≤ (5000 : Int64) then if (-5000 : Int64) ≤ x3 then fX5_scaled_64 x1 x5 x3
          else fX5_scaled_64 x1 x5 (-5000 : Int64)
        else fX5_scaled_64 x1 x5 (5000 : Int64)
      else x1
    else x1
  else (fX5_nan x5)
def fX5_nextUp (x1 : Int64) (x3 : Int32) : Int64 :=
  if (fX5_isNan x1 x3) = 0 then if (fX5_isZero x1 x3) = 0 then if (fX5_isNegative x1 x3) = 0 then if (fX5_isInfinite x1 x3) = 0 then (x1 + (1 : Int64))
        else x1
      else (x1 - (1 : Int64))
    else (1 : Int64)
  else (fX5_nan x3)
def fX5_stepOf (x1 : Int64) (x3 : Int32) : Int64 :=
  if (fX5_isNan x1 x3) = 0 then if (fX5_isInfinite x1 x3) = 0 then (fX5_rounded (0 : Int32) (1 : Int64) (fX5_exponentOf x1 x3) (0 : Int32) x3)
    else (fX5_infinite (0 : Int32) x3)
  else (fX5_nan x3)
def fX5_exponent (x1 : Int64) (x3 : Int32) : Int64 :=
  ((fX5_exponentBits x1 x3) - (fX5_bias x3)).toInt64
def fX5_ofWhole_21 (x2 : Int32) (s0 : Int32) (s1 : Int64) : Int64 :=
  (fX5_rounded s0 s1 (0 : Int32) (0 : Int32) x2)
def fX5_ofWhole_9 (x1 : Int32) (x2 : Int32) (s0 : Int32) : Int64 :=
  if 0 ≤ x1 then fX5_ofWhole_21 x2 s0 x1.toInt64
  else fX5_ofWhole_21 x2 s0 (-x1.toInt64)
def fX5_ofWhole (x1 : Int32) (x2 : Int32) : Int64 :=
  if 0 ≤ x1 then fX5_ofWhole_9 x1 x2 (0 : Int32)
  else fX5_ofWhole_9 x1 x2 (1 : Int32)
def fX5_widen (x1 : Int32) : Int64 :=
  if (fX5_isNan (fX5_bits x1) (0 : Int32)) = 0 then if (fX5_isInfinite (fX5_bits x1) (0 : Int32)) = 0 then (fX5_rounded (fX5_isNegative (fX5_bits x1) (0 : Int32)) (fX5_digitsOf (fX5_bits x1) (0 : Int32)) (fX5_exponentOf (fX5_bits x1) (0 : Int32)) (0 : Int32) (1 : Int32))
    else (fX5_infinite (fX5_isNegative (fX5_bits x1) (0 : Int32)) (1 : Int32))
  else (9221120237041090560 : Int64)
def fX5_narrow (x1 : Int64) : Int32 :=
  if (fX5_isNan x1 (1 : Int32)) = 0 then if (fX5_isInfinite x1 (1 : Int32)) = 0 then (fX5_rounded (fX5_isNegative x1 (1 : Int32)) (fX5_digitsOf x1 (1 : Int32)) (fX5_exponentOf x1 (1 : Int32)) (0 : Int32) (0 : Int32)).toInt32
    else (fX5_infinite (fX5_isNegative x1 (1 : Int32)) (0 : Int32)).toInt32
  else (2143289344 : Int32)
def fX5_half (x1 : Int64) (x3 : Int32) : Int32 :=
  if x3 = 0 then x1.toInt32
  else (jl_shr x1 (32 : Int32)).toInt32
def fX5_join (x1 : Int32) (x2 : Int32) : Int64 :=
  ((jl_shl x1.toInt64 (32 : Int32)) ||| (x2.toInt64 &&& (4294967295 : Int64)))
