set_option maxRecDepth 20000 in
theorem tw_code_yX5_infinite : Cond.code yX5_infinite cX5_infinite 2 (some .long) ∈ bw := bw_in (by decide +kernel) (by decide +kernel)
set_option maxRecDepth 20000 in
theorem tw_methodLink_RX5_54_yX5_top : Cond.methodLink RX5 54 yX5_top ∈ bw := bw_in (by decide +kernel) (by decide +kernel)
set_option maxRecDepth 20000 in
theorem tw_static_yX5_top : Cond.static yX5_top ∈ bw := bw_in (by decide +kernel) (by decide +kernel)
set_option maxRecDepth 20000 in
theorem tw_code_yX5_top : Cond.code yX5_top cX5_top 1 (some .int) ∈ bw := bw_in (by decide +kernel) (by decide +kernel)
set_option maxRecDepth 20000 in
theorem tw_methodLink_RX5_58_yX5_mantissa : Cond.methodLink RX5 58 yX5_mantissa ∈ bw := bw_in (by decide +kernel) (by decide +kernel)
set_option maxRecDepth 20000 in
theorem tw_static_yX5_mantissa : Cond.static yX5_mantissa ∈ bw := bw_in (by decide +kernel) (by decide +kernel)
set_option maxRecDepth 20000 in
theorem tw_code_yX5_mantissa : Cond.code yX5_mantissa cX5_mantissa 1 (some .int) ∈ bw := bw_in (by decide +kernel) (by decide +kernel)
set_option maxRecDepth 20000 in
theorem tw_methodLink_RX5_106_yX5_nan : Cond.methodLink RX5 106 yX5_nan ∈ bw := bw_in (by decide +kernel) (by decide +kernel)
set_option maxRecDepth 20000 in
theorem tw_static_yX5_nan : Cond.static yX5_nan ∈ bw := bw_in (by decide +kernel) (by decide +kernel)
set_option maxRecDepth 20000 in
theorem tw_code_yX5_nan : Cond.code yX5_nan cX5_nan 1 (some .long) ∈ bw := bw_in (by decide +kernel) (by decide +kernel)
set_option maxRecDepth 20000 in
theorem tw_constantLong_RX5_50_9221120237041090560 : Cond.constantLong RX5 50 (9221120237041090560) ∈ bw := bw_in (by decide +kernel) (by decide +kernel)
set_option maxRecDepth 20000 in
theorem tw_constantLong_RX5_52_2143289344 : Cond.constantLong RX5 52 (2143289344) ∈ bw := bw_in (by decide +kernel) (by decide +kernel)
set_option maxRecDepth 20000 in
theorem tw_methodLink_RX5_109_yX5_isNegative : Cond.methodLink RX5 109 yX5_isNegative ∈ bw := bw_in (by decide +kernel) (by decide +kernel)
set_option maxRecDepth 20000 in
theorem tw_static_yX5_isNegative : Cond.static yX5_isNegative ∈ bw := bw_in (by decide +kernel) (by decide +kernel)
set_option maxRecDepth 20000 in
theorem tw_code_yX5_isNegative : Cond.code yX5_isNegative cX5_isNegative 3 (some .boolean) ∈ bw := bw_in (by decide +kernel) (by decide +kernel)
set_option maxRecDepth 20000 in
theorem tw_methodLink_RX5_112_yX5_isInfinite : Cond.methodLink RX5 112 yX5_isInfinite ∈ bw := bw_in (by decide +kernel) (by decide +kernel)
set_option maxRecDepth 20000 in
theorem tw_static_yX5_isInfinite : Cond.static yX5_isInfinite ∈ bw := bw_in (by decide +kernel) (by decide +kernel)
set_option maxRecDepth 20000 in
theorem tw_code_yX5_isInfinite : Cond.code yX5_isInfinite cX5_isInfinite 3 (some .boolean) ∈ bw := bw_in (by decide +kernel) (by decide +kernel)
set_option maxRecDepth 20000 in
theorem tw_methodLink_RX5_115_yX5_clearSum : Cond.methodLink RX5 115 yX5_clearSum ∈ bw := bw_in (by decide +kernel) (by decide +kernel)
set_option maxRecDepth 20000 in
theorem tw_instanceMethod_yX5_clearSum : Cond.instanceMethod yX5_clearSum ∈ bw := bw_in (by decide +kernel) (by decide +kernel)
set_option maxRecDepth 20000 in
theorem tw_selects_RX5_yX5_clearSum_yX5_clearSum : Cond.selects RX5 yX5_clearSum yX5_clearSum ∈ bw := bw_in (by decide +kernel) (by decide +kernel)
set_option maxRecDepth 20000 in
theorem tw_code_yX5_clearSum : Cond.code yX5_clearSum cX5_clearSum 2 none ∈ bw := bw_in (by decide +kernel) (by decide +kernel)
set_option maxRecDepth 20000 in
theorem tw_methodLink_RX5_118_yX5_digitsOf : Cond.methodLink RX5 118 yX5_digitsOf ∈ bw := bw_in (by decide +kernel) (by decide +kernel)
set_option maxRecDepth 20000 in
theorem tw_static_yX5_digitsOf : Cond.static yX5_digitsOf ∈ bw := bw_in (by decide +kernel) (by decide +kernel)
set_option maxRecDepth 20000 in
theorem tw_code_yX5_digitsOf : Cond.code yX5_digitsOf cX5_digitsOf 5 (some .long) ∈ bw := bw_in (by decide +kernel) (by decide +kernel)
set_option maxRecDepth 20000 in
theorem tw_methodLink_RX5_75_yX5_exponentBits : Cond.methodLink RX5 75 yX5_exponentBits ∈ bw := bw_in (by decide +kernel) (by decide +kernel)
set_option maxRecDepth 20000 in
theorem tw_static_yX5_exponentBits : Cond.static yX5_exponentBits ∈ bw := bw_in (by decide +kernel) (by decide +kernel)
set_option maxRecDepth 20000 in
theorem tw_code_yX5_exponentBits : Cond.code yX5_exponentBits cX5_exponentBits 3 (some .int) ∈ bw := bw_in (by decide +kernel) (by decide +kernel)
set_option maxRecDepth 20000 in
theorem tw_methodLink_RX5_121_yX5_exponentOf : Cond.methodLink RX5 121 yX5_exponentOf ∈ bw := bw_in (by decide +kernel) (by decide +kernel)
set_option maxRecDepth 20000 in
theorem tw_static_yX5_exponentOf : Cond.static yX5_exponentOf ∈ bw := bw_in (by decide +kernel) (by decide +kernel)
set_option maxRecDepth 20000 in
theorem tw_code_yX5_exponentOf : Cond.code yX5_exponentOf cX5_exponentOf 4 (some .int) ∈ bw := bw_in (by decide +kernel) (by decide +kernel)
set_option maxRecDepth 20000 in
theorem tw_methodLink_RX5_79_yX5_bias : Cond.methodLink RX5 79 yX5_bias ∈ bw := bw_in (by decide +kernel) (by decide +kernel)
set_option maxRecDepth 20000 in
theorem tw_static_yX5_bias : Cond.static yX5_bias ∈ bw := bw_in (by decide +kernel) (by decide +kernel)
set_option maxRecDepth 20000 in
theorem tw_code_yX5_bias : Cond.code yX5_bias cX5_bias 1 (some .int) ∈ bw := bw_in (by decide +kernel) (by decide +kernel)
set_option maxRecDepth 20000 in
theorem tw_methodLink_RX5_90_yX5_addTo : Cond.methodLink RX5 90 yX5_addTo ∈ bw := bw_in (by decide +kernel) (by decide +kernel)
set_option maxRecDepth 20000 in
theorem tw_instanceMethod_yX5_addTo : Cond.instanceMethod yX5_addTo ∈ bw := bw_in (by decide +kernel) (by decide +kernel)
set_option maxRecDepth 20000 in
theorem tw_selects_RX5_yX5_addTo_yX5_addTo : Cond.selects RX5 yX5_addTo yX5_addTo ∈ bw := bw_in (by decide +kernel) (by decide +kernel)
set_option maxRecDepth 20000 in
theorem tw_code_yX5_addTo : Cond.code yX5_addTo cX5_addTo 15 none ∈ bw := bw_in (by decide +kernel) (by decide +kernel)
set_option maxRecDepth 20000 in
theorem tw_constantLong_RX5_86_65535 : Cond.constantLong RX5 86 (65535) ∈ bw := bw_in (by decide +kernel) (by decide +kernel)
set_option maxRecDepth 20000 in
theorem tw_methodLink_RX5_124_yX5_sumRounded : Cond.methodLink RX5 124 yX5_sumRounded ∈ bw := bw_in (by decide +kernel) (by decide +kernel)
set_option maxRecDepth 20000 in
theorem tw_instanceMethod_yX5_sumRounded : Cond.instanceMethod yX5_sumRounded ∈ bw := bw_in (by decide +kernel) (by decide +kernel)
set_option maxRecDepth 20000 in
theorem tw_selects_RX5_yX5_sumRounded_yX5_sumRounded : Cond.selects RX5 yX5_sumRounded yX5_sumRounded ∈ bw := bw_in (by decide +kernel) (by decide +kernel)
set_option maxRecDepth 20000 in
theorem tw_code_yX5_sumRounded : Cond.code yX5_sumRounded cX5_sumRounded 12 (some .long) ∈ bw := bw_in (by decide +kernel) (by decide +kernel)
set_option maxRecDepth 20000 in
theorem tw_methodLink_RX5_94_yX5_carry : Cond.methodLink RX5 94 yX5_carry ∈ bw := bw_in (by decide +kernel) (by decide +kernel)
set_option maxRecDepth 20000 in
theorem tw_instanceMethod_yX5_carry : Cond.instanceMethod yX5_carry ∈ bw := bw_in (by decide +kernel) (by decide +kernel)
set_option maxRecDepth 20000 in
theorem tw_selects_RX5_yX5_carry_yX5_carry : Cond.selects RX5 yX5_carry yX5_carry ∈ bw := bw_in (by decide +kernel) (by decide +kernel)
set_option maxRecDepth 20000 in
theorem tw_code_yX5_carry : Cond.code yX5_carry cX5_carry 4 (some .long) ∈ bw := bw_in (by decide +kernel) (by decide +kernel)
set_option maxRecDepth 20000 in
theorem tw_methodLink_RX5_82_yX5_bitsOf : Cond.methodLink RX5 82 yX5_bitsOf ∈ bw := bw_in (by decide +kernel) (by decide +kernel)
set_option maxRecDepth 20000 in
theorem tw_static_yX5_bitsOf : Cond.static yX5_bitsOf ∈ bw := bw_in (by decide +kernel) (by decide +kernel)
set_option maxRecDepth 20000 in
theorem tw_code_yX5_bitsOf : Cond.code yX5_bitsOf cX5_bitsOf 3 (some .int) ∈ bw := bw_in (by decide +kernel) (by decide +kernel)
set_option maxRecDepth 20000 in
theorem tw_methodLink_RX5_98_yX5_rounded : Cond.methodLink RX5 98 yX5_rounded ∈ bw := bw_in (by decide +kernel) (by decide +kernel)
set_option maxRecDepth 20000 in
theorem tw_static_yX5_rounded : Cond.static yX5_rounded ∈ bw := bw_in (by decide +kernel) (by decide +kernel)
set_option maxRecDepth 20000 in
theorem tw_code_yX5_rounded : Cond.code yX5_rounded cX5_rounded 20 (some .long) ∈ bw := bw_in (by decide +kernel) (by decide +kernel)
set_option maxRecDepth 20000 in
theorem tw_methodLink_RX5_170_yX5_negated : Cond.methodLink RX5 170 yX5_negated ∈ bw := bw_in (by decide +kernel) (by decide +kernel)
set_option maxRecDepth 20000 in
theorem tw_instanceMethod_yX5_negated : Cond.instanceMethod yX5_negated ∈ bw := bw_in (by decide +kernel) (by decide +kernel)
set_option maxRecDepth 20000 in
theorem tw_selects_RX5_yX5_negated_yX5_negated : Cond.selects RX5 yX5_negated yX5_negated ∈ bw := bw_in (by decide +kernel) (by decide +kernel)
set_option maxRecDepth 20000 in
theorem tw_code_yX5_negated : Cond.code yX5_negated cX5_negated 4 (some .long) ∈ bw := bw_in (by decide +kernel) (by decide +kernel)
set_option maxRecDepth 20000 in
theorem tw_methodLink_RX5_156_yX5_multiply : Cond.methodLink RX5 156 yX5_multiply ∈ bw := bw_in (by decide +kernel) (by decide +kernel)
set_option maxRecDepth 20000 in
theorem tw_instanceMethod_yX5_multiply : Cond.instanceMethod yX5_multiply ∈ bw := bw_in (by decide +kernel) (by decide +kernel)
set_option maxRecDepth 20000 in
theorem tw_selects_RX5_yX5_multiply_yX5_multiply : Cond.selects RX5 yX5_multiply yX5_multiply ∈ bw := bw_in (by decide +kernel) (by decide +kernel)
set_option maxRecDepth 20000 in
theorem tw_code_yX5_multiply : Cond.code yX5_multiply cX5_multiply 6 (some .long) ∈ bw := bw_in (by decide +kernel) (by decide +kernel)
set_option maxRecDepth 20000 in
theorem tw_methodLink_RX5_134_yX5_fused : Cond.methodLink RX5 134 yX5_fused ∈ bw := bw_in (by decide +kernel) (by decide +kernel)
set_option maxRecDepth 20000 in
theorem tw_instanceMethod_yX5_fused : Cond.instanceMethod yX5_fused ∈ bw := bw_in (by decide +kernel) (by decide +kernel)
set_option maxRecDepth 20000 in
theorem tw_selects_RX5_yX5_fused_yX5_fused : Cond.selects RX5 yX5_fused yX5_fused ∈ bw := bw_in (by decide +kernel) (by decide +kernel)
set_option maxRecDepth 20000 in
theorem tw_code_yX5_fused : Cond.code yX5_fused cX5_fused 12 (some .long) ∈ bw := bw_in (by decide +kernel) (by decide +kernel)
set_option maxRecDepth 20000 in
theorem tw_methodLink_RX5_127_yX5_isZero : Cond.methodLink RX5 127 yX5_isZero ∈ bw := bw_in (by decide +kernel) (by decide +kernel)
set_option maxRecDepth 20000 in
theorem tw_static_yX5_isZero : Cond.static yX5_isZero ∈ bw := bw_in (by decide +kernel) (by decide +kernel)
set_option maxRecDepth 20000 in
theorem tw_code_yX5_isZero : Cond.code yX5_isZero cX5_isZero 3 (some .boolean) ∈ bw := bw_in (by decide +kernel) (by decide +kernel)
set_option maxRecDepth 20000 in
theorem tw_methodLink_RX5_130_yX5_addProduct : Cond.methodLink RX5 130 yX5_addProduct ∈ bw := bw_in (by decide +kernel) (by decide +kernel)
set_option maxRecDepth 20000 in
theorem tw_instanceMethod_yX5_addProduct : Cond.instanceMethod yX5_addProduct ∈ bw := bw_in (by decide +kernel) (by decide +kernel)
set_option maxRecDepth 20000 in
theorem tw_selects_RX5_yX5_addProduct_yX5_addProduct : Cond.selects RX5 yX5_addProduct yX5_addProduct ∈ bw := bw_in (by decide +kernel) (by decide +kernel)
set_option maxRecDepth 20000 in
theorem tw_code_yX5_addProduct : Cond.code yX5_addProduct cX5_addProduct 8 none ∈ bw := bw_in (by decide +kernel) (by decide +kernel)
set_option maxRecDepth 20000 in
theorem tw_constantLong_RX5_88_255 : Cond.constantLong RX5 88 (255) ∈ bw := bw_in (by decide +kernel) (by decide +kernel)
set_option maxRecDepth 20000 in
theorem tw_methodLink_RX5_160_yX5_divide : Cond.methodLink RX5 160 yX5_divide ∈ bw := bw_in (by decide +kernel) (by decide +kernel)
set_option maxRecDepth 20000 in
theorem tw_instanceMethod_yX5_divide : Cond.instanceMethod yX5_divide ∈ bw := bw_in (by decide +kernel) (by decide +kernel)
set_option maxRecDepth 20000 in
theorem tw_selects_RX5_yX5_divide_yX5_divide : Cond.selects RX5 yX5_divide yX5_divide ∈ bw := bw_in (by decide +kernel) (by decide +kernel)
set_option maxRecDepth 20000 in
theorem tw_code_yX5_divide : Cond.code yX5_divide cX5_divide 20 (some .long) ∈ bw := bw_in (by decide +kernel) (by decide +kernel)
set_option maxRecDepth 20000 in
theorem tw_methodLink_RX5_173_yX5_restOrNan : Cond.methodLink RX5 173 yX5_restOrNan ∈ bw := bw_in (by decide +kernel) (by decide +kernel)
set_option maxRecDepth 20000 in
theorem tw_instanceMethod_yX5_restOrNan : Cond.instanceMethod yX5_restOrNan ∈ bw := bw_in (by decide +kernel) (by decide +kernel)
set_option maxRecDepth 20000 in
theorem tw_selects_RX5_yX5_restOrNan_yX5_restOrNan : Cond.selects RX5 yX5_restOrNan yX5_restOrNan ∈ bw := bw_in (by decide +kernel) (by decide +kernel)
set_option maxRecDepth 20000 in
theorem tw_code_yX5_restOrNan : Cond.code yX5_restOrNan cX5_restOrNan 6 (some .long) ∈ bw := bw_in (by decide +kernel) (by decide +kernel)
set_option maxRecDepth 20000 in
theorem tw_methodLink_RX5_209_yX5_rest : Cond.methodLink RX5 209 yX5_rest ∈ bw := bw_in (by decide +kernel) (by decide +kernel)
set_option maxRecDepth 20000 in
theorem tw_instanceMethod_yX5_rest : Cond.instanceMethod yX5_rest ∈ bw := bw_in (by decide +kernel) (by decide +kernel)
set_option maxRecDepth 20000 in
theorem tw_selects_RX5_yX5_rest_yX5_rest : Cond.selects RX5 yX5_rest yX5_rest ∈ bw := bw_in (by decide +kernel) (by decide +kernel)
set_option maxRecDepth 20000 in
theorem tw_code_yX5_rest : Cond.code yX5_rest cX5_rest 13 (some .long) ∈ bw := bw_in (by decide +kernel) (by decide +kernel)
set_option maxRecDepth 20000 in
theorem tw_methodLink_RX5_176_yX5_quotient : Cond.methodLink RX5 176 yX5_quotient ∈ bw := bw_in (by decide +kernel) (by decide +kernel)
set_option maxRecDepth 20000 in
theorem tw_instanceMethod_yX5_quotient : Cond.instanceMethod yX5_quotient ∈ bw := bw_in (by decide +kernel) (by decide +kernel)
set_option maxRecDepth 20000 in
theorem tw_selects_RX5_yX5_quotient_yX5_quotient : Cond.selects RX5 yX5_quotient yX5_quotient ∈ bw := bw_in (by decide +kernel) (by decide +kernel)
set_option maxRecDepth 20000 in
theorem tw_code_yX5_quotient : Cond.code yX5_quotient cX5_quotient 8 (some .long) ∈ bw := bw_in (by decide +kernel) (by decide +kernel)
set_option maxRecDepth 20000 in
theorem tw_methodLink_RX5_179_yX5_root : Cond.methodLink RX5 179 yX5_root ∈ bw := bw_in (by decide +kernel) (by decide +kernel)
set_option maxRecDepth 20000 in
theorem tw_instanceMethod_yX5_root : Cond.instanceMethod yX5_root ∈ bw := bw_in (by decide +kernel) (by decide +kernel)
set_option maxRecDepth 20000 in
theorem tw_selects_RX5_yX5_root_yX5_root : Cond.selects RX5 yX5_root yX5_root ∈ bw := bw_in (by decide +kernel) (by decide +kernel)
set_option maxRecDepth 20000 in
theorem tw_code_yX5_root : Cond.code yX5_root cX5_root 18 (some .long) ∈ bw := bw_in (by decide +kernel) (by decide +kernel)
set_option maxRecDepth 20000 in
theorem tw_constantLong_RX5_138_3 : Cond.constantLong RX5 138 (3) ∈ bw := bw_in (by decide +kernel) (by decide +kernel)
set_option maxRecDepth 20000 in
theorem tw_methodLink_RX5_144_yX5_whole : Cond.methodLink RX5 144 yX5_whole ∈ bw := bw_in (by decide +kernel) (by decide +kernel)
set_option maxRecDepth 20000 in
theorem tw_instanceMethod_yX5_whole : Cond.instanceMethod yX5_whole ∈ bw := bw_in (by decide +kernel) (by decide +kernel)
set_option maxRecDepth 20000 in
theorem tw_selects_RX5_yX5_whole_yX5_whole : Cond.selects RX5 yX5_whole yX5_whole ∈ bw := bw_in (by decide +kernel) (by decide +kernel)
set_option maxRecDepth 20000 in
theorem tw_code_yX5_whole : Cond.code yX5_whole cX5_whole 16 (some .long) ∈ bw := bw_in (by decide +kernel) (by decide +kernel)
set_option maxRecDepth 20000 in
theorem tw_constantLong_RX5_140_4611686018427387904 : Cond.constantLong RX5 140 (4611686018427387904) ∈ bw := bw_in (by decide +kernel) (by decide +kernel)
set_option maxRecDepth 20000 in
theorem tw_methodLink_RX5_182_yX5_lesser : Cond.methodLink RX5 182 yX5_lesser ∈ bw := bw_in (by decide +kernel) (by decide +kernel)
set_option maxRecDepth 20000 in
theorem tw_instanceMethod_yX5_lesser : Cond.instanceMethod yX5_lesser ∈ bw := bw_in (by decide +kernel) (by decide +kernel)
set_option maxRecDepth 20000 in
theorem tw_selects_RX5_yX5_lesser_yX5_lesser : Cond.selects RX5 yX5_lesser yX5_lesser ∈ bw := bw_in (by decide +kernel) (by decide +kernel)
set_option maxRecDepth 20000 in
theorem tw_code_yX5_lesser : Cond.code yX5_lesser cX5_lesser 9 (some .long) ∈ bw := bw_in (by decide +kernel) (by decide +kernel)
set_option maxRecDepth 20000 in
theorem tw_methodLink_RX5_150_yX5_order : Cond.methodLink RX5 150 yX5_order ∈ bw := bw_in (by decide +kernel) (by decide +kernel)
set_option maxRecDepth 20000 in
theorem tw_instanceMethod_yX5_order : Cond.instanceMethod yX5_order ∈ bw := bw_in (by decide +kernel) (by decide +kernel)
set_option maxRecDepth 20000 in
theorem tw_selects_RX5_yX5_order_yX5_order : Cond.selects RX5 yX5_order yX5_order ∈ bw := bw_in (by decide +kernel) (by decide +kernel)
set_option maxRecDepth 20000 in
theorem tw_code_yX5_order : Cond.code yX5_order cX5_order 10 (some .int) ∈ bw := bw_in (by decide +kernel) (by decide +kernel)
set_option maxRecDepth 20000 in
theorem tw_methodLink_RX5_186_yX5_power : Cond.methodLink RX5 186 yX5_power ∈ bw := bw_in (by decide +kernel) (by decide +kernel)
set_option maxRecDepth 20000 in
theorem tw_instanceMethod_yX5_power : Cond.instanceMethod yX5_power ∈ bw := bw_in (by decide +kernel) (by decide +kernel)
set_option maxRecDepth 20000 in
theorem tw_selects_RX5_yX5_power_yX5_power : Cond.selects RX5 yX5_power yX5_power ∈ bw := bw_in (by decide +kernel) (by decide +kernel)
set_option maxRecDepth 20000 in
theorem tw_code_yX5_power : Cond.code yX5_power cX5_power 13 (some .long) ∈ bw := bw_in (by decide +kernel) (by decide +kernel)
set_option maxRecDepth 20000 in
theorem tw_constantLong_RX5_154_63 : Cond.constantLong RX5 154 (63) ∈ bw := bw_in (by decide +kernel) (by decide +kernel)
set_option maxRecDepth 20000 in
theorem tw_methodLink_RX5_189_yX5_scaled : Cond.methodLink RX5 189 yX5_scaled ∈ bw := bw_in (by decide +kernel) (by decide +kernel)
set_option maxRecDepth 20000 in
theorem tw_instanceMethod_yX5_scaled : Cond.instanceMethod yX5_scaled ∈ bw := bw_in (by decide +kernel) (by decide +kernel)
set_option maxRecDepth 20000 in
theorem tw_selects_RX5_yX5_scaled_yX5_scaled : Cond.selects RX5 yX5_scaled yX5_scaled ∈ bw := bw_in (by decide +kernel) (by decide +kernel)
set_option maxRecDepth 20000 in
theorem tw_code_yX5_scaled : Cond.code yX5_scaled cX5_scaled 8 (some .long) ∈ bw := bw_in (by decide +kernel) (by decide +kernel)
set_option maxRecDepth 20000 in
theorem tw_constantLong_RX5_163_5000 : Cond.constantLong RX5 163 (5000) ∈ bw := bw_in (by decide +kernel) (by decide +kernel)
set_option maxRecDepth 20000 in
theorem tw_constantLong_RX5_165_5000 : Cond.constantLong RX5 165 (-5000) ∈ bw := bw_in (by decide +kernel) (by decide +kernel)
set_option maxRecDepth 20000 in
theorem tw_methodLink_RX5_192_yX5_nextUp : Cond.methodLink RX5 192 yX5_nextUp ∈ bw := bw_in (by decide +kernel) (by decide +kernel)
set_option maxRecDepth 20000 in
theorem tw_instanceMethod_yX5_nextUp : Cond.instanceMethod yX5_nextUp ∈ bw := bw_in (by decide +kernel) (by decide +kernel)
set_option maxRecDepth 20000 in
theorem tw_selects_RX5_yX5_nextUp_yX5_nextUp : Cond.selects RX5 yX5_nextUp yX5_nextUp ∈ bw := bw_in (by decide +kernel) (by decide +kernel)
set_option maxRecDepth 20000 in
theorem tw_code_yX5_nextUp : Cond.code yX5_nextUp cX5_nextUp 5 (some .long) ∈ bw := bw_in (by decide +kernel) (by decide +kernel)
set_option maxRecDepth 20000 in
theorem tw_methodLink_RX5_195_yX5_stepOf : Cond.methodLink RX5 195 yX5_stepOf ∈ bw := bw_in (by decide +kernel) (by decide +kernel)
set_option maxRecDepth 20000 in
theorem tw_instanceMethod_yX5_stepOf : Cond.instanceMethod yX5_stepOf ∈ bw := bw_in (by decide +kernel) (by decide +kernel)
set_option maxRecDepth 20000 in
theorem tw_selects_RX5_yX5_stepOf_yX5_stepOf : Cond.selects RX5 yX5_stepOf yX5_stepOf ∈ bw := bw_in (by decide +kernel) (by decide +kernel)
set_option maxRecDepth 20000 in
theorem tw_code_yX5_stepOf : Cond.code yX5_stepOf cX5_stepOf 4 (some .long) ∈ bw := bw_in (by decide +kernel) (by decide +kernel)
set_option maxRecDepth 20000 in
theorem tw_methodLink_RX5_198_yX5_exponent : Cond.methodLink RX5 198 yX5_exponent ∈ bw := bw_in (by decide +kernel) (by decide +kernel)
set_option maxRecDepth 20000 in
theorem tw_instanceMethod_yX5_exponent : Cond.instanceMethod yX5_exponent ∈ bw := bw_in (by decide +kernel) (by decide +kernel)
set_option maxRecDepth 20000 in
theorem tw_selects_RX5_yX5_exponent_yX5_exponent : Cond.selects RX5 yX5_exponent yX5_exponent ∈ bw := bw_in (by decide +kernel) (by decide +kernel)
set_option maxRecDepth 20000 in
theorem tw_code_yX5_exponent : Cond.code yX5_exponent cX5_exponent 4 (some .long) ∈ bw := bw_in (by decide +kernel) (by decide +kernel)
set_option maxRecDepth 20000 in
theorem tw_methodLink_RX5_201_yX5_ofWhole : Cond.methodLink RX5 201 yX5_ofWhole ∈ bw := bw_in (by decide +kernel) (by decide +kernel)
set_option maxRecDepth 20000 in
theorem tw_instanceMethod_yX5_ofWhole : Cond.instanceMethod yX5_ofWhole ∈ bw := bw_in (by decide +kernel) (by decide +kernel)
set_option maxRecDepth 20000 in
theorem tw_selects_RX5_yX5_ofWhole_yX5_ofWhole : Cond.selects RX5 yX5_ofWhole yX5_ofWhole ∈ bw := bw_in (by decide +kernel) (by decide +kernel)
set_option maxRecDepth 20000 in
theorem tw_code_yX5_ofWhole : Cond.code yX5_ofWhole cX5_ofWhole 3 (some .long) ∈ bw := bw_in (by decide +kernel) (by decide +kernel)
set_option maxRecDepth 20000 in
theorem tw_methodLink_RX5_205_yX5_toWhole : Cond.methodLink RX5 205 yX5_toWhole ∈ bw := bw_in (by decide +kernel) (by decide +kernel)
set_option maxRecDepth 20000 in
theorem tw_instanceMethod_yX5_toWhole : Cond.instanceMethod yX5_toWhole ∈ bw := bw_in (by decide +kernel) (by decide +kernel)
set_option maxRecDepth 20000 in
theorem tw_selects_RX5_yX5_toWhole_yX5_toWhole : Cond.selects RX5 yX5_toWhole yX5_toWhole ∈ bw := bw_in (by decide +kernel) (by decide +kernel)
set_option maxRecDepth 20000 in
theorem tw_code_yX5_toWhole : Cond.code yX5_toWhole cX5_toWhole 14 (some .int) ∈ bw := bw_in (by decide +kernel) (by decide +kernel)
set_option maxRecDepth 20000 in
theorem tw_constant_RX5_142_2147483648 : Cond.constant RX5 142 (-2147483648) ∈ bw := bw_in (by decide +kernel) (by decide +kernel)
set_option maxRecDepth 20000 in
theorem tw_constant_RX5_143_2147483647 : Cond.constant RX5 143 (2147483647) ∈ bw := bw_in (by decide +kernel) (by decide +kernel)
set_option maxRecDepth 20000 in
theorem tw_constantLong_RX5_148_2147483647 : Cond.constantLong RX5 148 (2147483647) ∈ bw := bw_in (by decide +kernel) (by decide +kernel)
set_option maxRecDepth 20000 in
theorem tw_methodLink_RL_46_yX5_thrown : Cond.methodLink RL 46 yX5_thrown ∈ bw := bw_in (by decide +kernel) (by decide +kernel)
set_option maxRecDepth 20000 in
theorem tw_instanceMethod_yX5_thrown : Cond.instanceMethod yX5_thrown ∈ bw := bw_in (by decide +kernel) (by decide +kernel)
set_option maxRecDepth 20000 in
theorem tw_selects_RX5_yX5_thrown_yX5_thrown : Cond.selects RX5 yX5_thrown yX5_thrown ∈ bw := bw_in (by decide +kernel) (by decide +kernel)
set_option maxRecDepth 20000 in
theorem tw_code_yX5_thrown : Cond.code yX5_thrown cX5_thrown 1 (some .int) ∈ bw := bw_in (by decide +kernel) (by decide +kernel)
set_option maxRecDepth 20000 in
theorem tw_methodLink_RL_52_yL_wide : Cond.methodLink RL 52 yL_wide ∈ bw := bw_in (by decide +kernel) (by decide +kernel)
set_option maxRecDepth 20000 in
theorem tw_static_yL_wide : Cond.static yL_wide ∈ bw := bw_in (by decide +kernel) (by decide +kernel)
set_option maxRecDepth 20000 in
theorem tw_code_yL_wide : Cond.codeWith yL_wide cL_wide 10 (some .int) [(0, 14, 17, 13)] ∈ bw := bw_in (by decide +kernel) (by decide +kernel)
set_option maxRecDepth 20000 in
theorem tw_methodLink_RL_15_yX4_wide : Cond.methodLink RL 15 yX4_wide ∈ bw := bw_in (by decide +kernel) (by decide +kernel)
set_option maxRecDepth 20000 in
theorem tw_instanceMethod_yX4_wide : Cond.instanceMethod yX4_wide ∈ bw := bw_in (by decide +kernel) (by decide +kernel)
set_option maxRecDepth 20000 in
theorem tw_selects_RX4_yX4_wide_yX4_wide : Cond.selects RX4 yX4_wide yX4_wide ∈ bw := bw_in (by decide +kernel) (by decide +kernel)
set_option maxRecDepth 20000 in
theorem tw_code_yX4_wide : Cond.code yX4_wide cX4_wide 8 (some .long) ∈ bw := bw_in (by decide +kernel) (by decide +kernel)
set_option maxRecDepth 20000 in
theorem tw_fieldLink_RX4_42_GlulxFloats_Form_DOUBLE_LGlulxFloats_Form : Cond.fieldLink RX4 42 "GlulxFloats$Form" "DOUBLE" "LGlulxFloats$Form;" ∈ bw := bw_in (by decide +kernel) (by decide +kernel)
set_option maxRecDepth 20000 in
theorem tw_methodLink_RL_55_yX5_wide : Cond.methodLink RL 55 yX5_wide ∈ bw := bw_in (by decide +kernel) (by decide +kernel)
set_option maxRecDepth 20000 in
theorem tw_instanceMethod_yX5_wide : Cond.instanceMethod yX5_wide ∈ bw := bw_in (by decide +kernel) (by decide +kernel)
set_option maxRecDepth 20000 in
theorem tw_selects_RX5_yX5_wide_yX5_wide : Cond.selects RX5 yX5_wide yX5_wide ∈ bw := bw_in (by decide +kernel) (by decide +kernel)
set_option maxRecDepth 20000 in
theorem tw_code_yX5_wide : Cond.code yX5_wide cX5_wide 8 (some .long) ∈ bw := bw_in (by decide +kernel) (by decide +kernel)
set_option maxRecDepth 20000 in
theorem tw_methodLink_RL_56_yL_test : Cond.methodLink RL 56 yL_test ∈ bw := bw_in (by decide +kernel) (by decide +kernel)
set_option maxRecDepth 20000 in
theorem tw_static_yL_test : Cond.static yL_test ∈ bw := bw_in (by decide +kernel) (by decide +kernel)
set_option maxRecDepth 20000 in
theorem tw_code_yL_test : Cond.codeWith yL_test cL_test 7 (some .int) [(0, 14, 17, 13)] ∈ bw := bw_in (by decide +kernel) (by decide +kernel)
set_option maxRecDepth 20000 in
theorem tw_methodLink_RL_19_yX4_test : Cond.methodLink RL 19 yX4_test ∈ bw := bw_in (by decide +kernel) (by decide +kernel)
set_option maxRecDepth 20000 in
theorem tw_instanceMethod_yX4_test : Cond.instanceMethod yX4_test ∈ bw := bw_in (by decide +kernel) (by decide +kernel)
set_option maxRecDepth 20000 in
theorem tw_selects_RX4_yX4_test_yX4_test : Cond.selects RX4 yX4_test yX4_test ∈ bw := bw_in (by decide +kernel) (by decide +kernel)
set_option maxRecDepth 20000 in
theorem tw_code_yX4_test : Cond.code yX4_test cX4_test 5 (some .int) ∈ bw := bw_in (by decide +kernel) (by decide +kernel)
set_option maxRecDepth 20000 in
theorem tw_methodLink_RX4_47_yX2_holds : Cond.methodLink RX4 47 yX2_holds ∈ bw := bw_in (by decide +kernel) (by decide +kernel)
set_option maxRecDepth 20000 in
theorem tw_instanceMethod_yX2_holds : Cond.instanceMethod yX2_holds ∈ bw := bw_in (by decide +kernel) (by decide +kernel)
set_option maxRecDepth 20000 in
theorem tw_selects_RX2_yX2_holds_yX2_holds : Cond.selects RX2 yX2_holds yX2_holds ∈ bw := bw_in (by decide +kernel) (by decide +kernel)
set_option maxRecDepth 20000 in
theorem tw_code_yX2_holds : Cond.code yX2_holds cX2_holds 9 (some .boolean) ∈ bw := bw_in (by decide +kernel) (by decide +kernel)
set_option maxRecDepth 20000 in
theorem tw_methodLink_RX2_120_yX2_isNear : Cond.methodLink RX2 120 yX2_isNear ∈ bw := bw_in (by decide +kernel) (by decide +kernel)
set_option maxRecDepth 20000 in
theorem tw_instanceMethod_yX2_isNear : Cond.instanceMethod yX2_isNear ∈ bw := bw_in (by decide +kernel) (by decide +kernel)
set_option maxRecDepth 20000 in
theorem tw_selects_RX2_yX2_isNear_yX2_isNear : Cond.selects RX2 yX2_isNear yX2_isNear ∈ bw := bw_in (by decide +kernel) (by decide +kernel)
set_option maxRecDepth 20000 in
theorem tw_code_yX2_isNear : Cond.code yX2_isNear cX2_isNear 7 (some .boolean) ∈ bw := bw_in (by decide +kernel) (by decide +kernel)
set_option maxRecDepth 20000 in
theorem tw_methodLink_RL_58_yX5_test : Cond.methodLink RL 58 yX5_test ∈ bw := bw_in (by decide +kernel) (by decide +kernel)
set_option maxRecDepth 20000 in
theorem tw_instanceMethod_yX5_test : Cond.instanceMethod yX5_test ∈ bw := bw_in (by decide +kernel) (by decide +kernel)
set_option maxRecDepth 20000 in
theorem tw_selects_RX5_yX5_test_yX5_test : Cond.selects RX5 yX5_test yX5_test ∈ bw := bw_in (by decide +kernel) (by decide +kernel)
set_option maxRecDepth 20000 in
theorem tw_code_yX5_test : Cond.code yX5_test cX5_test 5 (some .int) ∈ bw := bw_in (by decide +kernel) (by decide +kernel)
set_option maxRecDepth 20000 in
theorem tw_methodLink_RX5_240_yX5_holds : Cond.methodLink RX5 240 yX5_holds ∈ bw := bw_in (by decide +kernel) (by decide +kernel)
set_option maxRecDepth 20000 in
theorem tw_instanceMethod_yX5_holds : Cond.instanceMethod yX5_holds ∈ bw := bw_in (by decide +kernel) (by decide +kernel)
set_option maxRecDepth 20000 in
theorem tw_selects_RX5_yX5_holds_yX5_holds : Cond.selects RX5 yX5_holds yX5_holds ∈ bw := bw_in (by decide +kernel) (by decide +kernel)
set_option maxRecDepth 20000 in
theorem tw_code_yX5_holds : Cond.code yX5_holds cX5_holds 10 (some .boolean) ∈ bw := bw_in (by decide +kernel) (by decide +kernel)
set_option maxRecDepth 20000 in
theorem tw_methodLink_RX5_236_yX5_near : Cond.methodLink RX5 236 yX5_near ∈ bw := bw_in (by decide +kernel) (by decide +kernel)
set_option maxRecDepth 20000 in
theorem tw_instanceMethod_yX5_near : Cond.instanceMethod yX5_near ∈ bw := bw_in (by decide +kernel) (by decide +kernel)
set_option maxRecDepth 20000 in
theorem tw_selects_RX5_yX5_near_yX5_near : Cond.selects RX5 yX5_near yX5_near ∈ bw := bw_in (by decide +kernel) (by decide +kernel)
set_option maxRecDepth 20000 in
theorem tw_code_yX5_near : Cond.code yX5_near cX5_near 10 (some .boolean) ∈ bw := bw_in (by decide +kernel) (by decide +kernel)
set_option maxRecDepth 20000 in
theorem tw_methodLink_RL_59_yL_wideTest : Cond.methodLink RL 59 yL_wideTest ∈ bw := bw_in (by decide +kernel) (by decide +kernel)
set_option maxRecDepth 20000 in
theorem tw_static_yL_wideTest : Cond.static yL_wideTest ∈ bw := bw_in (by decide +kernel) (by decide +kernel)
set_option maxRecDepth 20000 in
theorem tw_code_yL_wideTest : Cond.codeWith yL_wideTest cL_wideTest 10 (some .int) [(0, 15, 18, 13)] ∈ bw := bw_in (by decide +kernel) (by decide +kernel)
set_option maxRecDepth 20000 in
theorem tw_methodLink_RL_22_yX4_wideTest : Cond.methodLink RL 22 yX4_wideTest ∈ bw := bw_in (by decide +kernel) (by decide +kernel)
set_option maxRecDepth 20000 in
theorem tw_instanceMethod_yX4_wideTest : Cond.instanceMethod yX4_wideTest ∈ bw := bw_in (by decide +kernel) (by decide +kernel)
set_option maxRecDepth 20000 in
theorem tw_selects_RX4_yX4_wideTest_yX4_wideTest : Cond.selects RX4 yX4_wideTest yX4_wideTest ∈ bw := bw_in (by decide +kernel) (by decide +kernel)
set_option maxRecDepth 20000 in
theorem tw_code_yX4_wideTest : Cond.code yX4_wideTest cX4_wideTest 8 (some .int) ∈ bw := bw_in (by decide +kernel) (by decide +kernel)
set_option maxRecDepth 20000 in
theorem tw_methodLink_RL_61_yX5_wideTest : Cond.methodLink RL 61 yX5_wideTest ∈ bw := bw_in (by decide +kernel) (by decide +kernel)
set_option maxRecDepth 20000 in
theorem tw_instanceMethod_yX5_wideTest : Cond.instanceMethod yX5_wideTest ∈ bw := bw_in (by decide +kernel) (by decide +kernel)
set_option maxRecDepth 20000 in
theorem tw_selects_RX5_yX5_wideTest_yX5_wideTest : Cond.selects RX5 yX5_wideTest yX5_wideTest ∈ bw := bw_in (by decide +kernel) (by decide +kernel)
set_option maxRecDepth 20000 in
theorem tw_code_yX5_wideTest : Cond.code yX5_wideTest cX5_wideTest 8 (some .int) ∈ bw := bw_in (by decide +kernel) (by decide +kernel)
set_option maxRecDepth 20000 in
theorem tw_methodLink_RL_62_yX4_widen : Cond.methodLink RL 62 yX4_widen ∈ bw := bw_in (by decide +kernel) (by decide +kernel)
set_option maxRecDepth 20000 in
theorem tw_instanceMethod_yX4_widen : Cond.instanceMethod yX4_widen ∈ bw := bw_in (by decide +kernel) (by decide +kernel)
set_option maxRecDepth 20000 in
theorem tw_selects_RX4_yX4_widen_yX4_widen : Cond.selects RX4 yX4_widen yX4_widen ∈ bw := bw_in (by decide +kernel) (by decide +kernel)
set_option maxRecDepth 20000 in
theorem tw_code_yX4_widen : Cond.code yX4_widen cX4_widen 2 (some .long) ∈ bw := bw_in (by decide +kernel) (by decide +kernel)
set_option maxRecDepth 20000 in
theorem tw_methodLink_RX4_51_yX2_converted : Cond.methodLink RX4 51 yX2_converted ∈ bw := bw_in (by decide +kernel) (by decide +kernel)
set_option maxRecDepth 20000 in
theorem tw_instanceMethod_yX2_converted : Cond.instanceMethod yX2_converted ∈ bw := bw_in (by decide +kernel) (by decide +kernel)
set_option maxRecDepth 20000 in
theorem tw_selects_RX2_yX2_converted_yX2_converted : Cond.selects RX2 yX2_converted yX2_converted ∈ bw := bw_in (by decide +kernel) (by decide +kernel)
set_option maxRecDepth 20000 in
theorem tw_code_yX2_converted : Cond.code yX2_converted cX2_converted 6 (some .long) ∈ bw := bw_in (by decide +kernel) (by decide +kernel)
set_option maxRecDepth 20000 in
theorem tw_methodLink_RL_66_yX5_widen : Cond.methodLink RL 66 yX5_widen ∈ bw := bw_in (by decide +kernel) (by decide +kernel)
set_option maxRecDepth 20000 in
theorem tw_instanceMethod_yX5_widen : Cond.instanceMethod yX5_widen ∈ bw := bw_in (by decide +kernel) (by decide +kernel)
set_option maxRecDepth 20000 in
theorem tw_selects_RX5_yX5_widen_yX5_widen : Cond.selects RX5 yX5_widen yX5_widen ∈ bw := bw_in (by decide +kernel) (by decide +kernel)
set_option maxRecDepth 20000 in
theorem tw_code_yX5_widen : Cond.code yX5_widen cX5_widen 4 (some .long) ∈ bw := bw_in (by decide +kernel) (by decide +kernel)
set_option maxRecDepth 20000 in
theorem tw_methodLink_RL_67_yX4_narrow : Cond.methodLink RL 67 yX4_narrow ∈ bw := bw_in (by decide +kernel) (by decide +kernel)
set_option maxRecDepth 20000 in
theorem tw_instanceMethod_yX4_narrow : Cond.instanceMethod yX4_narrow ∈ bw := bw_in (by decide +kernel) (by decide +kernel)
set_option maxRecDepth 20000 in
theorem tw_selects_RX4_yX4_narrow_yX4_narrow : Cond.selects RX4 yX4_narrow yX4_narrow ∈ bw := bw_in (by decide +kernel) (by decide +kernel)
set_option maxRecDepth 20000 in
theorem tw_code_yX4_narrow : Cond.code yX4_narrow cX4_narrow 3 (some .int) ∈ bw := bw_in (by decide +kernel) (by decide +kernel)
set_option maxRecDepth 20000 in
theorem tw_methodLink_RL_71_yX5_narrow : Cond.methodLink RL 71 yX5_narrow ∈ bw := bw_in (by decide +kernel) (by decide +kernel)
set_option maxRecDepth 20000 in
theorem tw_instanceMethod_yX5_narrow : Cond.instanceMethod yX5_narrow ∈ bw := bw_in (by decide +kernel) (by decide +kernel)
set_option maxRecDepth 20000 in
theorem tw_selects_RX5_yX5_narrow_yX5_narrow : Cond.selects RX5 yX5_narrow yX5_narrow ∈ bw := bw_in (by decide +kernel) (by decide +kernel)
set_option maxRecDepth 20000 in
theorem tw_code_yX5_narrow : Cond.code yX5_narrow cX5_narrow 3 (some .int) ∈ bw := bw_in (by decide +kernel) (by decide +kernel)
set_option maxRecDepth 20000 in
theorem tw_constant_RX5_244_2143289344 : Cond.constant RX5 244 (2143289344) ∈ bw := bw_in (by decide +kernel) (by decide +kernel)
set_option maxRecDepth 20000 in
theorem tw_methodLink_RL_72_yX4_half : Cond.methodLink RL 72 yX4_half ∈ bw := bw_in (by decide +kernel) (by decide +kernel)
set_option maxRecDepth 20000 in
theorem tw_instanceMethod_yX4_half : Cond.instanceMethod yX4_half ∈ bw := bw_in (by decide +kernel) (by decide +kernel)
set_option maxRecDepth 20000 in
theorem tw_selects_RX4_yX4_half_yX4_half : Cond.selects RX4 yX4_half yX4_half ∈ bw := bw_in (by decide +kernel) (by decide +kernel)
set_option maxRecDepth 20000 in
theorem tw_code_yX4_half : Cond.code yX4_half cX4_half 4 (some .int) ∈ bw := bw_in (by decide +kernel) (by decide +kernel)
set_option maxRecDepth 20000 in
theorem tw_methodLink_RL_76_yX5_half : Cond.methodLink RL 76 yX5_half ∈ bw := bw_in (by decide +kernel) (by decide +kernel)
set_option maxRecDepth 20000 in
theorem tw_instanceMethod_yX5_half : Cond.instanceMethod yX5_half ∈ bw := bw_in (by decide +kernel) (by decide +kernel)
set_option maxRecDepth 20000 in
theorem tw_selects_RX5_yX5_half_yX5_half : Cond.selects RX5 yX5_half yX5_half ∈ bw := bw_in (by decide +kernel) (by decide +kernel)
set_option maxRecDepth 20000 in
theorem tw_code_yX5_half : Cond.code yX5_half cX5_half 4 (some .int) ∈ bw := bw_in (by decide +kernel) (by decide +kernel)
set_option maxRecDepth 20000 in
theorem tw_methodLink_RL_77_yX4_join : Cond.methodLink RL 77 yX4_join ∈ bw := bw_in (by decide +kernel) (by decide +kernel)
set_option maxRecDepth 20000 in
theorem tw_instanceMethod_yX4_join : Cond.instanceMethod yX4_join ∈ bw := bw_in (by decide +kernel) (by decide +kernel)
set_option maxRecDepth 20000 in
theorem tw_selects_RX4_yX4_join_yX4_join : Cond.selects RX4 yX4_join yX4_join ∈ bw := bw_in (by decide +kernel) (by decide +kernel)
set_option maxRecDepth 20000 in
theorem tw_code_yX4_join : Cond.code yX4_join cX4_join 3 (some .long) ∈ bw := bw_in (by decide +kernel) (by decide +kernel)
set_option maxRecDepth 20000 in
theorem tw_methodLink_RL_81_yX5_join : Cond.methodLink RL 81 yX5_join ∈ bw := bw_in (by decide +kernel) (by decide +kernel)
set_option maxRecDepth 20000 in
theorem tw_instanceMethod_yX5_join : Cond.instanceMethod yX5_join ∈ bw := bw_in (by decide +kernel) (by decide +kernel)
set_option maxRecDepth 20000 in
theorem tw_selects_RX5_yX5_join_yX5_join : Cond.selects RX5 yX5_join yX5_join ∈ bw := bw_in (by decide +kernel) (by decide +kernel)
set_option maxRecDepth 20000 in
theorem tw_code_yX5_join : Cond.code yX5_join cX5_join 3 (some .long) ∈ bw := bw_in (by decide +kernel) (by decide +kernel)
set_option maxRecDepth 20000 in
theorem tw_methodLink_RL_82_yX4_print : Cond.methodLink RL 82 yX4_print ∈ bw := bw_in (by decide +kernel) (by decide +kernel)
set_option maxRecDepth 20000 in
theorem tw_instanceMethod_yX4_print : Cond.instanceMethod yX4_print ∈ bw := bw_in (by decide +kernel) (by decide +kernel)
set_option maxRecDepth 20000 in
theorem tw_selects_RX4_yX4_print_yX4_print : Cond.selects RX4 yX4_print yX4_print ∈ bw := bw_in (by decide +kernel) (by decide +kernel)
set_option maxRecDepth 20000 in
theorem tw_code_yX4_print : Cond.code yX4_print cX4_print 3 (some .int) ∈ bw := bw_in (by decide +kernel) (by decide +kernel)
set_option maxRecDepth 20000 in
theorem tw_methodLink_RX4_55_yX1_write : Cond.methodLink RX4 55 yX1_write ∈ bw := bw_in (by decide +kernel) (by decide +kernel)
set_option maxRecDepth 20000 in
theorem tw_instanceMethod_yX1_write : Cond.instanceMethod yX1_write ∈ bw := bw_in (by decide +kernel) (by decide +kernel)
set_option maxRecDepth 20000 in
theorem tw_selects_RX1_yX1_write_yX1_write : Cond.selects RX1 yX1_write yX1_write ∈ bw := bw_in (by decide +kernel) (by decide +kernel)
set_option maxRecDepth 20000 in
theorem tw_code_yX1_write : Cond.code yX1_write cX1_write 4 (some .int) ∈ bw := bw_in (by decide +kernel) (by decide +kernel)
set_option maxRecDepth 20000 in
theorem tw_fieldLink_RX1_19_GlulxFloats_Digits_length_I : Cond.fieldLink RX1 19 "GlulxFloats$Digits" "length" "I" ∈ bw := bw_in (by decide +kernel) (by decide +kernel)
set_option maxRecDepth 20000 in
theorem tw_fieldLink_RX1_23_GlulxFloats_Form_FLOAT_LGlulxFloats_Form : Cond.fieldLink RX1 23 "GlulxFloats$Form" "FLOAT" "LGlulxFloats$Form;" ∈ bw := bw_in (by decide +kernel) (by decide +kernel)
set_option maxRecDepth 20000 in
theorem tw_methodLink_RX1_29_yX2_isNan : Cond.methodLink RX1 29 yX2_isNan ∈ bw := bw_in (by decide +kernel) (by decide +kernel)
set_option maxRecDepth 20000 in
theorem tw_methodLink_RX1_33_yX1_putThree : Cond.methodLink RX1 33 yX1_putThree ∈ bw := bw_in (by decide +kernel) (by decide +kernel)
set_option maxRecDepth 20000 in
theorem tw_instanceMethod_yX1_putThree : Cond.instanceMethod yX1_putThree ∈ bw := bw_in (by decide +kernel) (by decide +kernel)
set_option maxRecDepth 20000 in
theorem tw_selects_RX1_yX1_putThree_yX1_putThree : Cond.selects RX1 yX1_putThree yX1_putThree ∈ bw := bw_in (by decide +kernel) (by decide +kernel)
set_option maxRecDepth 20000 in
theorem tw_code_yX1_putThree : Cond.code yX1_putThree cX1_putThree 4 none ∈ bw := bw_in (by decide +kernel) (by decide +kernel)
set_option maxRecDepth 20000 in
theorem tw_methodLink_RX1_40_yX1_put : Cond.methodLink RX1 40 yX1_put ∈ bw := bw_in (by decide +kernel) (by decide +kernel)
set_option maxRecDepth 20000 in
theorem tw_instanceMethod_yX1_put : Cond.instanceMethod yX1_put ∈ bw := bw_in (by decide +kernel) (by decide +kernel)
set_option maxRecDepth 20000 in
theorem tw_selects_RX1_yX1_put_yX1_put : Cond.selects RX1 yX1_put yX1_put ∈ bw := bw_in (by decide +kernel) (by decide +kernel)
set_option maxRecDepth 20000 in
theorem tw_code_yX1_put : Cond.code yX1_put cX1_put 2 none ∈ bw := bw_in (by decide +kernel) (by decide +kernel)
set_option maxRecDepth 20000 in
theorem tw_methodLink_RX1_37_yX2_isNegative : Cond.methodLink RX1 37 yX2_isNegative ∈ bw := bw_in (by decide +kernel) (by decide +kernel)
set_option maxRecDepth 20000 in
theorem tw_methodLink_RX1_44_yX2_isInfinite : Cond.methodLink RX1 44 yX2_isInfinite ∈ bw := bw_in (by decide +kernel) (by decide +kernel)
set_option maxRecDepth 20000 in
theorem tw_methodLink_RX1_47_yX2_plain : Cond.methodLink RX1 47 yX2_plain ∈ bw := bw_in (by decide +kernel) (by decide +kernel)
set_option maxRecDepth 20000 in
theorem tw_methodLink_RX1_51_yX2_scale : Cond.methodLink RX1 51 yX2_scale ∈ bw := bw_in (by decide +kernel) (by decide +kernel)
set_option maxRecDepth 20000 in
theorem tw_methodLink_RX1_55_yX1_load : Cond.methodLink RX1 55 yX1_load ∈ bw := bw_in (by decide +kernel) (by decide +kernel)
set_option maxRecDepth 20000 in
theorem tw_instanceMethod_yX1_load : Cond.instanceMethod yX1_load ∈ bw := bw_in (by decide +kernel) (by decide +kernel)
set_option maxRecDepth 20000 in
theorem tw_selects_RX1_yX1_load_yX1_load : Cond.selects RX1 yX1_load yX1_load ∈ bw := bw_in (by decide +kernel) (by decide +kernel)
set_option maxRecDepth 20000 in
theorem tw_code_yX1_load : Cond.code yX1_load cX1_load 8 none ∈ bw := bw_in (by decide +kernel) (by decide +kernel)
set_option maxRecDepth 20000 in
theorem tw_constantLong_RX1_65_4294967295 : Cond.constantLong RX1 65 (4294967295) ∈ bw := bw_in (by decide +kernel) (by decide +kernel)
