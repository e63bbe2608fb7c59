set_option maxRecDepth 20000 in
theorem tw_initialized_RX1 : Cond.initialized RX1 ∈ bw := bw_in (by decide +kernel) (by decide +kernel)
set_option maxRecDepth 20000 in
theorem tw_fieldLink_RX4_19_GlulxFloats_digits_LGlulxFloats_Digits : Cond.fieldLink RX4 19 "GlulxFloats" "digits" "LGlulxFloats$Digits;" ∈ bw := bw_in (by decide +kernel) (by decide +kernel)
set_option maxRecDepth 20000 in
theorem tw_methodLink_RX4_9_yX3_init : Cond.methodLink RX4 9 yX3_init ∈ bw := bw_in (by decide +kernel) (by decide +kernel)
set_option maxRecDepth 20000 in
theorem tw_instanceMethod_yX3_init : Cond.instanceMethod yX3_init ∈ bw := bw_in (by decide +kernel) (by decide +kernel)
set_option maxRecDepth 20000 in
theorem tw_code_yX3_init : Cond.code yX3_init cX3_init 1 none ∈ bw := bw_in (by decide +kernel) (by decide +kernel)
set_option maxRecDepth 20000 in
theorem tw_methodLink_RX3_3_objectInit : Cond.methodLink RX3 3 objectInit ∈ bw := bw_in (by decide +kernel) (by decide +kernel)
set_option maxRecDepth 20000 in
theorem tw_arrayClass_int : Cond.arrayClass .int ∈ bw := bw_in (by decide +kernel) (by decide +kernel)
set_option maxRecDepth 20000 in
theorem tw_fieldLink_RX3_11_GlulxFloats_Program_words_I : Cond.fieldLink RX3 11 "GlulxFloats$Program" "words" "[I" ∈ bw := bw_in (by decide +kernel) (by decide +kernel)
set_option maxRecDepth 20000 in
theorem tw_fieldLink_RX3_15_GlulxFloats_Program_codes_I : Cond.fieldLink RX3 15 "GlulxFloats$Program" "codes" "[I" ∈ bw := bw_in (by decide +kernel) (by decide +kernel)
set_option maxRecDepth 20000 in
theorem tw_fieldLink_RX3_18_GlulxFloats_Program_ts_I : Cond.fieldLink RX3 18 "GlulxFloats$Program" "ts" "[I" ∈ bw := bw_in (by decide +kernel) (by decide +kernel)
set_option maxRecDepth 20000 in
theorem tw_fieldLink_RX3_21_GlulxFloats_Program_xs_I : Cond.fieldLink RX3 21 "GlulxFloats$Program" "xs" "[I" ∈ bw := bw_in (by decide +kernel) (by decide +kernel)
set_option maxRecDepth 20000 in
theorem tw_fieldLink_RX3_24_GlulxFloats_Program_ys_I : Cond.fieldLink RX3 24 "GlulxFloats$Program" "ys" "[I" ∈ bw := bw_in (by decide +kernel) (by decide +kernel)
set_option maxRecDepth 20000 in
theorem tw_fieldLink_RX3_27_GlulxFloats_Program_zs_I : Cond.fieldLink RX3 27 "GlulxFloats$Program" "zs" "[I" ∈ bw := bw_in (by decide +kernel) (by decide +kernel)
set_option maxRecDepth 20000 in
theorem tw_fieldLink_RX3_30_GlulxFloats_Program_goesOnAt_I : Cond.fieldLink RX3 30 "GlulxFloats$Program" "goesOnAt" "I" ∈ bw := bw_in (by decide +kernel) (by decide +kernel)
set_option maxRecDepth 20000 in
theorem tw_methodLink_RX4_18_yX1_init : Cond.methodLink RX4 18 yX1_init ∈ bw := bw_in (by decide +kernel) (by decide +kernel)
set_option maxRecDepth 20000 in
theorem tw_instanceMethod_yX1_init : Cond.instanceMethod yX1_init ∈ bw := bw_in (by decide +kernel) (by decide +kernel)
set_option maxRecDepth 20000 in
theorem tw_code_yX1_init : Cond.code yX1_init cX1_init 1 none ∈ bw := bw_in (by decide +kernel) (by decide +kernel)
set_option maxRecDepth 20000 in
theorem tw_methodLink_RX1_3_objectInit : Cond.methodLink RX1 3 objectInit ∈ bw := bw_in (by decide +kernel) (by decide +kernel)
set_option maxRecDepth 20000 in
theorem tw_arrayClass_byte : Cond.arrayClass .byte ∈ bw := bw_in (by decide +kernel) (by decide +kernel)
set_option maxRecDepth 20000 in
theorem tw_fieldLink_RX1_11_GlulxFloats_Digits_text_B : Cond.fieldLink RX1 11 "GlulxFloats$Digits" "text" "[B" ∈ bw := bw_in (by decide +kernel) (by decide +kernel)
set_option maxRecDepth 20000 in
theorem tw_fieldLink_RX1_15_GlulxFloats_Digits_parts_J : Cond.fieldLink RX1 15 "GlulxFloats$Digits" "parts" "[J" ∈ bw := bw_in (by decide +kernel) (by decide +kernel)
set_option maxRecDepth 20000 in
theorem tw_methodLink_RL_39_yX5_init : Cond.methodLink RL 39 yX5_init ∈ bw := bw_in (by decide +kernel) (by decide +kernel)
set_option maxRecDepth 20000 in
theorem tw_instanceMethod_yX5_init : Cond.instanceMethod yX5_init ∈ bw := bw_in (by decide +kernel) (by decide +kernel)
set_option maxRecDepth 20000 in
theorem tw_code_yX5_init : Cond.code yX5_init cX5_init 1 none ∈ bw := bw_in (by decide +kernel) (by decide +kernel)
set_option maxRecDepth 20000 in
theorem tw_methodLink_RX5_1_objectInit : Cond.methodLink RX5 1 objectInit ∈ bw := bw_in (by decide +kernel) (by decide +kernel)
set_option maxRecDepth 20000 in
theorem tw_fieldLink_RX5_7_GlulxFloatsModel_words_I : Cond.fieldLink RX5 7 "GlulxFloatsModel" "words" "[I" ∈ bw := bw_in (by decide +kernel) (by decide +kernel)
set_option maxRecDepth 20000 in
theorem tw_fieldLink_RX5_13_GlulxFloatsModel_codes_I : Cond.fieldLink RX5 13 "GlulxFloatsModel" "codes" "[I" ∈ bw := bw_in (by decide +kernel) (by decide +kernel)
set_option maxRecDepth 20000 in
theorem tw_fieldLink_RX5_16_GlulxFloatsModel_ts_I : Cond.fieldLink RX5 16 "GlulxFloatsModel" "ts" "[I" ∈ bw := bw_in (by decide +kernel) (by decide +kernel)
set_option maxRecDepth 20000 in
theorem tw_fieldLink_RX5_19_GlulxFloatsModel_xs_I : Cond.fieldLink RX5 19 "GlulxFloatsModel" "xs" "[I" ∈ bw := bw_in (by decide +kernel) (by decide +kernel)
set_option maxRecDepth 20000 in
theorem tw_fieldLink_RX5_22_GlulxFloatsModel_ys_I : Cond.fieldLink RX5 22 "GlulxFloatsModel" "ys" "[I" ∈ bw := bw_in (by decide +kernel) (by decide +kernel)
set_option maxRecDepth 20000 in
theorem tw_fieldLink_RX5_25_GlulxFloatsModel_zs_I : Cond.fieldLink RX5 25 "GlulxFloatsModel" "zs" "[I" ∈ bw := bw_in (by decide +kernel) (by decide +kernel)
set_option maxRecDepth 20000 in
theorem tw_fieldLink_RX5_28_GlulxFloatsModel_nextStep_I : Cond.fieldLink RX5 28 "GlulxFloatsModel" "nextStep" "I" ∈ bw := bw_in (by decide +kernel) (by decide +kernel)
set_option maxRecDepth 20000 in
theorem tw_fieldLink_RX5_32_GlulxFloatsModel_sum_J : Cond.fieldLink RX5 32 "GlulxFloatsModel" "sum" "[J" ∈ bw := bw_in (by decide +kernel) (by decide +kernel)
set_option maxRecDepth 20000 in
theorem tw_fieldLink_RX5_36_GlulxFloatsModel_out_B : Cond.fieldLink RX5 36 "GlulxFloatsModel" "out" "[B" ∈ bw := bw_in (by decide +kernel) (by decide +kernel)
set_option maxRecDepth 20000 in
theorem tw_fieldLink_RX5_40_GlulxFloatsModel_decimals_I : Cond.fieldLink RX5 40 "GlulxFloatsModel" "decimals" "[I" ∈ bw := bw_in (by decide +kernel) (by decide +kernel)
set_option maxRecDepth 20000 in
theorem tw_fieldLink_RX5_43_GlulxFloatsModel_behind_I : Cond.fieldLink RX5 43 "GlulxFloatsModel" "behind" "[I" ∈ bw := bw_in (by decide +kernel) (by decide +kernel)
set_option maxRecDepth 20000 in
theorem tw_methodLink_RL_40_yL_act : Cond.methodLink RL 40 yL_act ∈ bw := bw_in (by decide +kernel) (by decide +kernel)
set_option maxRecDepth 20000 in
theorem tw_static_yL_act : Cond.static yL_act ∈ bw := bw_in (by decide +kernel) (by decide +kernel)
set_option maxRecDepth 20000 in
theorem tw_initialized_RL : Cond.initialized RL ∈ bw := bw_in (by decide +kernel) (by decide +kernel)
set_option maxRecDepth 20000 in
theorem tw_code_yL_act : Cond.codeWith yL_act cL_act 7 (some .int) [(0, 14, 17, 13)] ∈ bw := bw_in (by decide +kernel) (by decide +kernel)
set_option maxRecDepth 20000 in
theorem tw_classLink_RL_13_java_lang_IllegalArgumentException : Cond.classLink RL 13 "java/lang/IllegalArgumentException" ∈ bw := bw_in (by decide +kernel) (by decide +kernel)
set_option maxRecDepth 20000 in
theorem tw_methodLink_RL_7_yX4_act : Cond.methodLink RL 7 yX4_act ∈ bw := bw_in (by decide +kernel) (by decide +kernel)
set_option maxRecDepth 20000 in
theorem tw_instanceMethod_yX4_act : Cond.instanceMethod yX4_act ∈ bw := bw_in (by decide +kernel) (by decide +kernel)
set_option maxRecDepth 20000 in
theorem tw_selects_RX4_yX4_act_yX4_act : Cond.selects RX4 yX4_act yX4_act ∈ bw := bw_in (by decide +kernel) (by decide +kernel)
set_option maxRecDepth 20000 in
theorem tw_code_yX4_act : Cond.code yX4_act cX4_act 5 (some .int) ∈ bw := bw_in (by decide +kernel) (by decide +kernel)
set_option maxRecDepth 20000 in
theorem tw_classLink_RX4_23_java_lang_IllegalArgumentException : Cond.classLink RX4 23 "java/lang/IllegalArgumentException" ∈ bw := bw_in (by decide +kernel) (by decide +kernel)
set_option maxRecDepth 20000 in
theorem tw_initialized_java_lang_IllegalArgumentException : Cond.initialized "java/lang/IllegalArgumentException" ∈ bw := bw_in (by decide +kernel) (by decide +kernel)
set_option maxRecDepth 20000 in
theorem tw_fieldLink_RX4_30_GlulxFloats_Form_FLOAT_LGlulxFloats_Form : Cond.fieldLink RX4 30 "GlulxFloats$Form" "FLOAT" "LGlulxFloats$Form;" ∈ bw := bw_in (by decide +kernel) (by decide +kernel)
set_option maxRecDepth 20000 in
theorem tw_constantLong_RX4_36_4294967295 : Cond.constantLong RX4 36 (4294967295) ∈ bw := bw_in (by decide +kernel) (by decide +kernel)
set_option maxRecDepth 20000 in
theorem tw_methodLink_RX4_38_yX2_acted : Cond.methodLink RX4 38 yX2_acted ∈ bw := bw_in (by decide +kernel) (by decide +kernel)
set_option maxRecDepth 20000 in
theorem tw_instanceMethod_yX2_acted : Cond.instanceMethod yX2_acted ∈ bw := bw_in (by decide +kernel) (by decide +kernel)
set_option maxRecDepth 20000 in
theorem tw_selects_RX2_yX2_acted_yX2_acted : Cond.selects RX2 yX2_acted yX2_acted ∈ bw := bw_in (by decide +kernel) (by decide +kernel)
set_option maxRecDepth 20000 in
theorem tw_initialized_RX2 : Cond.initialized RX2 ∈ bw := bw_in (by decide +kernel) (by decide +kernel)
set_option maxRecDepth 20000 in
theorem tw_code_yX2_acted : Cond.code yX2_acted cX2_acted 8 (some .long) ∈ bw := bw_in (by decide +kernel) (by decide +kernel)
set_option maxRecDepth 20000 in
theorem tw_fieldLink_RX2_42_GlulxFloats_Form_sign_J : Cond.fieldLink RX2 42 "GlulxFloats$Form" "sign" "J" ∈ bw := bw_in (by decide +kernel) (by decide +kernel)
set_option maxRecDepth 20000 in
theorem tw_constantLong_RX2_85_32 : Cond.constantLong RX2 85 (32) ∈ bw := bw_in (by decide +kernel) (by decide +kernel)
set_option maxRecDepth 20000 in
theorem tw_constantLong_RX2_87_31 : Cond.constantLong RX2 87 (31) ∈ bw := bw_in (by decide +kernel) (by decide +kernel)
set_option maxRecDepth 20000 in
theorem tw_fieldLink_RX2_46_GlulxFloats_Form_one_J : Cond.fieldLink RX2 46 "GlulxFloats$Form" "one" "J" ∈ bw := bw_in (by decide +kernel) (by decide +kernel)
set_option maxRecDepth 20000 in
theorem tw_fieldLink_RX2_39_GlulxFloats_Form_spare_I : Cond.fieldLink RX2 39 "GlulxFloats$Form" "spare" "I" ∈ bw := bw_in (by decide +kernel) (by decide +kernel)
set_option maxRecDepth 20000 in
theorem tw_fieldLink_RX2_33_GlulxFloats_Form_bias_I : Cond.fieldLink RX2 33 "GlulxFloats$Form" "bias" "I" ∈ bw := bw_in (by decide +kernel) (by decide +kernel)
set_option maxRecDepth 20000 in
theorem tw_fieldLink_RX2_52_GlulxFloats_Form_nan_J : Cond.fieldLink RX2 52 "GlulxFloats$Form" "nan" "J" ∈ bw := bw_in (by decide +kernel) (by decide +kernel)
set_option maxRecDepth 20000 in
theorem tw_methodLink_RX2_55_yX2_sum : Cond.methodLink RX2 55 yX2_sum ∈ bw := bw_in (by decide +kernel) (by decide +kernel)
set_option maxRecDepth 20000 in
theorem tw_instanceMethod_yX2_sum : Cond.instanceMethod yX2_sum ∈ bw := bw_in (by decide +kernel) (by decide +kernel)
set_option maxRecDepth 20000 in
theorem tw_selects_RX2_yX2_sum_yX2_sum : Cond.selects RX2 yX2_sum yX2_sum ∈ bw := bw_in (by decide +kernel) (by decide +kernel)
set_option maxRecDepth 20000 in
theorem tw_code_yX2_sum : Cond.code yX2_sum cX2_sum 13 (some .long) ∈ bw := bw_in (by decide +kernel) (by decide +kernel)
set_option maxRecDepth 20000 in
theorem tw_fieldLink_RX2_29_GlulxFloats_Form_fraction_I : Cond.fieldLink RX2 29 "GlulxFloats$Form" "fraction" "I" ∈ bw := bw_in (by decide +kernel) (by decide +kernel)
set_option maxRecDepth 20000 in
theorem tw_methodLink_RX2_130_Mmax_name : Cond.methodLink RX2 130 Lib.Math.max.name ∈ bw := bw_in (by decide +kernel) (by decide +kernel)
set_option maxRecDepth 20000 in
theorem tw_static_Mmax_name : Cond.static Lib.Math.max.name ∈ bw := bw_in (by decide +kernel) (by decide +kernel)
set_option maxRecDepth 20000 in
theorem tw_initialized_Math : Cond.initialized "java/lang/Math" ∈ bw := bw_in (by decide +kernel) (by decide +kernel)
set_option maxRecDepth 20000 in
theorem tw_code_Lib_Math_max_name : Cond.code Lib.Math.max.name Lib.Math.max.code 2 (some .int) ∈ bw := bw_in (by decide +kernel) (by decide +kernel)
set_option maxRecDepth 20000 in
theorem tw_methodLink_RX2_157_MLabs_long_x : Cond.methodLink RX2 157 Lib.MathLoose.abs_long.x ∈ bw := bw_in (by decide +kernel) (by decide +kernel)
set_option maxRecDepth 20000 in
theorem tw_static_MLabs_long_x : Cond.static Lib.MathLoose.abs_long.x ∈ bw := bw_in (by decide +kernel) (by decide +kernel)
set_option maxRecDepth 20000 in
theorem tw_code_Lib_MathLoose_abs_long_x : Cond.code Lib.MathLoose.abs_long.x Lib.MathLoose.abs_long.code 2 (some .long) ∈ bw := bw_in (by decide +kernel) (by decide +kernel)
set_option maxRecDepth 20000 in
theorem tw_methodLink_RX2_116_yX2_isNan : Cond.methodLink RX2 116 yX2_isNan ∈ bw := bw_in (by decide +kernel) (by decide +kernel)
set_option maxRecDepth 20000 in
theorem tw_instanceMethod_yX2_isNan : Cond.instanceMethod yX2_isNan ∈ bw := bw_in (by decide +kernel) (by decide +kernel)
set_option maxRecDepth 20000 in
theorem tw_selects_RX2_yX2_isNan_yX2_isNan : Cond.selects RX2 yX2_isNan yX2_isNan ∈ bw := bw_in (by decide +kernel) (by decide +kernel)
set_option maxRecDepth 20000 in
theorem tw_code_yX2_isNan : Cond.code yX2_isNan cX2_isNan 3 (some .boolean) ∈ bw := bw_in (by decide +kernel) (by decide +kernel)
set_option maxRecDepth 20000 in
theorem tw_fieldLink_RX2_49_GlulxFloats_Form_infinity_J : Cond.fieldLink RX2 49 "GlulxFloats$Form" "infinity" "J" ∈ bw := bw_in (by decide +kernel) (by decide +kernel)
set_option maxRecDepth 20000 in
theorem tw_methodLink_RX2_82_yX2_size : Cond.methodLink RX2 82 yX2_size ∈ bw := bw_in (by decide +kernel) (by decide +kernel)
set_option maxRecDepth 20000 in
theorem tw_instanceMethod_yX2_size : Cond.instanceMethod yX2_size ∈ bw := bw_in (by decide +kernel) (by decide +kernel)
set_option maxRecDepth 20000 in
theorem tw_selects_RX2_yX2_size_yX2_size : Cond.selects RX2 yX2_size yX2_size ∈ bw := bw_in (by decide +kernel) (by decide +kernel)
set_option maxRecDepth 20000 in
theorem tw_code_yX2_size : Cond.code yX2_size cX2_size 3 (some .long) ∈ bw := bw_in (by decide +kernel) (by decide +kernel)
set_option maxRecDepth 20000 in
theorem tw_methodLink_RX2_127_yX2_isInfinite : Cond.methodLink RX2 127 yX2_isInfinite ∈ bw := bw_in (by decide +kernel) (by decide +kernel)
set_option maxRecDepth 20000 in
theorem tw_instanceMethod_yX2_isInfinite : Cond.instanceMethod yX2_isInfinite ∈ bw := bw_in (by decide +kernel) (by decide +kernel)
set_option maxRecDepth 20000 in
theorem tw_selects_RX2_yX2_isInfinite_yX2_isInfinite : Cond.selects RX2 yX2_isInfinite yX2_isInfinite ∈ bw := bw_in (by decide +kernel) (by decide +kernel)
set_option maxRecDepth 20000 in
theorem tw_code_yX2_isInfinite : Cond.code yX2_isInfinite cX2_isInfinite 3 (some .boolean) ∈ bw := bw_in (by decide +kernel) (by decide +kernel)
set_option maxRecDepth 20000 in
theorem tw_methodLink_RX2_139_yX2_isZero : Cond.methodLink RX2 139 yX2_isZero ∈ bw := bw_in (by decide +kernel) (by decide +kernel)
set_option maxRecDepth 20000 in
theorem tw_instanceMethod_yX2_isZero : Cond.instanceMethod yX2_isZero ∈ bw := bw_in (by decide +kernel) (by decide +kernel)
set_option maxRecDepth 20000 in
theorem tw_selects_RX2_yX2_isZero_yX2_isZero : Cond.selects RX2 yX2_isZero yX2_isZero ∈ bw := bw_in (by decide +kernel) (by decide +kernel)
set_option maxRecDepth 20000 in
theorem tw_code_yX2_isZero : Cond.code yX2_isZero cX2_isZero 3 (some .boolean) ∈ bw := bw_in (by decide +kernel) (by decide +kernel)
set_option maxRecDepth 20000 in
theorem tw_methodLink_RX2_142_yX2_scale : Cond.methodLink RX2 142 yX2_scale ∈ bw := bw_in (by decide +kernel) (by decide +kernel)
set_option maxRecDepth 20000 in
theorem tw_instanceMethod_yX2_scale : Cond.instanceMethod yX2_scale ∈ bw := bw_in (by decide +kernel) (by decide +kernel)
set_option maxRecDepth 20000 in
theorem tw_selects_RX2_yX2_scale_yX2_scale : Cond.selects RX2 yX2_scale yX2_scale ∈ bw := bw_in (by decide +kernel) (by decide +kernel)
set_option maxRecDepth 20000 in
theorem tw_code_yX2_scale : Cond.code yX2_scale cX2_scale 3 (some .int) ∈ bw := bw_in (by decide +kernel) (by decide +kernel)
set_option maxRecDepth 20000 in
theorem tw_methodLink_RX2_101_yX2_biased : Cond.methodLink RX2 101 yX2_biased ∈ bw := bw_in (by decide +kernel) (by decide +kernel)
set_option maxRecDepth 20000 in
theorem tw_instanceMethod_yX2_biased : Cond.instanceMethod yX2_biased ∈ bw := bw_in (by decide +kernel) (by decide +kernel)
set_option maxRecDepth 20000 in
theorem tw_selects_RX2_yX2_biased_yX2_biased : Cond.selects RX2 yX2_biased yX2_biased ∈ bw := bw_in (by decide +kernel) (by decide +kernel)
set_option maxRecDepth 20000 in
theorem tw_code_yX2_biased : Cond.code yX2_biased cX2_biased 3 (some .int) ∈ bw := bw_in (by decide +kernel) (by decide +kernel)
set_option maxRecDepth 20000 in
theorem tw_fieldLink_RX2_36_GlulxFloats_Form_top_I : Cond.fieldLink RX2 36 "GlulxFloats$Form" "top" "I" ∈ bw := bw_in (by decide +kernel) (by decide +kernel)
set_option maxRecDepth 20000 in
theorem tw_methodLink_RX2_145_yX2_plain : Cond.methodLink RX2 145 yX2_plain ∈ bw := bw_in (by decide +kernel) (by decide +kernel)
set_option maxRecDepth 20000 in
theorem tw_instanceMethod_yX2_plain : Cond.instanceMethod yX2_plain ∈ bw := bw_in (by decide +kernel) (by decide +kernel)
set_option maxRecDepth 20000 in
theorem tw_selects_RX2_yX2_plain_yX2_plain : Cond.selects RX2 yX2_plain yX2_plain ∈ bw := bw_in (by decide +kernel) (by decide +kernel)
set_option maxRecDepth 20000 in
theorem tw_code_yX2_plain : Cond.code yX2_plain cX2_plain 5 (some .long) ∈ bw := bw_in (by decide +kernel) (by decide +kernel)
set_option maxRecDepth 20000 in
theorem tw_methodLink_RX2_152_yX0_lowered : Cond.methodLink RX2 152 yX0_lowered ∈ bw := bw_in (by decide +kernel) (by decide +kernel)
set_option maxRecDepth 20000 in
theorem tw_static_yX0_lowered : Cond.static yX0_lowered ∈ bw := bw_in (by decide +kernel) (by decide +kernel)
set_option maxRecDepth 20000 in
theorem tw_initialized_RX0 : Cond.initialized RX0 ∈ bw := bw_in (by decide +kernel) (by decide +kernel)
set_option maxRecDepth 20000 in
theorem tw_code_yX0_lowered : Cond.code yX0_lowered cX0_lowered 3 (some .long) ∈ bw := bw_in (by decide +kernel) (by decide +kernel)
set_option maxRecDepth 20000 in
theorem tw_methodLink_RX0_15_yX0_loweredLow : Cond.methodLink RX0 15 yX0_loweredLow ∈ bw := bw_in (by decide +kernel) (by decide +kernel)
set_option maxRecDepth 20000 in
theorem tw_static_yX0_loweredLow : Cond.static yX0_loweredLow ∈ bw := bw_in (by decide +kernel) (by decide +kernel)
set_option maxRecDepth 20000 in
theorem tw_code_yX0_loweredLow : Cond.code yX0_loweredLow cX0_loweredLow 5 (some .long) ∈ bw := bw_in (by decide +kernel) (by decide +kernel)
set_option maxRecDepth 20000 in
theorem tw_methodLink_RX2_136_yX2_isNegative : Cond.methodLink RX2 136 yX2_isNegative ∈ bw := bw_in (by decide +kernel) (by decide +kernel)
set_option maxRecDepth 20000 in
theorem tw_instanceMethod_yX2_isNegative : Cond.instanceMethod yX2_isNegative ∈ bw := bw_in (by decide +kernel) (by decide +kernel)
set_option maxRecDepth 20000 in
theorem tw_selects_RX2_yX2_isNegative_yX2_isNegative : Cond.selects RX2 yX2_isNegative yX2_isNegative ∈ bw := bw_in (by decide +kernel) (by decide +kernel)
set_option maxRecDepth 20000 in
theorem tw_code_yX2_isNegative : Cond.code yX2_isNegative cX2_isNegative 3 (some .boolean) ∈ bw := bw_in (by decide +kernel) (by decide +kernel)
set_option maxRecDepth 20000 in
theorem tw_methodLink_RX2_148_yX2_rounded : Cond.methodLink RX2 148 yX2_rounded ∈ bw := bw_in (by decide +kernel) (by decide +kernel)
set_option maxRecDepth 20000 in
theorem tw_instanceMethod_yX2_rounded : Cond.instanceMethod yX2_rounded ∈ bw := bw_in (by decide +kernel) (by decide +kernel)
set_option maxRecDepth 20000 in
theorem tw_selects_RX2_yX2_rounded_yX2_rounded : Cond.selects RX2 yX2_rounded yX2_rounded ∈ bw := bw_in (by decide +kernel) (by decide +kernel)
set_option maxRecDepth 20000 in
theorem tw_code_yX2_rounded : Cond.code yX2_rounded cX2_rounded 18 (some .long) ∈ bw := bw_in (by decide +kernel) (by decide +kernel)
set_option maxRecDepth 20000 in
theorem tw_methodLink_RX2_160_yX0_zeros : Cond.methodLink RX2 160 yX0_zeros ∈ bw := bw_in (by decide +kernel) (by decide +kernel)
set_option maxRecDepth 20000 in
theorem tw_static_yX0_zeros : Cond.static yX0_zeros ∈ bw := bw_in (by decide +kernel) (by decide +kernel)
set_option maxRecDepth 20000 in
theorem tw_code_yX0_zeros : Cond.code yX0_zeros cX0_zeros 5 (some .int) ∈ bw := bw_in (by decide +kernel) (by decide +kernel)
set_option maxRecDepth 20000 in
theorem tw_methodLink_RX2_59_yX2_product : Cond.methodLink RX2 59 yX2_product ∈ bw := bw_in (by decide +kernel) (by decide +kernel)
set_option maxRecDepth 20000 in
theorem tw_instanceMethod_yX2_product : Cond.instanceMethod yX2_product ∈ bw := bw_in (by decide +kernel) (by decide +kernel)
set_option maxRecDepth 20000 in
theorem tw_selects_RX2_yX2_product_yX2_product : Cond.selects RX2 yX2_product yX2_product ∈ bw := bw_in (by decide +kernel) (by decide +kernel)
set_option maxRecDepth 20000 in
theorem tw_code_yX2_product : Cond.code yX2_product cX2_product 15 (some .long) ∈ bw := bw_in (by decide +kernel) (by decide +kernel)
set_option maxRecDepth 20000 in
theorem tw_methodLink_RX2_163_yX0_upperProduct : Cond.methodLink RX2 163 yX0_upperProduct ∈ bw := bw_in (by decide +kernel) (by decide +kernel)
set_option maxRecDepth 20000 in
theorem tw_static_yX0_upperProduct : Cond.static yX0_upperProduct ∈ bw := bw_in (by decide +kernel) (by decide +kernel)
set_option maxRecDepth 20000 in
theorem tw_code_yX0_upperProduct : Cond.code yX0_upperProduct cX0_upperProduct 16 (some .long) ∈ bw := bw_in (by decide +kernel) (by decide +kernel)
set_option maxRecDepth 20000 in
theorem tw_constantLong_RX0_13_4294967295 : Cond.constantLong RX0 13 (4294967295) ∈ bw := bw_in (by decide +kernel) (by decide +kernel)
set_option maxRecDepth 20000 in
theorem tw_methodLink_RX2_62_yX2_quotient : Cond.methodLink RX2 62 yX2_quotient ∈ bw := bw_in (by decide +kernel) (by decide +kernel)
set_option maxRecDepth 20000 in
theorem tw_instanceMethod_yX2_quotient : Cond.instanceMethod yX2_quotient ∈ bw := bw_in (by decide +kernel) (by decide +kernel)
set_option maxRecDepth 20000 in
theorem tw_selects_RX2_yX2_quotient_yX2_quotient : Cond.selects RX2 yX2_quotient yX2_quotient ∈ bw := bw_in (by decide +kernel) (by decide +kernel)
set_option maxRecDepth 20000 in
theorem tw_code_yX2_quotient : Cond.code yX2_quotient cX2_quotient 7 (some .long) ∈ bw := bw_in (by decide +kernel) (by decide +kernel)
set_option maxRecDepth 20000 in
theorem tw_methodLink_RX2_166_yX2_divided : Cond.methodLink RX2 166 yX2_divided ∈ bw := bw_in (by decide +kernel) (by decide +kernel)
set_option maxRecDepth 20000 in
theorem tw_instanceMethod_yX2_divided : Cond.instanceMethod yX2_divided ∈ bw := bw_in (by decide +kernel) (by decide +kernel)
set_option maxRecDepth 20000 in
theorem tw_selects_RX2_yX2_divided_yX2_divided : Cond.selects RX2 yX2_divided yX2_divided ∈ bw := bw_in (by decide +kernel) (by decide +kernel)
set_option maxRecDepth 20000 in
theorem tw_code_yX2_divided : Cond.code yX2_divided cX2_divided 17 (some .long) ∈ bw := bw_in (by decide +kernel) (by decide +kernel)
set_option maxRecDepth 20000 in
theorem tw_methodLink_RX2_65_yX2_rest : Cond.methodLink RX2 65 yX2_rest ∈ bw := bw_in (by decide +kernel) (by decide +kernel)
set_option maxRecDepth 20000 in
theorem tw_instanceMethod_yX2_rest : Cond.instanceMethod yX2_rest ∈ bw := bw_in (by decide +kernel) (by decide +kernel)
set_option maxRecDepth 20000 in
theorem tw_selects_RX2_yX2_rest_yX2_rest : Cond.selects RX2 yX2_rest yX2_rest ∈ bw := bw_in (by decide +kernel) (by decide +kernel)
set_option maxRecDepth 20000 in
theorem tw_code_yX2_rest : Cond.code yX2_rest cX2_rest 11 (some .long) ∈ bw := bw_in (by decide +kernel) (by decide +kernel)
set_option maxRecDepth 20000 in
theorem tw_methodLink_RX2_170_Mmin_name : Cond.methodLink RX2 170 Lib.Math.min.name ∈ bw := bw_in (by decide +kernel) (by decide +kernel)
set_option maxRecDepth 20000 in
theorem tw_static_Mmin_name : Cond.static Lib.Math.min.name ∈ bw := bw_in (by decide +kernel) (by decide +kernel)
set_option maxRecDepth 20000 in
theorem tw_code_Lib_Math_min_name : Cond.code Lib.Math.min.name Lib.Math.min.code 2 (some .int) ∈ bw := bw_in (by decide +kernel) (by decide +kernel)
set_option maxRecDepth 20000 in
theorem tw_methodLink_RX2_68_yX2_root : Cond.methodLink RX2 68 yX2_root ∈ bw := bw_in (by decide +kernel) (by decide +kernel)
set_option maxRecDepth 20000 in
theorem tw_instanceMethod_yX2_root : Cond.instanceMethod yX2_root ∈ bw := bw_in (by decide +kernel) (by decide +kernel)
set_option maxRecDepth 20000 in
theorem tw_selects_RX2_yX2_root_yX2_root : Cond.selects RX2 yX2_root yX2_root ∈ bw := bw_in (by decide +kernel) (by decide +kernel)
set_option maxRecDepth 20000 in
theorem tw_code_yX2_root : Cond.code yX2_root cX2_root 14 (some .long) ∈ bw := bw_in (by decide +kernel) (by decide +kernel)
set_option maxRecDepth 20000 in
theorem tw_methodLink_RX2_72_yX2_whole : Cond.methodLink RX2 72 yX2_whole ∈ bw := bw_in (by decide +kernel) (by decide +kernel)
set_option maxRecDepth 20000 in
theorem tw_instanceMethod_yX2_whole : Cond.instanceMethod yX2_whole ∈ bw := bw_in (by decide +kernel) (by decide +kernel)
set_option maxRecDepth 20000 in
theorem tw_selects_RX2_yX2_whole_yX2_whole : Cond.selects RX2 yX2_whole yX2_whole ∈ bw := bw_in (by decide +kernel) (by decide +kernel)
set_option maxRecDepth 20000 in
theorem tw_code_yX2_whole : Cond.code yX2_whole cX2_whole 15 (some .long) ∈ bw := bw_in (by decide +kernel) (by decide +kernel)
set_option maxRecDepth 20000 in
theorem tw_methodLink_RX2_76_yX2_lesser : Cond.methodLink RX2 76 yX2_lesser ∈ bw := bw_in (by decide +kernel) (by decide +kernel)
set_option maxRecDepth 20000 in
theorem tw_instanceMethod_yX2_lesser : Cond.instanceMethod yX2_lesser ∈ bw := bw_in (by decide +kernel) (by decide +kernel)
set_option maxRecDepth 20000 in
theorem tw_selects_RX2_yX2_lesser_yX2_lesser : Cond.selects RX2 yX2_lesser yX2_lesser ∈ bw := bw_in (by decide +kernel) (by decide +kernel)
set_option maxRecDepth 20000 in
theorem tw_code_yX2_lesser : Cond.code yX2_lesser cX2_lesser 5 (some .long) ∈ bw := bw_in (by decide +kernel) (by decide +kernel)
set_option maxRecDepth 20000 in
theorem tw_methodLink_RX2_124_yX2_rank : Cond.methodLink RX2 124 yX2_rank ∈ bw := bw_in (by decide +kernel) (by decide +kernel)
set_option maxRecDepth 20000 in
theorem tw_instanceMethod_yX2_rank : Cond.instanceMethod yX2_rank ∈ bw := bw_in (by decide +kernel) (by decide +kernel)
set_option maxRecDepth 20000 in
theorem tw_selects_RX2_yX2_rank_yX2_rank : Cond.selects RX2 yX2_rank yX2_rank ∈ bw := bw_in (by decide +kernel) (by decide +kernel)
set_option maxRecDepth 20000 in
theorem tw_code_yX2_rank : Cond.code yX2_rank cX2_rank 3 (some .long) ∈ bw := bw_in (by decide +kernel) (by decide +kernel)
set_option maxRecDepth 20000 in
theorem tw_methodLink_RX2_79_yX2_greater : Cond.methodLink RX2 79 yX2_greater ∈ bw := bw_in (by decide +kernel) (by decide +kernel)
set_option maxRecDepth 20000 in
theorem tw_instanceMethod_yX2_greater : Cond.instanceMethod yX2_greater ∈ bw := bw_in (by decide +kernel) (by decide +kernel)
set_option maxRecDepth 20000 in
theorem tw_selects_RX2_yX2_greater_yX2_greater : Cond.selects RX2 yX2_greater yX2_greater ∈ bw := bw_in (by decide +kernel) (by decide +kernel)
set_option maxRecDepth 20000 in
theorem tw_code_yX2_greater : Cond.code yX2_greater cX2_greater 5 (some .long) ∈ bw := bw_in (by decide +kernel) (by decide +kernel)
set_option maxRecDepth 20000 in
theorem tw_methodLink_RX2_89_yX2_power : Cond.methodLink RX2 89 yX2_power ∈ bw := bw_in (by decide +kernel) (by decide +kernel)
set_option maxRecDepth 20000 in
theorem tw_instanceMethod_yX2_power : Cond.instanceMethod yX2_power ∈ bw := bw_in (by decide +kernel) (by decide +kernel)
set_option maxRecDepth 20000 in
theorem tw_selects_RX2_yX2_power_yX2_power : Cond.selects RX2 yX2_power yX2_power ∈ bw := bw_in (by decide +kernel) (by decide +kernel)
set_option maxRecDepth 20000 in
theorem tw_code_yX2_power : Cond.code yX2_power cX2_power 8 (some .long) ∈ bw := bw_in (by decide +kernel) (by decide +kernel)
set_option maxRecDepth 20000 in
theorem tw_methodLink_RX2_92_yX2_scaled : Cond.methodLink RX2 92 yX2_scaled ∈ bw := bw_in (by decide +kernel) (by decide +kernel)
set_option maxRecDepth 20000 in
theorem tw_instanceMethod_yX2_scaled : Cond.instanceMethod yX2_scaled ∈ bw := bw_in (by decide +kernel) (by decide +kernel)
set_option maxRecDepth 20000 in
theorem tw_selects_RX2_yX2_scaled_yX2_scaled : Cond.selects RX2 yX2_scaled yX2_scaled ∈ bw := bw_in (by decide +kernel) (by decide +kernel)
set_option maxRecDepth 20000 in
theorem tw_code_yX2_scaled : Cond.code yX2_scaled cX2_scaled 6 (some .long) ∈ bw := bw_in (by decide +kernel) (by decide +kernel)
set_option maxRecDepth 20000 in
theorem tw_constantLong_RX2_173_5000 : Cond.constantLong RX2 173 (-5000) ∈ bw := bw_in (by decide +kernel) (by decide +kernel)
set_option maxRecDepth 20000 in
theorem tw_constantLong_RX2_175_5000 : Cond.constantLong RX2 175 (5000) ∈ bw := bw_in (by decide +kernel) (by decide +kernel)
set_option maxRecDepth 20000 in
theorem tw_methodLink_RX2_177_MLmin_long_x : Cond.methodLink RX2 177 Lib.MathLoose.min_long.x ∈ bw := bw_in (by decide +kernel) (by decide +kernel)
set_option maxRecDepth 20000 in
theorem tw_static_MLmin_long_x : Cond.static Lib.MathLoose.min_long.x ∈ bw := bw_in (by decide +kernel) (by decide +kernel)
set_option maxRecDepth 20000 in
theorem tw_code_Lib_MathLoose_min_long_x : Cond.code Lib.MathLoose.min_long.x Lib.MathLoose.min_long.code 4 (some .long) ∈ bw := bw_in (by decide +kernel) (by decide +kernel)
set_option maxRecDepth 20000 in
theorem tw_methodLink_RX2_179_MLmax_long_x : Cond.methodLink RX2 179 Lib.MathLoose.max_long.x ∈ bw := bw_in (by decide +kernel) (by decide +kernel)
set_option maxRecDepth 20000 in
theorem tw_static_MLmax_long_x : Cond.static Lib.MathLoose.max_long.x ∈ bw := bw_in (by decide +kernel) (by decide +kernel)
set_option maxRecDepth 20000 in
theorem tw_code_Lib_MathLoose_max_long_x : Cond.code Lib.MathLoose.max_long.x Lib.MathLoose.max_long.code 4 (some .long) ∈ bw := bw_in (by decide +kernel) (by decide +kernel)
set_option maxRecDepth 20000 in
theorem tw_methodLink_RX2_95_yX2_above : Cond.methodLink RX2 95 yX2_above ∈ bw := bw_in (by decide +kernel) (by decide +kernel)
set_option maxRecDepth 20000 in
theorem tw_instanceMethod_yX2_above : Cond.instanceMethod yX2_above ∈ bw := bw_in (by decide +kernel) (by decide +kernel)
set_option maxRecDepth 20000 in
theorem tw_selects_RX2_yX2_above_yX2_above : Cond.selects RX2 yX2_above yX2_above ∈ bw := bw_in (by decide +kernel) (by decide +kernel)
set_option maxRecDepth 20000 in
theorem tw_code_yX2_above : Cond.code yX2_above cX2_above 3 (some .long) ∈ bw := bw_in (by decide +kernel) (by decide +kernel)
set_option maxRecDepth 20000 in
theorem tw_methodLink_RX2_98_yX2_gap : Cond.methodLink RX2 98 yX2_gap ∈ bw := bw_in (by decide +kernel) (by decide +kernel)
set_option maxRecDepth 20000 in
theorem tw_instanceMethod_yX2_gap : Cond.instanceMethod yX2_gap ∈ bw := bw_in (by decide +kernel) (by decide +kernel)
set_option maxRecDepth 20000 in
theorem tw_selects_RX2_yX2_gap_yX2_gap : Cond.selects RX2 yX2_gap yX2_gap ∈ bw := bw_in (by decide +kernel) (by decide +kernel)
set_option maxRecDepth 20000 in
theorem tw_code_yX2_gap : Cond.code yX2_gap cX2_gap 3 (some .long) ∈ bw := bw_in (by decide +kernel) (by decide +kernel)
set_option maxRecDepth 20000 in
theorem tw_methodLink_RX2_105_yX2_fused : Cond.methodLink RX2 105 yX2_fused ∈ bw := bw_in (by decide +kernel) (by decide +kernel)
set_option maxRecDepth 20000 in
theorem tw_instanceMethod_yX2_fused : Cond.instanceMethod yX2_fused ∈ bw := bw_in (by decide +kernel) (by decide +kernel)
set_option maxRecDepth 20000 in
theorem tw_selects_RX2_yX2_fused_yX2_fused : Cond.selects RX2 yX2_fused yX2_fused ∈ bw := bw_in (by decide +kernel) (by decide +kernel)
set_option maxRecDepth 20000 in
theorem tw_code_yX2_fused : Cond.code yX2_fused cX2_fused 7 (some .long) ∈ bw := bw_in (by decide +kernel) (by decide +kernel)
set_option maxRecDepth 20000 in
theorem tw_methodLink_RX2_181_yX2_fusedFinite : Cond.methodLink RX2 181 yX2_fusedFinite ∈ bw := bw_in (by decide +kernel) (by decide +kernel)
set_option maxRecDepth 20000 in
theorem tw_instanceMethod_yX2_fusedFinite : Cond.instanceMethod yX2_fusedFinite ∈ bw := bw_in (by decide +kernel) (by decide +kernel)
set_option maxRecDepth 20000 in
theorem tw_selects_RX2_yX2_fusedFinite_yX2_fusedFinite : Cond.selects RX2 yX2_fusedFinite yX2_fusedFinite ∈ bw := bw_in (by decide +kernel) (by decide +kernel)
set_option maxRecDepth 20000 in
theorem tw_code_yX2_fusedFinite : Cond.code yX2_fusedFinite cX2_fusedFinite 31 (some .long) ∈ bw := bw_in (by decide +kernel) (by decide +kernel)
set_option maxRecDepth 20000 in
theorem tw_methodLink_RX2_184_yX0_loweredLow : Cond.methodLink RX2 184 yX0_loweredLow ∈ bw := bw_in (by decide +kernel) (by decide +kernel)
set_option maxRecDepth 20000 in
theorem tw_methodLink_RX2_188_yX0_loweredHigh : Cond.methodLink RX2 188 yX0_loweredHigh ∈ bw := bw_in (by decide +kernel) (by decide +kernel)
set_option maxRecDepth 20000 in
theorem tw_static_yX0_loweredHigh : Cond.static yX0_loweredHigh ∈ bw := bw_in (by decide +kernel) (by decide +kernel)
set_option maxRecDepth 20000 in
theorem tw_code_yX0_loweredHigh : Cond.code yX0_loweredHigh cX0_loweredHigh 3 (some .long) ∈ bw := bw_in (by decide +kernel) (by decide +kernel)
set_option maxRecDepth 20000 in
theorem tw_methodLink_RX2_191_yX0_negatedHigh : Cond.methodLink RX2 191 yX0_negatedHigh ∈ bw := bw_in (by decide +kernel) (by decide +kernel)
set_option maxRecDepth 20000 in
theorem tw_static_yX0_negatedHigh : Cond.static yX0_negatedHigh ∈ bw := bw_in (by decide +kernel) (by decide +kernel)
set_option maxRecDepth 20000 in
theorem tw_code_yX0_negatedHigh : Cond.code yX0_negatedHigh cX0_negatedHigh 4 (some .long) ∈ bw := bw_in (by decide +kernel) (by decide +kernel)
set_option maxRecDepth 20000 in
theorem tw_constantLong_RX0_21_1 : Cond.constantLong RX0 21 (-1) ∈ bw := bw_in (by decide +kernel) (by decide +kernel)
set_option maxRecDepth 20000 in
theorem tw_methodLink_RX2_194_yX0_isBelow : Cond.methodLink RX2 194 yX0_isBelow ∈ bw := bw_in (by decide +kernel) (by decide +kernel)
set_option maxRecDepth 20000 in
theorem tw_static_yX0_isBelow : Cond.static yX0_isBelow ∈ bw := bw_in (by decide +kernel) (by decide +kernel)
set_option maxRecDepth 20000 in
theorem tw_code_yX0_isBelow : Cond.code yX0_isBelow cX0_isBelow 4 (some .boolean) ∈ bw := bw_in (by decide +kernel) (by decide +kernel)
set_option maxRecDepth 20000 in
theorem tw_constantLong_RX0_11_9223372036854775808 : Cond.constantLong RX0 11 (-9223372036854775808) ∈ bw := bw_in (by decide +kernel) (by decide +kernel)
set_option maxRecDepth 20000 in
theorem tw_methodLink_RX2_109_yX2_ofWhole : Cond.methodLink RX2 109 yX2_ofWhole ∈ bw := bw_in (by decide +kernel) (by decide +kernel)
set_option maxRecDepth 20000 in
theorem tw_instanceMethod_yX2_ofWhole : Cond.instanceMethod yX2_ofWhole ∈ bw := bw_in (by decide +kernel) (by decide +kernel)
set_option maxRecDepth 20000 in
theorem tw_selects_RX2_yX2_ofWhole_yX2_ofWhole : Cond.selects RX2 yX2_ofWhole yX2_ofWhole ∈ bw := bw_in (by decide +kernel) (by decide +kernel)
set_option maxRecDepth 20000 in
theorem tw_code_yX2_ofWhole : Cond.code yX2_ofWhole cX2_ofWhole 2 (some .long) ∈ bw := bw_in (by decide +kernel) (by decide +kernel)
set_option maxRecDepth 20000 in
theorem tw_methodLink_RX2_113_yX2_cut : Cond.methodLink RX2 113 yX2_cut ∈ bw := bw_in (by decide +kernel) (by decide +kernel)
set_option maxRecDepth 20000 in
theorem tw_instanceMethod_yX2_cut : Cond.instanceMethod yX2_cut ∈ bw := bw_in (by decide +kernel) (by decide +kernel)
set_option maxRecDepth 20000 in
theorem tw_selects_RX2_yX2_cut_yX2_cut : Cond.selects RX2 yX2_cut yX2_cut ∈ bw := bw_in (by decide +kernel) (by decide +kernel)
set_option maxRecDepth 20000 in
theorem tw_code_yX2_cut : Cond.code yX2_cut cX2_cut 6 (some .long) ∈ bw := bw_in (by decide +kernel) (by decide +kernel)
set_option maxRecDepth 20000 in
theorem tw_constantLong_RX2_200_2147483648 : Cond.constantLong RX2 200 (-2147483648) ∈ bw := bw_in (by decide +kernel) (by decide +kernel)
set_option maxRecDepth 20000 in
theorem tw_constantLong_RX2_202_2147483647 : Cond.constantLong RX2 202 (2147483647) ∈ bw := bw_in (by decide +kernel) (by decide +kernel)
set_option maxRecDepth 20000 in
theorem tw_methodLink_RL_45_yX5_act : Cond.methodLink RL 45 yX5_act ∈ bw := bw_in (by decide +kernel) (by decide +kernel)
set_option maxRecDepth 20000 in
theorem tw_instanceMethod_yX5_act : Cond.instanceMethod yX5_act ∈ bw := bw_in (by decide +kernel) (by decide +kernel)
set_option maxRecDepth 20000 in
theorem tw_selects_RX5_yX5_act_yX5_act : Cond.selects RX5 yX5_act yX5_act ∈ bw := bw_in (by decide +kernel) (by decide +kernel)
set_option maxRecDepth 20000 in
theorem tw_code_yX5_act : Cond.code yX5_act cX5_act 5 (some .int) ∈ bw := bw_in (by decide +kernel) (by decide +kernel)
set_option maxRecDepth 20000 in
theorem tw_methodLink_RX5_225_yX5_in : Cond.methodLink RX5 225 yX5_in ∈ bw := bw_in (by decide +kernel) (by decide +kernel)
set_option maxRecDepth 20000 in
theorem tw_static_yX5_in : Cond.static yX5_in ∈ bw := bw_in (by decide +kernel) (by decide +kernel)
set_option maxRecDepth 20000 in
theorem tw_code_yX5_in : Cond.code yX5_in cX5_in 3 (some .boolean) ∈ bw := bw_in (by decide +kernel) (by decide +kernel)
set_option maxRecDepth 20000 in
theorem tw_methodLink_RX5_229_yX5_thrown0 : Cond.methodLink RX5 229 yX5_thrown0 ∈ bw := bw_in (by decide +kernel) (by decide +kernel)
set_option maxRecDepth 20000 in
theorem tw_instanceMethod_yX5_thrown0 : Cond.instanceMethod yX5_thrown0 ∈ bw := bw_in (by decide +kernel) (by decide +kernel)
set_option maxRecDepth 20000 in
theorem tw_selects_RX5_yX5_thrown0_yX5_thrown0 : Cond.selects RX5 yX5_thrown0 yX5_thrown0 ∈ bw := bw_in (by decide +kernel) (by decide +kernel)
set_option maxRecDepth 20000 in
theorem tw_code_yX5_thrown0 : Cond.code yX5_thrown0 cX5_thrown0 2 (some .int) ∈ bw := bw_in (by decide +kernel) (by decide +kernel)
set_option maxRecDepth 20000 in
theorem tw_fieldLink_RX5_212_GlulxFloatsModel_thrownNow_I : Cond.fieldLink RX5 212 "GlulxFloatsModel" "thrownNow" "I" ∈ bw := bw_in (by decide +kernel) (by decide +kernel)
set_option maxRecDepth 20000 in
theorem tw_methodLink_RX5_232_yX5_single : Cond.methodLink RX5 232 yX5_single ∈ bw := bw_in (by decide +kernel) (by decide +kernel)
set_option maxRecDepth 20000 in
theorem tw_instanceMethod_yX5_single : Cond.instanceMethod yX5_single ∈ bw := bw_in (by decide +kernel) (by decide +kernel)
set_option maxRecDepth 20000 in
theorem tw_selects_RX5_yX5_single_yX5_single : Cond.selects RX5 yX5_single yX5_single ∈ bw := bw_in (by decide +kernel) (by decide +kernel)
set_option maxRecDepth 20000 in
theorem tw_code_yX5_single : Cond.code yX5_single cX5_single 7 (some .int) ∈ bw := bw_in (by decide +kernel) (by decide +kernel)
set_option maxRecDepth 20000 in
theorem tw_methodLink_RX5_217_yX5_bits : Cond.methodLink RX5 217 yX5_bits ∈ bw := bw_in (by decide +kernel) (by decide +kernel)
set_option maxRecDepth 20000 in
theorem tw_static_yX5_bits : Cond.static yX5_bits ∈ bw := bw_in (by decide +kernel) (by decide +kernel)
set_option maxRecDepth 20000 in
theorem tw_code_yX5_bits : Cond.code yX5_bits cX5_bits 1 (some .long) ∈ bw := bw_in (by decide +kernel) (by decide +kernel)
set_option maxRecDepth 20000 in
theorem tw_constantLong_RX5_215_4294967295 : Cond.constantLong RX5 215 (4294967295) ∈ bw := bw_in (by decide +kernel) (by decide +kernel)
set_option maxRecDepth 20000 in
theorem tw_methodLink_RX5_221_yX5_acted : Cond.methodLink RX5 221 yX5_acted ∈ bw := bw_in (by decide +kernel) (by decide +kernel)
set_option maxRecDepth 20000 in
theorem tw_instanceMethod_yX5_acted : Cond.instanceMethod yX5_acted ∈ bw := bw_in (by decide +kernel) (by decide +kernel)
set_option maxRecDepth 20000 in
theorem tw_selects_RX5_yX5_acted_yX5_acted : Cond.selects RX5 yX5_acted yX5_acted ∈ bw := bw_in (by decide +kernel) (by decide +kernel)
set_option maxRecDepth 20000 in
theorem tw_code_yX5_acted : Cond.code yX5_acted cX5_acted 9 (some .long) ∈ bw := bw_in (by decide +kernel) (by decide +kernel)
set_option maxRecDepth 20000 in
theorem tw_methodLink_RX5_167_yX5_add : Cond.methodLink RX5 167 yX5_add ∈ bw := bw_in (by decide +kernel) (by decide +kernel)
set_option maxRecDepth 20000 in
theorem tw_instanceMethod_yX5_add : Cond.instanceMethod yX5_add ∈ bw := bw_in (by decide +kernel) (by decide +kernel)
set_option maxRecDepth 20000 in
theorem tw_selects_RX5_yX5_add_yX5_add : Cond.selects RX5 yX5_add yX5_add ∈ bw := bw_in (by decide +kernel) (by decide +kernel)
set_option maxRecDepth 20000 in
theorem tw_code_yX5_add : Cond.code yX5_add cX5_add 7 (some .long) ∈ bw := bw_in (by decide +kernel) (by decide +kernel)
set_option maxRecDepth 20000 in
theorem tw_methodLink_RX5_102_yX5_isNan : Cond.methodLink RX5 102 yX5_isNan ∈ bw := bw_in (by decide +kernel) (by decide +kernel)
set_option maxRecDepth 20000 in
theorem tw_static_yX5_isNan : Cond.static yX5_isNan ∈ bw := bw_in (by decide +kernel) (by decide +kernel)
set_option maxRecDepth 20000 in
theorem tw_code_yX5_isNan : Cond.code yX5_isNan cX5_isNan 3 (some .boolean) ∈ bw := bw_in (by decide +kernel) (by decide +kernel)
set_option maxRecDepth 20000 in
theorem tw_methodLink_RX5_67_yX5_size : Cond.methodLink RX5 67 yX5_size ∈ bw := bw_in (by decide +kernel) (by decide +kernel)
set_option maxRecDepth 20000 in
theorem tw_static_yX5_size : Cond.static yX5_size ∈ bw := bw_in (by decide +kernel) (by decide +kernel)
set_option maxRecDepth 20000 in
theorem tw_code_yX5_size : Cond.code yX5_size cX5_size 3 (some .long) ∈ bw := bw_in (by decide +kernel) (by decide +kernel)
set_option maxRecDepth 20000 in
theorem tw_constantLong_RX5_65_1 : Cond.constantLong RX5 65 (-1) ∈ bw := bw_in (by decide +kernel) (by decide +kernel)
set_option maxRecDepth 20000 in
theorem tw_methodLink_RX5_61_yX5_signBit : Cond.methodLink RX5 61 yX5_signBit ∈ bw := bw_in (by decide +kernel) (by decide +kernel)
set_option maxRecDepth 20000 in
theorem tw_static_yX5_signBit : Cond.static yX5_signBit ∈ bw := bw_in (by decide +kernel) (by decide +kernel)
set_option maxRecDepth 20000 in
theorem tw_code_yX5_signBit : Cond.code yX5_signBit cX5_signBit 1 (some .long) ∈ bw := bw_in (by decide +kernel) (by decide +kernel)
set_option maxRecDepth 20000 in
theorem tw_constantLong_RX5_46_9223372036854775808 : Cond.constantLong RX5 46 (-9223372036854775808) ∈ bw := bw_in (by decide +kernel) (by decide +kernel)
set_option maxRecDepth 20000 in
theorem tw_constantLong_RX5_48_2147483648 : Cond.constantLong RX5 48 (2147483648) ∈ bw := bw_in (by decide +kernel) (by decide +kernel)
set_option maxRecDepth 20000 in
theorem tw_methodLink_RX5_71_yX5_infinite : Cond.methodLink RX5 71 yX5_infinite ∈ bw := bw_in (by decide +kernel) (by decide +kernel)
set_option maxRecDepth 20000 in
theorem tw_static_yX5_infinite : Cond.static yX5_infinite ∈ bw := bw_in (by decide +kernel) (by decide +kernel)
