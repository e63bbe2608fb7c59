set_option maxRecDepth 20000 in
theorem tw_methodLink_RX1_59_yX1_putWhole : Cond.methodLink RX1 59 yX1_putWhole ∈ bw := bw_in (by decide +kernel) (by decide +kernel)
set_option maxRecDepth 20000 in
theorem tw_instanceMethod_yX1_putWhole : Cond.instanceMethod yX1_putWhole ∈ bw := bw_in (by decide +kernel) (by decide +kernel)
set_option maxRecDepth 20000 in
theorem tw_selects_RX1_yX1_putWhole_yX1_putWhole : Cond.selects RX1 yX1_putWhole yX1_putWhole ∈ bw := bw_in (by decide +kernel) (by decide +kernel)
set_option maxRecDepth 20000 in
theorem tw_code_yX1_putWhole : Cond.code yX1_putWhole cX1_putWhole 4 none ∈ bw := bw_in (by decide +kernel) (by decide +kernel)
set_option maxRecDepth 20000 in
theorem tw_methodLink_RX1_67_yX1_takeLastDigit : Cond.methodLink RX1 67 yX1_takeLastDigit ∈ bw := bw_in (by decide +kernel) (by decide +kernel)
set_option maxRecDepth 20000 in
theorem tw_instanceMethod_yX1_takeLastDigit : Cond.instanceMethod yX1_takeLastDigit ∈ bw := bw_in (by decide +kernel) (by decide +kernel)
set_option maxRecDepth 20000 in
theorem tw_selects_RX1_yX1_takeLastDigit_yX1_takeLastDigit : Cond.selects RX1 yX1_takeLastDigit yX1_takeLastDigit ∈ bw := bw_in (by decide +kernel) (by decide +kernel)
set_option maxRecDepth 20000 in
theorem tw_code_yX1_takeLastDigit : Cond.code yX1_takeLastDigit cX1_takeLastDigit 6 (some .int) ∈ bw := bw_in (by decide +kernel) (by decide +kernel)
set_option maxRecDepth 20000 in
theorem tw_constantLong_RX1_79_10 : Cond.constantLong RX1 79 (10) ∈ bw := bw_in (by decide +kernel) (by decide +kernel)
set_option maxRecDepth 20000 in
theorem tw_methodLink_RX1_71_yX1_hasWholePart : Cond.methodLink RX1 71 yX1_hasWholePart ∈ bw := bw_in (by decide +kernel) (by decide +kernel)
set_option maxRecDepth 20000 in
theorem tw_instanceMethod_yX1_hasWholePart : Cond.instanceMethod yX1_hasWholePart ∈ bw := bw_in (by decide +kernel) (by decide +kernel)
set_option maxRecDepth 20000 in
theorem tw_selects_RX1_yX1_hasWholePart_yX1_hasWholePart : Cond.selects RX1 yX1_hasWholePart yX1_hasWholePart ∈ bw := bw_in (by decide +kernel) (by decide +kernel)
set_option maxRecDepth 20000 in
theorem tw_code_yX1_hasWholePart : Cond.code yX1_hasWholePart cX1_hasWholePart 2 (some .boolean) ∈ bw := bw_in (by decide +kernel) (by decide +kernel)
set_option maxRecDepth 20000 in
theorem tw_methodLink_RX1_75_yX1_turnRound : Cond.methodLink RX1 75 yX1_turnRound ∈ bw := bw_in (by decide +kernel) (by decide +kernel)
set_option maxRecDepth 20000 in
theorem tw_instanceMethod_yX1_turnRound : Cond.instanceMethod yX1_turnRound ∈ bw := bw_in (by decide +kernel) (by decide +kernel)
set_option maxRecDepth 20000 in
theorem tw_selects_RX1_yX1_turnRound_yX1_turnRound : Cond.selects RX1 yX1_turnRound yX1_turnRound ∈ bw := bw_in (by decide +kernel) (by decide +kernel)
set_option maxRecDepth 20000 in
theorem tw_code_yX1_turnRound : Cond.code yX1_turnRound cX1_turnRound 6 none ∈ bw := bw_in (by decide +kernel) (by decide +kernel)
set_option maxRecDepth 20000 in
theorem tw_methodLink_RX1_62_yX1_putFraction : Cond.methodLink RX1 62 yX1_putFraction ∈ bw := bw_in (by decide +kernel) (by decide +kernel)
set_option maxRecDepth 20000 in
theorem tw_instanceMethod_yX1_putFraction : Cond.instanceMethod yX1_putFraction ∈ bw := bw_in (by decide +kernel) (by decide +kernel)
set_option maxRecDepth 20000 in
theorem tw_selects_RX1_yX1_putFraction_yX1_putFraction : Cond.selects RX1 yX1_putFraction yX1_putFraction ∈ bw := bw_in (by decide +kernel) (by decide +kernel)
set_option maxRecDepth 20000 in
theorem tw_code_yX1_putFraction : Cond.code yX1_putFraction cX1_putFraction 8 none ∈ bw := bw_in (by decide +kernel) (by decide +kernel)
set_option maxRecDepth 20000 in
theorem tw_methodLink_RL_85_yX5_print : Cond.methodLink RL 85 yX5_print ∈ bw := bw_in (by decide +kernel) (by decide +kernel)
set_option maxRecDepth 20000 in
theorem tw_instanceMethod_yX5_print : Cond.instanceMethod yX5_print ∈ bw := bw_in (by decide +kernel) (by decide +kernel)
set_option maxRecDepth 20000 in
theorem tw_selects_RX5_yX5_print_yX5_print : Cond.selects RX5 yX5_print yX5_print ∈ bw := bw_in (by decide +kernel) (by decide +kernel)
set_option maxRecDepth 20000 in
theorem tw_code_yX5_print : Cond.code yX5_print cX5_print 6 (some .int) ∈ bw := bw_in (by decide +kernel) (by decide +kernel)
set_option maxRecDepth 20000 in
theorem tw_fieldLink_RX5_245_GlulxFloatsModel_outSize_I : Cond.fieldLink RX5 245 "GlulxFloatsModel" "outSize" "I" ∈ bw := bw_in (by decide +kernel) (by decide +kernel)
set_option maxRecDepth 20000 in
theorem tw_methodLink_RX5_259_yX5_putName : Cond.methodLink RX5 259 yX5_putName ∈ bw := bw_in (by decide +kernel) (by decide +kernel)
set_option maxRecDepth 20000 in
theorem tw_instanceMethod_yX5_putName : Cond.instanceMethod yX5_putName ∈ bw := bw_in (by decide +kernel) (by decide +kernel)
set_option maxRecDepth 20000 in
theorem tw_selects_RX5_yX5_putName_yX5_putName : Cond.selects RX5 yX5_putName yX5_putName ∈ bw := bw_in (by decide +kernel) (by decide +kernel)
set_option maxRecDepth 20000 in
theorem tw_code_yX5_putName : Cond.code yX5_putName cX5_putName 4 none ∈ bw := bw_in (by decide +kernel) (by decide +kernel)
set_option maxRecDepth 20000 in
theorem tw_methodLink_RX5_255_yX5_put : Cond.methodLink RX5 255 yX5_put ∈ bw := bw_in (by decide +kernel) (by decide +kernel)
set_option maxRecDepth 20000 in
theorem tw_instanceMethod_yX5_put : Cond.instanceMethod yX5_put ∈ bw := bw_in (by decide +kernel) (by decide +kernel)
set_option maxRecDepth 20000 in
theorem tw_selects_RX5_yX5_put_yX5_put : Cond.selects RX5 yX5_put yX5_put ∈ bw := bw_in (by decide +kernel) (by decide +kernel)
set_option maxRecDepth 20000 in
theorem tw_code_yX5_put : Cond.code yX5_put cX5_put 2 none ∈ bw := bw_in (by decide +kernel) (by decide +kernel)
set_option maxRecDepth 20000 in
theorem tw_methodLink_RX5_263_yX5_putWhole : Cond.methodLink RX5 263 yX5_putWhole ∈ bw := bw_in (by decide +kernel) (by decide +kernel)
set_option maxRecDepth 20000 in
theorem tw_instanceMethod_yX5_putWhole : Cond.instanceMethod yX5_putWhole ∈ bw := bw_in (by decide +kernel) (by decide +kernel)
set_option maxRecDepth 20000 in
theorem tw_selects_RX5_yX5_putWhole_yX5_putWhole : Cond.selects RX5 yX5_putWhole yX5_putWhole ∈ bw := bw_in (by decide +kernel) (by decide +kernel)
set_option maxRecDepth 20000 in
theorem tw_code_yX5_putWhole : Cond.code yX5_putWhole cX5_putWhole 6 none ∈ bw := bw_in (by decide +kernel) (by decide +kernel)
set_option maxRecDepth 20000 in
theorem tw_fieldLink_RX5_248_GlulxFloatsModel_decimalMany_I : Cond.fieldLink RX5 248 "GlulxFloatsModel" "decimalMany" "I" ∈ bw := bw_in (by decide +kernel) (by decide +kernel)
set_option maxRecDepth 20000 in
theorem tw_methodLink_RX5_251_yX5_twice : Cond.methodLink RX5 251 yX5_twice ∈ bw := bw_in (by decide +kernel) (by decide +kernel)
set_option maxRecDepth 20000 in
theorem tw_instanceMethod_yX5_twice : Cond.instanceMethod yX5_twice ∈ bw := bw_in (by decide +kernel) (by decide +kernel)
set_option maxRecDepth 20000 in
theorem tw_selects_RX5_yX5_twice_yX5_twice : Cond.selects RX5 yX5_twice yX5_twice ∈ bw := bw_in (by decide +kernel) (by decide +kernel)
set_option maxRecDepth 20000 in
theorem tw_code_yX5_twice : Cond.code yX5_twice cX5_twice 4 none ∈ bw := bw_in (by decide +kernel) (by decide +kernel)
set_option maxRecDepth 20000 in
theorem tw_methodLink_RX5_267_yX5_layBehind : Cond.methodLink RX5 267 yX5_layBehind ∈ bw := bw_in (by decide +kernel) (by decide +kernel)
set_option maxRecDepth 20000 in
theorem tw_instanceMethod_yX5_layBehind : Cond.instanceMethod yX5_layBehind ∈ bw := bw_in (by decide +kernel) (by decide +kernel)
set_option maxRecDepth 20000 in
theorem tw_selects_RX5_yX5_layBehind_yX5_layBehind : Cond.selects RX5 yX5_layBehind yX5_layBehind ∈ bw := bw_in (by decide +kernel) (by decide +kernel)
set_option maxRecDepth 20000 in
theorem tw_code_yX5_layBehind : Cond.code yX5_layBehind cX5_layBehind 6 none ∈ bw := bw_in (by decide +kernel) (by decide +kernel)
set_option maxRecDepth 20000 in
theorem tw_methodLink_RX5_270_yX5_nextDigit : Cond.methodLink RX5 270 yX5_nextDigit ∈ bw := bw_in (by decide +kernel) (by decide +kernel)
set_option maxRecDepth 20000 in
theorem tw_instanceMethod_yX5_nextDigit : Cond.instanceMethod yX5_nextDigit ∈ bw := bw_in (by decide +kernel) (by decide +kernel)
set_option maxRecDepth 20000 in
theorem tw_selects_RX5_yX5_nextDigit_yX5_nextDigit : Cond.selects RX5 yX5_nextDigit yX5_nextDigit ∈ bw := bw_in (by decide +kernel) (by decide +kernel)
set_option maxRecDepth 20000 in
theorem tw_code_yX5_nextDigit : Cond.code yX5_nextDigit cX5_nextDigit 3 (some .int) ∈ bw := bw_in (by decide +kernel) (by decide +kernel)
set_option maxRecDepth 20000 in
theorem tw_constant_RX5_258_65535 : Cond.constant RX5 258 (65535) ∈ bw := bw_in (by decide +kernel) (by decide +kernel)
set_option maxRecDepth 20000 in
theorem tw_methodLink_RL_86_yX4_at : Cond.methodLink RL 86 yX4_at ∈ bw := bw_in (by decide +kernel) (by decide +kernel)
set_option maxRecDepth 20000 in
theorem tw_instanceMethod_yX4_at : Cond.instanceMethod yX4_at ∈ bw := bw_in (by decide +kernel) (by decide +kernel)
set_option maxRecDepth 20000 in
theorem tw_selects_RX4_yX4_at_yX4_at : Cond.selects RX4 yX4_at yX4_at ∈ bw := bw_in (by decide +kernel) (by decide +kernel)
set_option maxRecDepth 20000 in
theorem tw_code_yX4_at : Cond.code yX4_at cX4_at 2 (some .int) ∈ bw := bw_in (by decide +kernel) (by decide +kernel)
set_option maxRecDepth 20000 in
theorem tw_methodLink_RX4_59_yX1_byteAt : Cond.methodLink RX4 59 yX1_byteAt ∈ bw := bw_in (by decide +kernel) (by decide +kernel)
set_option maxRecDepth 20000 in
theorem tw_instanceMethod_yX1_byteAt : Cond.instanceMethod yX1_byteAt ∈ bw := bw_in (by decide +kernel) (by decide +kernel)
set_option maxRecDepth 20000 in
theorem tw_selects_RX1_yX1_byteAt_yX1_byteAt : Cond.selects RX1 yX1_byteAt yX1_byteAt ∈ bw := bw_in (by decide +kernel) (by decide +kernel)
set_option maxRecDepth 20000 in
theorem tw_code_yX1_byteAt : Cond.code yX1_byteAt cX1_byteAt 2 (some .int) ∈ bw := bw_in (by decide +kernel) (by decide +kernel)
set_option maxRecDepth 20000 in
theorem tw_methodLink_RL_89_yX5_at : Cond.methodLink RL 89 yX5_at ∈ bw := bw_in (by decide +kernel) (by decide +kernel)
set_option maxRecDepth 20000 in
theorem tw_instanceMethod_yX5_at : Cond.instanceMethod yX5_at ∈ bw := bw_in (by decide +kernel) (by decide +kernel)
set_option maxRecDepth 20000 in
theorem tw_selects_RX5_yX5_at_yX5_at : Cond.selects RX5 yX5_at yX5_at ∈ bw := bw_in (by decide +kernel) (by decide +kernel)
set_option maxRecDepth 20000 in
theorem tw_code_yX5_at : Cond.code yX5_at cX5_at 2 (some .int) ∈ bw := bw_in (by decide +kernel) (by decide +kernel)
set_option maxRecDepth 20000 in
theorem tw_methodLink_RL_90_yL_set : Cond.methodLink RL 90 yL_set ∈ bw := bw_in (by decide +kernel) (by decide +kernel)
set_option maxRecDepth 20000 in
theorem tw_static_yL_set : Cond.static yL_set ∈ bw := bw_in (by decide +kernel) (by decide +kernel)
set_option maxRecDepth 20000 in
theorem tw_code_yL_set : Cond.codeWith yL_set cL_set 5 (some .int) [(0, 10, 13, 30)] ∈ bw := bw_in (by decide +kernel) (by decide +kernel)
set_option maxRecDepth 20000 in
theorem tw_classLink_RL_30_java_lang_ArrayIndexOutOfBoundsException : Cond.classLink RL 30 "java/lang/ArrayIndexOutOfBoundsException" ∈ bw := bw_in (by decide +kernel) (by decide +kernel)
set_option maxRecDepth 20000 in
theorem tw_methodLink_RL_26_yX4_set : Cond.methodLink RL 26 yX4_set ∈ bw := bw_in (by decide +kernel) (by decide +kernel)
set_option maxRecDepth 20000 in
theorem tw_instanceMethod_yX4_set : Cond.instanceMethod yX4_set ∈ bw := bw_in (by decide +kernel) (by decide +kernel)
set_option maxRecDepth 20000 in
theorem tw_selects_RX4_yX4_set_yX4_set : Cond.selects RX4 yX4_set yX4_set ∈ bw := bw_in (by decide +kernel) (by decide +kernel)
set_option maxRecDepth 20000 in
theorem tw_code_yX4_set : Cond.code yX4_set cX4_set 3 (some .int) ∈ bw := bw_in (by decide +kernel) (by decide +kernel)
set_option maxRecDepth 20000 in
theorem tw_classLink_RX4_67_RJx00060 : Cond.classLink RX4 67 RJx00060 ∈ bw := bw_in (by decide +kernel) (by decide +kernel)
set_option maxRecDepth 20000 in
theorem tw_instantiable_RJx00060_6 : Cond.instantiable RJx00060 6 ∈ bw := bw_in (by decide +kernel) (by decide +kernel)
set_option maxRecDepth 20000 in
theorem tw_initialized_RJx00060 : Cond.initialized RJx00060 ∈ bw := bw_in (by decide +kernel) (by decide +kernel)
set_option maxRecDepth 20000 in
theorem tw_methodLink_RX4_63_yX3_isWord : Cond.methodLink RX4 63 yX3_isWord ∈ bw := bw_in (by decide +kernel) (by decide +kernel)
set_option maxRecDepth 20000 in
theorem tw_static_yX3_isWord : Cond.static yX3_isWord ∈ bw := bw_in (by decide +kernel) (by decide +kernel)
set_option maxRecDepth 20000 in
theorem tw_code_yX3_isWord : Cond.code yX3_isWord cX3_isWord 1 (some .boolean) ∈ bw := bw_in (by decide +kernel) (by decide +kernel)
set_option maxRecDepth 20000 in
theorem tw_methodLink_RX4_72_yX3_replaced : Cond.methodLink RX4 72 yX3_replaced ∈ bw := bw_in (by decide +kernel) (by decide +kernel)
set_option maxRecDepth 20000 in
theorem tw_instanceMethod_yX3_replaced : Cond.instanceMethod yX3_replaced ∈ bw := bw_in (by decide +kernel) (by decide +kernel)
set_option maxRecDepth 20000 in
theorem tw_selects_RX3_yX3_replaced_yX3_replaced : Cond.selects RX3 yX3_replaced yX3_replaced ∈ bw := bw_in (by decide +kernel) (by decide +kernel)
set_option maxRecDepth 20000 in
theorem tw_code_yX3_replaced : Cond.code yX3_replaced cX3_replaced 4 (some .int) ∈ bw := bw_in (by decide +kernel) (by decide +kernel)
set_option maxRecDepth 20000 in
theorem tw_methodLink_RX3_47_yX3_wordAt : Cond.methodLink RX3 47 yX3_wordAt ∈ bw := bw_in (by decide +kernel) (by decide +kernel)
set_option maxRecDepth 20000 in
theorem tw_instanceMethod_yX3_wordAt : Cond.instanceMethod yX3_wordAt ∈ bw := bw_in (by decide +kernel) (by decide +kernel)
set_option maxRecDepth 20000 in
theorem tw_selects_RX3_yX3_wordAt_yX3_wordAt : Cond.selects RX3 yX3_wordAt yX3_wordAt ∈ bw := bw_in (by decide +kernel) (by decide +kernel)
set_option maxRecDepth 20000 in
theorem tw_code_yX3_wordAt : Cond.code yX3_wordAt cX3_wordAt 2 (some .int) ∈ bw := bw_in (by decide +kernel) (by decide +kernel)
set_option maxRecDepth 20000 in
theorem tw_methodLink_RX3_41_yX3_isWord : Cond.methodLink RX3 41 yX3_isWord ∈ bw := bw_in (by decide +kernel) (by decide +kernel)
set_option maxRecDepth 20000 in
theorem tw_methodLink_RL_93_yX5_set : Cond.methodLink RL 93 yX5_set ∈ bw := bw_in (by decide +kernel) (by decide +kernel)
set_option maxRecDepth 20000 in
theorem tw_instanceMethod_yX5_set : Cond.instanceMethod yX5_set ∈ bw := bw_in (by decide +kernel) (by decide +kernel)
set_option maxRecDepth 20000 in
theorem tw_selects_RX5_yX5_set_yX5_set : Cond.selects RX5 yX5_set yX5_set ∈ bw := bw_in (by decide +kernel) (by decide +kernel)
set_option maxRecDepth 20000 in
theorem tw_code_yX5_set : Cond.code yX5_set cX5_set 4 (some .int) ∈ bw := bw_in (by decide +kernel) (by decide +kernel)
set_option maxRecDepth 20000 in
theorem tw_methodLink_RL_94_yL_word : Cond.methodLink RL 94 yL_word ∈ bw := bw_in (by decide +kernel) (by decide +kernel)
set_option maxRecDepth 20000 in
theorem tw_static_yL_word : Cond.static yL_word ∈ bw := bw_in (by decide +kernel) (by decide +kernel)
set_option maxRecDepth 20000 in
theorem tw_code_yL_word : Cond.codeWith yL_word cL_word 4 (some .int) [(0, 9, 12, 30)] ∈ bw := bw_in (by decide +kernel) (by decide +kernel)
set_option maxRecDepth 20000 in
theorem tw_methodLink_RL_32_yX4_word : Cond.methodLink RL 32 yX4_word ∈ bw := bw_in (by decide +kernel) (by decide +kernel)
set_option maxRecDepth 20000 in
theorem tw_instanceMethod_yX4_word : Cond.instanceMethod yX4_word ∈ bw := bw_in (by decide +kernel) (by decide +kernel)
set_option maxRecDepth 20000 in
theorem tw_selects_RX4_yX4_word_yX4_word : Cond.selects RX4 yX4_word yX4_word ∈ bw := bw_in (by decide +kernel) (by decide +kernel)
set_option maxRecDepth 20000 in
theorem tw_code_yX4_word : Cond.code yX4_word cX4_word 2 (some .int) ∈ bw := bw_in (by decide +kernel) (by decide +kernel)
set_option maxRecDepth 20000 in
theorem tw_methodLink_RX4_76_yX3_wordAt : Cond.methodLink RX4 76 yX3_wordAt ∈ bw := bw_in (by decide +kernel) (by decide +kernel)
set_option maxRecDepth 20000 in
theorem tw_methodLink_RL_97_yX5_word : Cond.methodLink RL 97 yX5_word ∈ bw := bw_in (by decide +kernel) (by decide +kernel)
set_option maxRecDepth 20000 in
theorem tw_instanceMethod_yX5_word : Cond.instanceMethod yX5_word ∈ bw := bw_in (by decide +kernel) (by decide +kernel)
set_option maxRecDepth 20000 in
theorem tw_selects_RX5_yX5_word_yX5_word : Cond.selects RX5 yX5_word yX5_word ∈ bw := bw_in (by decide +kernel) (by decide +kernel)
set_option maxRecDepth 20000 in
theorem tw_code_yX5_word : Cond.code yX5_word cX5_word 2 (some .int) ∈ bw := bw_in (by decide +kernel) (by decide +kernel)
set_option maxRecDepth 20000 in
theorem tw_methodLink_RL_98_yX4_step : Cond.methodLink RL 98 yX4_step ∈ bw := bw_in (by decide +kernel) (by decide +kernel)
set_option maxRecDepth 20000 in
theorem tw_instanceMethod_yX4_step : Cond.instanceMethod yX4_step ∈ bw := bw_in (by decide +kernel) (by decide +kernel)
set_option maxRecDepth 20000 in
theorem tw_selects_RX4_yX4_step_yX4_step : Cond.selects RX4 yX4_step yX4_step ∈ bw := bw_in (by decide +kernel) (by decide +kernel)
set_option maxRecDepth 20000 in
theorem tw_code_yX4_step : Cond.code yX4_step cX4_step 6 (some .int) ∈ bw := bw_in (by decide +kernel) (by decide +kernel)
set_option maxRecDepth 20000 in
theorem tw_methodLink_RX4_79_yX3_fits : Cond.methodLink RX4 79 yX3_fits ∈ bw := bw_in (by decide +kernel) (by decide +kernel)
set_option maxRecDepth 20000 in
theorem tw_static_yX3_fits : Cond.static yX3_fits ∈ bw := bw_in (by decide +kernel) (by decide +kernel)
set_option maxRecDepth 20000 in
theorem tw_code_yX3_fits : Cond.code yX3_fits cX3_fits 6 (some .boolean) ∈ bw := bw_in (by decide +kernel) (by decide +kernel)
set_option maxRecDepth 20000 in
theorem tw_methodLink_RX3_34_yX3_isAct : Cond.methodLink RX3 34 yX3_isAct ∈ bw := bw_in (by decide +kernel) (by decide +kernel)
set_option maxRecDepth 20000 in
theorem tw_static_yX3_isAct : Cond.static yX3_isAct ∈ bw := bw_in (by decide +kernel) (by decide +kernel)
set_option maxRecDepth 20000 in
theorem tw_code_yX3_isAct : Cond.code yX3_isAct cX3_isAct 1 (some .boolean) ∈ bw := bw_in (by decide +kernel) (by decide +kernel)
set_option maxRecDepth 20000 in
theorem tw_methodLink_RX3_38_yX3_isJump : Cond.methodLink RX3 38 yX3_isJump ∈ bw := bw_in (by decide +kernel) (by decide +kernel)
set_option maxRecDepth 20000 in
theorem tw_static_yX3_isJump : Cond.static yX3_isJump ∈ bw := bw_in (by decide +kernel) (by decide +kernel)
set_option maxRecDepth 20000 in
theorem tw_code_yX3_isJump : Cond.code yX3_isJump cX3_isJump 1 (some .boolean) ∈ bw := bw_in (by decide +kernel) (by decide +kernel)
set_option maxRecDepth 20000 in
theorem tw_methodLink_RX3_44_yX3_isStep : Cond.methodLink RX3 44 yX3_isStep ∈ bw := bw_in (by decide +kernel) (by decide +kernel)
set_option maxRecDepth 20000 in
theorem tw_static_yX3_isStep : Cond.static yX3_isStep ∈ bw := bw_in (by decide +kernel) (by decide +kernel)
set_option maxRecDepth 20000 in
theorem tw_code_yX3_isStep : Cond.code yX3_isStep cX3_isStep 1 (some .boolean) ∈ bw := bw_in (by decide +kernel) (by decide +kernel)
set_option maxRecDepth 20000 in
theorem tw_methodLink_RX4_83_yX3_add : Cond.methodLink RX4 83 yX3_add ∈ bw := bw_in (by decide +kernel) (by decide +kernel)
set_option maxRecDepth 20000 in
theorem tw_instanceMethod_yX3_add : Cond.instanceMethod yX3_add ∈ bw := bw_in (by decide +kernel) (by decide +kernel)
set_option maxRecDepth 20000 in
theorem tw_selects_RX3_yX3_add_yX3_add : Cond.selects RX3 yX3_add yX3_add ∈ bw := bw_in (by decide +kernel) (by decide +kernel)
set_option maxRecDepth 20000 in
theorem tw_code_yX3_add : Cond.code yX3_add cX3_add 6 (some .int) ∈ bw := bw_in (by decide +kernel) (by decide +kernel)
set_option maxRecDepth 20000 in
theorem tw_fieldLink_RX3_51_GlulxFloats_Program_count_I : Cond.fieldLink RX3 51 "GlulxFloats$Program" "count" "I" ∈ bw := bw_in (by decide +kernel) (by decide +kernel)
set_option maxRecDepth 20000 in
theorem tw_methodLink_RL_102_yX5_step : Cond.methodLink RL 102 yX5_step ∈ bw := bw_in (by decide +kernel) (by decide +kernel)
set_option maxRecDepth 20000 in
theorem tw_instanceMethod_yX5_step : Cond.instanceMethod yX5_step ∈ bw := bw_in (by decide +kernel) (by decide +kernel)
set_option maxRecDepth 20000 in
theorem tw_selects_RX5_yX5_step_yX5_step : Cond.selects RX5 yX5_step yX5_step ∈ bw := bw_in (by decide +kernel) (by decide +kernel)
set_option maxRecDepth 20000 in
theorem tw_code_yX5_step : Cond.code yX5_step cX5_step 9 (some .int) ∈ bw := bw_in (by decide +kernel) (by decide +kernel)
set_option maxRecDepth 20000 in
theorem tw_fieldLink_RX5_274_GlulxFloatsModel_steps_I : Cond.fieldLink RX5 274 "GlulxFloatsModel" "steps" "I" ∈ bw := bw_in (by decide +kernel) (by decide +kernel)
set_option maxRecDepth 20000 in
theorem tw_methodLink_RL_103_yX4_drop : Cond.methodLink RL 103 yX4_drop ∈ bw := bw_in (by decide +kernel) (by decide +kernel)
set_option maxRecDepth 20000 in
theorem tw_instanceMethod_yX4_drop : Cond.instanceMethod yX4_drop ∈ bw := bw_in (by decide +kernel) (by decide +kernel)
set_option maxRecDepth 20000 in
theorem tw_selects_RX4_yX4_drop_yX4_drop : Cond.selects RX4 yX4_drop yX4_drop ∈ bw := bw_in (by decide +kernel) (by decide +kernel)
set_option maxRecDepth 20000 in
theorem tw_code_yX4_drop : Cond.code yX4_drop cX4_drop 1 (some .int) ∈ bw := bw_in (by decide +kernel) (by decide +kernel)
set_option maxRecDepth 20000 in
theorem tw_methodLink_RX4_87_yX3_forgetSteps : Cond.methodLink RX4 87 yX3_forgetSteps ∈ bw := bw_in (by decide +kernel) (by decide +kernel)
set_option maxRecDepth 20000 in
theorem tw_instanceMethod_yX3_forgetSteps : Cond.instanceMethod yX3_forgetSteps ∈ bw := bw_in (by decide +kernel) (by decide +kernel)
set_option maxRecDepth 20000 in
theorem tw_selects_RX3_yX3_forgetSteps_yX3_forgetSteps : Cond.selects RX3 yX3_forgetSteps yX3_forgetSteps ∈ bw := bw_in (by decide +kernel) (by decide +kernel)
set_option maxRecDepth 20000 in
theorem tw_code_yX3_forgetSteps : Cond.code yX3_forgetSteps cX3_forgetSteps 2 (some .int) ∈ bw := bw_in (by decide +kernel) (by decide +kernel)
set_option maxRecDepth 20000 in
theorem tw_methodLink_RL_106_yX5_drop : Cond.methodLink RL 106 yX5_drop ∈ bw := bw_in (by decide +kernel) (by decide +kernel)
set_option maxRecDepth 20000 in
theorem tw_instanceMethod_yX5_drop : Cond.instanceMethod yX5_drop ∈ bw := bw_in (by decide +kernel) (by decide +kernel)
set_option maxRecDepth 20000 in
theorem tw_selects_RX5_yX5_drop_yX5_drop : Cond.selects RX5 yX5_drop yX5_drop ∈ bw := bw_in (by decide +kernel) (by decide +kernel)
set_option maxRecDepth 20000 in
theorem tw_code_yX5_drop : Cond.code yX5_drop cX5_drop 2 (some .int) ∈ bw := bw_in (by decide +kernel) (by decide +kernel)
set_option maxRecDepth 20000 in
theorem tw_methodLink_RL_107_yX4_run : Cond.methodLink RL 107 yX4_run ∈ bw := bw_in (by decide +kernel) (by decide +kernel)
set_option maxRecDepth 20000 in
theorem tw_instanceMethod_yX4_run : Cond.instanceMethod yX4_run ∈ bw := bw_in (by decide +kernel) (by decide +kernel)
set_option maxRecDepth 20000 in
theorem tw_selects_RX4_yX4_run_yX4_run : Cond.selects RX4 yX4_run yX4_run ∈ bw := bw_in (by decide +kernel) (by decide +kernel)
set_option maxRecDepth 20000 in
theorem tw_code_yX4_run : Cond.code yX4_run cX4_run 5 (some .int) ∈ bw := bw_in (by decide +kernel) (by decide +kernel)
set_option maxRecDepth 20000 in
theorem tw_methodLink_RX4_91_yX3_isStep : Cond.methodLink RX4 91 yX3_isStep ∈ bw := bw_in (by decide +kernel) (by decide +kernel)
set_option maxRecDepth 20000 in
theorem tw_methodLink_RX4_94_yX3_isThere : Cond.methodLink RX4 94 yX3_isThere ∈ bw := bw_in (by decide +kernel) (by decide +kernel)
set_option maxRecDepth 20000 in
theorem tw_instanceMethod_yX3_isThere : Cond.instanceMethod yX3_isThere ∈ bw := bw_in (by decide +kernel) (by decide +kernel)
set_option maxRecDepth 20000 in
theorem tw_selects_RX3_yX3_isThere_yX3_isThere : Cond.selects RX3 yX3_isThere yX3_isThere ∈ bw := bw_in (by decide +kernel) (by decide +kernel)
set_option maxRecDepth 20000 in
theorem tw_code_yX3_isThere : Cond.code yX3_isThere cX3_isThere 2 (some .boolean) ∈ bw := bw_in (by decide +kernel) (by decide +kernel)
set_option maxRecDepth 20000 in
theorem tw_methodLink_RX4_97_yX3_follow : Cond.methodLink RX4 97 yX3_follow ∈ bw := bw_in (by decide +kernel) (by decide +kernel)
set_option maxRecDepth 20000 in
theorem tw_instanceMethod_yX3_follow : Cond.instanceMethod yX3_follow ∈ bw := bw_in (by decide +kernel) (by decide +kernel)
set_option maxRecDepth 20000 in
theorem tw_selects_RX3_yX3_follow_yX3_follow : Cond.selects RX3 yX3_follow yX3_follow ∈ bw := bw_in (by decide +kernel) (by decide +kernel)
set_option maxRecDepth 20000 in
theorem tw_code_yX3_follow : Cond.code yX3_follow cX3_follow 5 (some .int) ∈ bw := bw_in (by decide +kernel) (by decide +kernel)
set_option maxRecDepth 20000 in
theorem tw_fieldLink_RX3_61_GlulxFloats_Form_FLOAT_LGlulxFloats_Form : Cond.fieldLink RX3 61 "GlulxFloats$Form" "FLOAT" "LGlulxFloats$Form;" ∈ bw := bw_in (by decide +kernel) (by decide +kernel)
set_option maxRecDepth 20000 in
theorem tw_methodLink_RX3_58_yX3_isThere : Cond.methodLink RX3 58 yX3_isThere ∈ bw := bw_in (by decide +kernel) (by decide +kernel)
set_option maxRecDepth 20000 in
theorem tw_methodLink_RX3_67_yX3_read : Cond.methodLink RX3 67 yX3_read ∈ bw := bw_in (by decide +kernel) (by decide +kernel)
set_option maxRecDepth 20000 in
theorem tw_instanceMethod_yX3_read : Cond.instanceMethod yX3_read ∈ bw := bw_in (by decide +kernel) (by decide +kernel)
set_option maxRecDepth 20000 in
theorem tw_selects_RX3_yX3_read_yX3_read : Cond.selects RX3 yX3_read yX3_read ∈ bw := bw_in (by decide +kernel) (by decide +kernel)
set_option maxRecDepth 20000 in
theorem tw_code_yX3_read : Cond.code yX3_read cX3_read 2 (some .long) ∈ bw := bw_in (by decide +kernel) (by decide +kernel)
set_option maxRecDepth 20000 in
theorem tw_constantLong_RX3_83_4294967295 : Cond.constantLong RX3 83 (4294967295) ∈ bw := bw_in (by decide +kernel) (by decide +kernel)
set_option maxRecDepth 20000 in
theorem tw_methodLink_RX3_71_yX2_acted : Cond.methodLink RX3 71 yX2_acted ∈ bw := bw_in (by decide +kernel) (by decide +kernel)
set_option maxRecDepth 20000 in
theorem tw_methodLink_RX3_75_yX3_replaced : Cond.methodLink RX3 75 yX3_replaced ∈ bw := bw_in (by decide +kernel) (by decide +kernel)
set_option maxRecDepth 20000 in
theorem tw_methodLink_RX3_79_yX2_holds : Cond.methodLink RX3 79 yX2_holds ∈ bw := bw_in (by decide +kernel) (by decide +kernel)
set_option maxRecDepth 20000 in
theorem tw_methodLink_RX4_100_yX3_restAt : Cond.methodLink RX4 100 yX3_restAt ∈ bw := bw_in (by decide +kernel) (by decide +kernel)
set_option maxRecDepth 20000 in
theorem tw_instanceMethod_yX3_restAt : Cond.instanceMethod yX3_restAt ∈ bw := bw_in (by decide +kernel) (by decide +kernel)
set_option maxRecDepth 20000 in
theorem tw_selects_RX3_yX3_restAt_yX3_restAt : Cond.selects RX3 yX3_restAt yX3_restAt ∈ bw := bw_in (by decide +kernel) (by decide +kernel)
set_option maxRecDepth 20000 in
theorem tw_code_yX3_restAt : Cond.code yX3_restAt cX3_restAt 2 none ∈ bw := bw_in (by decide +kernel) (by decide +kernel)
set_option maxRecDepth 20000 in
theorem tw_methodLink_RL_110_yX5_run : Cond.methodLink RL 110 yX5_run ∈ bw := bw_in (by decide +kernel) (by decide +kernel)
set_option maxRecDepth 20000 in
theorem tw_instanceMethod_yX5_run : Cond.instanceMethod yX5_run ∈ bw := bw_in (by decide +kernel) (by decide +kernel)
set_option maxRecDepth 20000 in
theorem tw_selects_RX5_yX5_run_yX5_run : Cond.selects RX5 yX5_run yX5_run ∈ bw := bw_in (by decide +kernel) (by decide +kernel)
set_option maxRecDepth 20000 in
theorem tw_code_yX5_run : Cond.code yX5_run cX5_run 5 (some .int) ∈ bw := bw_in (by decide +kernel) (by decide +kernel)
set_option maxRecDepth 20000 in
theorem tw_methodLink_RX5_277_yX5_done : Cond.methodLink RX5 277 yX5_done ∈ bw := bw_in (by decide +kernel) (by decide +kernel)
set_option maxRecDepth 20000 in
theorem tw_instanceMethod_yX5_done : Cond.instanceMethod yX5_done ∈ bw := bw_in (by decide +kernel) (by decide +kernel)
set_option maxRecDepth 20000 in
theorem tw_selects_RX5_yX5_done_yX5_done : Cond.selects RX5 yX5_done yX5_done ∈ bw := bw_in (by decide +kernel) (by decide +kernel)
set_option maxRecDepth 20000 in
theorem tw_code_yX5_done : Cond.code yX5_done cX5_done 3 (some .int) ∈ bw := bw_in (by decide +kernel) (by decide +kernel)
set_option maxRecDepth 20000 in
theorem tw_methodLink_RL_111_yX4_next : Cond.methodLink RL 111 yX4_next ∈ bw := bw_in (by decide +kernel) (by decide +kernel)
set_option maxRecDepth 20000 in
theorem tw_instanceMethod_yX4_next : Cond.instanceMethod yX4_next ∈ bw := bw_in (by decide +kernel) (by decide +kernel)
set_option maxRecDepth 20000 in
theorem tw_selects_RX4_yX4_next_yX4_next : Cond.selects RX4 yX4_next yX4_next ∈ bw := bw_in (by decide +kernel) (by decide +kernel)
set_option maxRecDepth 20000 in
theorem tw_code_yX4_next : Cond.code yX4_next cX4_next 1 (some .int) ∈ bw := bw_in (by decide +kernel) (by decide +kernel)
set_option maxRecDepth 20000 in
theorem tw_methodLink_RL_114_yX5_next : Cond.methodLink RL 114 yX5_next ∈ bw := bw_in (by decide +kernel) (by decide +kernel)
set_option maxRecDepth 20000 in
theorem tw_instanceMethod_yX5_next : Cond.instanceMethod yX5_next ∈ bw := bw_in (by decide +kernel) (by decide +kernel)
set_option maxRecDepth 20000 in
theorem tw_selects_RX5_yX5_next_yX5_next : Cond.selects RX5 yX5_next yX5_next ∈ bw := bw_in (by decide +kernel) (by decide +kernel)
set_option maxRecDepth 20000 in
theorem tw_code_yX5_next : Cond.code yX5_next cX5_next 1 (some .int) ∈ bw := bw_in (by decide +kernel) (by decide +kernel)
set_option maxRecDepth 20000 in
theorem tw_methodLink_RL_115_yX4_clear : Cond.methodLink RL 115 yX4_clear ∈ bw := bw_in (by decide +kernel) (by decide +kernel)
set_option maxRecDepth 20000 in
theorem tw_instanceMethod_yX4_clear : Cond.instanceMethod yX4_clear ∈ bw := bw_in (by decide +kernel) (by decide +kernel)
set_option maxRecDepth 20000 in
theorem tw_selects_RX4_yX4_clear_yX4_clear : Cond.selects RX4 yX4_clear yX4_clear ∈ bw := bw_in (by decide +kernel) (by decide +kernel)
set_option maxRecDepth 20000 in
theorem tw_code_yX4_clear : Cond.code yX4_clear cX4_clear 1 (some .int) ∈ bw := bw_in (by decide +kernel) (by decide +kernel)
set_option maxRecDepth 20000 in
theorem tw_methodLink_RX4_108_yX1_forget : Cond.methodLink RX4 108 yX1_forget ∈ bw := bw_in (by decide +kernel) (by decide +kernel)
set_option maxRecDepth 20000 in
theorem tw_instanceMethod_yX1_forget : Cond.instanceMethod yX1_forget ∈ bw := bw_in (by decide +kernel) (by decide +kernel)
set_option maxRecDepth 20000 in
theorem tw_selects_RX1_yX1_forget_yX1_forget : Cond.selects RX1 yX1_forget yX1_forget ∈ bw := bw_in (by decide +kernel) (by decide +kernel)
set_option maxRecDepth 20000 in
theorem tw_code_yX1_forget : Cond.code yX1_forget cX1_forget 1 none ∈ bw := bw_in (by decide +kernel) (by decide +kernel)
set_option maxRecDepth 20000 in
theorem tw_methodLink_RX4_111_yX3_forgetAll : Cond.methodLink RX4 111 yX3_forgetAll ∈ bw := bw_in (by decide +kernel) (by decide +kernel)
set_option maxRecDepth 20000 in
theorem tw_instanceMethod_yX3_forgetAll : Cond.instanceMethod yX3_forgetAll ∈ bw := bw_in (by decide +kernel) (by decide +kernel)
set_option maxRecDepth 20000 in
theorem tw_selects_RX3_yX3_forgetAll_yX3_forgetAll : Cond.selects RX3 yX3_forgetAll yX3_forgetAll ∈ bw := bw_in (by decide +kernel) (by decide +kernel)
set_option maxRecDepth 20000 in
theorem tw_code_yX3_forgetAll : Cond.code yX3_forgetAll cX3_forgetAll 2 (some .int) ∈ bw := bw_in (by decide +kernel) (by decide +kernel)
set_option maxRecDepth 20000 in
theorem tw_methodLink_RX3_54_yX3_forgetSteps : Cond.methodLink RX3 54 yX3_forgetSteps ∈ bw := bw_in (by decide +kernel) (by decide +kernel)
set_option maxRecDepth 20000 in
theorem tw_methodLink_RL_118_yX5_clear : Cond.methodLink RL 118 yX5_clear ∈ bw := bw_in (by decide +kernel) (by decide +kernel)
set_option maxRecDepth 20000 in
theorem tw_instanceMethod_yX5_clear : Cond.instanceMethod yX5_clear ∈ bw := bw_in (by decide +kernel) (by decide +kernel)
set_option maxRecDepth 20000 in
theorem tw_selects_RX5_yX5_clear_yX5_clear : Cond.selects RX5 yX5_clear yX5_clear ∈ bw := bw_in (by decide +kernel) (by decide +kernel)
set_option maxRecDepth 20000 in
theorem tw_code_yX5_clear : Cond.code yX5_clear cX5_clear 3 (some .int) ∈ bw := bw_in (by decide +kernel) (by decide +kernel)
