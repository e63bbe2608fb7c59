def bw : List Cond := lw_tbl.filter goodWord
theorem bw_in {w : Cond} (h : w ∈ lw_tbl) (g : goodWord w = true) : w ∈ bw := List.mem_filter.mpr ⟨h, g⟩
set_option maxRecDepth 20000 in
theorem tw_classLink_RL_8_RX4 : Cond.classLink RL 8 RX4 ∈ bw := bw_in (by decide +kernel) (by decide +kernel)
set_option maxRecDepth 20000 in
theorem tw_instantiable_RX4_2 : Cond.instantiable RX4 2 ∈ bw := bw_in (by decide +kernel) (by decide +kernel)
set_option maxRecDepth 20000 in
theorem tw_initialized_RX4 : Cond.initialized RX4 ∈ bw := bw_in (by decide +kernel) (by decide +kernel)
set_option maxRecDepth 20000 in
theorem tw_classLink_RL_37_RX5 : Cond.classLink RL 37 RX5 ∈ bw := bw_in (by decide +kernel) (by decide +kernel)
set_option maxRecDepth 20000 in
theorem tw_instantiable_RX5_15 : Cond.instantiable RX5 15 ∈ bw := bw_in (by decide +kernel) (by decide +kernel)
set_option maxRecDepth 20000 in
theorem tw_initialized_RX5 : Cond.initialized RX5 ∈ bw := bw_in (by decide +kernel) (by decide +kernel)
set_option maxRecDepth 20000 in
theorem tw_arrayClass_long : Cond.arrayClass .long ∈ bw := bw_in (by decide +kernel) (by decide +kernel)
set_option maxRecDepth 20000 in
theorem tw_constantLong_RL_50_4294967295 : Cond.constantLong RL 50 (4294967295) ∈ bw := bw_in (by decide +kernel) (by decide +kernel)
set_option maxRecDepth 20000 in
theorem tw_methodLink_RL_36_yX4_init : Cond.methodLink RL 36 yX4_init ∈ bw := bw_in (by decide +kernel) (by decide +kernel)
set_option maxRecDepth 20000 in
theorem tw_instanceMethod_yX4_init : Cond.instanceMethod yX4_init ∈ bw := bw_in (by decide +kernel) (by decide +kernel)
set_option maxRecDepth 20000 in
theorem tw_code_yX4_init : Cond.code yX4_init cX4_init 1 none ∈ bw := bw_in (by decide +kernel) (by decide +kernel)
set_option maxRecDepth 20000 in
theorem tw_methodLink_RX4_1_objectInit : Cond.methodLink RX4 1 objectInit ∈ bw := bw_in (by decide +kernel) (by decide +kernel)
set_option maxRecDepth 20000 in
theorem tw_instanceMethod_objectInit : Cond.instanceMethod objectInit ∈ bw := bw_in (by decide +kernel) (by decide +kernel)
set_option maxRecDepth 20000 in
theorem tw_code_objectInit : Cond.code objectInit ⟨#[0xb1]⟩ 1 none ∈ bw := bw_in (by decide +kernel) (by decide +kernel)
set_option maxRecDepth 20000 in
theorem tw_classLink_RX4_7_RX3 : Cond.classLink RX4 7 RX3 ∈ bw := bw_in (by decide +kernel) (by decide +kernel)
set_option maxRecDepth 20000 in
theorem tw_instantiable_RX3_8 : Cond.instantiable RX3 8 ∈ bw := bw_in (by decide +kernel) (by decide +kernel)
set_option maxRecDepth 20000 in
theorem tw_initialized_RX3 : Cond.initialized RX3 ∈ bw := bw_in (by decide +kernel) (by decide +kernel)
set_option maxRecDepth 20000 in
theorem tw_fieldLink_RX4_10_GlulxFloats_program_LGlulxFloats_Program : Cond.fieldLink RX4 10 "GlulxFloats" "program" "LGlulxFloats$Program;" ∈ bw := bw_in (by decide +kernel) (by decide +kernel)
set_option maxRecDepth 20000 in
theorem tw_classLink_RX4_16_RX1 : Cond.classLink RX4 16 RX1 ∈ bw := bw_in (by decide +kernel) (by decide +kernel)
set_option maxRecDepth 20000 in
theorem tw_instantiable_RX1_3 : Cond.instantiable RX1 3 ∈ bw := bw_in (by decide +kernel) (by decide +kernel)
