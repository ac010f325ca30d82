theorem mw_1_26 : Cond.methodLink RX11 1 objectInit ∈ WS := tb_1 (List.mem_of_getElem? (i := 26) rfl) rfl
theorem mw_1_27 : Cond.instanceMethod objectInit ∈ WS := tb_1 (List.mem_of_getElem? (i := 27) rfl) rfl
theorem mw_1_28 : Cond.code objectInit ⟨#[0xb1]⟩ 1 none ∈ WS := tb_1 (List.mem_of_getElem? (i := 28) rfl) rfl
theorem mw_1_29 : Cond.classLink RX11 7 RX5 ∈ WS := tb_1 (List.mem_of_getElem? (i := 29) rfl) rfl
theorem mw_1_30 : Cond.instantiable RX5 3 ∈ WS := tb_1 (List.mem_of_getElem? (i := 30) rfl) rfl
theorem mw_1_32 : Cond.instanceMethod yX5_init ∈ WS := tb_1 (List.mem_of_getElem? (i := 32) rfl) rfl
theorem mw_1_33 : Cond.code yX5_init cX5_init 1 none ∈ WS := tb_1 (List.mem_of_getElem? (i := 33) rfl) rfl
theorem mw_1_34 : Cond.methodLink RX5 3 objectInit ∈ WS := tb_1 (List.mem_of_getElem? (i := 34) rfl) rfl
theorem mw_1_35 : Cond.classLink RX5 9 RX8 ∈ WS := tb_1 (List.mem_of_getElem? (i := 35) rfl) rfl
theorem mw_1_36 : Cond.instantiable RX8 6 ∈ WS := tb_1 (List.mem_of_getElem? (i := 36) rfl) rfl
theorem mw_1_38 : Cond.instanceMethod yX8_init ∈ WS := tb_1 (List.mem_of_getElem? (i := 38) rfl) rfl
theorem mw_1_39 : Cond.code yX8_init cX8_init 1 none ∈ WS := tb_1 (List.mem_of_getElem? (i := 39) rfl) rfl
theorem mw_1_40 : Cond.methodLink RX8 3 objectInit ∈ WS := tb_1 (List.mem_of_getElem? (i := 40) rfl) rfl
theorem mw_1_64 : Cond.arrayClass .byte ∈ WS := tb_1 (List.mem_of_getElem? (i := 64) rfl) rfl
theorem mw_1_78 : Cond.classLink RX11 16 RX4 ∈ WS := tb_1 (List.mem_of_getElem? (i := 78) rfl) rfl
theorem mw_1_79 : Cond.instantiable RX4 16 ∈ WS := tb_1 (List.mem_of_getElem? (i := 79) rfl) rfl
theorem mw_1_81 : Cond.instanceMethod yX4_init ∈ WS := tb_1 (List.mem_of_getElem? (i := 81) rfl) rfl
theorem mw_1_82 : Cond.code yX4_init cX4_init 1 none ∈ WS := tb_1 (List.mem_of_getElem? (i := 82) rfl) rfl
theorem mw_1_83 : Cond.methodLink RX4 3 objectInit ∈ WS := tb_1 (List.mem_of_getElem? (i := 83) rfl) rfl
theorem mw_1_84 : Cond.classLink RX4 9 RX1 ∈ WS := tb_1 (List.mem_of_getElem? (i := 84) rfl) rfl
theorem mw_1_85 : Cond.instantiable RX1 3 ∈ WS := tb_1 (List.mem_of_getElem? (i := 85) rfl) rfl
theorem mw_1_87 : Cond.instanceMethod yX1_init ∈ WS := tb_1 (List.mem_of_getElem? (i := 87) rfl) rfl
theorem mw_1_88 : Cond.code yX1_init cX1_init 1 none ∈ WS := tb_1 (List.mem_of_getElem? (i := 88) rfl) rfl
theorem mw_1_89 : Cond.methodLink RX1 3 objectInit ∈ WS := tb_1 (List.mem_of_getElem? (i := 89) rfl) rfl
theorem mw_1_105 : Cond.arrayClass .int ∈ WS := tb_1 (List.mem_of_getElem? (i := 105) rfl) rfl
theorem mw_1_106 : Cond.classLink RX4 18 RX2 ∈ WS := tb_1 (List.mem_of_getElem? (i := 106) rfl) rfl
theorem mw_1_107 : Cond.instantiable RX2 3 ∈ WS := tb_1 (List.mem_of_getElem? (i := 107) rfl) rfl
theorem mw_1_109 : Cond.instanceMethod yX2_init ∈ WS := tb_1 (List.mem_of_getElem? (i := 109) rfl) rfl
theorem mw_1_110 : Cond.code yX2_init cX2_init 1 none ∈ WS := tb_1 (List.mem_of_getElem? (i := 110) rfl) rfl
theorem mw_1_111 : Cond.methodLink RX2 3 objectInit ∈ WS := tb_1 (List.mem_of_getElem? (i := 111) rfl) rfl
theorem mw_1_127 : Cond.classLink RX4 25 RX0 ∈ WS := tb_1 (List.mem_of_getElem? (i := 127) rfl) rfl
theorem mw_1_128 : Cond.instantiable RX0 6 ∈ WS := tb_1 (List.mem_of_getElem? (i := 128) rfl) rfl
theorem mw_1_130 : Cond.instanceMethod yX0_init ∈ WS := tb_1 (List.mem_of_getElem? (i := 130) rfl) rfl
theorem mw_1_131 : Cond.code yX0_init cX0_init 1 none ∈ WS := tb_1 (List.mem_of_getElem? (i := 131) rfl) rfl
theorem mw_1_132 : Cond.methodLink RX0 3 objectInit ∈ WS := tb_1 (List.mem_of_getElem? (i := 132) rfl) rfl
theorem mw_1_167 : Cond.arrayClass .boolean ∈ WS := tb_1 (List.mem_of_getElem? (i := 167) rfl) rfl
theorem mw_1_168 : Cond.classLink RX4 32 RX9 ∈ WS := tb_1 (List.mem_of_getElem? (i := 168) rfl) rfl
theorem mw_1_169 : Cond.instantiable RX9 6 ∈ WS := tb_1 (List.mem_of_getElem? (i := 169) rfl) rfl
theorem mw_1_171 : Cond.instanceMethod yX9_init ∈ WS := tb_1 (List.mem_of_getElem? (i := 171) rfl) rfl
theorem mw_1_172 : Cond.code yX9_init cX9_init 1 none ∈ WS := tb_1 (List.mem_of_getElem? (i := 172) rfl) rfl
theorem mw_1_173 : Cond.methodLink RX9 3 objectInit ∈ WS := tb_1 (List.mem_of_getElem? (i := 173) rfl) rfl
theorem mw_1_202 : Cond.classLink RX4 39 RX10 ∈ WS := tb_1 (List.mem_of_getElem? (i := 202) rfl) rfl
theorem mw_1_203 : Cond.instantiable RX10 3 ∈ WS := tb_1 (List.mem_of_getElem? (i := 203) rfl) rfl
theorem mw_1_205 : Cond.instanceMethod yX10_init ∈ WS := tb_1 (List.mem_of_getElem? (i := 205) rfl) rfl
theorem mw_1_206 : Cond.code yX10_init cX10_init 1 none ∈ WS := tb_1 (List.mem_of_getElem? (i := 206) rfl) rfl
theorem mw_1_207 : Cond.methodLink RX10 3 objectInit ∈ WS := tb_1 (List.mem_of_getElem? (i := 207) rfl) rfl
theorem mw_2_62 : Cond.classLink RX11 30 RX6 ∈ WS := tb_2 (List.mem_of_getElem? (i := 62) rfl) rfl
theorem mw_2_63 : Cond.instantiable RX6 3 ∈ WS := tb_2 (List.mem_of_getElem? (i := 63) rfl) rfl
theorem mw_2_65 : Cond.instanceMethod yX6_init ∈ WS := tb_2 (List.mem_of_getElem? (i := 65) rfl) rfl
theorem mw_2_66 : Cond.code yX6_init cX6_init 1 none ∈ WS := tb_2 (List.mem_of_getElem? (i := 66) rfl) rfl
theorem mw_2_67 : Cond.methodLink RX6 1 objectInit ∈ WS := tb_2 (List.mem_of_getElem? (i := 67) rfl) rfl
theorem mw_2_78 : Cond.arrayClass .long ∈ WS := tb_2 (List.mem_of_getElem? (i := 78) rfl) rfl
theorem mw_2_79 : Cond.classLink RX11 37 RX3 ∈ WS := tb_2 (List.mem_of_getElem? (i := 79) rfl) rfl
theorem mw_2_80 : Cond.instantiable RX3 10 ∈ WS := tb_2 (List.mem_of_getElem? (i := 80) rfl) rfl
theorem mw_2_82 : Cond.instanceMethod yX3_init ∈ WS := tb_2 (List.mem_of_getElem? (i := 82) rfl) rfl
theorem mw_2_83 : Cond.code yX3_init cX3_init 1 none ∈ WS := tb_2 (List.mem_of_getElem? (i := 83) rfl) rfl
theorem mw_2_84 : Cond.methodLink RX3 5 objectInit ∈ WS := tb_2 (List.mem_of_getElem? (i := 84) rfl) rfl
theorem mw_2_85 : Cond.classLink RX3 31 RX7 ∈ WS := tb_2 (List.mem_of_getElem? (i := 85) rfl) rfl
theorem mw_2_86 : Cond.instantiable RX7 5 ∈ WS := tb_2 (List.mem_of_getElem? (i := 86) rfl) rfl
theorem mw_2_88 : Cond.instanceMethod yX7_init ∈ WS := tb_2 (List.mem_of_getElem? (i := 88) rfl) rfl
theorem mw_2_89 : Cond.code yX7_init cX7_init 1 none ∈ WS := tb_2 (List.mem_of_getElem? (i := 89) rfl) rfl
theorem mw_2_90 : Cond.methodLink RX7 1 objectInit ∈ WS := tb_2 (List.mem_of_getElem? (i := 90) rfl) rfl
theorem mw_2_141 : Cond.classLink RX11 44 RX10 ∈ WS := tb_2 (List.mem_of_getElem? (i := 141) rfl) rfl
theorem mw_2_146 : Cond.fieldLink RX11 26 "LockRail" "images" "[LLockRail$Rail;" ∈ WS := tb_2 (List.mem_of_getElem? (i := 146) rfl) rfl
theorem mw_6_41 : Cond.methodLink RX12 1 objectInit ∈ WS := tb_6 (List.mem_of_getElem? (i := 41) rfl) rfl
theorem mw_6_42 : Cond.constant RX12 101 131072 ∈ WS := tb_6 (List.mem_of_getElem? (i := 42) rfl) rfl
