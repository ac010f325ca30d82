theorem mw_1_26 : Cond.methodLink RX11 1 objectInit ∈ WS := tb_1 (td_mem td_1_1 (j := 10) rfl) rfl
theorem mw_1_27 : Cond.instanceMethod objectInit ∈ WS := tb_1 (td_mem td_1_1 (j := 11) rfl) rfl
theorem mw_1_28 : Cond.code objectInit ⟨#[0xb1]⟩ 1 none ∈ WS := tb_1 (td_mem td_1_1 (j := 12) rfl) rfl
theorem mw_1_29 : Cond.classLink RX11 7 RX5 ∈ WS := tb_1 (td_mem td_1_1 (j := 13) rfl) rfl
theorem mw_1_30 : Cond.instantiable RX5 3 ∈ WS := tb_1 (td_mem td_1_1 (j := 14) rfl) rfl
theorem mw_1_32 : Cond.instanceMethod yX5_init ∈ WS := tb_1 (td_mem td_1_2 (j := 0) rfl) rfl
theorem mw_1_33 : Cond.code yX5_init cX5_init 1 none ∈ WS := tb_1 (td_mem td_1_2 (j := 1) rfl) rfl
theorem mw_1_34 : Cond.methodLink RX5 3 objectInit ∈ WS := tb_1 (td_mem td_1_2 (j := 2) rfl) rfl
theorem mw_1_35 : Cond.classLink RX5 9 RX8 ∈ WS := tb_1 (td_mem td_1_2 (j := 3) rfl) rfl
theorem mw_1_36 : Cond.instantiable RX8 6 ∈ WS := tb_1 (td_mem td_1_2 (j := 4) rfl) rfl
theorem mw_1_38 : Cond.instanceMethod yX8_init ∈ WS := tb_1 (td_mem td_1_2 (j := 6) rfl) rfl
theorem mw_1_39 : Cond.code yX8_init cX8_init 1 none ∈ WS := tb_1 (td_mem td_1_2 (j := 7) rfl) rfl
theorem mw_1_40 : Cond.methodLink RX8 3 objectInit ∈ WS := tb_1 (td_mem td_1_2 (j := 8) rfl) rfl
theorem mw_1_64 : Cond.arrayClass .byte ∈ WS := tb_1 (td_mem td_1_4 (j := 0) rfl) rfl
theorem mw_1_78 : Cond.classLink RX11 16 RX4 ∈ WS := tb_1 (td_mem td_1_4 (j := 14) rfl) rfl
theorem mw_1_79 : Cond.instantiable RX4 16 ∈ WS := tb_1 (td_mem td_1_4 (j := 15) rfl) rfl
theorem mw_1_81 : Cond.instanceMethod yX4_init ∈ WS := tb_1 (td_mem td_1_5 (j := 1) rfl) rfl
theorem mw_1_82 : Cond.code yX4_init cX4_init 1 none ∈ WS := tb_1 (td_mem td_1_5 (j := 2) rfl) rfl
theorem mw_1_83 : Cond.methodLink RX4 3 objectInit ∈ WS := tb_1 (td_mem td_1_5 (j := 3) rfl) rfl
theorem mw_1_84 : Cond.classLink RX4 9 RX1 ∈ WS := tb_1 (td_mem td_1_5 (j := 4) rfl) rfl
theorem mw_1_85 : Cond.instantiable RX1 3 ∈ WS := tb_1 (td_mem td_1_5 (j := 5) rfl) rfl
theorem mw_1_87 : Cond.instanceMethod yX1_init ∈ WS := tb_1 (td_mem td_1_5 (j := 7) rfl) rfl
theorem mw_1_88 : Cond.code yX1_init cX1_init 1 none ∈ WS := tb_1 (td_mem td_1_5 (j := 8) rfl) rfl
theorem mw_1_89 : Cond.methodLink RX1 3 objectInit ∈ WS := tb_1 (td_mem td_1_5 (j := 9) rfl) rfl
theorem mw_1_105 : Cond.arrayClass .int ∈ WS := tb_1 (td_mem td_1_6 (j := 9) rfl) rfl
theorem mw_1_106 : Cond.classLink RX4 18 RX2 ∈ WS := tb_1 (td_mem td_1_6 (j := 10) rfl) rfl
theorem mw_1_107 : Cond.instantiable RX2 3 ∈ WS := tb_1 (td_mem td_1_6 (j := 11) rfl) rfl
theorem mw_1_109 : Cond.instanceMethod yX2_init ∈ WS := tb_1 (td_mem td_1_6 (j := 13) rfl) rfl
theorem mw_1_110 : Cond.code yX2_init cX2_init 1 none ∈ WS := tb_1 (td_mem td_1_6 (j := 14) rfl) rfl
theorem mw_1_111 : Cond.methodLink RX2 3 objectInit ∈ WS := tb_1 (td_mem td_1_6 (j := 15) rfl) rfl
theorem mw_1_127 : Cond.classLink RX4 25 RX0 ∈ WS := tb_1 (td_mem td_1_7 (j := 15) rfl) rfl
theorem mw_1_128 : Cond.instantiable RX0 6 ∈ WS := tb_1 (td_mem td_1_8 (j := 0) rfl) rfl
theorem mw_1_130 : Cond.instanceMethod yX0_init ∈ WS := tb_1 (td_mem td_1_8 (j := 2) rfl) rfl
theorem mw_1_131 : Cond.code yX0_init cX0_init 1 none ∈ WS := tb_1 (td_mem td_1_8 (j := 3) rfl) rfl
theorem mw_1_132 : Cond.methodLink RX0 3 objectInit ∈ WS := tb_1 (td_mem td_1_8 (j := 4) rfl) rfl
theorem mw_1_167 : Cond.arrayClass .boolean ∈ WS := tb_1 (td_mem td_1_10 (j := 7) rfl) rfl
theorem mw_1_168 : Cond.classLink RX4 32 RX9 ∈ WS := tb_1 (td_mem td_1_10 (j := 8) rfl) rfl
theorem mw_1_169 : Cond.instantiable RX9 6 ∈ WS := tb_1 (td_mem td_1_10 (j := 9) rfl) rfl
theorem mw_1_171 : Cond.instanceMethod yX9_init ∈ WS := tb_1 (td_mem td_1_10 (j := 11) rfl) rfl
theorem mw_1_172 : Cond.code yX9_init cX9_init 1 none ∈ WS := tb_1 (td_mem td_1_10 (j := 12) rfl) rfl
theorem mw_1_173 : Cond.methodLink RX9 3 objectInit ∈ WS := tb_1 (td_mem td_1_10 (j := 13) rfl) rfl
set_option maxRecDepth 100000 in
theorem td_1_12 : (tables_1_1.drop 192).take 16 = [(Jvm.Cond.soleField "LockRail$Thieves" "tool"), (Jvm.Cond.laysFinal "LockRail$Thieves" "LockRail$Thieves" "comes" "[I"), (Jvm.Cond.soleField "LockRail$Thieves" "comes"), (Jvm.Cond.laysFinal "LockRail$Thieves" "LockRail$Thieves" "fears" "[I"), (Jvm.Cond.soleField "LockRail$Thieves" "fears"), (Jvm.Cond.laysFinal "LockRail$Thieves" "LockRail$Thieves" "kind" "[I"), (Jvm.Cond.soleField "LockRail$Thieves" "kind"), (Jvm.Cond.laysFinal "LockRail$Thieves" "LockRail$Thieves" "just" "[I"), (Jvm.Cond.soleField "LockRail$Thieves" "just"), (Jvm.Cond.superclass "LockRail$Thieves" "java/lang/Object"), (Jvm.Cond.classLink "LockRail$Rail" (39 : Nat) "LockRail$Year"), (Jvm.Cond.instantiable "LockRail$Year" (3 : Nat)), (Jvm.Cond.methodLinkNest "LockRail$Rail" (41 : Nat) ({ cls := "LockRail$Year", name := "<init>", desc := "()V" } : Jvm.MethodName) "LockRail"), (Jvm.Cond.instanceMethod ({ cls := "LockRail$Year", name := "<init>", desc := "()V" } : Jvm.MethodName)), (Jvm.Cond.code ({ cls := "LockRail$Year", name := "<init>", desc := "()V" } : Jvm.MethodName) prog_12_method_1_code (1 : Nat) (Option.none : Option Jvm.ClassFile.FieldType)), (Jvm.Cond.methodLink "LockRail$Year" (3 : Nat) ({ cls := "java/lang/Object", name := "<init>", desc := "()V" } : Jvm.MethodName))] := rfl
theorem mw_1_202 : Cond.classLink RX4 39 RX10 ∈ WS := tb_1 (td_mem td_1_12 (j := 10) rfl) rfl
theorem mw_1_203 : Cond.instantiable RX10 3 ∈ WS := tb_1 (td_mem td_1_12 (j := 11) rfl) rfl
theorem mw_1_205 : Cond.instanceMethod yX10_init ∈ WS := tb_1 (td_mem td_1_12 (j := 13) rfl) rfl
theorem mw_1_206 : Cond.code yX10_init cX10_init 1 none ∈ WS := tb_1 (td_mem td_1_12 (j := 14) rfl) rfl
theorem mw_1_207 : Cond.methodLink RX10 3 objectInit ∈ WS := tb_1 (td_mem td_1_12 (j := 15) rfl) rfl
set_option maxRecDepth 100000 in
theorem td_2_3 : (tables_1_2.drop 48).take 16 = [(Jvm.Cond.lays "LockRail$Rail" "LockRail$Rail" "hidden" "Z"), (Jvm.Cond.soleField "LockRail$Rail" "hidden"), (Jvm.Cond.lays "LockRail$Rail" "LockRail$Rail" "watchTold" "Z"), (Jvm.Cond.soleField "LockRail$Rail" "watchTold"), (Jvm.Cond.lays "LockRail$Rail" "LockRail$Rail" "wage" "I"), (Jvm.Cond.soleField "LockRail$Rail" "wage"), (Jvm.Cond.lays "LockRail$Rail" "LockRail$Rail" "adds" "I"), (Jvm.Cond.soleField "LockRail$Rail" "adds"), (Jvm.Cond.lays "LockRail$Rail" "LockRail$Rail" "watched" "Z"), (Jvm.Cond.soleField "LockRail$Rail" "watched"), (Jvm.Cond.laysFinal "LockRail$Rail" "LockRail$Rail" "year" "LLockRail$Year;"), (Jvm.Cond.soleField "LockRail$Rail" "year"), (Jvm.Cond.superclass "LockRail$Rail" "java/lang/Object"), (Jvm.Cond.arrayOver (Jvm.ClassFile.FieldType.object "LockRail$Rail")), (Jvm.Cond.classLink "LockRail" (30 : Nat) "LockRail$Slots"), (Jvm.Cond.instantiable "LockRail$Slots" (3 : Nat))] := rfl
theorem mw_2_62 : Cond.classLink RX11 30 RX6 ∈ WS := tb_2 (td_mem td_2_3 (j := 14) rfl) rfl
theorem mw_2_63 : Cond.instantiable RX6 3 ∈ WS := tb_2 (td_mem td_2_3 (j := 15) rfl) rfl
theorem mw_2_65 : Cond.instanceMethod yX6_init ∈ WS := tb_2 (td_mem td_2_4 (j := 1) rfl) rfl
theorem mw_2_66 : Cond.code yX6_init cX6_init 1 none ∈ WS := tb_2 (td_mem td_2_4 (j := 2) rfl) rfl
theorem mw_2_67 : Cond.methodLink RX6 1 objectInit ∈ WS := tb_2 (td_mem td_2_4 (j := 3) rfl) rfl
theorem mw_2_78 : Cond.arrayClass .long ∈ WS := tb_2 (td_mem td_2_4 (j := 14) rfl) rfl
theorem mw_2_79 : Cond.classLink RX11 37 RX3 ∈ WS := tb_2 (td_mem td_2_4 (j := 15) rfl) rfl
theorem mw_2_80 : Cond.instantiable RX3 10 ∈ WS := tb_2 (td_mem td_2_5 (j := 0) rfl) rfl
theorem mw_2_82 : Cond.instanceMethod yX3_init ∈ WS := tb_2 (td_mem td_2_5 (j := 2) rfl) rfl
theorem mw_2_83 : Cond.code yX3_init cX3_init 1 none ∈ WS := tb_2 (td_mem td_2_5 (j := 3) rfl) rfl
theorem mw_2_84 : Cond.methodLink RX3 5 objectInit ∈ WS := tb_2 (td_mem td_2_5 (j := 4) rfl) rfl
theorem mw_2_85 : Cond.classLink RX3 31 RX7 ∈ WS := tb_2 (td_mem td_2_5 (j := 5) rfl) rfl
theorem mw_2_86 : Cond.instantiable RX7 5 ∈ WS := tb_2 (td_mem td_2_5 (j := 6) rfl) rfl
theorem mw_2_88 : Cond.instanceMethod yX7_init ∈ WS := tb_2 (td_mem td_2_5 (j := 8) rfl) rfl
theorem mw_2_89 : Cond.code yX7_init cX7_init 1 none ∈ WS := tb_2 (td_mem td_2_5 (j := 9) rfl) rfl
theorem mw_2_90 : Cond.methodLink RX7 1 objectInit ∈ WS := tb_2 (td_mem td_2_5 (j := 10) rfl) rfl
theorem mw_2_141 : Cond.classLink RX11 44 RX10 ∈ WS := tb_2 (td_mem td_2_8 (j := 13) rfl) rfl
theorem mw_2_146 : Cond.fieldLink RX11 26 "LockRail" "images" "[LLockRail$Rail;" ∈ WS := tb_2 (td_mem td_2_9 (j := 2) rfl) rfl
theorem mw_6_41 : Cond.methodLink RX12 1 objectInit ∈ WS := tb_6 (td_mem td_6_2 (j := 9) rfl) rfl
theorem mw_6_42 : Cond.constant RX12 101 131072 ∈ WS := tb_6 (td_mem td_6_2 (j := 10) rfl) rfl
