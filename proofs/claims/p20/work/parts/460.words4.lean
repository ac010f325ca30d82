theorem mw_2_168 : Cond.methodLink RL 13 yX11_feed ∈ WS := tb_2 (td_mem td_2_10 (j := 8) rfl) rfl
theorem mw_2_169 : Cond.instanceMethod yX11_feed ∈ WS := tb_2 (td_mem td_2_10 (j := 9) rfl) rfl
theorem mw_2_170 : Cond.selects RX11 yX11_feed yX11_feed ∈ WS := tb_2 (td_mem td_2_10 (j := 10) rfl) rfl
theorem mw_2_171 : Cond.code yX11_feed cX11_feed 7 (some .int) ∈ WS := tb_2 (td_mem td_2_10 (j := 11) rfl) rfl
theorem mw_2_176 : Cond.methodLink RL 18 yX11_end ∈ WS := tb_2 (td_mem td_2_11 (j := 0) rfl) rfl
theorem mw_2_177 : Cond.instanceMethod yX11_end ∈ WS := tb_2 (td_mem td_2_11 (j := 1) rfl) rfl
theorem mw_2_178 : Cond.selects RX11 yX11_end yX11_end ∈ WS := tb_2 (td_mem td_2_11 (j := 2) rfl) rfl
theorem mw_2_179 : Cond.code yX11_end cX11_end 3 (some .int) ∈ WS := tb_2 (td_mem td_2_11 (j := 3) rfl) rfl
theorem mw_2_180 : Cond.methodLink RL 23 yX11_rail ∈ WS := tb_2 (td_mem td_2_11 (j := 4) rfl) rfl
theorem mw_2_181 : Cond.instanceMethod yX11_rail ∈ WS := tb_2 (td_mem td_2_11 (j := 5) rfl) rfl
theorem mw_2_182 : Cond.selects RX11 yX11_rail yX11_rail ∈ WS := tb_2 (td_mem td_2_11 (j := 6) rfl) rfl
theorem mw_2_183 : Cond.code yX11_rail cX11_rail 2 (some .int) ∈ WS := tb_2 (td_mem td_2_11 (j := 7) rfl) rfl
theorem mw_3_154 : Cond.methodLink RL 28 yX11_fault ∈ WS := tb_3 (td_mem td_3_9 (j := 10) rfl) rfl
theorem mw_3_155 : Cond.instanceMethod yX11_fault ∈ WS := tb_3 (td_mem td_3_9 (j := 11) rfl) rfl
theorem mw_3_156 : Cond.selects RX11 yX11_fault yX11_fault ∈ WS := tb_3 (td_mem td_3_9 (j := 12) rfl) rfl
theorem mw_3_157 : Cond.code yX11_fault cX11_fault 2 (some .int) ∈ WS := tb_3 (td_mem td_3_9 (j := 13) rfl) rfl
theorem mw_3_158 : Cond.methodLink RL 32 yX11_light ∈ WS := tb_3 (td_mem td_3_9 (j := 14) rfl) rfl
theorem mw_3_159 : Cond.instanceMethod yX11_light ∈ WS := tb_3 (td_mem td_3_9 (j := 15) rfl) rfl
theorem mw_3_160 : Cond.selects RX11 yX11_light yX11_light ∈ WS := tb_3 (td_mem td_3_10 (j := 0) rfl) rfl
theorem mw_3_161 : Cond.code yX11_light cX11_light 2 (some .int) ∈ WS := tb_3 (td_mem td_3_10 (j := 1) rfl) rfl
theorem mw_3_176 : Cond.methodLink RL 36 yX11_bike ∈ WS := tb_3 (td_mem td_3_11 (j := 0) rfl) rfl
theorem mw_3_177 : Cond.instanceMethod yX11_bike ∈ WS := tb_3 (td_mem td_3_11 (j := 1) rfl) rfl
theorem mw_3_178 : Cond.selects RX11 yX11_bike yX11_bike ∈ WS := tb_3 (td_mem td_3_11 (j := 2) rfl) rfl
theorem mw_3_179 : Cond.code yX11_bike cX11_bike 3 (some .int) ∈ WS := tb_3 (td_mem td_3_11 (j := 3) rfl) rfl
theorem mw_3_184 : Cond.methodLink RL 41 yX11_trouble ∈ WS := tb_3 (td_mem td_3_11 (j := 8) rfl) rfl
theorem mw_3_185 : Cond.instanceMethod yX11_trouble ∈ WS := tb_3 (td_mem td_3_11 (j := 9) rfl) rfl
theorem mw_3_186 : Cond.selects RX11 yX11_trouble yX11_trouble ∈ WS := tb_3 (td_mem td_3_11 (j := 10) rfl) rfl
theorem mw_3_187 : Cond.code yX11_trouble cX11_trouble 3 (some .int) ∈ WS := tb_3 (td_mem td_3_11 (j := 11) rfl) rfl
theorem mw_3_196 : Cond.methodLink RL 45 yX11_gain ∈ WS := tb_3 (td_mem td_3_12 (j := 4) rfl) rfl
theorem mw_3_197 : Cond.instanceMethod yX11_gain ∈ WS := tb_3 (td_mem td_3_12 (j := 5) rfl) rfl
theorem mw_3_198 : Cond.selects RX11 yX11_gain yX11_gain ∈ WS := tb_3 (td_mem td_3_12 (j := 6) rfl) rfl
theorem mw_3_199 : Cond.code yX11_gain cX11_gain 2 (some .int) ∈ WS := tb_3 (td_mem td_3_12 (j := 7) rfl) rfl
theorem mw_3_208 : Cond.methodLink RL 49 yX11_takes ∈ WS := tb_3 (td_mem td_3_13 (j := 0) rfl) rfl
theorem mw_3_209 : Cond.instanceMethod yX11_takes ∈ WS := tb_3 (td_mem td_3_13 (j := 1) rfl) rfl
theorem mw_3_210 : Cond.selects RX11 yX11_takes yX11_takes ∈ WS := tb_3 (td_mem td_3_13 (j := 2) rfl) rfl
theorem mw_3_211 : Cond.code yX11_takes cX11_takes 3 (some .int) ∈ WS := tb_3 (td_mem td_3_13 (j := 3) rfl) rfl
theorem mw_4_0 : Cond.methodLink RL 53 yX11_wants ∈ WS := tb_4 (td_mem td_4_0 (j := 0) rfl) rfl
theorem mw_4_1 : Cond.instanceMethod yX11_wants ∈ WS := tb_4 (td_mem td_4_0 (j := 1) rfl) rfl
theorem mw_4_2 : Cond.selects RX11 yX11_wants yX11_wants ∈ WS := tb_4 (td_mem td_4_0 (j := 2) rfl) rfl
theorem mw_4_3 : Cond.code yX11_wants cX11_wants 2 (some .int) ∈ WS := tb_4 (td_mem td_4_0 (j := 3) rfl) rfl
theorem mw_4_12 : Cond.methodLink RL 57 yX11_part ∈ WS := tb_4 (td_mem td_4_0 (j := 12) rfl) rfl
theorem mw_4_13 : Cond.instanceMethod yX11_part ∈ WS := tb_4 (td_mem td_4_0 (j := 13) rfl) rfl
theorem mw_4_14 : Cond.selects RX11 yX11_part yX11_part ∈ WS := tb_4 (td_mem td_4_0 (j := 14) rfl) rfl
theorem mw_4_15 : Cond.code yX11_part cX11_part 2 (some .long) ∈ WS := tb_4 (td_mem td_4_0 (j := 15) rfl) rfl
theorem mw_4_63 : Cond.methodLink RL 62 yX11_many ∈ WS := tb_4 (td_mem td_4_3 (j := 15) rfl) rfl
theorem mw_4_64 : Cond.instanceMethod yX11_many ∈ WS := tb_4 (td_mem td_4_4 (j := 0) rfl) rfl
theorem mw_4_65 : Cond.selects RX11 yX11_many yX11_many ∈ WS := tb_4 (td_mem td_4_4 (j := 1) rfl) rfl
theorem mw_4_66 : Cond.code yX11_many cX11_many 2 (some .long) ∈ WS := tb_4 (td_mem td_4_4 (j := 2) rfl) rfl
theorem mw_4_77 : Cond.methodLink RL 66 yX11_risk ∈ WS := tb_4 (td_mem td_4_4 (j := 13) rfl) rfl
theorem mw_4_78 : Cond.instanceMethod yX11_risk ∈ WS := tb_4 (td_mem td_4_4 (j := 14) rfl) rfl
theorem mw_4_79 : Cond.selects RX11 yX11_risk yX11_risk ∈ WS := tb_4 (td_mem td_4_4 (j := 15) rfl) rfl
theorem mw_4_80 : Cond.code yX11_risk cX11_risk 2 (some .long) ∈ WS := tb_4 (td_mem td_4_5 (j := 0) rfl) rfl
theorem mw_4_89 : Cond.methodLink RL 70 yX11_has ∈ WS := tb_4 (td_mem td_4_5 (j := 9) rfl) rfl
theorem mw_4_90 : Cond.instanceMethod yX11_has ∈ WS := tb_4 (td_mem td_4_5 (j := 10) rfl) rfl
theorem mw_4_91 : Cond.selects RX11 yX11_has yX11_has ∈ WS := tb_4 (td_mem td_4_5 (j := 11) rfl) rfl
theorem mw_4_92 : Cond.code yX11_has cX11_has 3 (some .long) ∈ WS := tb_4 (td_mem td_4_5 (j := 12) rfl) rfl
theorem mw_4_94 : Cond.methodLink RL 75 yX11_cost ∈ WS := tb_4 (td_mem td_4_5 (j := 14) rfl) rfl
theorem mw_4_95 : Cond.instanceMethod yX11_cost ∈ WS := tb_4 (td_mem td_4_5 (j := 15) rfl) rfl
theorem mw_4_96 : Cond.selects RX11 yX11_cost yX11_cost ∈ WS := tb_4 (td_mem td_4_6 (j := 0) rfl) rfl
theorem mw_4_97 : Cond.code yX11_cost cX11_cost 3 (some .long) ∈ WS := tb_4 (td_mem td_4_6 (j := 1) rfl) rfl
theorem mw_4_120 : Cond.methodLink RL 79 yX11_all ∈ WS := tb_4 (td_mem td_4_7 (j := 8) rfl) rfl
theorem mw_4_121 : Cond.instanceMethod yX11_all ∈ WS := tb_4 (td_mem td_4_7 (j := 9) rfl) rfl
theorem mw_4_122 : Cond.selects RX11 yX11_all yX11_all ∈ WS := tb_4 (td_mem td_4_7 (j := 10) rfl) rfl
theorem mw_4_123 : Cond.code yX11_all cX11_all 2 (some .long) ∈ WS := tb_4 (td_mem td_4_7 (j := 11) rfl) rfl
theorem mw_4_133 : Cond.methodLink RL 83 yX11_option ∈ WS := tb_4 (td_mem td_4_8 (j := 5) rfl) rfl
theorem mw_4_134 : Cond.instanceMethod yX11_option ∈ WS := tb_4 (td_mem td_4_8 (j := 6) rfl) rfl
theorem mw_4_135 : Cond.selects RX11 yX11_option yX11_option ∈ WS := tb_4 (td_mem td_4_8 (j := 7) rfl) rfl
theorem mw_4_136 : Cond.code yX11_option cX11_option 4 (some .int) ∈ WS := tb_4 (td_mem td_4_8 (j := 8) rfl) rfl
theorem mw_4_154 : Cond.methodLink RL 87 yX11_would ∈ WS := tb_4 (td_mem td_4_9 (j := 10) rfl) rfl
theorem mw_4_155 : Cond.instanceMethod yX11_would ∈ WS := tb_4 (td_mem td_4_9 (j := 11) rfl) rfl
theorem mw_4_156 : Cond.selects RX11 yX11_would yX11_would ∈ WS := tb_4 (td_mem td_4_9 (j := 12) rfl) rfl
theorem mw_4_157 : Cond.code yX11_would cX11_would 3 (some .long) ∈ WS := tb_4 (td_mem td_4_9 (j := 13) rfl) rfl
theorem mw_4_162 : Cond.methodLink RL 91 yX11_best ∈ WS := tb_4 (td_mem td_4_10 (j := 2) rfl) rfl
theorem mw_4_163 : Cond.instanceMethod yX11_best ∈ WS := tb_4 (td_mem td_4_10 (j := 3) rfl) rfl
theorem mw_4_164 : Cond.selects RX11 yX11_best yX11_best ∈ WS := tb_4 (td_mem td_4_10 (j := 4) rfl) rfl
theorem mw_4_165 : Cond.code yX11_best cX11_best 2 (some .int) ∈ WS := tb_4 (td_mem td_4_10 (j := 5) rfl) rfl
theorem mw_4_172 : Cond.methodLink RL 95 yX11_restless ∈ WS := tb_4 (td_mem td_4_10 (j := 12) rfl) rfl
theorem mw_4_173 : Cond.instanceMethod yX11_restless ∈ WS := tb_4 (td_mem td_4_10 (j := 13) rfl) rfl
theorem mw_4_174 : Cond.selects RX11 yX11_restless yX11_restless ∈ WS := tb_4 (td_mem td_4_10 (j := 14) rfl) rfl
theorem mw_4_175 : Cond.code yX11_restless cX11_restless 3 (some .int) ∈ WS := tb_4 (td_mem td_4_10 (j := 15) rfl) rfl
theorem mw_4_176 : Cond.methodLink RL 99 yX11_settle ∈ WS := tb_4 (td_mem td_4_11 (j := 0) rfl) rfl
theorem mw_4_177 : Cond.instanceMethod yX11_settle ∈ WS := tb_4 (td_mem td_4_11 (j := 1) rfl) rfl
theorem mw_4_178 : Cond.selects RX11 yX11_settle yX11_settle ∈ WS := tb_4 (td_mem td_4_11 (j := 2) rfl) rfl
theorem mw_4_179 : Cond.code yX11_settle cX11_settle 2 (some .int) ∈ WS := tb_4 (td_mem td_4_11 (j := 3) rfl) rfl
theorem mw_4_185 : Cond.methodLink RL 103 yX11_settles ∈ WS := tb_4 (td_mem td_4_11 (j := 9) rfl) rfl
theorem mw_4_186 : Cond.instanceMethod yX11_settles ∈ WS := tb_4 (td_mem td_4_11 (j := 10) rfl) rfl
theorem mw_4_187 : Cond.selects RX11 yX11_settles yX11_settles ∈ WS := tb_4 (td_mem td_4_11 (j := 11) rfl) rfl
theorem mw_4_188 : Cond.code yX11_settles cX11_settles 2 (some .int) ∈ WS := tb_4 (td_mem td_4_11 (j := 12) rfl) rfl
theorem mw_4_189 : Cond.methodLink RL 107 yX11_settled ∈ WS := tb_4 (td_mem td_4_11 (j := 13) rfl) rfl
theorem mw_4_190 : Cond.instanceMethod yX11_settled ∈ WS := tb_4 (td_mem td_4_11 (j := 14) rfl) rfl
theorem mw_4_191 : Cond.selects RX11 yX11_settled yX11_settled ∈ WS := tb_4 (td_mem td_4_11 (j := 15) rfl) rfl
theorem mw_4_192 : Cond.code yX11_settled cX11_settled 2 (some .long) ∈ WS := tb_4 (td_mem td_4_12 (j := 0) rfl) rfl
theorem mw_4_194 : Cond.methodLink RL 112 yX11_better ∈ WS := tb_4 (td_mem td_4_12 (j := 2) rfl) rfl
theorem mw_4_195 : Cond.instanceMethod yX11_better ∈ WS := tb_4 (td_mem td_4_12 (j := 3) rfl) rfl
theorem mw_4_196 : Cond.selects RX11 yX11_better yX11_better ∈ WS := tb_4 (td_mem td_4_12 (j := 4) rfl) rfl
theorem mw_4_197 : Cond.code yX11_better cX11_better 2 (some .int) ∈ WS := tb_4 (td_mem td_4_12 (j := 5) rfl) rfl
theorem mw_4_206 : Cond.methodLink RL 116 yX11_good ∈ WS := tb_4 (td_mem td_4_12 (j := 14) rfl) rfl
theorem mw_4_207 : Cond.instanceMethod yX11_good ∈ WS := tb_4 (td_mem td_4_12 (j := 15) rfl) rfl
theorem mw_4_208 : Cond.selects RX11 yX11_good yX11_good ∈ WS := tb_4 (td_mem td_4_13 (j := 0) rfl) rfl
theorem mw_4_209 : Cond.code yX11_good cX11_good 1 (some .long) ∈ WS := tb_4 (td_mem td_4_13 (j := 1) rfl) rfl
theorem mw_4_210 : Cond.methodLink RL 120 yX11_pair ∈ WS := tb_4 (td_mem td_4_13 (j := 2) rfl) rfl
theorem mw_4_211 : Cond.instanceMethod yX11_pair ∈ WS := tb_4 (td_mem td_4_13 (j := 3) rfl) rfl
theorem mw_4_212 : Cond.selects RX11 yX11_pair yX11_pair ∈ WS := tb_4 (td_mem td_4_13 (j := 4) rfl) rfl
theorem mw_4_213 : Cond.code yX11_pair cX11_pair 11 (some .int) ∈ WS := tb_4 (td_mem td_4_13 (j := 5) rfl) rfl
theorem mw_4_218 : Cond.methodLink RL 124 yX11_wasted ∈ WS := tb_4 (td_mem td_4_13 (j := 10) rfl) rfl
theorem mw_4_219 : Cond.instanceMethod yX11_wasted ∈ WS := tb_4 (td_mem td_4_13 (j := 11) rfl) rfl
theorem mw_4_220 : Cond.selects RX11 yX11_wasted yX11_wasted ∈ WS := tb_4 (td_mem td_4_13 (j := 12) rfl) rfl
theorem mw_4_221 : Cond.code yX11_wasted cX11_wasted 2 (some .long) ∈ WS := tb_4 (td_mem td_4_13 (j := 13) rfl) rfl
theorem mw_4_223 : Cond.methodLink RL 128 yX11_beside ∈ WS := tb_4 (td_mem td_4_13 (j := 15) rfl) rfl
theorem mw_4_224 : Cond.instanceMethod yX11_beside ∈ WS := tb_4 (td_mem td_4_14 (j := 0) rfl) rfl
theorem mw_4_225 : Cond.selects RX11 yX11_beside yX11_beside ∈ WS := tb_4 (td_mem td_4_14 (j := 1) rfl) rfl
theorem mw_4_226 : Cond.code yX11_beside cX11_beside 4 (some .long) ∈ WS := tb_4 (td_mem td_4_14 (j := 2) rfl) rfl
theorem mw_4_231 : Cond.methodLink RL 133 yX11_worse ∈ WS := tb_4 (td_mem td_4_14 (j := 7) rfl) rfl
theorem mw_4_232 : Cond.instanceMethod yX11_worse ∈ WS := tb_4 (td_mem td_4_14 (j := 8) rfl) rfl
theorem mw_4_233 : Cond.selects RX11 yX11_worse yX11_worse ∈ WS := tb_4 (td_mem td_4_14 (j := 9) rfl) rfl
theorem mw_4_234 : Cond.code yX11_worse cX11_worse 5 (some .int) ∈ WS := tb_4 (td_mem td_4_14 (j := 10) rfl) rfl
theorem mw_4_235 : Cond.methodLink RL 137 yX11_next ∈ WS := tb_4 (td_mem td_4_14 (j := 11) rfl) rfl
theorem mw_4_236 : Cond.instanceMethod yX11_next ∈ WS := tb_4 (td_mem td_4_14 (j := 12) rfl) rfl
theorem mw_4_237 : Cond.selects RX11 yX11_next yX11_next ∈ WS := tb_4 (td_mem td_4_14 (j := 13) rfl) rfl
theorem mw_4_238 : Cond.code yX11_next cX11_next 7 (some .int) ∈ WS := tb_4 (td_mem td_4_14 (j := 14) rfl) rfl
theorem mw_4_239 : Cond.methodLink RL 141 yX11_move ∈ WS := tb_4 (td_mem td_4_14 (j := 15) rfl) rfl
set_option maxRecDepth 100000 in
theorem td_5_0 : (tables_1_5.drop 0).take 16 = [(Jvm.Cond.instanceMethod ({ cls := "LockRail", name := "move", desc := "(II)I" } : Jvm.MethodName)), (Jvm.Cond.selects "LockRail" ({ cls := "LockRail", name := "move", desc := "(II)I" } : Jvm.MethodName) ({ cls := "LockRail", name := "move", desc := "(II)I" } : Jvm.MethodName)), (Jvm.Cond.code ({ cls := "LockRail", name := "move", desc := "(II)I" } : Jvm.MethodName) prog_1_method_32_code (5 : Nat) (Option.some Jvm.ClassFile.FieldType.int)), (Jvm.Cond.methodLinkNest "LockRail" (229 : Nat) ({ cls := "LockRail$Bikes", name := "standingAt", desc := "(I)I" } : Jvm.MethodName) "LockRail"), (Jvm.Cond.methodLink "LockRailLaw" (145 : Nat) ({ cls := "LockRail", name := "swap", desc := "(II)I" } : Jvm.MethodName)), (Jvm.Cond.instanceMethod ({ cls := "LockRail", name := "swap", desc := "(II)I" } : Jvm.MethodName)), (Jvm.Cond.selects "LockRail" ({ cls := "LockRail", name := "swap", desc := "(II)I" } : Jvm.MethodName) ({ cls := "LockRail", name := "swap", desc := "(II)I" } : Jvm.MethodName)), (Jvm.Cond.code ({ cls := "LockRail", name := "swap", desc := "(II)I" } : Jvm.MethodName) prog_1_method_33_code (6 : Nat) (Option.some Jvm.ClassFile.FieldType.int)), (Jvm.Cond.methodLink "LockRailLaw" (149 : Nat) ({ cls := "LockRail", name := "where", desc := "(I)I" } : Jvm.MethodName)), (Jvm.Cond.instanceMethod ({ cls := "LockRail", name := "where", desc := "(I)I" } : Jvm.MethodName)), (Jvm.Cond.selects "LockRail" ({ cls := "LockRail", name := "where", desc := "(I)I" } : Jvm.MethodName) ({ cls := "LockRail", name := "where", desc := "(I)I" } : Jvm.MethodName)), (Jvm.Cond.code ({ cls := "LockRail", name := "where", desc := "(I)I" } : Jvm.MethodName) prog_1_method_34_code (9 : Nat) (Option.some Jvm.ClassFile.FieldType.int)), (Jvm.Cond.methodLink "LockRailLaw" (153 : Nat) ({ cls := "LockRail", name := "lamp", desc := "(I)I" } : Jvm.MethodName)), (Jvm.Cond.instanceMethod ({ cls := "LockRail", name := "lamp", desc := "(I)I" } : Jvm.MethodName)), (Jvm.Cond.selects "LockRail" ({ cls := "LockRail", name := "lamp", desc := "(I)I" } : Jvm.MethodName) ({ cls := "LockRail", name := "lamp", desc := "(I)I" } : Jvm.MethodName)), (Jvm.Cond.code ({ cls := "LockRail", name := "lamp", desc := "(I)I" } : Jvm.MethodName) prog_1_method_35_code (8 : Nat) (Option.some Jvm.ClassFile.FieldType.int))] := rfl
theorem mw_5_0 : Cond.instanceMethod yX11_move ∈ WS := tb_5 (td_mem td_5_0 (j := 0) rfl) rfl
theorem mw_5_1 : Cond.selects RX11 yX11_move yX11_move ∈ WS := tb_5 (td_mem td_5_0 (j := 1) rfl) rfl
theorem mw_5_2 : Cond.code yX11_move cX11_move 5 (some .int) ∈ WS := tb_5 (td_mem td_5_0 (j := 2) rfl) rfl
theorem mw_5_4 : Cond.methodLink RL 145 yX11_swap ∈ WS := tb_5 (td_mem td_5_0 (j := 4) rfl) rfl
theorem mw_5_5 : Cond.instanceMethod yX11_swap ∈ WS := tb_5 (td_mem td_5_0 (j := 5) rfl) rfl
theorem mw_5_6 : Cond.selects RX11 yX11_swap yX11_swap ∈ WS := tb_5 (td_mem td_5_0 (j := 6) rfl) rfl
theorem mw_5_7 : Cond.code yX11_swap cX11_swap 6 (some .int) ∈ WS := tb_5 (td_mem td_5_0 (j := 7) rfl) rfl
theorem mw_5_8 : Cond.methodLink RL 149 yX11_where ∈ WS := tb_5 (td_mem td_5_0 (j := 8) rfl) rfl
theorem mw_5_9 : Cond.instanceMethod yX11_where ∈ WS := tb_5 (td_mem td_5_0 (j := 9) rfl) rfl
theorem mw_5_10 : Cond.selects RX11 yX11_where yX11_where ∈ WS := tb_5 (td_mem td_5_0 (j := 10) rfl) rfl
theorem mw_5_11 : Cond.code yX11_where cX11_where 9 (some .int) ∈ WS := tb_5 (td_mem td_5_0 (j := 11) rfl) rfl
theorem mw_5_12 : Cond.methodLink RL 153 yX11_lamp ∈ WS := tb_5 (td_mem td_5_0 (j := 12) rfl) rfl
theorem mw_5_13 : Cond.instanceMethod yX11_lamp ∈ WS := tb_5 (td_mem td_5_0 (j := 13) rfl) rfl
theorem mw_5_14 : Cond.selects RX11 yX11_lamp yX11_lamp ∈ WS := tb_5 (td_mem td_5_0 (j := 14) rfl) rfl
theorem mw_5_15 : Cond.code yX11_lamp cX11_lamp 8 (some .int) ∈ WS := tb_5 (td_mem td_5_0 (j := 15) rfl) rfl
theorem mw_5_24 : Cond.methodLink RL 157 yX11_lit ∈ WS := tb_5 (td_mem td_5_1 (j := 8) rfl) rfl
theorem mw_5_25 : Cond.instanceMethod yX11_lit ∈ WS := tb_5 (td_mem td_5_1 (j := 9) rfl) rfl
theorem mw_5_26 : Cond.selects RX11 yX11_lit yX11_lit ∈ WS := tb_5 (td_mem td_5_1 (j := 10) rfl) rfl
theorem mw_5_27 : Cond.code yX11_lit cX11_lit 3 (some .long) ∈ WS := tb_5 (td_mem td_5_1 (j := 11) rfl) rfl
theorem mw_5_28 : Cond.methodLink RL 161 yX11_watch ∈ WS := tb_5 (td_mem td_5_1 (j := 12) rfl) rfl
theorem mw_5_29 : Cond.instanceMethod yX11_watch ∈ WS := tb_5 (td_mem td_5_1 (j := 13) rfl) rfl
theorem mw_5_30 : Cond.selects RX11 yX11_watch yX11_watch ∈ WS := tb_5 (td_mem td_5_1 (j := 14) rfl) rfl
theorem mw_5_31 : Cond.code yX11_watch cX11_watch 3 (some .int) ∈ WS := tb_5 (td_mem td_5_1 (j := 15) rfl) rfl
theorem mw_5_32 : Cond.methodLink RL 166 yX11_penny ∈ WS := tb_5 (td_mem td_5_2 (j := 0) rfl) rfl
theorem mw_5_33 : Cond.instanceMethod yX11_penny ∈ WS := tb_5 (td_mem td_5_2 (j := 1) rfl) rfl
theorem mw_5_34 : Cond.selects RX11 yX11_penny yX11_penny ∈ WS := tb_5 (td_mem td_5_2 (j := 2) rfl) rfl
theorem mw_5_35 : Cond.code yX11_penny cX11_penny 3 (some .long) ∈ WS := tb_5 (td_mem td_5_2 (j := 3) rfl) rfl
theorem mw_5_37 : Cond.methodLink RL 170 yX11_enough ∈ WS := tb_5 (td_mem td_5_2 (j := 5) rfl) rfl
theorem mw_5_38 : Cond.instanceMethod yX11_enough ∈ WS := tb_5 (td_mem td_5_2 (j := 6) rfl) rfl
theorem mw_5_39 : Cond.selects RX11 yX11_enough yX11_enough ∈ WS := tb_5 (td_mem td_5_2 (j := 7) rfl) rfl
theorem mw_5_40 : Cond.code yX11_enough cX11_enough 5 (some .int) ∈ WS := tb_5 (td_mem td_5_2 (j := 8) rfl) rfl
theorem mw_5_45 : Cond.methodLink RL 174 yX11_marks ∈ WS := tb_5 (td_mem td_5_2 (j := 13) rfl) rfl
theorem mw_5_46 : Cond.instanceMethod yX11_marks ∈ WS := tb_5 (td_mem td_5_2 (j := 14) rfl) rfl
theorem mw_5_47 : Cond.selects RX11 yX11_marks yX11_marks ∈ WS := tb_5 (td_mem td_5_2 (j := 15) rfl) rfl
theorem mw_5_48 : Cond.code yX11_marks cX11_marks 3 (some .int) ∈ WS := tb_5 (td_mem td_5_3 (j := 0) rfl) rfl
theorem mw_5_53 : Cond.methodLink RL 178 yX11_hides ∈ WS := tb_5 (td_mem td_5_3 (j := 5) rfl) rfl
theorem mw_5_54 : Cond.instanceMethod yX11_hides ∈ WS := tb_5 (td_mem td_5_3 (j := 6) rfl) rfl
theorem mw_5_55 : Cond.selects RX11 yX11_hides yX11_hides ∈ WS := tb_5 (td_mem td_5_3 (j := 7) rfl) rfl
theorem mw_5_56 : Cond.code yX11_hides cX11_hides 4 (some .long) ∈ WS := tb_5 (td_mem td_5_3 (j := 8) rfl) rfl
theorem mw_5_65 : Cond.methodLink RL 182 yX11_bait ∈ WS := tb_5 (td_mem td_5_4 (j := 1) rfl) rfl
theorem mw_5_66 : Cond.instanceMethod yX11_bait ∈ WS := tb_5 (td_mem td_5_4 (j := 2) rfl) rfl
theorem mw_5_67 : Cond.selects RX11 yX11_bait yX11_bait ∈ WS := tb_5 (td_mem td_5_4 (j := 3) rfl) rfl
theorem mw_5_68 : Cond.code yX11_bait cX11_bait 5 (some .long) ∈ WS := tb_5 (td_mem td_5_4 (j := 4) rfl) rfl
theorem mw_5_85 : Cond.methodLink RL 186 yX11_caught ∈ WS := tb_5 (td_mem td_5_5 (j := 5) rfl) rfl
theorem mw_5_86 : Cond.instanceMethod yX11_caught ∈ WS := tb_5 (td_mem td_5_5 (j := 6) rfl) rfl
theorem mw_5_87 : Cond.selects RX11 yX11_caught yX11_caught ∈ WS := tb_5 (td_mem td_5_5 (j := 7) rfl) rfl
theorem mw_5_88 : Cond.code yX11_caught cX11_caught 6 (some .long) ∈ WS := tb_5 (td_mem td_5_5 (j := 8) rfl) rfl
theorem mw_5_93 : Cond.methodLink RL 191 yX11_lures ∈ WS := tb_5 (td_mem td_5_5 (j := 13) rfl) rfl
theorem mw_5_94 : Cond.instanceMethod yX11_lures ∈ WS := tb_5 (td_mem td_5_5 (j := 14) rfl) rfl
theorem mw_5_95 : Cond.selects RX11 yX11_lures yX11_lures ∈ WS := tb_5 (td_mem td_5_5 (j := 15) rfl) rfl
theorem mw_5_96 : Cond.code yX11_lures cX11_lures 5 (some .int) ∈ WS := tb_5 (td_mem td_5_6 (j := 0) rfl) rfl
theorem mw_5_101 : Cond.methodLink RL 195 yX11_cover ∈ WS := tb_5 (td_mem td_5_6 (j := 5) rfl) rfl
theorem mw_5_102 : Cond.instanceMethod yX11_cover ∈ WS := tb_5 (td_mem td_5_6 (j := 6) rfl) rfl
theorem mw_5_103 : Cond.selects RX11 yX11_cover yX11_cover ∈ WS := tb_5 (td_mem td_5_6 (j := 7) rfl) rfl
theorem mw_5_104 : Cond.code yX11_cover cX11_cover 5 (some .long) ∈ WS := tb_5 (td_mem td_5_6 (j := 8) rfl) rfl
theorem mw_5_119 : Cond.methodLink RL 199 yX11_careless ∈ WS := tb_5 (td_mem td_5_7 (j := 7) rfl) rfl
theorem mw_5_120 : Cond.instanceMethod yX11_careless ∈ WS := tb_5 (td_mem td_5_7 (j := 8) rfl) rfl
theorem mw_5_121 : Cond.selects RX11 yX11_careless yX11_careless ∈ WS := tb_5 (td_mem td_5_7 (j := 9) rfl) rfl
theorem mw_5_122 : Cond.code yX11_careless cX11_careless 4 (some .int) ∈ WS := tb_5 (td_mem td_5_7 (j := 10) rfl) rfl
theorem mw_5_123 : Cond.methodLink RL 204 yX11_law ∈ WS := tb_5 (td_mem td_5_7 (j := 11) rfl) rfl
theorem mw_5_124 : Cond.instanceMethod yX11_law ∈ WS := tb_5 (td_mem td_5_7 (j := 12) rfl) rfl
theorem mw_5_125 : Cond.selects RX11 yX11_law yX11_law ∈ WS := tb_5 (td_mem td_5_7 (j := 13) rfl) rfl
theorem mw_5_126 : Cond.code yX11_law cX11_law 2 (some .long) ∈ WS := tb_5 (td_mem td_5_7 (j := 14) rfl) rfl
theorem mw_5_136 : Cond.methodLink RL 208 yX11_laws ∈ WS := tb_5 (td_mem td_5_8 (j := 8) rfl) rfl
theorem mw_5_137 : Cond.instanceMethod yX11_laws ∈ WS := tb_5 (td_mem td_5_8 (j := 9) rfl) rfl
theorem mw_5_138 : Cond.selects RX11 yX11_laws yX11_laws ∈ WS := tb_5 (td_mem td_5_8 (j := 10) rfl) rfl
theorem mw_5_139 : Cond.code yX11_laws cX11_laws 7 (some .int) ∈ WS := tb_5 (td_mem td_5_8 (j := 11) rfl) rfl
theorem mw_5_140 : Cond.methodLink RL 212 yX11_rather ∈ WS := tb_5 (td_mem td_5_8 (j := 12) rfl) rfl
theorem mw_5_141 : Cond.instanceMethod yX11_rather ∈ WS := tb_5 (td_mem td_5_8 (j := 13) rfl) rfl
theorem mw_5_142 : Cond.selects RX11 yX11_rather yX11_rather ∈ WS := tb_5 (td_mem td_5_8 (j := 14) rfl) rfl
theorem mw_5_143 : Cond.code yX11_rather cX11_rather 6 (some .int) ∈ WS := tb_5 (td_mem td_5_8 (j := 15) rfl) rfl
theorem mw_5_153 : Cond.methodLink RL 216 yX11_run ∈ WS := tb_5 (td_mem td_5_9 (j := 9) rfl) rfl
theorem mw_5_154 : Cond.instanceMethod yX11_run ∈ WS := tb_5 (td_mem td_5_9 (j := 10) rfl) rfl
theorem mw_5_155 : Cond.selects RX11 yX11_run yX11_run ∈ WS := tb_5 (td_mem td_5_9 (j := 11) rfl) rfl
theorem mw_5_156 : Cond.code yX11_run cX11_run 2 (some .int) ∈ WS := tb_5 (td_mem td_5_9 (j := 12) rfl) rfl
theorem mw_5_177 : Cond.methodLink RL 220 yX11_told ∈ WS := tb_5 (td_mem td_5_11 (j := 1) rfl) rfl
theorem mw_5_178 : Cond.instanceMethod yX11_told ∈ WS := tb_5 (td_mem td_5_11 (j := 2) rfl) rfl
theorem mw_5_179 : Cond.selects RX11 yX11_told yX11_told ∈ WS := tb_5 (td_mem td_5_11 (j := 3) rfl) rfl
theorem mw_5_180 : Cond.code yX11_told cX11_told 4 (some .int) ∈ WS := tb_5 (td_mem td_5_11 (j := 4) rfl) rfl
theorem mw_5_204 : Cond.methodLink RL 224 yX11_taken ∈ WS := tb_5 (td_mem td_5_12 (j := 12) rfl) rfl
theorem mw_5_205 : Cond.instanceMethod yX11_taken ∈ WS := tb_5 (td_mem td_5_12 (j := 13) rfl) rfl
theorem mw_5_206 : Cond.selects RX11 yX11_taken yX11_taken ∈ WS := tb_5 (td_mem td_5_12 (j := 14) rfl) rfl
theorem mw_5_207 : Cond.code yX11_taken cX11_taken 2 (some .int) ∈ WS := tb_5 (td_mem td_5_12 (j := 15) rfl) rfl
theorem mw_5_208 : Cond.methodLink RL 228 yX11_took ∈ WS := tb_5 (td_mem td_5_13 (j := 0) rfl) rfl
theorem mw_5_209 : Cond.instanceMethod yX11_took ∈ WS := tb_5 (td_mem td_5_13 (j := 1) rfl) rfl
theorem mw_5_210 : Cond.selects RX11 yX11_took yX11_took ∈ WS := tb_5 (td_mem td_5_13 (j := 2) rfl) rfl
theorem mw_5_211 : Cond.code yX11_took cX11_took 2 (some .int) ∈ WS := tb_5 (td_mem td_5_13 (j := 3) rfl) rfl
theorem mw_5_212 : Cond.methodLink RL 232 yX11_years ∈ WS := tb_5 (td_mem td_5_13 (j := 4) rfl) rfl
theorem mw_5_213 : Cond.instanceMethod yX11_years ∈ WS := tb_5 (td_mem td_5_13 (j := 5) rfl) rfl
theorem mw_5_214 : Cond.selects RX11 yX11_years yX11_years ∈ WS := tb_5 (td_mem td_5_13 (j := 6) rfl) rfl
theorem mw_5_215 : Cond.code yX11_years cX11_years 12 (some .long) ∈ WS := tb_5 (td_mem td_5_13 (j := 7) rfl) rfl
theorem mw_5_223 : Cond.methodLink RL 236 yX11_count ∈ WS := tb_5 (td_mem td_5_13 (j := 15) rfl) rfl
theorem mw_5_224 : Cond.instanceMethod yX11_count ∈ WS := tb_5 (td_mem td_5_14 (j := 0) rfl) rfl
theorem mw_5_225 : Cond.selects RX11 yX11_count yX11_count ∈ WS := tb_5 (td_mem td_5_14 (j := 1) rfl) rfl
theorem mw_5_226 : Cond.code yX11_count cX11_count 2 (some .int) ∈ WS := tb_5 (td_mem td_5_14 (j := 2) rfl) rfl
theorem mw_5_232 : Cond.methodLink RL 240 yX11_keep ∈ WS := tb_5 (td_mem td_5_14 (j := 8) rfl) rfl
theorem mw_5_233 : Cond.instanceMethod yX11_keep ∈ WS := tb_5 (td_mem td_5_14 (j := 9) rfl) rfl
theorem mw_5_234 : Cond.selects RX11 yX11_keep yX11_keep ∈ WS := tb_5 (td_mem td_5_14 (j := 10) rfl) rfl
theorem mw_5_235 : Cond.code yX11_keep cX11_keep 3 (some .int) ∈ WS := tb_5 (td_mem td_5_14 (j := 11) rfl) rfl
theorem mw_5_236 : Cond.methodLink RL 244 yX11_back ∈ WS := tb_5 (td_mem td_5_14 (j := 12) rfl) rfl
theorem mw_5_237 : Cond.instanceMethod yX11_back ∈ WS := tb_5 (td_mem td_5_14 (j := 13) rfl) rfl
theorem mw_5_238 : Cond.selects RX11 yX11_back yX11_back ∈ WS := tb_5 (td_mem td_5_14 (j := 14) rfl) rfl
theorem mw_5_239 : Cond.code yX11_back cX11_back 3 (some .int) ∈ WS := tb_5 (td_mem td_5_14 (j := 15) rfl) rfl
theorem mw_6_0 : Cond.methodLink RL 248 yX11_row ∈ WS := tb_6 (td_mem td_6_0 (j := 0) rfl) rfl
theorem mw_6_1 : Cond.instanceMethod yX11_row ∈ WS := tb_6 (td_mem td_6_0 (j := 1) rfl) rfl
theorem mw_6_2 : Cond.selects RX11 yX11_row yX11_row ∈ WS := tb_6 (td_mem td_6_0 (j := 2) rfl) rfl
theorem mw_6_3 : Cond.code yX11_row cX11_row 4 (some .int) ∈ WS := tb_6 (td_mem td_6_0 (j := 3) rfl) rfl
theorem mw_6_8 : Cond.methodLink RL 254 yX11_write ∈ WS := tb_6 (td_mem td_6_0 (j := 8) rfl) rfl
theorem mw_6_9 : Cond.instanceMethod yX11_write ∈ WS := tb_6 (td_mem td_6_0 (j := 9) rfl) rfl
theorem mw_6_10 : Cond.selects RX11 yX11_write yX11_write ∈ WS := tb_6 (td_mem td_6_0 (j := 10) rfl) rfl
theorem mw_6_11 : Cond.code yX11_write cX11_write 5 (some .int) ∈ WS := tb_6 (td_mem td_6_0 (j := 11) rfl) rfl
theorem mw_6_19 : Cond.methodLink RL 259 yX11_paste ∈ WS := tb_6 (td_mem td_6_1 (j := 3) rfl) rfl
theorem mw_6_20 : Cond.instanceMethod yX11_paste ∈ WS := tb_6 (td_mem td_6_1 (j := 4) rfl) rfl
theorem mw_6_21 : Cond.selects RX11 yX11_paste yX11_paste ∈ WS := tb_6 (td_mem td_6_1 (j := 5) rfl) rfl
theorem mw_6_22 : Cond.code yX11_paste cX11_paste 6 (some .int) ∈ WS := tb_6 (td_mem td_6_1 (j := 6) rfl) rfl
theorem mw_6_197 : Cond.methodLink RL 251 yX12_row ∈ WS := tb_6 (td_mem td_6_12 (j := 5) rfl) rfl
theorem mw_6_198 : Cond.instanceMethod yX12_row ∈ WS := tb_6 (td_mem td_6_12 (j := 6) rfl) rfl
theorem mw_6_199 : Cond.selects RX12 yX12_row yX12_row ∈ WS := tb_6 (td_mem td_6_12 (j := 7) rfl) rfl
theorem mw_6_200 : Cond.code yX12_row cX12_row 5 (some .int) ∈ WS := tb_6 (td_mem td_6_12 (j := 8) rfl) rfl
theorem mw_6_208 : Cond.methodLink RL 258 yX12_write ∈ WS := tb_6 (td_mem td_6_13 (j := 0) rfl) rfl
theorem mw_6_209 : Cond.instanceMethod yX12_write ∈ WS := tb_6 (td_mem td_6_13 (j := 1) rfl) rfl
theorem mw_6_210 : Cond.selects RX12 yX12_write yX12_write ∈ WS := tb_6 (td_mem td_6_13 (j := 2) rfl) rfl
theorem mw_6_211 : Cond.code yX12_write cX12_write 5 (some .int) ∈ WS := tb_6 (td_mem td_6_13 (j := 3) rfl) rfl
theorem mw_6_215 : Cond.methodLink RL 262 yX12_paste ∈ WS := tb_6 (td_mem td_6_13 (j := 7) rfl) rfl
theorem mw_6_216 : Cond.instanceMethod yX12_paste ∈ WS := tb_6 (td_mem td_6_13 (j := 8) rfl) rfl
theorem mw_6_217 : Cond.selects RX12 yX12_paste yX12_paste ∈ WS := tb_6 (td_mem td_6_13 (j := 9) rfl) rfl
theorem mw_6_218 : Cond.code yX12_paste cX12_paste 7 (some .int) ∈ WS := tb_6 (td_mem td_6_13 (j := 10) rfl) rfl
theorem mw_6_219 : Cond.methodLink RL 17 yX12_feed ∈ WS := tb_6 (td_mem td_6_13 (j := 11) rfl) rfl
theorem mw_6_220 : Cond.instanceMethod yX12_feed ∈ WS := tb_6 (td_mem td_6_13 (j := 12) rfl) rfl
theorem mw_6_221 : Cond.selects RX12 yX12_feed yX12_feed ∈ WS := tb_6 (td_mem td_6_13 (j := 13) rfl) rfl
theorem mw_6_222 : Cond.code yX12_feed cX12_feed 6 (some .int) ∈ WS := tb_6 (td_mem td_6_13 (j := 14) rfl) rfl
theorem mw_6_227 : Cond.methodLink RL 22 yX12_end ∈ WS := tb_6 (td_mem td_6_14 (j := 3) rfl) rfl
theorem mw_6_228 : Cond.instanceMethod yX12_end ∈ WS := tb_6 (td_mem td_6_14 (j := 4) rfl) rfl
theorem mw_6_229 : Cond.selects RX12 yX12_end yX12_end ∈ WS := tb_6 (td_mem td_6_14 (j := 5) rfl) rfl
theorem mw_6_230 : Cond.code yX12_end cX12_end 2 (some .int) ∈ WS := tb_6 (td_mem td_6_14 (j := 6) rfl) rfl
theorem mw_6_231 : Cond.methodLink RL 31 yX12_fault ∈ WS := tb_6 (td_mem td_6_14 (j := 7) rfl) rfl
theorem mw_6_232 : Cond.instanceMethod yX12_fault ∈ WS := tb_6 (td_mem td_6_14 (j := 8) rfl) rfl
theorem mw_6_233 : Cond.selects RX12 yX12_fault yX12_fault ∈ WS := tb_6 (td_mem td_6_14 (j := 9) rfl) rfl
theorem mw_6_234 : Cond.code yX12_fault cX12_fault 2 (some .int) ∈ WS := tb_6 (td_mem td_6_14 (j := 10) rfl) rfl
theorem mw_6_235 : Cond.methodLink RL 27 yX12_rail ∈ WS := tb_6 (td_mem td_6_14 (j := 11) rfl) rfl
theorem mw_6_236 : Cond.instanceMethod yX12_rail ∈ WS := tb_6 (td_mem td_6_14 (j := 12) rfl) rfl
theorem mw_6_237 : Cond.selects RX12 yX12_rail yX12_rail ∈ WS := tb_6 (td_mem td_6_14 (j := 13) rfl) rfl
theorem mw_6_238 : Cond.code yX12_rail cX12_rail 1 (some .int) ∈ WS := tb_6 (td_mem td_6_14 (j := 14) rfl) rfl
theorem mw_7_121 : Cond.methodLink RL 35 yX12_light ∈ WS := tb_7 (td_mem td_7_7 (j := 9) rfl) rfl
theorem mw_7_122 : Cond.instanceMethod yX12_light ∈ WS := tb_7 (td_mem td_7_7 (j := 10) rfl) rfl
theorem mw_7_123 : Cond.selects RX12 yX12_light yX12_light ∈ WS := tb_7 (td_mem td_7_7 (j := 11) rfl) rfl
theorem mw_7_124 : Cond.code yX12_light cX12_light 2 (some .int) ∈ WS := tb_7 (td_mem td_7_7 (j := 12) rfl) rfl
theorem mw_7_139 : Cond.methodLink RL 40 yX12_bike ∈ WS := tb_7 (td_mem td_7_8 (j := 11) rfl) rfl
theorem mw_7_140 : Cond.instanceMethod yX12_bike ∈ WS := tb_7 (td_mem td_7_8 (j := 12) rfl) rfl
theorem mw_7_141 : Cond.selects RX12 yX12_bike yX12_bike ∈ WS := tb_7 (td_mem td_7_8 (j := 13) rfl) rfl
theorem mw_7_142 : Cond.code yX12_bike cX12_bike 3 (some .int) ∈ WS := tb_7 (td_mem td_7_8 (j := 14) rfl) rfl
theorem mw_7_151 : Cond.methodLink RL 44 yX12_trouble ∈ WS := tb_7 (td_mem td_7_9 (j := 7) rfl) rfl
theorem mw_7_152 : Cond.instanceMethod yX12_trouble ∈ WS := tb_7 (td_mem td_7_9 (j := 8) rfl) rfl
theorem mw_7_153 : Cond.selects RX12 yX12_trouble yX12_trouble ∈ WS := tb_7 (td_mem td_7_9 (j := 9) rfl) rfl
theorem mw_7_154 : Cond.code yX12_trouble cX12_trouble 3 (some .int) ∈ WS := tb_7 (td_mem td_7_9 (j := 10) rfl) rfl
theorem mw_7_164 : Cond.methodLink RL 48 yX12_gain ∈ WS := tb_7 (td_mem td_7_10 (j := 4) rfl) rfl
theorem mw_7_165 : Cond.instanceMethod yX12_gain ∈ WS := tb_7 (td_mem td_7_10 (j := 5) rfl) rfl
theorem mw_7_166 : Cond.selects RX12 yX12_gain yX12_gain ∈ WS := tb_7 (td_mem td_7_10 (j := 6) rfl) rfl
theorem mw_7_167 : Cond.code yX12_gain cX12_gain 2 (some .int) ∈ WS := tb_7 (td_mem td_7_10 (j := 7) rfl) rfl
theorem mw_7_176 : Cond.methodLink RL 52 yX12_takes_ ∈ WS := tb_7 (td_mem td_7_11 (j := 0) rfl) rfl
theorem mw_7_177 : Cond.instanceMethod yX12_takes_ ∈ WS := tb_7 (td_mem td_7_11 (j := 1) rfl) rfl
theorem mw_7_178 : Cond.selects RX12 yX12_takes_ yX12_takes_ ∈ WS := tb_7 (td_mem td_7_11 (j := 2) rfl) rfl
theorem mw_7_179 : Cond.code yX12_takes_ cX12_takes_ 3 (some .int) ∈ WS := tb_7 (td_mem td_7_11 (j := 3) rfl) rfl
theorem mw_7_188 : Cond.methodLink RL 56 yX12_wants ∈ WS := tb_7 (td_mem td_7_11 (j := 12) rfl) rfl
theorem mw_7_189 : Cond.instanceMethod yX12_wants ∈ WS := tb_7 (td_mem td_7_11 (j := 13) rfl) rfl
theorem mw_7_190 : Cond.selects RX12 yX12_wants yX12_wants ∈ WS := tb_7 (td_mem td_7_11 (j := 14) rfl) rfl
theorem mw_7_191 : Cond.code yX12_wants cX12_wants 2 (some .int) ∈ WS := tb_7 (td_mem td_7_11 (j := 15) rfl) rfl
theorem mw_7_196 : Cond.methodLink RL 61 yX12_part ∈ WS := tb_7 (td_mem td_7_12 (j := 4) rfl) rfl
theorem mw_7_197 : Cond.instanceMethod yX12_part ∈ WS := tb_7 (td_mem td_7_12 (j := 5) rfl) rfl
theorem mw_7_198 : Cond.selects RX12 yX12_part yX12_part ∈ WS := tb_7 (td_mem td_7_12 (j := 6) rfl) rfl
theorem mw_7_199 : Cond.code yX12_part cX12_part 2 (some .long) ∈ WS := tb_7 (td_mem td_7_12 (j := 7) rfl) rfl
theorem mw_7_214 : Cond.methodLink RL 65 yX12_many ∈ WS := tb_7 (td_mem td_7_13 (j := 6) rfl) rfl
theorem mw_7_215 : Cond.instanceMethod yX12_many ∈ WS := tb_7 (td_mem td_7_13 (j := 7) rfl) rfl
theorem mw_7_216 : Cond.selects RX12 yX12_many yX12_many ∈ WS := tb_7 (td_mem td_7_13 (j := 8) rfl) rfl
theorem mw_7_217 : Cond.code yX12_many cX12_many 5 (some .long) ∈ WS := tb_7 (td_mem td_7_13 (j := 9) rfl) rfl
theorem mw_7_221 : Cond.methodLink RL 69 yX12_risk ∈ WS := tb_7 (td_mem td_7_13 (j := 13) rfl) rfl
theorem mw_7_222 : Cond.instanceMethod yX12_risk ∈ WS := tb_7 (td_mem td_7_13 (j := 14) rfl) rfl
theorem mw_7_223 : Cond.selects RX12 yX12_risk yX12_risk ∈ WS := tb_7 (td_mem td_7_13 (j := 15) rfl) rfl
theorem mw_7_224 : Cond.code yX12_risk cX12_risk 2 (some .long) ∈ WS := tb_7 (td_mem td_7_14 (j := 0) rfl) rfl
theorem mw_7_233 : Cond.methodLink RL 74 yX12_has ∈ WS := tb_7 (td_mem td_7_14 (j := 9) rfl) rfl
theorem mw_7_234 : Cond.instanceMethod yX12_has ∈ WS := tb_7 (td_mem td_7_14 (j := 10) rfl) rfl
theorem mw_7_235 : Cond.selects RX12 yX12_has yX12_has ∈ WS := tb_7 (td_mem td_7_14 (j := 11) rfl) rfl
theorem mw_7_236 : Cond.code yX12_has cX12_has 3 (some .long) ∈ WS := tb_7 (td_mem td_7_14 (j := 12) rfl) rfl
theorem mw_7_237 : Cond.methodLink RL 78 yX12_cost ∈ WS := tb_7 (td_mem td_7_14 (j := 13) rfl) rfl
theorem mw_7_238 : Cond.instanceMethod yX12_cost ∈ WS := tb_7 (td_mem td_7_14 (j := 14) rfl) rfl
theorem mw_7_239 : Cond.selects RX12 yX12_cost yX12_cost ∈ WS := tb_7 (td_mem td_7_14 (j := 15) rfl) rfl
theorem mw_8_0 : Cond.code yX12_cost cX12_cost 3 (some .long) ∈ WS := tb_8 (td_mem td_8_0 (j := 0) rfl) rfl
theorem mw_8_24 : Cond.methodLink RL 82 yX12_all ∈ WS := tb_8 (td_mem td_8_1 (j := 8) rfl) rfl
theorem mw_8_25 : Cond.instanceMethod yX12_all ∈ WS := tb_8 (td_mem td_8_1 (j := 9) rfl) rfl
theorem mw_8_26 : Cond.selects RX12 yX12_all yX12_all ∈ WS := tb_8 (td_mem td_8_1 (j := 10) rfl) rfl
theorem mw_8_27 : Cond.code yX12_all cX12_all 2 (some .long) ∈ WS := tb_8 (td_mem td_8_1 (j := 11) rfl) rfl
theorem mw_8_32 : Cond.methodLink RL 86 yX12_option ∈ WS := tb_8 (td_mem td_8_2 (j := 0) rfl) rfl
theorem mw_8_33 : Cond.instanceMethod yX12_option ∈ WS := tb_8 (td_mem td_8_2 (j := 1) rfl) rfl
theorem mw_8_34 : Cond.selects RX12 yX12_option yX12_option ∈ WS := tb_8 (td_mem td_8_2 (j := 2) rfl) rfl
theorem mw_8_35 : Cond.code yX12_option cX12_option 4 (some .int) ∈ WS := tb_8 (td_mem td_8_2 (j := 3) rfl) rfl
theorem mw_8_52 : Cond.methodLink RL 90 yX12_would ∈ WS := tb_8 (td_mem td_8_3 (j := 4) rfl) rfl
theorem mw_8_53 : Cond.instanceMethod yX12_would ∈ WS := tb_8 (td_mem td_8_3 (j := 5) rfl) rfl
theorem mw_8_54 : Cond.selects RX12 yX12_would yX12_would ∈ WS := tb_8 (td_mem td_8_3 (j := 6) rfl) rfl
theorem mw_8_55 : Cond.code yX12_would cX12_would 3 (some .long) ∈ WS := tb_8 (td_mem td_8_3 (j := 7) rfl) rfl
theorem mw_8_64 : Cond.methodLink RL 94 yX12_best ∈ WS := tb_8 (td_mem td_8_4 (j := 0) rfl) rfl
theorem mw_8_65 : Cond.instanceMethod yX12_best ∈ WS := tb_8 (td_mem td_8_4 (j := 1) rfl) rfl
theorem mw_8_66 : Cond.selects RX12 yX12_best yX12_best ∈ WS := tb_8 (td_mem td_8_4 (j := 2) rfl) rfl
theorem mw_8_67 : Cond.code yX12_best cX12_best 2 (some .int) ∈ WS := tb_8 (td_mem td_8_4 (j := 3) rfl) rfl
theorem mw_8_72 : Cond.methodLink RL 98 yX12_restless ∈ WS := tb_8 (td_mem td_8_4 (j := 8) rfl) rfl
theorem mw_8_73 : Cond.instanceMethod yX12_restless ∈ WS := tb_8 (td_mem td_8_4 (j := 9) rfl) rfl
theorem mw_8_74 : Cond.selects RX12 yX12_restless yX12_restless ∈ WS := tb_8 (td_mem td_8_4 (j := 10) rfl) rfl
theorem mw_8_75 : Cond.code yX12_restless cX12_restless 3 (some .int) ∈ WS := tb_8 (td_mem td_8_4 (j := 11) rfl) rfl
theorem mw_8_76 : Cond.methodLink RL 102 yX12_settle ∈ WS := tb_8 (td_mem td_8_4 (j := 12) rfl) rfl
theorem mw_8_77 : Cond.instanceMethod yX12_settle ∈ WS := tb_8 (td_mem td_8_4 (j := 13) rfl) rfl
theorem mw_8_78 : Cond.selects RX12 yX12_settle yX12_settle ∈ WS := tb_8 (td_mem td_8_4 (j := 14) rfl) rfl
theorem mw_8_79 : Cond.code yX12_settle cX12_settle 2 (some .int) ∈ WS := tb_8 (td_mem td_8_4 (j := 15) rfl) rfl
theorem mw_8_89 : Cond.methodLink RL 106 yX12_settles ∈ WS := tb_8 (td_mem td_8_5 (j := 9) rfl) rfl
theorem mw_8_90 : Cond.instanceMethod yX12_settles ∈ WS := tb_8 (td_mem td_8_5 (j := 10) rfl) rfl
theorem mw_8_91 : Cond.selects RX12 yX12_settles yX12_settles ∈ WS := tb_8 (td_mem td_8_5 (j := 11) rfl) rfl
theorem mw_8_92 : Cond.code yX12_settles cX12_settles 2 (some .int) ∈ WS := tb_8 (td_mem td_8_5 (j := 12) rfl) rfl
theorem mw_8_101 : Cond.methodLink RL 111 yX12_settled ∈ WS := tb_8 (td_mem td_8_6 (j := 5) rfl) rfl
theorem mw_8_102 : Cond.instanceMethod yX12_settled ∈ WS := tb_8 (td_mem td_8_6 (j := 6) rfl) rfl
theorem mw_8_103 : Cond.selects RX12 yX12_settled yX12_settled ∈ WS := tb_8 (td_mem td_8_6 (j := 7) rfl) rfl
theorem mw_8_104 : Cond.code yX12_settled cX12_settled 3 (some .long) ∈ WS := tb_8 (td_mem td_8_6 (j := 8) rfl) rfl
theorem mw_8_105 : Cond.methodLink RL 115 yX12_better ∈ WS := tb_8 (td_mem td_8_6 (j := 9) rfl) rfl
theorem mw_8_106 : Cond.instanceMethod yX12_better ∈ WS := tb_8 (td_mem td_8_6 (j := 10) rfl) rfl
theorem mw_8_107 : Cond.selects RX12 yX12_better yX12_better ∈ WS := tb_8 (td_mem td_8_6 (j := 11) rfl) rfl
theorem mw_8_108 : Cond.code yX12_better cX12_better 2 (some .int) ∈ WS := tb_8 (td_mem td_8_6 (j := 12) rfl) rfl
theorem mw_8_118 : Cond.methodLink RL 119 yX12_good ∈ WS := tb_8 (td_mem td_8_7 (j := 6) rfl) rfl
theorem mw_8_119 : Cond.instanceMethod yX12_good ∈ WS := tb_8 (td_mem td_8_7 (j := 7) rfl) rfl
theorem mw_8_120 : Cond.selects RX12 yX12_good yX12_good ∈ WS := tb_8 (td_mem td_8_7 (j := 8) rfl) rfl
theorem mw_8_121 : Cond.code yX12_good cX12_good 3 (some .long) ∈ WS := tb_8 (td_mem td_8_7 (j := 9) rfl) rfl
theorem mw_8_122 : Cond.methodLink RL 123 yX12_pair ∈ WS := tb_8 (td_mem td_8_7 (j := 10) rfl) rfl
theorem mw_8_123 : Cond.instanceMethod yX12_pair ∈ WS := tb_8 (td_mem td_8_7 (j := 11) rfl) rfl
theorem mw_8_124 : Cond.selects RX12 yX12_pair yX12_pair ∈ WS := tb_8 (td_mem td_8_7 (j := 12) rfl) rfl
theorem mw_8_125 : Cond.code yX12_pair cX12_pair 12 (some .int) ∈ WS := tb_8 (td_mem td_8_7 (j := 13) rfl) rfl
theorem mw_8_130 : Cond.methodLink RL 127 yX12_wasted ∈ WS := tb_8 (td_mem td_8_8 (j := 2) rfl) rfl
theorem mw_8_131 : Cond.instanceMethod yX12_wasted ∈ WS := tb_8 (td_mem td_8_8 (j := 3) rfl) rfl
theorem mw_8_132 : Cond.selects RX12 yX12_wasted yX12_wasted ∈ WS := tb_8 (td_mem td_8_8 (j := 4) rfl) rfl
theorem mw_8_133 : Cond.code yX12_wasted cX12_wasted 5 (some .long) ∈ WS := tb_8 (td_mem td_8_8 (j := 5) rfl) rfl
theorem mw_8_135 : Cond.methodLink RL 132 yX12_beside ∈ WS := tb_8 (td_mem td_8_8 (j := 7) rfl) rfl
theorem mw_8_136 : Cond.instanceMethod yX12_beside ∈ WS := tb_8 (td_mem td_8_8 (j := 8) rfl) rfl
theorem mw_8_137 : Cond.selects RX12 yX12_beside yX12_beside ∈ WS := tb_8 (td_mem td_8_8 (j := 9) rfl) rfl
theorem mw_8_138 : Cond.code yX12_beside cX12_beside 4 (some .long) ∈ WS := tb_8 (td_mem td_8_8 (j := 10) rfl) rfl
theorem mw_8_143 : Cond.methodLink RL 136 yX12_worse ∈ WS := tb_8 (td_mem td_8_8 (j := 15) rfl) rfl
theorem mw_8_144 : Cond.instanceMethod yX12_worse ∈ WS := tb_8 (td_mem td_8_9 (j := 0) rfl) rfl
theorem mw_8_145 : Cond.selects RX12 yX12_worse yX12_worse ∈ WS := tb_8 (td_mem td_8_9 (j := 1) rfl) rfl
theorem mw_8_146 : Cond.code yX12_worse cX12_worse 5 (some .int) ∈ WS := tb_8 (td_mem td_8_9 (j := 2) rfl) rfl
theorem mw_8_147 : Cond.methodLink RL 140 yX12_next_ ∈ WS := tb_8 (td_mem td_8_9 (j := 3) rfl) rfl
theorem mw_8_148 : Cond.instanceMethod yX12_next_ ∈ WS := tb_8 (td_mem td_8_9 (j := 4) rfl) rfl
theorem mw_8_149 : Cond.selects RX12 yX12_next_ yX12_next_ ∈ WS := tb_8 (td_mem td_8_9 (j := 5) rfl) rfl
theorem mw_8_150 : Cond.code yX12_next_ cX12_next_ 7 (some .int) ∈ WS := tb_8 (td_mem td_8_9 (j := 6) rfl) rfl
theorem mw_8_151 : Cond.methodLink RL 144 yX12_move ∈ WS := tb_8 (td_mem td_8_9 (j := 7) rfl) rfl
theorem mw_8_152 : Cond.instanceMethod yX12_move ∈ WS := tb_8 (td_mem td_8_9 (j := 8) rfl) rfl
theorem mw_8_153 : Cond.selects RX12 yX12_move yX12_move ∈ WS := tb_8 (td_mem td_8_9 (j := 9) rfl) rfl
theorem mw_8_154 : Cond.code yX12_move cX12_move 5 (some .int) ∈ WS := tb_8 (td_mem td_8_9 (j := 10) rfl) rfl
theorem mw_8_159 : Cond.methodLink RL 148 yX12_swap ∈ WS := tb_8 (td_mem td_8_9 (j := 15) rfl) rfl
theorem mw_8_160 : Cond.instanceMethod yX12_swap ∈ WS := tb_8 (td_mem td_8_10 (j := 0) rfl) rfl
theorem mw_8_161 : Cond.selects RX12 yX12_swap yX12_swap ∈ WS := tb_8 (td_mem td_8_10 (j := 1) rfl) rfl
theorem mw_8_162 : Cond.code yX12_swap cX12_swap 6 (some .int) ∈ WS := tb_8 (td_mem td_8_10 (j := 2) rfl) rfl
theorem mw_8_163 : Cond.methodLink RL 152 yX12_where ∈ WS := tb_8 (td_mem td_8_10 (j := 3) rfl) rfl
theorem mw_8_164 : Cond.instanceMethod yX12_where ∈ WS := tb_8 (td_mem td_8_10 (j := 4) rfl) rfl
theorem mw_8_165 : Cond.selects RX12 yX12_where yX12_where ∈ WS := tb_8 (td_mem td_8_10 (j := 5) rfl) rfl
theorem mw_8_166 : Cond.code yX12_where cX12_where 10 (some .int) ∈ WS := tb_8 (td_mem td_8_10 (j := 6) rfl) rfl
theorem mw_8_167 : Cond.methodLink RL 156 yX12_lamp ∈ WS := tb_8 (td_mem td_8_10 (j := 7) rfl) rfl
theorem mw_8_168 : Cond.instanceMethod yX12_lamp ∈ WS := tb_8 (td_mem td_8_10 (j := 8) rfl) rfl
theorem mw_8_169 : Cond.selects RX12 yX12_lamp yX12_lamp ∈ WS := tb_8 (td_mem td_8_10 (j := 9) rfl) rfl
theorem mw_8_170 : Cond.code yX12_lamp cX12_lamp 8 (some .int) ∈ WS := tb_8 (td_mem td_8_10 (j := 10) rfl) rfl
theorem mw_8_179 : Cond.methodLink RL 160 yX12_lit ∈ WS := tb_8 (td_mem td_8_11 (j := 3) rfl) rfl
theorem mw_8_180 : Cond.instanceMethod yX12_lit ∈ WS := tb_8 (td_mem td_8_11 (j := 4) rfl) rfl
theorem mw_8_181 : Cond.selects RX12 yX12_lit yX12_lit ∈ WS := tb_8 (td_mem td_8_11 (j := 5) rfl) rfl
theorem mw_8_182 : Cond.code yX12_lit cX12_lit 3 (some .long) ∈ WS := tb_8 (td_mem td_8_11 (j := 6) rfl) rfl
theorem mw_8_183 : Cond.methodLink RL 165 yX12_watch ∈ WS := tb_8 (td_mem td_8_11 (j := 7) rfl) rfl
theorem mw_8_184 : Cond.instanceMethod yX12_watch ∈ WS := tb_8 (td_mem td_8_11 (j := 8) rfl) rfl
theorem mw_8_185 : Cond.selects RX12 yX12_watch yX12_watch ∈ WS := tb_8 (td_mem td_8_11 (j := 9) rfl) rfl
theorem mw_8_186 : Cond.code yX12_watch cX12_watch 3 (some .int) ∈ WS := tb_8 (td_mem td_8_11 (j := 10) rfl) rfl
theorem mw_8_187 : Cond.methodLink RL 169 yX12_penny ∈ WS := tb_8 (td_mem td_8_11 (j := 11) rfl) rfl
theorem mw_8_188 : Cond.instanceMethod yX12_penny ∈ WS := tb_8 (td_mem td_8_11 (j := 12) rfl) rfl
theorem mw_8_189 : Cond.selects RX12 yX12_penny yX12_penny ∈ WS := tb_8 (td_mem td_8_11 (j := 13) rfl) rfl
theorem mw_8_190 : Cond.code yX12_penny cX12_penny 4 (some .long) ∈ WS := tb_8 (td_mem td_8_11 (j := 14) rfl) rfl
theorem mw_8_195 : Cond.methodLink RL 173 yX12_enough ∈ WS := tb_8 (td_mem td_8_12 (j := 3) rfl) rfl
theorem mw_8_196 : Cond.instanceMethod yX12_enough ∈ WS := tb_8 (td_mem td_8_12 (j := 4) rfl) rfl
theorem mw_8_197 : Cond.selects RX12 yX12_enough yX12_enough ∈ WS := tb_8 (td_mem td_8_12 (j := 5) rfl) rfl
theorem mw_8_198 : Cond.code yX12_enough cX12_enough 7 (some .int) ∈ WS := tb_8 (td_mem td_8_12 (j := 6) rfl) rfl
theorem mw_8_199 : Cond.methodLink RL 177 yX12_marks ∈ WS := tb_8 (td_mem td_8_12 (j := 7) rfl) rfl
theorem mw_8_200 : Cond.instanceMethod yX12_marks ∈ WS := tb_8 (td_mem td_8_12 (j := 8) rfl) rfl
theorem mw_8_201 : Cond.selects RX12 yX12_marks yX12_marks ∈ WS := tb_8 (td_mem td_8_12 (j := 9) rfl) rfl
theorem mw_8_202 : Cond.code yX12_marks cX12_marks 3 (some .int) ∈ WS := tb_8 (td_mem td_8_12 (j := 10) rfl) rfl
theorem mw_8_211 : Cond.methodLink RL 181 yX12_hides ∈ WS := tb_8 (td_mem td_8_13 (j := 3) rfl) rfl
theorem mw_8_212 : Cond.instanceMethod yX12_hides ∈ WS := tb_8 (td_mem td_8_13 (j := 4) rfl) rfl
theorem mw_8_213 : Cond.selects RX12 yX12_hides yX12_hides ∈ WS := tb_8 (td_mem td_8_13 (j := 5) rfl) rfl
theorem mw_8_214 : Cond.code yX12_hides cX12_hides 4 (some .long) ∈ WS := tb_8 (td_mem td_8_13 (j := 6) rfl) rfl
theorem mw_8_215 : Cond.methodLink RL 185 yX12_bait ∈ WS := tb_8 (td_mem td_8_13 (j := 7) rfl) rfl
theorem mw_8_216 : Cond.instanceMethod yX12_bait ∈ WS := tb_8 (td_mem td_8_13 (j := 8) rfl) rfl
theorem mw_8_217 : Cond.selects RX12 yX12_bait yX12_bait ∈ WS := tb_8 (td_mem td_8_13 (j := 9) rfl) rfl
theorem mw_8_218 : Cond.code yX12_bait cX12_bait 5 (some .long) ∈ WS := tb_8 (td_mem td_8_13 (j := 10) rfl) rfl
theorem mw_8_235 : Cond.methodLink RL 190 yX12_caught ∈ WS := tb_8 (td_mem td_8_14 (j := 11) rfl) rfl
theorem mw_8_236 : Cond.instanceMethod yX12_caught ∈ WS := tb_8 (td_mem td_8_14 (j := 12) rfl) rfl
theorem mw_8_237 : Cond.selects RX12 yX12_caught yX12_caught ∈ WS := tb_8 (td_mem td_8_14 (j := 13) rfl) rfl
theorem mw_8_238 : Cond.code yX12_caught cX12_caught 9 (some .long) ∈ WS := tb_8 (td_mem td_8_14 (j := 14) rfl) rfl
theorem mw_8_239 : Cond.methodLink RL 194 yX12_lures ∈ WS := tb_8 (td_mem td_8_14 (j := 15) rfl) rfl
theorem mw_9_0 : Cond.instanceMethod yX12_lures ∈ WS := tb_9 (td_mem td_9_0 (j := 0) rfl) rfl
theorem mw_9_1 : Cond.selects RX12 yX12_lures yX12_lures ∈ WS := tb_9 (td_mem td_9_0 (j := 1) rfl) rfl
theorem mw_9_2 : Cond.code yX12_lures cX12_lures 5 (some .int) ∈ WS := tb_9 (td_mem td_9_0 (j := 2) rfl) rfl
theorem mw_9_3 : Cond.methodLink RL 198 yX12_cover ∈ WS := tb_9 (td_mem td_9_0 (j := 3) rfl) rfl
theorem mw_9_4 : Cond.instanceMethod yX12_cover ∈ WS := tb_9 (td_mem td_9_0 (j := 4) rfl) rfl
theorem mw_9_5 : Cond.selects RX12 yX12_cover yX12_cover ∈ WS := tb_9 (td_mem td_9_0 (j := 5) rfl) rfl
theorem mw_9_6 : Cond.code yX12_cover cX12_cover 4 (some .long) ∈ WS := tb_9 (td_mem td_9_0 (j := 6) rfl) rfl
theorem mw_9_15 : Cond.methodLink RL 203 yX12_careless ∈ WS := tb_9 (td_mem td_9_0 (j := 15) rfl) rfl
theorem mw_9_16 : Cond.instanceMethod yX12_careless ∈ WS := tb_9 (td_mem td_9_1 (j := 0) rfl) rfl
theorem mw_9_17 : Cond.selects RX12 yX12_careless yX12_careless ∈ WS := tb_9 (td_mem td_9_1 (j := 1) rfl) rfl
theorem mw_9_18 : Cond.code yX12_careless cX12_careless 4 (some .int) ∈ WS := tb_9 (td_mem td_9_1 (j := 2) rfl) rfl
theorem mw_9_19 : Cond.methodLink RL 207 yX12_law ∈ WS := tb_9 (td_mem td_9_1 (j := 3) rfl) rfl
theorem mw_9_20 : Cond.instanceMethod yX12_law ∈ WS := tb_9 (td_mem td_9_1 (j := 4) rfl) rfl
theorem mw_9_21 : Cond.selects RX12 yX12_law yX12_law ∈ WS := tb_9 (td_mem td_9_1 (j := 5) rfl) rfl
theorem mw_9_22 : Cond.code yX12_law cX12_law 2 (some .long) ∈ WS := tb_9 (td_mem td_9_1 (j := 6) rfl) rfl
theorem mw_9_27 : Cond.methodLink RL 211 yX12_laws ∈ WS := tb_9 (td_mem td_9_1 (j := 11) rfl) rfl
theorem mw_9_28 : Cond.instanceMethod yX12_laws ∈ WS := tb_9 (td_mem td_9_1 (j := 12) rfl) rfl
theorem mw_9_29 : Cond.selects RX12 yX12_laws yX12_laws ∈ WS := tb_9 (td_mem td_9_1 (j := 13) rfl) rfl
theorem mw_9_30 : Cond.code yX12_laws cX12_laws 7 (some .int) ∈ WS := tb_9 (td_mem td_9_1 (j := 14) rfl) rfl
theorem mw_9_31 : Cond.methodLink RL 215 yX12_rather ∈ WS := tb_9 (td_mem td_9_1 (j := 15) rfl) rfl
theorem mw_9_32 : Cond.instanceMethod yX12_rather ∈ WS := tb_9 (td_mem td_9_2 (j := 0) rfl) rfl
theorem mw_9_33 : Cond.selects RX12 yX12_rather yX12_rather ∈ WS := tb_9 (td_mem td_9_2 (j := 1) rfl) rfl
theorem mw_9_34 : Cond.code yX12_rather cX12_rather 5 (some .int) ∈ WS := tb_9 (td_mem td_9_2 (j := 2) rfl) rfl
theorem mw_9_39 : Cond.methodLink RL 219 yX12_run ∈ WS := tb_9 (td_mem td_9_2 (j := 7) rfl) rfl
theorem mw_9_40 : Cond.instanceMethod yX12_run ∈ WS := tb_9 (td_mem td_9_2 (j := 8) rfl) rfl
theorem mw_9_41 : Cond.selects RX12 yX12_run yX12_run ∈ WS := tb_9 (td_mem td_9_2 (j := 9) rfl) rfl
theorem mw_9_42 : Cond.code yX12_run cX12_run 2 (some .int) ∈ WS := tb_9 (td_mem td_9_2 (j := 10) rfl) rfl
theorem mw_9_75 : Cond.methodLink RL 223 yX12_told ∈ WS := tb_9 (td_mem td_9_4 (j := 11) rfl) rfl
theorem mw_9_76 : Cond.instanceMethod yX12_told ∈ WS := tb_9 (td_mem td_9_4 (j := 12) rfl) rfl
theorem mw_9_77 : Cond.selects RX12 yX12_told yX12_told ∈ WS := tb_9 (td_mem td_9_4 (j := 13) rfl) rfl
theorem mw_9_78 : Cond.code yX12_told cX12_told 5 (some .int) ∈ WS := tb_9 (td_mem td_9_4 (j := 14) rfl) rfl
theorem mw_9_79 : Cond.methodLink RL 227 yX12_taken ∈ WS := tb_9 (td_mem td_9_4 (j := 15) rfl) rfl
set_option maxRecDepth 100000 in
theorem td_9_5 : (tables_1_9.drop 80).take 16 = [(Jvm.Cond.instanceMethod ({ cls := "LockRailModel", name := "taken", desc := "(I)I" } : Jvm.MethodName)), (Jvm.Cond.selects "LockRailModel" ({ cls := "LockRailModel", name := "taken", desc := "(I)I" } : Jvm.MethodName) ({ cls := "LockRailModel", name := "taken", desc := "(I)I" } : Jvm.MethodName)), (Jvm.Cond.code ({ cls := "LockRailModel", name := "taken", desc := "(I)I" } : Jvm.MethodName) prog_14_method_144_code (2 : Nat) (Option.some Jvm.ClassFile.FieldType.int)), (Jvm.Cond.methodLink "LockRailLaw" (231 : Nat) ({ cls := "LockRailModel", name := "took", desc := "(I)I" } : Jvm.MethodName)), (Jvm.Cond.instanceMethod ({ cls := "LockRailModel", name := "took", desc := "(I)I" } : Jvm.MethodName)), (Jvm.Cond.selects "LockRailModel" ({ cls := "LockRailModel", name := "took", desc := "(I)I" } : Jvm.MethodName) ({ cls := "LockRailModel", name := "took", desc := "(I)I" } : Jvm.MethodName)), (Jvm.Cond.code ({ cls := "LockRailModel", name := "took", desc := "(I)I" } : Jvm.MethodName) prog_14_method_145_code (2 : Nat) (Option.some Jvm.ClassFile.FieldType.int)), (Jvm.Cond.methodLink "LockRailLaw" (235 : Nat) ({ cls := "LockRailModel", name := "years", desc := "(III)J" } : Jvm.MethodName)), (Jvm.Cond.instanceMethod ({ cls := "LockRailModel", name := "years", desc := "(III)J" } : Jvm.MethodName)), (Jvm.Cond.selects "LockRailModel" ({ cls := "LockRailModel", name := "years", desc := "(III)J" } : Jvm.MethodName) ({ cls := "LockRailModel", name := "years", desc := "(III)J" } : Jvm.MethodName)), (Jvm.Cond.code ({ cls := "LockRailModel", name := "years", desc := "(III)J" } : Jvm.MethodName) prog_14_method_146_code (9 : Nat) (Option.some Jvm.ClassFile.FieldType.long)), (Jvm.Cond.methodLink "LockRailLaw" (239 : Nat) ({ cls := "LockRailModel", name := "count", desc := "(I)I" } : Jvm.MethodName)), (Jvm.Cond.instanceMethod ({ cls := "LockRailModel", name := "count", desc := "(I)I" } : Jvm.MethodName)), (Jvm.Cond.selects "LockRailModel" ({ cls := "LockRailModel", name := "count", desc := "(I)I" } : Jvm.MethodName) ({ cls := "LockRailModel", name := "count", desc := "(I)I" } : Jvm.MethodName)), (Jvm.Cond.code ({ cls := "LockRailModel", name := "count", desc := "(I)I" } : Jvm.MethodName) prog_14_method_147_code (4 : Nat) (Option.some Jvm.ClassFile.FieldType.int)), (Jvm.Cond.methodLink "LockRailLaw" (243 : Nat) ({ cls := "LockRailModel", name := "keep", desc := "(I)I" } : Jvm.MethodName))] := rfl
theorem mw_9_80 : Cond.instanceMethod yX12_taken ∈ WS := tb_9 (td_mem td_9_5 (j := 0) rfl) rfl
theorem mw_9_81 : Cond.selects RX12 yX12_taken yX12_taken ∈ WS := tb_9 (td_mem td_9_5 (j := 1) rfl) rfl
theorem mw_9_82 : Cond.code yX12_taken cX12_taken 2 (some .int) ∈ WS := tb_9 (td_mem td_9_5 (j := 2) rfl) rfl
theorem mw_9_83 : Cond.methodLink RL 231 yX12_took ∈ WS := tb_9 (td_mem td_9_5 (j := 3) rfl) rfl
theorem mw_9_84 : Cond.instanceMethod yX12_took ∈ WS := tb_9 (td_mem td_9_5 (j := 4) rfl) rfl
theorem mw_9_85 : Cond.selects RX12 yX12_took yX12_took ∈ WS := tb_9 (td_mem td_9_5 (j := 5) rfl) rfl
theorem mw_9_86 : Cond.code yX12_took cX12_took 2 (some .int) ∈ WS := tb_9 (td_mem td_9_5 (j := 6) rfl) rfl
theorem mw_9_87 : Cond.methodLink RL 235 yX12_years ∈ WS := tb_9 (td_mem td_9_5 (j := 7) rfl) rfl
theorem mw_9_88 : Cond.instanceMethod yX12_years ∈ WS := tb_9 (td_mem td_9_5 (j := 8) rfl) rfl
theorem mw_9_89 : Cond.selects RX12 yX12_years yX12_years ∈ WS := tb_9 (td_mem td_9_5 (j := 9) rfl) rfl
theorem mw_9_90 : Cond.code yX12_years cX12_years 9 (some .long) ∈ WS := tb_9 (td_mem td_9_5 (j := 10) rfl) rfl
theorem mw_9_91 : Cond.methodLink RL 239 yX12_count ∈ WS := tb_9 (td_mem td_9_5 (j := 11) rfl) rfl
theorem mw_9_92 : Cond.instanceMethod yX12_count ∈ WS := tb_9 (td_mem td_9_5 (j := 12) rfl) rfl
theorem mw_9_93 : Cond.selects RX12 yX12_count yX12_count ∈ WS := tb_9 (td_mem td_9_5 (j := 13) rfl) rfl
theorem mw_9_94 : Cond.code yX12_count cX12_count 4 (some .int) ∈ WS := tb_9 (td_mem td_9_5 (j := 14) rfl) rfl
theorem mw_9_95 : Cond.methodLink RL 243 yX12_keep ∈ WS := tb_9 (td_mem td_9_5 (j := 15) rfl) rfl
theorem mw_9_96 : Cond.instanceMethod yX12_keep ∈ WS := tb_9 (td_mem td_9_6 (j := 0) rfl) rfl
theorem mw_9_97 : Cond.selects RX12 yX12_keep yX12_keep ∈ WS := tb_9 (td_mem td_9_6 (j := 1) rfl) rfl
theorem mw_9_98 : Cond.code yX12_keep cX12_keep 2 (some .int) ∈ WS := tb_9 (td_mem td_9_6 (j := 2) rfl) rfl
theorem mw_9_99 : Cond.methodLink RL 247 yX12_back ∈ WS := tb_9 (td_mem td_9_6 (j := 3) rfl) rfl
theorem mw_9_100 : Cond.instanceMethod yX12_back ∈ WS := tb_9 (td_mem td_9_6 (j := 4) rfl) rfl
theorem mw_9_101 : Cond.selects RX12 yX12_back yX12_back ∈ WS := tb_9 (td_mem td_9_6 (j := 5) rfl) rfl
theorem mw_9_102 : Cond.code yX12_back cX12_back 2 (some .int) ∈ WS := tb_9 (td_mem td_9_6 (j := 6) rfl) rfl
theorem mw_9_103 : Cond.constantLong RL 252 4294967295 ∈ WS := tb_9 (td_mem td_9_6 (j := 7) rfl) rfl
