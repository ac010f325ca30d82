theorem mw_s1 : Cond.selects RX5 yX5_readInto yX5_readInto ∈ WS := tb_s (y := ⟨"LockRail$Reader", "readInto", "(LLockRail$Rail;)Z"⟩) (n := 3) (List.mem_of_getElem? (i := 1) (by decide +kernel))
theorem mw_s2 : Cond.selects RX4 yX4_wipe yX4_wipe ∈ WS := tb_s (y := ⟨"LockRail$Rail", "wipe", "()V"⟩) (n := 16) (List.mem_of_getElem? (i := 2) (by decide +kernel))
theorem mw_s3 : Cond.selects RX8 yX8_rewind yX8_rewind ∈ WS := tb_s (y := ⟨"LockRail$Tape", "rewind", "()V"⟩) (n := 6) (List.mem_of_getElem? (i := 3) (by decide +kernel))
theorem mw_s6 : Cond.selects RX5 yX5_readLine yX5_readLine ∈ WS := tb_s (y := ⟨"LockRail$Reader", "readLine", "(LLockRail$Rail;)V"⟩) (n := 3) (List.mem_of_getElem? (i := 6) (by decide +kernel))
theorem mw_s7 : Cond.selects RX5 yX5_readRail yX5_readRail ∈ WS := tb_s (y := ⟨"LockRail$Reader", "readRail", "(LLockRail$Rail;)V"⟩) (n := 3) (List.mem_of_getElem? (i := 7) (by decide +kernel))
theorem mw_s8 : Cond.selects RX5 yX5_readWord yX5_readWord ∈ WS := tb_s (y := ⟨"LockRail$Reader", "readWord", "(Ljava/lang/String;)V"⟩) (n := 3) (List.mem_of_getElem? (i := 8) (by decide +kernel))
theorem mw_s9 : Cond.selects RX8 yX8_isWord yX8_isWord ∈ WS := tb_s (y := ⟨"LockRail$Tape", "isWord", "(Ljava/lang/String;)Z"⟩) (n := 6) (List.mem_of_getElem? (i := 9) (by decide +kernel))
theorem mw_s11 : Cond.selects RX5 yX5_readNumber yX5_readNumber ∈ WS := tb_s (y := ⟨"LockRail$Reader", "readNumber", "(II)I"⟩) (n := 3) (List.mem_of_getElem? (i := 11) (by decide +kernel))
theorem mw_s12 : Cond.selects RX5 yX5_readHead yX5_readHead ∈ WS := tb_s (y := ⟨"LockRail$Reader", "readHead", "(ZI)V"⟩) (n := 3) (List.mem_of_getElem? (i := 12) (by decide +kernel))
theorem mw_s13 : Cond.selects RX5 yX5_readLamp yX5_readLamp ∈ WS := tb_s (y := ⟨"LockRail$Reader", "readLamp", "(LLockRail$Rail;)V"⟩) (n := 3) (List.mem_of_getElem? (i := 13) (by decide +kernel))
theorem mw_s15 : Cond.selects RX5 yX5_readLock yX5_readLock ∈ WS := tb_s (y := ⟨"LockRail$Reader", "readLock", "(LLockRail$Rail;)V"⟩) (n := 3) (List.mem_of_getElem? (i := 15) (by decide +kernel))
theorem mw_s16 : Cond.selects RX2 yX2_add yX2_add ∈ WS := tb_s (y := ⟨"LockRail$Locks", "add", "(IIII)V"⟩) (n := 3) (List.mem_of_getElem? (i := 16) (by decide +kernel))
theorem mw_s17 : Cond.selects RX5 yX5_readBike yX5_readBike ∈ WS := tb_s (y := ⟨"LockRail$Reader", "readBike", "(LLockRail$Rail;)V"⟩) (n := 3) (List.mem_of_getElem? (i := 17) (by decide +kernel))
theorem mw_s19 : Cond.selects RX5 yX5_readIf yX5_readIf ∈ WS := tb_s (y := ⟨"LockRail$Reader", "readIf", "(Ljava/lang/String;)Z"⟩) (n := 3) (List.mem_of_getElem? (i := 19) (by decide +kernel))
theorem mw_s20 : Cond.selects RX0 yX0_add yX0_add ∈ WS := tb_s (y := ⟨"LockRail$Bikes", "add", "(IIIIZ)V"⟩) (n := 6) (List.mem_of_getElem? (i := 20) (by decide +kernel))
theorem mw_s21 : Cond.selects RX5 yX5_readThief yX5_readThief ∈ WS := tb_s (y := ⟨"LockRail$Reader", "readThief", "(LLockRail$Rail;)V"⟩) (n := 3) (List.mem_of_getElem? (i := 21) (by decide +kernel))
theorem mw_s22 : Cond.selects RX9 yX9_add yX9_add ∈ WS := tb_s (y := ⟨"LockRail$Thieves", "add", "(IIIII)V"⟩) (n := 6) (List.mem_of_getElem? (i := 22) (by decide +kernel))
theorem mw_s23 : Cond.selects RX5 yX5_readMark yX5_readMark ∈ WS := tb_s (y := ⟨"LockRail$Reader", "readMark", "(LLockRail$Rail;)V"⟩) (n := 3) (List.mem_of_getElem? (i := 23) (by decide +kernel))
theorem mw_s24 : Cond.selects RX5 yX5_readWatch yX5_readWatch ∈ WS := tb_s (y := ⟨"LockRail$Reader", "readWatch", "(LLockRail$Rail;)V"⟩) (n := 3) (List.mem_of_getElem? (i := 24) (by decide +kernel))
theorem mw_s25 : Cond.selects RX5 yX5_readSign yX5_readSign ∈ WS := tb_s (y := ⟨"LockRail$Reader", "readSign", "()V"⟩) (n := 3) (List.mem_of_getElem? (i := 25) (by decide +kernel))
theorem mw_1_15 : Cond.initialized RJ0 ∈ WS := tb_1 (List.mem_of_getElem? (i := 15) rfl) rfl
theorem mw_1_16 : Cond.initialized RJ1 ∈ WS := tb_1 (List.mem_of_getElem? (i := 16) rfl) rfl
theorem mw_1_17 : Cond.initialized RJ3 ∈ WS := tb_1 (List.mem_of_getElem? (i := 17) rfl) rfl
theorem mw_2_186 : Cond.instanceMethod yX5_readInto ∈ WS := tb_2 (List.mem_of_getElem? (i := 186) rfl) rfl
theorem mw_2_187 : Cond.code yX5_readInto cX5_readInto 3 (some .boolean) ∈ WS := tb_2 (List.mem_of_getElem? (i := 187) rfl) rfl
theorem mw_2_190 : Cond.instanceMethod yX4_wipe ∈ WS := tb_2 (List.mem_of_getElem? (i := 190) rfl) rfl
theorem mw_2_191 : Cond.code yX4_wipe cX4_wipe 1 none ∈ WS := tb_2 (List.mem_of_getElem? (i := 191) rfl) rfl
theorem mw_2_194 : Cond.instanceMethod yX8_rewind ∈ WS := tb_2 (List.mem_of_getElem? (i := 194) rfl) rfl
theorem mw_2_195 : Cond.code yX8_rewind cX8_rewind 1 none ∈ WS := tb_2 (List.mem_of_getElem? (i := 195) rfl) rfl
theorem mw_2_208 : Cond.methodLink RX5 36 yX5_readLine ∈ WS := tb_2 (List.mem_of_getElem? (i := 208) rfl) rfl
theorem mw_2_210 : Cond.instanceMethod yX5_readLine ∈ WS := tb_2 (List.mem_of_getElem? (i := 210) rfl) rfl
theorem mw_2_211 : Cond.code yX5_readLine cX5_readLine 2 none ∈ WS := tb_2 (List.mem_of_getElem? (i := 211) rfl) rfl
theorem mw_2_212 : Cond.methodLink RX5 43 yX5_readRail ∈ WS := tb_2 (List.mem_of_getElem? (i := 212) rfl) rfl
theorem mw_2_214 : Cond.instanceMethod yX5_readRail ∈ WS := tb_2 (List.mem_of_getElem? (i := 214) rfl) rfl
theorem mw_2_215 : Cond.code yX5_readRail cX5_readRail 2 none ∈ WS := tb_2 (List.mem_of_getElem? (i := 215) rfl) rfl
theorem mw_2_217 : Cond.methodLink RX5 133 yX5_readWord ∈ WS := tb_2 (List.mem_of_getElem? (i := 217) rfl) rfl
theorem mw_2_219 : Cond.instanceMethod yX5_readWord ∈ WS := tb_2 (List.mem_of_getElem? (i := 219) rfl) rfl
theorem mw_2_220 : Cond.code yX5_readWord cX5_readWord 2 none ∈ WS := tb_2 (List.mem_of_getElem? (i := 220) rfl) rfl
theorem mw_2_223 : Cond.instanceMethod yX8_isWord ∈ WS := tb_2 (List.mem_of_getElem? (i := 223) rfl) rfl
theorem mw_2_224 : Cond.code yX8_isWord cX8_isWord 3 (some .boolean) ∈ WS := tb_2 (List.mem_of_getElem? (i := 224) rfl) rfl
theorem mw_2_225 : Cond.methodLink RX8 45 yJ0_length_8abf5 ∈ WS := tb_2 (List.mem_of_getElem? (i := 225) rfl) rfl
theorem mw_2_226 : Cond.instanceMethod yJ0_length_8abf5 ∈ WS := tb_2 (List.mem_of_getElem? (i := 226) rfl) rfl
theorem mw_2_227 : Cond.selects RJ0 yJ0_length_8abf5 yJ0_length_8abf5 ∈ WS := tb_2 (List.mem_of_getElem? (i := 227) rfl) rfl
theorem mw_2_228 : Cond.code yJ0_length_8abf5 cJ0_length_8abf5 1 (some .int) ∈ WS := tb_2 (List.mem_of_getElem? (i := 228) rfl) rfl
theorem mw_2_229 : Cond.methodLink RJ0 335 yJ0_coder_7d493 ∈ WS := tb_2 (List.mem_of_getElem? (i := 229) rfl) rfl
theorem mw_2_230 : Cond.instanceMethod yJ0_coder_7d493 ∈ WS := tb_2 (List.mem_of_getElem? (i := 230) rfl) rfl
theorem mw_2_231 : Cond.selects RJ0 yJ0_coder_7d493 yJ0_coder_7d493 ∈ WS := tb_2 (List.mem_of_getElem? (i := 231) rfl) rfl
theorem mw_2_232 : Cond.code yJ0_coder_7d493 cJ0_coder_7d493 1 (some .byte) ∈ WS := tb_2 (List.mem_of_getElem? (i := 232) rfl) rfl
theorem mw_2_233 : Cond.fieldLink RJ0 38 "java/lang/String" "COMPACT_STRINGS" "Z" ∈ WS := tb_2 (List.mem_of_getElem? (i := 233) rfl) rfl
theorem mw_2_235 : Cond.methodLink RX8 50 yJ0_charAt_5068e ∈ WS := tb_2 (List.mem_of_getElem? (i := 235) rfl) rfl
theorem mw_2_236 : Cond.instanceMethod yJ0_charAt_5068e ∈ WS := tb_2 (List.mem_of_getElem? (i := 236) rfl) rfl
theorem mw_2_237 : Cond.selects RJ0 yJ0_charAt_5068e yJ0_charAt_5068e ∈ WS := tb_2 (List.mem_of_getElem? (i := 237) rfl) rfl
theorem mw_2_238 : Cond.code yJ0_charAt_5068e cJ0_charAt_5068e 2 (some .char) ∈ WS := tb_2 (List.mem_of_getElem? (i := 238) rfl) rfl
theorem mw_2_239 : Cond.methodLink RJ0 492 yJ0_isLatin1_aae02 ∈ WS := tb_2 (List.mem_of_getElem? (i := 239) rfl) rfl
theorem mw_3_0 : Cond.instanceMethod yJ0_isLatin1_aae02 ∈ WS := tb_3 (List.mem_of_getElem? (i := 0) rfl) rfl
theorem mw_3_1 : Cond.selects RJ0 yJ0_isLatin1_aae02 yJ0_isLatin1_aae02 ∈ WS := tb_3 (List.mem_of_getElem? (i := 1) rfl) rfl
theorem mw_3_2 : Cond.code yJ0_isLatin1_aae02 cJ0_isLatin1_aae02 1 (some .boolean) ∈ WS := tb_3 (List.mem_of_getElem? (i := 2) rfl) rfl
theorem mw_3_3 : Cond.methodLink RJ0 495 yJ1_charAt_3b067 ∈ WS := tb_3 (List.mem_of_getElem? (i := 3) rfl) rfl
theorem mw_3_4 : Cond.static yJ1_charAt_3b067 ∈ WS := tb_3 (List.mem_of_getElem? (i := 4) rfl) rfl
theorem mw_3_5 : Cond.code yJ1_charAt_3b067 cJ1_charAt_3b067 2 (some .char) ∈ WS := tb_3 (List.mem_of_getElem? (i := 5) rfl) rfl
theorem mw_3_6 : Cond.methodLink RJ1 9 yJ0_checkIndex_df160 ∈ WS := tb_3 (List.mem_of_getElem? (i := 6) rfl) rfl
theorem mw_3_7 : Cond.static yJ0_checkIndex_df160 ∈ WS := tb_3 (List.mem_of_getElem? (i := 7) rfl) rfl
theorem mw_3_8 : Cond.code yJ0_checkIndex_df160 cJ0_checkIndex_df160 2 none ∈ WS := tb_3 (List.mem_of_getElem? (i := 8) rfl) rfl
theorem mw_3_9 : Cond.fieldLink RJ0 1053 "jdk/internal/util/Preconditions" "SIOOBE_FORMATTER" "Ljava/util/function/BiFunction;" ∈ WS := tb_3 (List.mem_of_getElem? (i := 9) rfl) rfl
theorem mw_3_11 : Cond.methodLink RJ0 1059 yJ3_checkIndex_8e157 ∈ WS := tb_3 (List.mem_of_getElem? (i := 11) rfl) rfl
theorem mw_3_12 : Cond.static yJ3_checkIndex_8e157 ∈ WS := tb_3 (List.mem_of_getElem? (i := 12) rfl) rfl
theorem mw_3_13 : Cond.code yJ3_checkIndex_8e157 cJ3_checkIndex_8e157 3 (some .int) ∈ WS := tb_3 (List.mem_of_getElem? (i := 13) rfl) rfl
theorem mw_3_39 : Cond.methodLink RX5 139 yX5_readNumber ∈ WS := tb_3 (List.mem_of_getElem? (i := 39) rfl) rfl
theorem mw_3_41 : Cond.instanceMethod yX5_readNumber ∈ WS := tb_3 (List.mem_of_getElem? (i := 41) rfl) rfl
theorem mw_3_42 : Cond.code yX5_readNumber cX5_readNumber 4 (some .int) ∈ WS := tb_3 (List.mem_of_getElem? (i := 42) rfl) rfl
theorem mw_3_45 : Cond.methodLink RX5 61 yX5_readHead ∈ WS := tb_3 (List.mem_of_getElem? (i := 45) rfl) rfl
theorem mw_3_47 : Cond.instanceMethod yX5_readHead ∈ WS := tb_3 (List.mem_of_getElem? (i := 47) rfl) rfl
theorem mw_3_48 : Cond.code yX5_readHead cX5_readHead 3 none ∈ WS := tb_3 (List.mem_of_getElem? (i := 48) rfl) rfl
theorem mw_3_49 : Cond.methodLink RX5 65 yX5_readLamp ∈ WS := tb_3 (List.mem_of_getElem? (i := 49) rfl) rfl
theorem mw_3_51 : Cond.instanceMethod yX5_readLamp ∈ WS := tb_3 (List.mem_of_getElem? (i := 51) rfl) rfl
theorem mw_3_52 : Cond.code yX5_readLamp cX5_readLamp 4 none ∈ WS := tb_3 (List.mem_of_getElem? (i := 52) rfl) rfl
theorem mw_3_60 : Cond.methodLink RX5 77 yX5_readLock ∈ WS := tb_3 (List.mem_of_getElem? (i := 60) rfl) rfl
theorem mw_3_62 : Cond.instanceMethod yX5_readLock ∈ WS := tb_3 (List.mem_of_getElem? (i := 62) rfl) rfl
theorem mw_3_63 : Cond.code yX5_readLock cX5_readLock 6 none ∈ WS := tb_3 (List.mem_of_getElem? (i := 63) rfl) rfl
theorem mw_3_68 : Cond.instanceMethod yX2_add ∈ WS := tb_3 (List.mem_of_getElem? (i := 68) rfl) rfl
theorem mw_3_69 : Cond.code yX2_add cX2_add 5 none ∈ WS := tb_3 (List.mem_of_getElem? (i := 69) rfl) rfl
theorem mw_3_71 : Cond.methodLink RX5 89 yX5_readBike ∈ WS := tb_3 (List.mem_of_getElem? (i := 71) rfl) rfl
theorem mw_3_73 : Cond.instanceMethod yX5_readBike ∈ WS := tb_3 (List.mem_of_getElem? (i := 73) rfl) rfl
theorem mw_3_74 : Cond.code yX5_readBike cX5_readBike 7 none ∈ WS := tb_3 (List.mem_of_getElem? (i := 74) rfl) rfl
theorem mw_3_81 : Cond.methodLink RX5 175 yX5_readIf ∈ WS := tb_3 (List.mem_of_getElem? (i := 81) rfl) rfl
theorem mw_3_83 : Cond.instanceMethod yX5_readIf ∈ WS := tb_3 (List.mem_of_getElem? (i := 83) rfl) rfl
theorem mw_3_84 : Cond.code yX5_readIf cX5_readIf 3 (some .boolean) ∈ WS := tb_3 (List.mem_of_getElem? (i := 84) rfl) rfl
theorem mw_3_88 : Cond.instanceMethod yX0_add ∈ WS := tb_3 (List.mem_of_getElem? (i := 88) rfl) rfl
theorem mw_3_89 : Cond.code yX0_add cX0_add 6 none ∈ WS := tb_3 (List.mem_of_getElem? (i := 89) rfl) rfl
theorem mw_3_91 : Cond.methodLink RX5 101 yX5_readThief ∈ WS := tb_3 (List.mem_of_getElem? (i := 91) rfl) rfl
theorem mw_3_93 : Cond.instanceMethod yX5_readThief ∈ WS := tb_3 (List.mem_of_getElem? (i := 93) rfl) rfl
theorem mw_3_94 : Cond.code yX5_readThief cX5_readThief 7 none ∈ WS := tb_3 (List.mem_of_getElem? (i := 94) rfl) rfl
theorem mw_3_103 : Cond.instanceMethod yX9_add ∈ WS := tb_3 (List.mem_of_getElem? (i := 103) rfl) rfl
theorem mw_3_104 : Cond.code yX9_add cX9_add 6 none ∈ WS := tb_3 (List.mem_of_getElem? (i := 104) rfl) rfl
theorem mw_3_106 : Cond.methodLink RX5 110 yX5_readMark ∈ WS := tb_3 (List.mem_of_getElem? (i := 106) rfl) rfl
theorem mw_3_108 : Cond.instanceMethod yX5_readMark ∈ WS := tb_3 (List.mem_of_getElem? (i := 108) rfl) rfl
theorem mw_3_109 : Cond.code yX5_readMark cX5_readMark 2 none ∈ WS := tb_3 (List.mem_of_getElem? (i := 109) rfl) rfl
theorem mw_3_113 : Cond.methodLink RX5 118 yX5_readWatch ∈ WS := tb_3 (List.mem_of_getElem? (i := 113) rfl) rfl
theorem mw_3_115 : Cond.instanceMethod yX5_readWatch ∈ WS := tb_3 (List.mem_of_getElem? (i := 115) rfl) rfl
theorem mw_3_116 : Cond.code yX5_readWatch cX5_readWatch 2 none ∈ WS := tb_3 (List.mem_of_getElem? (i := 116) rfl) rfl
theorem mw_3_119 : Cond.methodLink RX5 125 yX5_readSign ∈ WS := tb_3 (List.mem_of_getElem? (i := 119) rfl) rfl
theorem mw_3_121 : Cond.instanceMethod yX5_readSign ∈ WS := tb_3 (List.mem_of_getElem? (i := 121) rfl) rfl
theorem mw_3_122 : Cond.code yX5_readSign cX5_readSign 1 none ∈ WS := tb_3 (List.mem_of_getElem? (i := 122) rfl) rfl
theorem mw_9_104 : Cond.fieldLink RJ0 9 "java/lang/String" "value" "[B" ∈ WS := tb_9 (List.mem_of_getElem? (i := 104) rfl) rfl
theorem mw_9_105 : Cond.fieldLink RJ0 15 "java/lang/String" "coder" "B" ∈ WS := tb_9 (List.mem_of_getElem? (i := 105) rfl) rfl
