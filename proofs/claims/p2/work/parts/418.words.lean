/-! the words that the methods use: those of the tables that a call keeps -/
def WS : List Cond := lw_tbl.filter goodWord
theorem ws_mem {w : Cond} (h : w ∈ lw_tbl) (g : goodWord w = true) : w ∈ WS := List.mem_filter.mpr ⟨h, g⟩
theorem ws_tab {w : Cond} (h : w ∈ tables_1) (g : goodWord w = true) : w ∈ WS := ws_mem (List.mem_append_right _ h) g
theorem tb_1 {w : Cond} (h : w ∈ tables_1_1) (g : goodWord w = true) : w ∈ WS := ws_tab (List.mem_append_left _ h) g
theorem tb_2 {w : Cond} (h : w ∈ tables_1_2) (g : goodWord w = true) : w ∈ WS := ws_tab (List.mem_append_right _ (List.mem_append_left _ h)) g
theorem tb_3 {w : Cond} (h : w ∈ tables_1_3) (g : goodWord w = true) : w ∈ WS := ws_tab (List.mem_append_right _ (List.mem_append_right _ (List.mem_append_left _ h))) g
theorem tb_4 {w : Cond} (h : w ∈ tables_1_4) (g : goodWord w = true) : w ∈ WS := ws_tab (List.mem_append_right _ (List.mem_append_right _ (List.mem_append_right _ (List.mem_append_left _ h)))) g
theorem tb_5 {w : Cond} (h : w ∈ tables_1_5) (g : goodWord w = true) : w ∈ WS := ws_tab (List.mem_append_right _ (List.mem_append_right _ (List.mem_append_right _ (List.mem_append_right _ (List.mem_append_left _ h))))) g
theorem tb_6 {w : Cond} (h : w ∈ tables_1_6) (g : goodWord w = true) : w ∈ WS := ws_tab (List.mem_append_right _ (List.mem_append_right _ (List.mem_append_right _ (List.mem_append_right _ (List.mem_append_right _ (List.mem_append_left _ h)))))) g
theorem tb_7 {w : Cond} (h : w ∈ tables_1_7) (g : goodWord w = true) : w ∈ WS := ws_tab (List.mem_append_right _ (List.mem_append_right _ (List.mem_append_right _ (List.mem_append_right _ (List.mem_append_right _ (List.mem_append_right _ (List.mem_append_left _ h))))))) g
theorem tb_8 {w : Cond} (h : w ∈ tables_1_8) (g : goodWord w = true) : w ∈ WS := ws_tab (List.mem_append_right _ (List.mem_append_right _ (List.mem_append_right _ (List.mem_append_right _ (List.mem_append_right _ (List.mem_append_right _ (List.mem_append_right _ (List.mem_append_left _ h)))))))) g
theorem tb_9 {w : Cond} (h : w ∈ tables_1_9) (g : goodWord w = true) : w ∈ WS := ws_tab (List.mem_append_right _ (List.mem_append_right _ (List.mem_append_right _ (List.mem_append_right _ (List.mem_append_right _ (List.mem_append_right _ (List.mem_append_right _ (List.mem_append_right _ h)))))))) g
theorem tb_s {y : MethodName} {n : Nat} (h : (y, n) ∈ lw_privs) : Cond.selects y.cls y y ∈ WS := ws_mem (List.mem_append_left _ (List.mem_map.mpr ⟨(y, n), h, rfl⟩)) rfl
theorem mw_s0 : Cond.selects RX8 yX8_append yX8_append ∈ WS := tb_s (y := ⟨"LockRail$Tape", "append", "(I)V"⟩) (n := 6) (List.mem_of_getElem? (i := 0) (by decide +kernel))
theorem mw_s4 : Cond.selects RX8 yX8_step yX8_step ∈ WS := tb_s (y := ⟨"LockRail$Tape", "step", "()V"⟩) (n := 6) (List.mem_of_getElem? (i := 4) (by decide +kernel))
theorem mw_s5 : Cond.selects RX8 yX8_kindAt yX8_kindAt ∈ WS := tb_s (y := ⟨"LockRail$Tape", "kindAt", "(I)I"⟩) (n := 6) (List.mem_of_getElem? (i := 5) (by decide +kernel))
theorem mw_s10 : Cond.selects RX5 yX5_fail yX5_fail ∈ WS := tb_s (y := ⟨"LockRail$Reader", "fail", "(I)V"⟩) (n := 3) (List.mem_of_getElem? (i := 10) (by decide +kernel))
theorem mw_s14 : Cond.selects RX1 yX1_add yX1_add ∈ WS := tb_s (y := ⟨"LockRail$Lamps", "add", "(II)V"⟩) (n := 3) (List.mem_of_getElem? (i := 14) (by decide +kernel))
theorem mw_s18 : Cond.selects RX0 yX0_standingAt yX0_standingAt ∈ WS := tb_s (y := ⟨"LockRail$Bikes", "standingAt", "(I)I"⟩) (n := 6) (List.mem_of_getElem? (i := 18) (by decide +kernel))
theorem mw_s26 : Cond.selects RX4 yX4_copyFrom yX4_copyFrom ∈ WS := tb_s (y := ⟨"LockRail$Rail", "copyFrom", "(LLockRail$Rail;)V"⟩) (n := 16) (List.mem_of_getElem? (i := 26) (by decide +kernel))
theorem mw_s27 : Cond.selects RX1 yX1_copyFrom yX1_copyFrom ∈ WS := tb_s (y := ⟨"LockRail$Lamps", "copyFrom", "(LLockRail$Lamps;)V"⟩) (n := 3) (List.mem_of_getElem? (i := 27) (by decide +kernel))
theorem mw_s28 : Cond.selects RX2 yX2_copyFrom yX2_copyFrom ∈ WS := tb_s (y := ⟨"LockRail$Locks", "copyFrom", "(LLockRail$Locks;)V"⟩) (n := 3) (List.mem_of_getElem? (i := 28) (by decide +kernel))
theorem mw_s29 : Cond.selects RX0 yX0_copyFrom yX0_copyFrom ∈ WS := tb_s (y := ⟨"LockRail$Bikes", "copyFrom", "(LLockRail$Bikes;)V"⟩) (n := 6) (List.mem_of_getElem? (i := 29) (by decide +kernel))
theorem mw_s30 : Cond.selects RX9 yX9_copyFrom yX9_copyFrom ∈ WS := tb_s (y := ⟨"LockRail$Thieves", "copyFrom", "(LLockRail$Thieves;)V"⟩) (n := 6) (List.mem_of_getElem? (i := 30) (by decide +kernel))
theorem mw_s31 : Cond.selects RX10 yX10_copyFrom yX10_copyFrom ∈ WS := tb_s (y := ⟨"LockRail$Year", "copyFrom", "(LLockRail$Year;)V"⟩) (n := 3) (List.mem_of_getElem? (i := 31) (by decide +kernel))
theorem mw_s32 : Cond.selects RX4 yX4_hasPlace yX4_hasPlace ∈ WS := tb_s (y := ⟨"LockRail$Rail", "hasPlace", "(I)Z"⟩) (n := 16) (List.mem_of_getElem? (i := 32) (by decide +kernel))
theorem mw_s33 : Cond.selects RX4 yX4_lightOf yX4_lightOf ∈ WS := tb_s (y := ⟨"LockRail$Rail", "lightOf", "(I)I"⟩) (n := 16) (List.mem_of_getElem? (i := 33) (by decide +kernel))
theorem mw_s34 : Cond.selects RX4 yX4_hasBike yX4_hasBike ∈ WS := tb_s (y := ⟨"LockRail$Rail", "hasBike", "(I)Z"⟩) (n := 16) (List.mem_of_getElem? (i := 34) (by decide +kernel))
theorem mw_s35 : Cond.selects RX4 yX4_hasThief yX4_hasThief ∈ WS := tb_s (y := ⟨"LockRail$Rail", "hasThief", "(I)Z"⟩) (n := 16) (List.mem_of_getElem? (i := 35) (by decide +kernel))
theorem mw_s36 : Cond.selects RX4 yX4_troubleOf yX4_troubleOf ∈ WS := tb_s (y := ⟨"LockRail$Rail", "troubleOf", "(III)I"⟩) (n := 16) (List.mem_of_getElem? (i := 36) (by decide +kernel))
theorem mw_s37 : Cond.selects RX0 yX0_markedOnes yX0_markedOnes ∈ WS := tb_s (y := ⟨"LockRail$Bikes", "markedOnes", "()I"⟩) (n := 6) (List.mem_of_getElem? (i := 37) (by decide +kernel))
theorem mw_s38 : Cond.selects RX4 yX4_gainOf yX4_gainOf ∈ WS := tb_s (y := ⟨"LockRail$Rail", "gainOf", "(II)I"⟩) (n := 16) (List.mem_of_getElem? (i := 38) (by decide +kernel))
theorem mw_s39 : Cond.selects RX4 yX4_hasSet yX4_hasSet ∈ WS := tb_s (y := ⟨"LockRail$Rail", "hasSet", "(I)Z"⟩) (n := 16) (List.mem_of_getElem? (i := 39) (by decide +kernel))
theorem mw_s40 : Cond.selects RX3 yX3_lookAt yX3_lookAt ∈ WS := tb_s (y := ⟨"LockRail$Night", "lookAt", "(LLockRail$Rail;)V"⟩) (n := 10) (List.mem_of_getElem? (i := 40) (by decide +kernel))
theorem mw_s41 : Cond.selects RX3 yX3_lookAtBaited yX3_lookAtBaited ∈ WS := tb_s (y := ⟨"LockRail$Night", "lookAtBaited", "(LLockRail$Rail;I)V"⟩) (n := 10) (List.mem_of_getElem? (i := 41) (by decide +kernel))
theorem mw_s42 : Cond.selects RX3 yX3_orderFor yX3_orderFor ∈ WS := tb_s (y := ⟨"LockRail$Night", "orderFor", "(LLockRail$Rail;II)V"⟩) (n := 10) (List.mem_of_getElem? (i := 42) (by decide +kernel))
theorem mw_s43 : Cond.selects RX3 yX3_putInOrder yX3_putInOrder ∈ WS := tb_s (y := ⟨"LockRail$Night", "putInOrder", "(III)V"⟩) (n := 10) (List.mem_of_getElem? (i := 43) (by decide +kernel))
theorem mw_s44 : Cond.selects RX3 yX3_pick yX3_pick ∈ WS := tb_s (y := ⟨"LockRail$Night", "pick", "(II)I"⟩) (n := 10) (List.mem_of_getElem? (i := 44) (by decide +kernel))
theorem mw_s45 : Cond.selects RX3 yX3_wantedBy yX3_wantedBy ∈ WS := tb_s (y := ⟨"LockRail$Night", "wantedBy", "(LLockRail$Rail;I)I"⟩) (n := 10) (List.mem_of_getElem? (i := 45) (by decide +kernel))
theorem mw_s46 : Cond.selects RX3 yX3_netOf yX3_netOf ∈ WS := tb_s (y := ⟨"LockRail$Night", "netOf", "(LLockRail$Rail;II)I"⟩) (n := 10) (List.mem_of_getElem? (i := 46) (by decide +kernel))
theorem mw_s47 : Cond.selects RX4 yX4_isTold yX4_isTold ∈ WS := tb_s (y := ⟨"LockRail$Rail", "isTold", "()Z"⟩) (n := 16) (List.mem_of_getElem? (i := 47) (by decide +kernel))
theorem mw_s48 : Cond.selects RX3 yX3_play yX3_play ∈ WS := tb_s (y := ⟨"LockRail$Night", "play", "(LLockRail$Rail;)V"⟩) (n := 10) (List.mem_of_getElem? (i := 48) (by decide +kernel))
theorem mw_s49 : Cond.selects RX3 yX3_begin yX3_begin ∈ WS := tb_s (y := ⟨"LockRail$Night", "begin", "()V"⟩) (n := 10) (List.mem_of_getElem? (i := 49) (by decide +kernel))
theorem mw_s50 : Cond.selects RX7 yX7_wipe yX7_wipe ∈ WS := tb_s (y := ⟨"LockRail$Spread", "wipe", "()V"⟩) (n := 5) (List.mem_of_getElem? (i := 50) (by decide +kernel))
theorem mw_s51 : Cond.selects RX7 yX7_put yX7_put ∈ WS := tb_s (y := ⟨"LockRail$Spread", "put", "(IJ)V"⟩) (n := 5) (List.mem_of_getElem? (i := 51) (by decide +kernel))
theorem mw_s52 : Cond.selects RX3 yX3_letCome yX3_letCome ∈ WS := tb_s (y := ⟨"LockRail$Night", "letCome", "(II)V"⟩) (n := 10) (List.mem_of_getElem? (i := 52) (by decide +kernel))
theorem mw_s53 : Cond.selects RX3 yX3_letTake yX3_letTake ∈ WS := tb_s (y := ⟨"LockRail$Night", "letTake", "(IIIJ)V"⟩) (n := 10) (List.mem_of_getElem? (i := 53) (by decide +kernel))
theorem mw_s54 : Cond.selects RX3 yX3_turn yX3_turn ∈ WS := tb_s (y := ⟨"LockRail$Night", "turn", "()V"⟩) (n := 10) (List.mem_of_getElem? (i := 54) (by decide +kernel))
theorem mw_s55 : Cond.selects RX3 yX3_partsOf yX3_partsOf ∈ WS := tb_s (y := ⟨"LockRail$Night", "partsOf", "(I)J"⟩) (n := 10) (List.mem_of_getElem? (i := 55) (by decide +kernel))
theorem mw_s56 : Cond.selects RX3 yX3_partsOfMany yX3_partsOfMany ∈ WS := tb_s (y := ⟨"LockRail$Night", "partsOfMany", "(I)J"⟩) (n := 10) (List.mem_of_getElem? (i := 56) (by decide +kernel))
theorem mw_s57 : Cond.selects RX3 yX3_riskOf yX3_riskOf ∈ WS := tb_s (y := ⟨"LockRail$Night", "riskOf", "(I)J"⟩) (n := 10) (List.mem_of_getElem? (i := 57) (by decide +kernel))
theorem mw_s58 : Cond.selects RX3 yX3_hadBy yX3_hadBy ∈ WS := tb_s (y := ⟨"LockRail$Night", "hadBy", "(II)J"⟩) (n := 10) (List.mem_of_getElem? (i := 58) (by decide +kernel))
theorem mw_s59 : Cond.selects RX3 yX3_costOf yX3_costOf ∈ WS := tb_s (y := ⟨"LockRail$Night", "costOf", "(LLockRail$Rail;II)J"⟩) (n := 10) (List.mem_of_getElem? (i := 59) (by decide +kernel))
theorem mw_s60 : Cond.selects RX4 yX4_paidFor yX4_paidFor ∈ WS := tb_s (y := ⟨"LockRail$Rail", "paidFor", "(I)J"⟩) (n := 16) (List.mem_of_getElem? (i := 60) (by decide +kernel))
theorem mw_s61 : Cond.selects RX4 yX4_wageShare yX4_wageShare ∈ WS := tb_s (y := ⟨"LockRail$Rail", "wageShare", "()J"⟩) (n := 16) (List.mem_of_getElem? (i := 61) (by decide +kernel))
theorem mw_s62 : Cond.selects RX4 yX4_wages yX4_wages ∈ WS := tb_s (y := ⟨"LockRail$Rail", "wages", "()J"⟩) (n := 16) (List.mem_of_getElem? (i := 62) (by decide +kernel))
theorem mw_s63 : Cond.selects RX11 yX11_allOn yX11_allOn ∈ WS := tb_s (y := ⟨"LockRail", "allOn", "(LLockRail$Rail;I)J"⟩) (n := 8) (List.mem_of_getElem? (i := 63) (by decide +kernel))
theorem mw_s64 : Cond.selects RX3 yX3_costOfAll yX3_costOfAll ∈ WS := tb_s (y := ⟨"LockRail$Night", "costOfAll", "(LLockRail$Rail;I)J"⟩) (n := 10) (List.mem_of_getElem? (i := 64) (by decide +kernel))
theorem mw_s65 : Cond.selects RX4 yX4_hasOption yX4_hasOption ∈ WS := tb_s (y := ⟨"LockRail$Rail", "hasOption", "(I)Z"⟩) (n := 16) (List.mem_of_getElem? (i := 65) (by decide +kernel))
theorem mw_s66 : Cond.selects RX4 yX4_options yX4_options ∈ WS := tb_s (y := ⟨"LockRail$Rail", "options", "()I"⟩) (n := 16) (List.mem_of_getElem? (i := 66) (by decide +kernel))
theorem mw_s67 : Cond.selects RX0 yX0_optionOf yX0_optionOf ∈ WS := tb_s (y := ⟨"LockRail$Bikes", "optionOf", "(I)I"⟩) (n := 6) (List.mem_of_getElem? (i := 67) (by decide +kernel))
theorem mw_s68 : Cond.selects RX0 yX0_setOption yX0_setOption ∈ WS := tb_s (y := ⟨"LockRail$Bikes", "setOption", "(II)V"⟩) (n := 6) (List.mem_of_getElem? (i := 68) (by decide +kernel))
theorem mw_s69 : Cond.selects RX11 yX11_costOn yX11_costOn ∈ WS := tb_s (y := ⟨"LockRail", "costOn", "(LLockRail$Rail;I)J"⟩) (n := 8) (List.mem_of_getElem? (i := 69) (by decide +kernel))
theorem mw_s70 : Cond.selects RX11 yX11_leastOption yX11_leastOption ∈ WS := tb_s (y := ⟨"LockRail", "leastOption", "(LLockRail$Rail;IZ)I"⟩) (n := 8) (List.mem_of_getElem? (i := 70) (by decide +kernel))
theorem mw_s71 : Cond.selects RX11 yX11_roundsOn yX11_roundsOn ∈ WS := tb_s (y := ⟨"LockRail", "roundsOn", "(LLockRail$Rail;I)I"⟩) (n := 8) (List.mem_of_getElem? (i := 71) (by decide +kernel))
theorem mw_s72 : Cond.selects RX11 yX11_changesOn yX11_changesOn ∈ WS := tb_s (y := ⟨"LockRail", "changesOn", "(LLockRail$Rail;I)I"⟩) (n := 8) (List.mem_of_getElem? (i := 72) (by decide +kernel))
theorem mw_s73 : Cond.selects RX11 yX11_changeBetters yX11_changeBetters ∈ WS := tb_s (y := ⟨"LockRail", "changeBetters", "(LLockRail$Rail;)Z"⟩) (n := 8) (List.mem_of_getElem? (i := 73) (by decide +kernel))
theorem mw_s74 : Cond.selects RX11 yX11_areTwo yX11_areTwo ∈ WS := tb_s (y := ⟨"LockRail", "areTwo", "(II)Z"⟩) (n := 8) (List.mem_of_getElem? (i := 74) (by decide +kernel))
theorem mw_s75 : Cond.selects RX11 yX11_findGrownRisks yX11_findGrownRisks ∈ WS := tb_s (y := ⟨"LockRail", "findGrownRisks", "(II)V"⟩) (n := 8) (List.mem_of_getElem? (i := 75) (by decide +kernel))
theorem mw_s76 : Cond.selects RX11 yX11_lossLit yX11_lossLit ∈ WS := tb_s (y := ⟨"LockRail", "lossLit", "(II)J"⟩) (n := 8) (List.mem_of_getElem? (i := 76) (by decide +kernel))
theorem mw_s77 : Cond.selects RX11 yX11_findSpared yX11_findSpared ∈ WS := tb_s (y := ⟨"LockRail", "findSpared", "()V"⟩) (n := 8) (List.mem_of_getElem? (i := 77) (by decide +kernel))
theorem mw_s78 : Cond.selects RX11 yX11_anyWanted yX11_anyWanted ∈ WS := tb_s (y := ⟨"LockRail", "anyWanted", "(LLockRail$Rail;)Z"⟩) (n := 8) (List.mem_of_getElem? (i := 78) (by decide +kernel))
theorem mw_s79 : Cond.selects RX0 yX0_markOthers yX0_markOthers ∈ WS := tb_s (y := ⟨"LockRail$Bikes", "markOthers", "(IZ)V"⟩) (n := 6) (List.mem_of_getElem? (i := 79) (by decide +kernel))
theorem mw_s80 : Cond.selects RX11 yX11_lossOn yX11_lossOn ∈ WS := tb_s (y := ⟨"LockRail", "lossOn", "(LLockRail$Rail;I)J"⟩) (n := 8) (List.mem_of_getElem? (i := 80) (by decide +kernel))
theorem mw_s81 : Cond.selects RX11 yX11_refusedBait yX11_refusedBait ∈ WS := tb_s (y := ⟨"LockRail", "refusedBait", "(III)I"⟩) (n := 8) (List.mem_of_getElem? (i := 81) (by decide +kernel))
theorem mw_s82 : Cond.selects RX3 yX3_playBaited yX3_playBaited ∈ WS := tb_s (y := ⟨"LockRail$Night", "playBaited", "(LLockRail$Rail;II)V"⟩) (n := 10) (List.mem_of_getElem? (i := 82) (by decide +kernel))
theorem mw_s83 : Cond.selects RX3 yX3_bringBack yX3_bringBack ∈ WS := tb_s (y := ⟨"LockRail$Night", "bringBack", "()V"⟩) (n := 10) (List.mem_of_getElem? (i := 83) (by decide +kernel))
theorem mw_s84 : Cond.selects RX3 yX3_baitedLoss yX3_baitedLoss ∈ WS := tb_s (y := ⟨"LockRail$Night", "baitedLoss", "(LLockRail$Rail;)J"⟩) (n := 10) (List.mem_of_getElem? (i := 84) (by decide +kernel))
theorem mw_s85 : Cond.selects RX3 yX3_partsCaught yX3_partsCaught ∈ WS := tb_s (y := ⟨"LockRail$Night", "partsCaught", "(I)J"⟩) (n := 10) (List.mem_of_getElem? (i := 85) (by decide +kernel))
theorem mw_s86 : Cond.selects RX3 yX3_leastLure yX3_leastLure ∈ WS := tb_s (y := ⟨"LockRail$Night", "leastLure", "(LLockRail$Rail;I)I"⟩) (n := 10) (List.mem_of_getElem? (i := 86) (by decide +kernel))
theorem mw_s87 : Cond.selects RX11 yX11_isCover yX11_isCover ∈ WS := tb_s (y := ⟨"LockRail", "isCover", "(III)Z"⟩) (n := 8) (List.mem_of_getElem? (i := 87) (by decide +kernel))
theorem mw_s88 : Cond.selects RX11 yX11_carelessOption yX11_carelessOption ∈ WS := tb_s (y := ⟨"LockRail", "carelessOption", "(III)I"⟩) (n := 8) (List.mem_of_getElem? (i := 88) (by decide +kernel))
theorem mw_s89 : Cond.selects RX11 yX11_coveredOn yX11_coveredOn ∈ WS := tb_s (y := ⟨"LockRail", "coveredOn", "(LLockRail$Rail;III)J"⟩) (n := 8) (List.mem_of_getElem? (i := 89) (by decide +kernel))
theorem mw_s90 : Cond.selects RX4 yX4_hasLock yX4_hasLock ∈ WS := tb_s (y := ⟨"LockRail$Rail", "hasLock", "(I)Z"⟩) (n := 16) (List.mem_of_getElem? (i := 90) (by decide +kernel))
theorem mw_s91 : Cond.selects RX11 yX11_costByLaw yX11_costByLaw ∈ WS := tb_s (y := ⟨"LockRail", "costByLaw", "(I)J"⟩) (n := 8) (List.mem_of_getElem? (i := 91) (by decide +kernel))
theorem mw_s93 : Cond.selects RX3 yX3_drawYear yX3_drawYear ∈ WS := tb_s (y := ⟨"LockRail$Night", "drawYear", "(LLockRail$Rail;ILLockRail$Year;)I"⟩) (n := 10) (List.mem_of_getElem? (i := 93) (by decide +kernel))
theorem mw_s94 : Cond.selects RX10 yX10_begin yX10_begin ∈ WS := tb_s (y := ⟨"LockRail$Year", "begin", "()V"⟩) (n := 3) (List.mem_of_getElem? (i := 94) (by decide +kernel))
theorem mw_s95 : Cond.selects RX3 yX3_letAllCome yX3_letAllCome ∈ WS := tb_s (y := ⟨"LockRail$Night", "letAllCome", "(IILLockRail$Year;)I"⟩) (n := 10) (List.mem_of_getElem? (i := 95) (by decide +kernel))
theorem mw_s96 : Cond.selects RX6 yX6_isSlot yX6_isSlot ∈ WS := tb_s (y := ⟨"LockRail$Slots", "isSlot", "(I)Z"⟩) (n := 3) (List.mem_of_getElem? (i := 96) (by decide +kernel))
theorem mw_s97 : Cond.selects RX6 yX6_hasRow yX6_hasRow ∈ WS := tb_s (y := ⟨"LockRail$Slots", "hasRow", "(I)Z"⟩) (n := 3) (List.mem_of_getElem? (i := 97) (by decide +kernel))
theorem mw_s98 : Cond.selects RX6 yX6_tellsNights yX6_tellsNights ∈ WS := tb_s (y := ⟨"LockRail$Slots", "tellsNights", "(III)Z"⟩) (n := 3) (List.mem_of_getElem? (i := 98) (by decide +kernel))
theorem mw_s99 : Cond.selects RX6 yX6_numberAt yX6_numberAt ∈ WS := tb_s (y := ⟨"LockRail$Slots", "numberAt", "(II)J"⟩) (n := 3) (List.mem_of_getElem? (i := 99) (by decide +kernel))
theorem mw_s100 : Cond.selects RX6 yX6_sizeOf yX6_sizeOf ∈ WS := tb_s (y := ⟨"LockRail$Slots", "sizeOf", "(I)I"⟩) (n := 3) (List.mem_of_getElem? (i := 100) (by decide +kernel))
theorem mw_s101 : Cond.selects RX4 yX4_worthTaken yX4_worthTaken ∈ WS := tb_s (y := ⟨"LockRail$Rail", "worthTaken", "(LLockRail$Year;)J"⟩) (n := 16) (List.mem_of_getElem? (i := 101) (by decide +kernel))
theorem mw_s102 : Cond.selects RX6 yX6_rows yX6_rows ∈ WS := tb_s (y := ⟨"LockRail$Slots", "rows", "()I"⟩) (n := 3) (List.mem_of_getElem? (i := 102) (by decide +kernel))
theorem mw_s103 : Cond.selects RX6 yX6_make yX6_make ∈ WS := tb_s (y := ⟨"LockRail$Slots", "make", "(III)V"⟩) (n := 3) (List.mem_of_getElem? (i := 103) (by decide +kernel))
theorem mw_s104 : Cond.selects RX6 yX6_put yX6_put ∈ WS := tb_s (y := ⟨"LockRail$Slots", "put", "(IIJ)V"⟩) (n := 3) (List.mem_of_getElem? (i := 104) (by decide +kernel))
theorem mw_s105 : Cond.selects RX6 yX6_areAlike yX6_areAlike ∈ WS := tb_s (y := ⟨"LockRail$Slots", "areAlike", "(II)Z"⟩) (n := 3) (List.mem_of_getElem? (i := 105) (by decide +kernel))
theorem mw_s106 : Cond.selects RX6 yX6_hasAll yX6_hasAll ∈ WS := tb_s (y := ⟨"LockRail$Slots", "hasAll", "(III)Z"⟩) (n := 3) (List.mem_of_getElem? (i := 106) (by decide +kernel))
theorem mw_s107 : Cond.selects RX6 yX6_copy yX6_copy ∈ WS := tb_s (y := ⟨"LockRail$Slots", "copy", "(IIIII)V"⟩) (n := 3) (List.mem_of_getElem? (i := 107) (by decide +kernel))
theorem mw_s108 : Cond.selects RX12 yX12_four yX12_four ∈ WS := tb_s (y := ⟨"LockRailModel", "four", "(I)V"⟩) (n := 51) (List.mem_of_getElem? (i := 108) (by decide +kernel))
theorem mw_s109 : Cond.selects RX12 yX12_clears yX12_clears ∈ WS := tb_s (y := ⟨"LockRailModel", "clears", "()V"⟩) (n := 51) (List.mem_of_getElem? (i := 109) (by decide +kernel))
theorem mw_s110 : Cond.selects RX12 yX12_begins yX12_begins ∈ WS := tb_s (y := ⟨"LockRailModel", "begins", "()V"⟩) (n := 51) (List.mem_of_getElem? (i := 110) (by decide +kernel))
theorem mw_s111 : Cond.selects RX12 yX12_next yX12_next ∈ WS := tb_s (y := ⟨"LockRailModel", "next", "()V"⟩) (n := 51) (List.mem_of_getElem? (i := 111) (by decide +kernel))
theorem mw_s112 : Cond.selects RX12 yX12_isByte yX12_isByte ∈ WS := tb_s (y := ⟨"LockRailModel", "isByte", "(III)Z"⟩) (n := 51) (List.mem_of_getElem? (i := 112) (by decide +kernel))
theorem mw_s113 : Cond.selects RX12 yX12_isGood yX12_isGood ∈ WS := tb_s (y := ⟨"LockRailModel", "isGood", "()Z"⟩) (n := 51) (List.mem_of_getElem? (i := 113) (by decide +kernel))
theorem mw_s114 : Cond.selects RX12 yX12_railLine yX12_railLine ∈ WS := tb_s (y := ⟨"LockRailModel", "railLine", "()V"⟩) (n := 51) (List.mem_of_getElem? (i := 114) (by decide +kernel))
theorem mw_s115 : Cond.selects RX12 yX12_asks yX12_asks ∈ WS := tb_s (y := ⟨"LockRailModel", "asks", "(J)V"⟩) (n := 51) (List.mem_of_getElem? (i := 115) (by decide +kernel))
theorem mw_s116 : Cond.selects RX12 yX12_takes yX12_takes ∈ WS := tb_s (y := ⟨"LockRailModel", "takes", "(J)Z"⟩) (n := 51) (List.mem_of_getElem? (i := 116) (by decide +kernel))
theorem mw_s117 : Cond.selects RX12 yX12_is yX12_is ∈ WS := tb_s (y := ⟨"LockRailModel", "is", "(J)Z"⟩) (n := 51) (List.mem_of_getElem? (i := 117) (by decide +kernel))
theorem mw_s118 : Cond.selects RX12 yX12_fails yX12_fails ∈ WS := tb_s (y := ⟨"LockRailModel", "fails", "(I)V"⟩) (n := 51) (List.mem_of_getElem? (i := 118) (by decide +kernel))
theorem mw_s119 : Cond.selects RX12 yX12_number_ yX12_number_ ∈ WS := tb_s (y := ⟨"LockRailModel", "number", "(JII)I"⟩) (n := 51) (List.mem_of_getElem? (i := 119) (by decide +kernel))
theorem mw_s120 : Cond.selects RX12 yX12_number yX12_number ∈ WS := tb_s (y := ⟨"LockRailModel", "number", "(II)I"⟩) (n := 51) (List.mem_of_getElem? (i := 120) (by decide +kernel))
theorem mw_s121 : Cond.selects RX12 yX12_line yX12_line ∈ WS := tb_s (y := ⟨"LockRailModel", "line", "()V"⟩) (n := 51) (List.mem_of_getElem? (i := 121) (by decide +kernel))
theorem mw_s122 : Cond.selects RX12 yX12_onceLine yX12_onceLine ∈ WS := tb_s (y := ⟨"LockRailModel", "onceLine", "(I)V"⟩) (n := 51) (List.mem_of_getElem? (i := 122) (by decide +kernel))
theorem mw_s123 : Cond.selects RX12 yX12_isFull yX12_isFull ∈ WS := tb_s (y := ⟨"LockRailModel", "isFull", "(I)Z"⟩) (n := 51) (List.mem_of_getElem? (i := 123) (by decide +kernel))
theorem mw_s124 : Cond.selects RX12 yX12_lampLine yX12_lampLine ∈ WS := tb_s (y := ⟨"LockRailModel", "lampLine", "()V"⟩) (n := 51) (List.mem_of_getElem? (i := 124) (by decide +kernel))
theorem mw_s125 : Cond.selects RX12 yX12_lockLine yX12_lockLine ∈ WS := tb_s (y := ⟨"LockRailModel", "lockLine", "()V"⟩) (n := 51) (List.mem_of_getElem? (i := 125) (by decide +kernel))
theorem mw_s126 : Cond.selects RX12 yX12_bikeLine yX12_bikeLine ∈ WS := tb_s (y := ⟨"LockRailModel", "bikeLine", "()V"⟩) (n := 51) (List.mem_of_getElem? (i := 126) (by decide +kernel))
theorem mw_s127 : Cond.selects RX12 yX12_thiefLine yX12_thiefLine ∈ WS := tb_s (y := ⟨"LockRailModel", "thiefLine", "()V"⟩) (n := 51) (List.mem_of_getElem? (i := 127) (by decide +kernel))
theorem mw_s128 : Cond.selects RX12 yX12_ends yX12_ends ∈ WS := tb_s (y := ⟨"LockRailModel", "ends", "()V"⟩) (n := 51) (List.mem_of_getElem? (i := 128) (by decide +kernel))
theorem mw_s129 : Cond.selects RX12 yX12_isOver yX12_isOver ∈ WS := tb_s (y := ⟨"LockRailModel", "isOver", "()V"⟩) (n := 51) (List.mem_of_getElem? (i := 129) (by decide +kernel))
theorem mw_s130 : Cond.selects RX12 yX12_copyRail yX12_copyRail ∈ WS := tb_s (y := ⟨"LockRailModel", "copyRail", "(II)V"⟩) (n := 51) (List.mem_of_getElem? (i := 130) (by decide +kernel))
theorem mw_s131 : Cond.selects RX12 yX12_isPlace yX12_isPlace ∈ WS := tb_s (y := ⟨"LockRailModel", "isPlace", "(I)Z"⟩) (n := 51) (List.mem_of_getElem? (i := 131) (by decide +kernel))
theorem mw_s132 : Cond.selects RX12 yX12_lightOf yX12_lightOf ∈ WS := tb_s (y := ⟨"LockRailModel", "lightOf", "(II)I"⟩) (n := 51) (List.mem_of_getElem? (i := 132) (by decide +kernel))
theorem mw_s133 : Cond.selects RX12 yX12_isBike yX12_isBike ∈ WS := tb_s (y := ⟨"LockRailModel", "isBike", "(I)Z"⟩) (n := 51) (List.mem_of_getElem? (i := 133) (by decide +kernel))
theorem mw_s134 : Cond.selects RX12 yX12_isThief yX12_isThief ∈ WS := tb_s (y := ⟨"LockRailModel", "isThief", "(I)Z"⟩) (n := 51) (List.mem_of_getElem? (i := 134) (by decide +kernel))
theorem mw_s135 : Cond.selects RX12 yX12_troubleOf yX12_troubleOf ∈ WS := tb_s (y := ⟨"LockRailModel", "troubleOf", "(III)I"⟩) (n := 51) (List.mem_of_getElem? (i := 135) (by decide +kernel))
theorem mw_s136 : Cond.selects RX12 yX12_gainOf yX12_gainOf ∈ WS := tb_s (y := ⟨"LockRailModel", "gainOf", "(II)I"⟩) (n := 51) (List.mem_of_getElem? (i := 136) (by decide +kernel))
theorem mw_s137 : Cond.selects RX12 yX12_markedOn yX12_markedOn ∈ WS := tb_s (y := ⟨"LockRailModel", "markedOn", "(I)I"⟩) (n := 51) (List.mem_of_getElem? (i := 137) (by decide +kernel))
theorem mw_s138 : Cond.selects RX12 yX12_lays yX12_lays ∈ WS := tb_s (y := ⟨"LockRailModel", "lays", "(I)V"⟩) (n := 51) (List.mem_of_getElem? (i := 138) (by decide +kernel))
theorem mw_s139 : Cond.selects RX12 yX12_takesOf yX12_takesOf ∈ WS := tb_s (y := ⟨"LockRailModel", "takesOf", "(II)I"⟩) (n := 51) (List.mem_of_getElem? (i := 139) (by decide +kernel))
theorem mw_s140 : Cond.selects RX12 yX12_wantsOf yX12_wantsOf ∈ WS := tb_s (y := ⟨"LockRailModel", "wantsOf", "(I)I"⟩) (n := 51) (List.mem_of_getElem? (i := 140) (by decide +kernel))
theorem mw_s141 : Cond.selects RX12 yX12_isSet yX12_isSet ∈ WS := tb_s (y := ⟨"LockRailModel", "isSet", "(I)Z"⟩) (n := 51) (List.mem_of_getElem? (i := 141) (by decide +kernel))
theorem mw_s142 : Cond.selects RX12 yX12_isRail yX12_isRail ∈ WS := tb_s (y := ⟨"LockRailModel", "isRail", "()Z"⟩) (n := 51) (List.mem_of_getElem? (i := 142) (by decide +kernel))
theorem mw_s143 : Cond.selects RX12 yX12_night yX12_night ∈ WS := tb_s (y := ⟨"LockRailModel", "night", "()V"⟩) (n := 51) (List.mem_of_getElem? (i := 143) (by decide +kernel))
theorem mw_s144 : Cond.selects RX12 yX12_riskNow yX12_riskNow ∈ WS := tb_s (y := ⟨"LockRailModel", "riskNow", "(I)J"⟩) (n := 51) (List.mem_of_getElem? (i := 144) (by decide +kernel))
theorem mw_s145 : Cond.selects RX12 yX12_riskOf yX12_riskOf ∈ WS := tb_s (y := ⟨"LockRailModel", "riskOf", "(I)J"⟩) (n := 51) (List.mem_of_getElem? (i := 145) (by decide +kernel))
theorem mw_s146 : Cond.selects RX12 yX12_whatOf yX12_whatOf ∈ WS := tb_s (y := ⟨"LockRailModel", "whatOf", "(II)J"⟩) (n := 51) (List.mem_of_getElem? (i := 146) (by decide +kernel))
theorem mw_s147 : Cond.selects RX12 yX12_paidOf yX12_paidOf ∈ WS := tb_s (y := ⟨"LockRailModel", "paidOf", "(I)J"⟩) (n := 51) (List.mem_of_getElem? (i := 147) (by decide +kernel))
theorem mw_s148 : Cond.selects RX12 yX12_lossOf yX12_lossOf ∈ WS := tb_s (y := ⟨"LockRailModel", "lossOf", "(I)J"⟩) (n := 51) (List.mem_of_getElem? (i := 148) (by decide +kernel))
theorem mw_s149 : Cond.selects RX12 yX12_costOf yX12_costOf ∈ WS := tb_s (y := ⟨"LockRailModel", "costOf", "(I)J"⟩) (n := 51) (List.mem_of_getElem? (i := 149) (by decide +kernel))
theorem mw_s150 : Cond.selects RX12 yX12_wages yX12_wages ∈ WS := tb_s (y := ⟨"LockRailModel", "wages", "()J"⟩) (n := 51) (List.mem_of_getElem? (i := 150) (by decide +kernel))
theorem mw_s151 : Cond.selects RX12 yX12_allNow yX12_allNow ∈ WS := tb_s (y := ⟨"LockRailModel", "allNow", "(I)J"⟩) (n := 51) (List.mem_of_getElem? (i := 151) (by decide +kernel))
theorem mw_s152 : Cond.selects RX12 yX12_isOption yX12_isOption ∈ WS := tb_s (y := ⟨"LockRailModel", "isOption", "(I)Z"⟩) (n := 51) (List.mem_of_getElem? (i := 152) (by decide +kernel))
theorem mw_s153 : Cond.selects RX12 yX12_optionMany yX12_optionMany ∈ WS := tb_s (y := ⟨"LockRailModel", "optionMany", "()I"⟩) (n := 51) (List.mem_of_getElem? (i := 153) (by decide +kernel))
theorem mw_s154 : Cond.selects RX12 yX12_optionOf yX12_optionOf ∈ WS := tb_s (y := ⟨"LockRailModel", "optionOf", "(I)I"⟩) (n := 51) (List.mem_of_getElem? (i := 154) (by decide +kernel))
theorem mw_s155 : Cond.selects RX12 yX12_hasOption yX12_hasOption ∈ WS := tb_s (y := ⟨"LockRailModel", "hasOption", "(II)V"⟩) (n := 51) (List.mem_of_getElem? (i := 155) (by decide +kernel))
theorem mw_s156 : Cond.selects RX12 yX12_wouldOf yX12_wouldOf ∈ WS := tb_s (y := ⟨"LockRailModel", "wouldOf", "(II)J"⟩) (n := 51) (List.mem_of_getElem? (i := 156) (by decide +kernel))
theorem mw_s157 : Cond.selects RX12 yX12_costNow yX12_costNow ∈ WS := tb_s (y := ⟨"LockRailModel", "costNow", "(I)J"⟩) (n := 51) (List.mem_of_getElem? (i := 157) (by decide +kernel))
theorem mw_s158 : Cond.selects RX12 yX12_bestOf yX12_bestOf ∈ WS := tb_s (y := ⟨"LockRailModel", "bestOf", "(I)I"⟩) (n := 51) (List.mem_of_getElem? (i := 158) (by decide +kernel))
theorem mw_s159 : Cond.selects RX12 yX12_settlesIn yX12_settlesIn ∈ WS := tb_s (y := ⟨"LockRailModel", "settlesIn", "(I)I"⟩) (n := 51) (List.mem_of_getElem? (i := 159) (by decide +kernel))
theorem mw_s160 : Cond.selects RX12 yX12_round yX12_round ∈ WS := tb_s (y := ⟨"LockRailModel", "round", "()Z"⟩) (n := 51) (List.mem_of_getElem? (i := 160) (by decide +kernel))
theorem mw_s161 : Cond.selects RX12 yX12_laysAside yX12_laysAside ∈ WS := tb_s (y := ⟨"LockRailModel", "laysAside", "()V"⟩) (n := 51) (List.mem_of_getElem? (i := 161) (by decide +kernel))
theorem mw_s162 : Cond.selects RX12 yX12_takesBack yX12_takesBack ∈ WS := tb_s (y := ⟨"LockRailModel", "takesBack", "()V"⟩) (n := 51) (List.mem_of_getElem? (i := 162) (by decide +kernel))
theorem mw_s163 : Cond.selects RX12 yX12_betters yX12_betters ∈ WS := tb_s (y := ⟨"LockRailModel", "betters", "(I)I"⟩) (n := 51) (List.mem_of_getElem? (i := 163) (by decide +kernel))
theorem mw_s164 : Cond.selects RX12 yX12_changes yX12_changes ∈ WS := tb_s (y := ⟨"LockRailModel", "changes", "()Z"⟩) (n := 51) (List.mem_of_getElem? (i := 164) (by decide +kernel))
theorem mw_s165 : Cond.selects RX12 yX12_areTwo yX12_areTwo ∈ WS := tb_s (y := ⟨"LockRailModel", "areTwo", "(II)Z"⟩) (n := 51) (List.mem_of_getElem? (i := 165) (by decide +kernel))
theorem mw_s166 : Cond.selects RX12 yX12_laysGrowth yX12_laysGrowth ∈ WS := tb_s (y := ⟨"LockRailModel", "laysGrowth", "(II)V"⟩) (n := 51) (List.mem_of_getElem? (i := 166) (by decide +kernel))
theorem mw_s167 : Cond.selects RX12 yX12_standsAt yX12_standsAt ∈ WS := tb_s (y := ⟨"LockRailModel", "standsAt", "(I)I"⟩) (n := 51) (List.mem_of_getElem? (i := 167) (by decide +kernel))
theorem mw_s168 : Cond.selects RX12 yX12_litBy yX12_litBy ∈ WS := tb_s (y := ⟨"LockRailModel", "litBy", "(II)J"⟩) (n := 51) (List.mem_of_getElem? (i := 168) (by decide +kernel))
theorem mw_s169 : Cond.selects RX12 yX12_laysWatch yX12_laysWatch ∈ WS := tb_s (y := ⟨"LockRailModel", "laysWatch", "()V"⟩) (n := 51) (List.mem_of_getElem? (i := 169) (by decide +kernel))
theorem mw_s170 : Cond.selects RX12 yX12_marksSet yX12_marksSet ∈ WS := tb_s (y := ⟨"LockRailModel", "marksSet", "(I)V"⟩) (n := 51) (List.mem_of_getElem? (i := 170) (by decide +kernel))
theorem mw_s171 : Cond.selects RX12 yX12_isWanted yX12_isWanted ∈ WS := tb_s (y := ⟨"LockRailModel", "isWanted", "()Z"⟩) (n := 51) (List.mem_of_getElem? (i := 171) (by decide +kernel))
theorem mw_s172 : Cond.selects RX12 yX12_whyNot yX12_whyNot ∈ WS := tb_s (y := ⟨"LockRailModel", "whyNot", "(III)I"⟩) (n := 51) (List.mem_of_getElem? (i := 172) (by decide +kernel))
theorem mw_s173 : Cond.selects RX12 yX12_baits yX12_baits ∈ WS := tb_s (y := ⟨"LockRailModel", "baits", "(III)V"⟩) (n := 51) (List.mem_of_getElem? (i := 173) (by decide +kernel))
theorem mw_s174 : Cond.selects RX12 yX12_thiefGoes yX12_thiefGoes ∈ WS := tb_s (y := ⟨"LockRailModel", "thiefGoes", "(II)V"⟩) (n := 51) (List.mem_of_getElem? (i := 174) (by decide +kernel))
theorem mw_s175 : Cond.selects RX12 yX12_isCover yX12_isCover ∈ WS := tb_s (y := ⟨"LockRailModel", "isCover", "(III)Z"⟩) (n := 51) (List.mem_of_getElem? (i := 175) (by decide +kernel))
theorem mw_s176 : Cond.selects RX12 yX12_covers yX12_covers ∈ WS := tb_s (y := ⟨"LockRailModel", "covers", "(III)I"⟩) (n := 51) (List.mem_of_getElem? (i := 176) (by decide +kernel))
theorem mw_s177 : Cond.selects RX12 yX12_byLaw yX12_byLaw ∈ WS := tb_s (y := ⟨"LockRailModel", "byLaw", "(I)J"⟩) (n := 51) (List.mem_of_getElem? (i := 177) (by decide +kernel))
theorem mw_s178 : Cond.selects RX12 yX12_netOn yX12_netOn ∈ WS := tb_s (y := ⟨"LockRailModel", "netOn", "(II)I"⟩) (n := 51) (List.mem_of_getElem? (i := 178) (by decide +kernel))
theorem mw_s179 : Cond.selects RX12 yX12_draws yX12_draws ∈ WS := tb_s (y := ⟨"LockRailModel", "draws", "(J)V"⟩) (n := 51) (List.mem_of_getElem? (i := 179) (by decide +kernel))
theorem mw_s180 : Cond.selects RX12 yX12_newYear yX12_newYear ∈ WS := tb_s (y := ⟨"LockRailModel", "newYear", "()V"⟩) (n := 51) (List.mem_of_getElem? (i := 180) (by decide +kernel))
theorem mw_s181 : Cond.selects RX12 yX12_draw yX12_draw ∈ WS := tb_s (y := ⟨"LockRailModel", "draw", "()I"⟩) (n := 51) (List.mem_of_getElem? (i := 181) (by decide +kernel))
theorem mw_s182 : Cond.selects RX12 yX12_comes yX12_comes ∈ WS := tb_s (y := ⟨"LockRailModel", "comes", "(II)I"⟩) (n := 51) (List.mem_of_getElem? (i := 182) (by decide +kernel))
theorem mw_s183 : Cond.selects RX12 yX12_tellsYear yX12_tellsYear ∈ WS := tb_s (y := ⟨"LockRailModel", "tellsYear", "()I"⟩) (n := 51) (List.mem_of_getElem? (i := 183) (by decide +kernel))
theorem mw_s184 : Cond.selects RX12 yX12_drawnAll yX12_drawnAll ∈ WS := tb_s (y := ⟨"LockRailModel", "drawnAll", "()I"⟩) (n := 51) (List.mem_of_getElem? (i := 184) (by decide +kernel))
theorem mw_1_1 : Cond.initialized RX11 ∈ WS := tb_1 (List.mem_of_getElem? (i := 1) rfl) rfl
theorem mw_1_2 : Cond.initialized RX5 ∈ WS := tb_1 (List.mem_of_getElem? (i := 2) rfl) rfl
theorem mw_1_3 : Cond.initialized RX8 ∈ WS := tb_1 (List.mem_of_getElem? (i := 3) rfl) rfl
theorem mw_1_4 : Cond.initialized RX4 ∈ WS := tb_1 (List.mem_of_getElem? (i := 4) rfl) rfl
theorem mw_1_5 : Cond.initialized RX1 ∈ WS := tb_1 (List.mem_of_getElem? (i := 5) rfl) rfl
theorem mw_1_6 : Cond.initialized RX2 ∈ WS := tb_1 (List.mem_of_getElem? (i := 6) rfl) rfl
theorem mw_1_7 : Cond.initialized RX0 ∈ WS := tb_1 (List.mem_of_getElem? (i := 7) rfl) rfl
theorem mw_1_8 : Cond.initialized RX9 ∈ WS := tb_1 (List.mem_of_getElem? (i := 8) rfl) rfl
theorem mw_1_9 : Cond.initialized RX10 ∈ WS := tb_1 (List.mem_of_getElem? (i := 9) rfl) rfl
theorem mw_1_10 : Cond.initialized RX6 ∈ WS := tb_1 (List.mem_of_getElem? (i := 10) rfl) rfl
theorem mw_1_11 : Cond.initialized RX3 ∈ WS := tb_1 (List.mem_of_getElem? (i := 11) rfl) rfl
theorem mw_1_12 : Cond.initialized RX7 ∈ WS := tb_1 (List.mem_of_getElem? (i := 12) rfl) rfl
theorem mw_1_13 : Cond.initialized RX12 ∈ WS := tb_1 (List.mem_of_getElem? (i := 13) rfl) rfl
theorem mw_1_14 : Cond.initialized "java/lang/Math" ∈ WS := tb_1 (List.mem_of_getElem? (i := 14) rfl) rfl
theorem mw_1_19 : Cond.initialized "java/lang/System" ∈ WS := tb_1 (List.mem_of_getElem? (i := 19) rfl) rfl
theorem mw_1_20 : Cond.initialized RJ6 ∈ WS := tb_1 (List.mem_of_getElem? (i := 20) rfl) rfl
theorem mw_1_41 : Cond.fieldLink RX8 9 "LockRail$Tape" "bytes" "[B" ∈ WS := tb_1 (List.mem_of_getElem? (i := 41) rfl) rfl
theorem mw_1_42 : Cond.fieldLink RX8 15 "LockRail$Tape" "length" "I" ∈ WS := tb_1 (List.mem_of_getElem? (i := 42) rfl) rfl
theorem mw_1_44 : Cond.fieldLink RX8 25 "LockRail$Tape" "spot" "I" ∈ WS := tb_1 (List.mem_of_getElem? (i := 44) rfl) rfl
theorem mw_1_46 : Cond.fieldLink RX8 19 "LockRail$Tape" "behind" "I" ∈ WS := tb_1 (List.mem_of_getElem? (i := 46) rfl) rfl
theorem mw_1_48 : Cond.fieldLink RX8 32 "LockRail$Tape" "kind" "I" ∈ WS := tb_1 (List.mem_of_getElem? (i := 48) rfl) rfl
theorem mw_1_49 : Cond.fieldLink RX8 35 "LockRail$Tape" "number" "I" ∈ WS := tb_1 (List.mem_of_getElem? (i := 49) rfl) rfl
theorem mw_1_65 : Cond.fieldLink RX5 12 "LockRail$Reader" "tape" "LLockRail$Tape;" ∈ WS := tb_1 (List.mem_of_getElem? (i := 65) rfl) rfl
theorem mw_1_67 : Cond.fieldLink RX5 22 "LockRail$Reader" "fault" "I" ∈ WS := tb_1 (List.mem_of_getElem? (i := 67) rfl) rfl
theorem mw_1_69 : Cond.fieldLink RX5 18 "LockRail$Reader" "faultAt" "I" ∈ WS := tb_1 (List.mem_of_getElem? (i := 69) rfl) rfl
theorem mw_1_90 : Cond.fieldLink RX1 18 "LockRail$Lamps" "count" "I" ∈ WS := tb_1 (List.mem_of_getElem? (i := 90) rfl) rfl
theorem mw_1_94 : Cond.fieldLink RX1 9 "LockRail$Lamps" "place" "[I" ∈ WS := tb_1 (List.mem_of_getElem? (i := 94) rfl) rfl
theorem mw_1_96 : Cond.fieldLink RX1 15 "LockRail$Lamps" "bright" "[I" ∈ WS := tb_1 (List.mem_of_getElem? (i := 96) rfl) rfl
theorem mw_1_112 : Cond.fieldLink RX2 18 "LockRail$Locks" "count" "I" ∈ WS := tb_1 (List.mem_of_getElem? (i := 112) rfl) rfl
theorem mw_1_116 : Cond.fieldLink RX2 9 "LockRail$Locks" "price" "[I" ∈ WS := tb_1 (List.mem_of_getElem? (i := 116) rfl) rfl
theorem mw_1_118 : Cond.fieldLink RX2 15 "LockRail$Locks" "cuts" "[I" ∈ WS := tb_1 (List.mem_of_getElem? (i := 118) rfl) rfl
theorem mw_1_133 : Cond.fieldLink RX0 28 "LockRail$Bikes" "count" "I" ∈ WS := tb_1 (List.mem_of_getElem? (i := 133) rfl) rfl
theorem mw_1_138 : Cond.fieldLink RX0 9 "LockRail$Bikes" "worth" "[I" ∈ WS := tb_1 (List.mem_of_getElem? (i := 138) rfl) rfl
theorem mw_1_142 : Cond.fieldLink RX0 15 "LockRail$Bikes" "seems" "[I" ∈ WS := tb_1 (List.mem_of_getElem? (i := 142) rfl) rfl
theorem mw_1_145 : Cond.fieldLink RX0 18 "LockRail$Bikes" "place" "[I" ∈ WS := tb_1 (List.mem_of_getElem? (i := 145) rfl) rfl
theorem mw_1_148 : Cond.fieldLink RX0 21 "LockRail$Bikes" "lock" "[I" ∈ WS := tb_1 (List.mem_of_getElem? (i := 148) rfl) rfl
theorem mw_1_151 : Cond.fieldLink RX0 24 "LockRail$Bikes" "marked" "[Z" ∈ WS := tb_1 (List.mem_of_getElem? (i := 151) rfl) rfl
theorem mw_1_174 : Cond.fieldLink RX9 27 "LockRail$Thieves" "count" "I" ∈ WS := tb_1 (List.mem_of_getElem? (i := 174) rfl) rfl
theorem mw_1_179 : Cond.fieldLink RX9 9 "LockRail$Thieves" "tool" "[I" ∈ WS := tb_1 (List.mem_of_getElem? (i := 179) rfl) rfl
theorem mw_1_181 : Cond.fieldLink RX9 15 "LockRail$Thieves" "comes" "[I" ∈ WS := tb_1 (List.mem_of_getElem? (i := 181) rfl) rfl
theorem mw_1_183 : Cond.fieldLink RX9 18 "LockRail$Thieves" "fears" "[I" ∈ WS := tb_1 (List.mem_of_getElem? (i := 183) rfl) rfl
theorem mw_1_185 : Cond.fieldLink RX9 21 "LockRail$Thieves" "kind" "[I" ∈ WS := tb_1 (List.mem_of_getElem? (i := 185) rfl) rfl
theorem mw_1_187 : Cond.fieldLink RX9 24 "LockRail$Thieves" "just" "[I" ∈ WS := tb_1 (List.mem_of_getElem? (i := 187) rfl) rfl
theorem mw_1_208 : Cond.fieldLink RX10 18 "LockRail$Year" "isThere" "Z" ∈ WS := tb_1 (List.mem_of_getElem? (i := 208) rfl) rfl
theorem mw_1_211 : Cond.fieldLink RX10 9 "LockRail$Year" "taken" "[I" ∈ WS := tb_1 (List.mem_of_getElem? (i := 211) rfl) rfl
theorem mw_1_215 : Cond.fieldLink RX10 15 "LockRail$Year" "took" "[I" ∈ WS := tb_1 (List.mem_of_getElem? (i := 215) rfl) rfl
theorem mw_1_225 : Cond.fieldLink RX4 46 "LockRail$Rail" "places" "I" ∈ WS := tb_1 (List.mem_of_getElem? (i := 225) rfl) rfl
theorem mw_1_228 : Cond.fieldLink RX4 50 "LockRail$Rail" "nights" "I" ∈ WS := tb_1 (List.mem_of_getElem? (i := 228) rfl) rfl
theorem mw_1_232 : Cond.fieldLink RX4 53 "LockRail$Rail" "lines" "I" ∈ WS := tb_1 (List.mem_of_getElem? (i := 232) rfl) rfl
theorem mw_1_235 : Cond.fieldLink RX4 12 "LockRail$Rail" "lamps" "LLockRail$Lamps;" ∈ WS := tb_1 (List.mem_of_getElem? (i := 235) rfl) rfl
theorem mw_1_238 : Cond.fieldLink RX4 21 "LockRail$Rail" "locks" "LLockRail$Locks;" ∈ WS := tb_1 (List.mem_of_getElem? (i := 238) rfl) rfl
theorem mw_2_1 : Cond.fieldLink RX4 28 "LockRail$Rail" "bikes" "LLockRail$Bikes;" ∈ WS := tb_2 (List.mem_of_getElem? (i := 1) rfl) rfl
theorem mw_2_5 : Cond.fieldLink RX4 35 "LockRail$Rail" "thieves" "LLockRail$Thieves;" ∈ WS := tb_2 (List.mem_of_getElem? (i := 5) rfl) rfl
theorem mw_2_9 : Cond.fieldLink RX4 62 "LockRail$Rail" "markTold" "Z" ∈ WS := tb_2 (List.mem_of_getElem? (i := 9) rfl) rfl
theorem mw_2_11 : Cond.fieldLink RX4 66 "LockRail$Rail" "markPrice" "I" ∈ WS := tb_2 (List.mem_of_getElem? (i := 11) rfl) rfl
theorem mw_2_13 : Cond.fieldLink RX4 69 "LockRail$Rail" "known" "I" ∈ WS := tb_2 (List.mem_of_getElem? (i := 13) rfl) rfl
theorem mw_2_15 : Cond.fieldLink RX4 72 "LockRail$Rail" "hidden" "Z" ∈ WS := tb_2 (List.mem_of_getElem? (i := 15) rfl) rfl
theorem mw_2_17 : Cond.fieldLink RX4 75 "LockRail$Rail" "watchTold" "Z" ∈ WS := tb_2 (List.mem_of_getElem? (i := 17) rfl) rfl
theorem mw_2_20 : Cond.fieldLink RX4 78 "LockRail$Rail" "wage" "I" ∈ WS := tb_2 (List.mem_of_getElem? (i := 20) rfl) rfl
theorem mw_2_22 : Cond.fieldLink RX4 81 "LockRail$Rail" "adds" "I" ∈ WS := tb_2 (List.mem_of_getElem? (i := 22) rfl) rfl
theorem mw_2_24 : Cond.fieldLink RX4 84 "LockRail$Rail" "watched" "Z" ∈ WS := tb_2 (List.mem_of_getElem? (i := 24) rfl) rfl
theorem mw_2_26 : Cond.fieldLink RX4 42 "LockRail$Rail" "year" "LLockRail$Year;" ∈ WS := tb_2 (List.mem_of_getElem? (i := 26) rfl) rfl
theorem mw_2_68 : Cond.fieldLink RX6 9 "LockRail$Slots" "numbers" "[J" ∈ WS := tb_2 (List.mem_of_getElem? (i := 68) rfl) rfl
theorem mw_2_69 : Cond.fieldLink RX6 13 "LockRail$Slots" "size" "[I" ∈ WS := tb_2 (List.mem_of_getElem? (i := 69) rfl) rfl
theorem mw_2_70 : Cond.fieldLink RX6 17 "LockRail$Slots" "widthAndOne" "[I" ∈ WS := tb_2 (List.mem_of_getElem? (i := 70) rfl) rfl
theorem mw_2_91 : Cond.fieldLink RX7 23 "LockRail$Spread" "size" "I" ∈ WS := tb_2 (List.mem_of_getElem? (i := 91) rfl) rfl
theorem mw_2_93 : Cond.fieldLink RX7 9 "LockRail$Spread" "states" "[I" ∈ WS := tb_2 (List.mem_of_getElem? (i := 93) rfl) rfl
theorem mw_2_95 : Cond.fieldLink RX7 13 "LockRail$Spread" "parts" "[J" ∈ WS := tb_2 (List.mem_of_getElem? (i := 95) rfl) rfl
theorem mw_2_97 : Cond.fieldLink RX7 17 "LockRail$Spread" "slotOf" "[I" ∈ WS := tb_2 (List.mem_of_getElem? (i := 97) rfl) rfl
theorem mw_2_98 : Cond.fieldLink RX7 20 "LockRail$Spread" "table" "[I" ∈ WS := tb_2 (List.mem_of_getElem? (i := 98) rfl) rfl
theorem mw_2_110 : Cond.fieldLink RX3 11 "LockRail$Night" "light" "[I" ∈ WS := tb_2 (List.mem_of_getElem? (i := 110) rfl) rfl
theorem mw_2_111 : Cond.fieldLink RX3 15 "LockRail$Night" "gain" "[I" ∈ WS := tb_2 (List.mem_of_getElem? (i := 111) rfl) rfl
theorem mw_2_112 : Cond.fieldLink RX3 18 "LockRail$Night" "order" "[I" ∈ WS := tb_2 (List.mem_of_getElem? (i := 112) rfl) rfl
theorem mw_2_113 : Cond.fieldLink RX3 21 "LockRail$Night" "ordered" "[I" ∈ WS := tb_2 (List.mem_of_getElem? (i := 113) rfl) rfl
theorem mw_2_114 : Cond.fieldLink RX3 24 "LockRail$Night" "rank" "[I" ∈ WS := tb_2 (List.mem_of_getElem? (i := 114) rfl) rfl
theorem mw_2_115 : Cond.fieldLink RX3 27 "LockRail$Night" "had" "[J" ∈ WS := tb_2 (List.mem_of_getElem? (i := 115) rfl) rfl
theorem mw_2_116 : Cond.fieldLink RX3 34 "LockRail$Night" "now" "LLockRail$Spread;" ∈ WS := tb_2 (List.mem_of_getElem? (i := 116) rfl) rfl
theorem mw_2_117 : Cond.fieldLink RX3 38 "LockRail$Night" "then" "LLockRail$Spread;" ∈ WS := tb_2 (List.mem_of_getElem? (i := 117) rfl) rfl
theorem mw_2_118 : Cond.fieldLink RX3 57 "LockRail$Night" "bait" "I" ∈ WS := tb_2 (List.mem_of_getElem? (i := 118) rfl) rfl
theorem mw_2_119 : Cond.fieldLink RX3 148 "LockRail$Night" "caughtOf100" "I" ∈ WS := tb_2 (List.mem_of_getElem? (i := 119) rfl) rfl
theorem mw_2_143 : Cond.fieldLink RX11 10 "LockRail" "reader" "LLockRail$Reader;" ∈ WS := tb_2 (List.mem_of_getElem? (i := 143) rfl) rfl
theorem mw_2_144 : Cond.fieldLink RX11 19 "LockRail" "rail" "LLockRail$Rail;" ∈ WS := tb_2 (List.mem_of_getElem? (i := 144) rfl) rfl
theorem mw_2_145 : Cond.fieldLink RX11 23 "LockRail" "trial" "LLockRail$Rail;" ∈ WS := tb_2 (List.mem_of_getElem? (i := 145) rfl) rfl
theorem mw_2_147 : Cond.fieldLink RX11 33 "LockRail" "slots" "LLockRail$Slots;" ∈ WS := tb_2 (List.mem_of_getElem? (i := 147) rfl) rfl
theorem mw_2_148 : Cond.fieldLink RX11 40 "LockRail" "night" "LLockRail$Night;" ∈ WS := tb_2 (List.mem_of_getElem? (i := 148) rfl) rfl
theorem mw_2_149 : Cond.fieldLink RX11 47 "LockRail" "triedYear" "LLockRail$Year;" ∈ WS := tb_2 (List.mem_of_getElem? (i := 149) rfl) rfl
theorem mw_2_150 : Cond.fieldLink RX11 51 "LockRail" "ofBikes" "[J" ∈ WS := tb_2 (List.mem_of_getElem? (i := 150) rfl) rfl
theorem mw_2_174 : Cond.instanceMethod yX8_append ∈ WS := tb_2 (List.mem_of_getElem? (i := 174) rfl) rfl
theorem mw_2_175 : Cond.code yX8_append cX8_append 3 none ∈ WS := tb_2 (List.mem_of_getElem? (i := 175) rfl) rfl
theorem mw_2_196 : Cond.methodLink RX8 22 yX8_step ∈ WS := tb_2 (List.mem_of_getElem? (i := 196) rfl) rfl
theorem mw_2_198 : Cond.instanceMethod yX8_step ∈ WS := tb_2 (List.mem_of_getElem? (i := 198) rfl) rfl
theorem mw_2_199 : Cond.code yX8_step cX8_step 2 none ∈ WS := tb_2 (List.mem_of_getElem? (i := 199) rfl) rfl
theorem mw_2_200 : Cond.methodLink RX8 28 yX8_kindAt ∈ WS := tb_2 (List.mem_of_getElem? (i := 200) rfl) rfl
theorem mw_2_202 : Cond.instanceMethod yX8_kindAt ∈ WS := tb_2 (List.mem_of_getElem? (i := 202) rfl) rfl
theorem mw_2_203 : Cond.code yX8_kindAt cX8_kindAt 3 (some .int) ∈ WS := tb_2 (List.mem_of_getElem? (i := 203) rfl) rfl
theorem mw_2_204 : Cond.constant RX8 38 1000000 ∈ WS := tb_2 (List.mem_of_getElem? (i := 204) rfl) rfl
theorem mw_2_205 : Cond.methodLink RX8 39 Lib.Math.min.name ∈ WS := tb_2 (List.mem_of_getElem? (i := 205) rfl) rfl
theorem mw_2_206 : Cond.static Lib.Math.min.name ∈ WS := tb_2 (List.mem_of_getElem? (i := 206) rfl) rfl
theorem mw_2_207 : Cond.code Lib.Math.min.name Lib.Math.min.code 2 (some .int) ∈ WS := tb_2 (List.mem_of_getElem? (i := 207) rfl) rfl
theorem mw_3_34 : Cond.methodLink RX5 121 yX5_fail ∈ WS := tb_3 (List.mem_of_getElem? (i := 34) rfl) rfl
theorem mw_3_36 : Cond.instanceMethod yX5_fail ∈ WS := tb_3 (List.mem_of_getElem? (i := 36) rfl) rfl
theorem mw_3_37 : Cond.code yX5_fail cX5_fail 2 none ∈ WS := tb_3 (List.mem_of_getElem? (i := 37) rfl) rfl
theorem mw_3_57 : Cond.instanceMethod yX1_add ∈ WS := tb_3 (List.mem_of_getElem? (i := 57) rfl) rfl
theorem mw_3_58 : Cond.code yX1_add cX1_add 3 none ∈ WS := tb_3 (List.mem_of_getElem? (i := 58) rfl) rfl
theorem mw_3_79 : Cond.instanceMethod yX0_standingAt ∈ WS := tb_3 (List.mem_of_getElem? (i := 79) rfl) rfl
theorem mw_3_80 : Cond.code yX0_standingAt cX0_standingAt 3 (some .int) ∈ WS := tb_3 (List.mem_of_getElem? (i := 80) rfl) rfl
theorem mw_3_125 : Cond.instanceMethod yX4_copyFrom ∈ WS := tb_3 (List.mem_of_getElem? (i := 125) rfl) rfl
theorem mw_3_126 : Cond.code yX4_copyFrom cX4_copyFrom 2 none ∈ WS := tb_3 (List.mem_of_getElem? (i := 126) rfl) rfl
theorem mw_3_129 : Cond.instanceMethod yX1_copyFrom ∈ WS := tb_3 (List.mem_of_getElem? (i := 129) rfl) rfl
theorem mw_3_130 : Cond.code yX1_copyFrom cX1_copyFrom 2 none ∈ WS := tb_3 (List.mem_of_getElem? (i := 130) rfl) rfl
theorem mw_3_131 : Cond.methodLink RX1 22 arraycopyName ∈ WS := tb_3 (List.mem_of_getElem? (i := 131) rfl) rfl
theorem mw_3_132 : Cond.static arraycopyName ∈ WS := tb_3 (List.mem_of_getElem? (i := 132) rfl) rfl
theorem mw_3_133 : Cond.native arraycopyName ∈ WS := tb_3 (List.mem_of_getElem? (i := 133) rfl) rfl
theorem mw_3_136 : Cond.instanceMethod yX2_copyFrom ∈ WS := tb_3 (List.mem_of_getElem? (i := 136) rfl) rfl
theorem mw_3_137 : Cond.code yX2_copyFrom cX2_copyFrom 2 none ∈ WS := tb_3 (List.mem_of_getElem? (i := 137) rfl) rfl
theorem mw_3_138 : Cond.methodLink RX2 22 arraycopyName ∈ WS := tb_3 (List.mem_of_getElem? (i := 138) rfl) rfl
theorem mw_3_141 : Cond.instanceMethod yX0_copyFrom ∈ WS := tb_3 (List.mem_of_getElem? (i := 141) rfl) rfl
theorem mw_3_142 : Cond.code yX0_copyFrom cX0_copyFrom 3 none ∈ WS := tb_3 (List.mem_of_getElem? (i := 142) rfl) rfl
theorem mw_3_143 : Cond.methodLink RX0 32 arraycopyName ∈ WS := tb_3 (List.mem_of_getElem? (i := 143) rfl) rfl
theorem mw_3_146 : Cond.instanceMethod yX9_copyFrom ∈ WS := tb_3 (List.mem_of_getElem? (i := 146) rfl) rfl
theorem mw_3_147 : Cond.code yX9_copyFrom cX9_copyFrom 2 none ∈ WS := tb_3 (List.mem_of_getElem? (i := 147) rfl) rfl
theorem mw_3_148 : Cond.methodLink RX9 31 arraycopyName ∈ WS := tb_3 (List.mem_of_getElem? (i := 148) rfl) rfl
theorem mw_3_151 : Cond.instanceMethod yX10_copyFrom ∈ WS := tb_3 (List.mem_of_getElem? (i := 151) rfl) rfl
theorem mw_3_152 : Cond.code yX10_copyFrom cX10_copyFrom 2 none ∈ WS := tb_3 (List.mem_of_getElem? (i := 152) rfl) rfl
theorem mw_3_153 : Cond.methodLink RX10 22 arraycopyName ∈ WS := tb_3 (List.mem_of_getElem? (i := 153) rfl) rfl
theorem mw_3_164 : Cond.instanceMethod yX4_hasPlace ∈ WS := tb_3 (List.mem_of_getElem? (i := 164) rfl) rfl
theorem mw_3_165 : Cond.code yX4_hasPlace cX4_hasPlace 2 (some .boolean) ∈ WS := tb_3 (List.mem_of_getElem? (i := 165) rfl) rfl
theorem mw_3_168 : Cond.instanceMethod yX4_lightOf ∈ WS := tb_3 (List.mem_of_getElem? (i := 168) rfl) rfl
theorem mw_3_169 : Cond.code yX4_lightOf cX4_lightOf 4 (some .int) ∈ WS := tb_3 (List.mem_of_getElem? (i := 169) rfl) rfl
theorem mw_3_170 : Cond.methodLink RX4 121 Lib.Math.abs.name ∈ WS := tb_3 (List.mem_of_getElem? (i := 170) rfl) rfl
theorem mw_3_171 : Cond.static Lib.Math.abs.name ∈ WS := tb_3 (List.mem_of_getElem? (i := 171) rfl) rfl
theorem mw_3_172 : Cond.code Lib.Math.abs.name Lib.Math.abs.code 1 (some .int) ∈ WS := tb_3 (List.mem_of_getElem? (i := 172) rfl) rfl
theorem mw_3_173 : Cond.methodLink RX4 127 Lib.Math.max.name ∈ WS := tb_3 (List.mem_of_getElem? (i := 173) rfl) rfl
theorem mw_3_174 : Cond.static Lib.Math.max.name ∈ WS := tb_3 (List.mem_of_getElem? (i := 174) rfl) rfl
theorem mw_3_175 : Cond.code Lib.Math.max.name Lib.Math.max.code 2 (some .int) ∈ WS := tb_3 (List.mem_of_getElem? (i := 175) rfl) rfl
theorem mw_3_182 : Cond.instanceMethod yX4_hasBike ∈ WS := tb_3 (List.mem_of_getElem? (i := 182) rfl) rfl
theorem mw_3_183 : Cond.code yX4_hasBike cX4_hasBike 2 (some .boolean) ∈ WS := tb_3 (List.mem_of_getElem? (i := 183) rfl) rfl
theorem mw_3_190 : Cond.instanceMethod yX4_hasThief ∈ WS := tb_3 (List.mem_of_getElem? (i := 190) rfl) rfl
theorem mw_3_191 : Cond.code yX4_hasThief cX4_hasThief 2 (some .boolean) ∈ WS := tb_3 (List.mem_of_getElem? (i := 191) rfl) rfl
theorem mw_3_194 : Cond.instanceMethod yX4_troubleOf ∈ WS := tb_3 (List.mem_of_getElem? (i := 194) rfl) rfl
theorem mw_3_195 : Cond.code yX4_troubleOf cX4_troubleOf 6 (some .int) ∈ WS := tb_3 (List.mem_of_getElem? (i := 195) rfl) rfl
theorem mw_3_202 : Cond.instanceMethod yX0_markedOnes ∈ WS := tb_3 (List.mem_of_getElem? (i := 202) rfl) rfl
theorem mw_3_203 : Cond.code yX0_markedOnes cX0_markedOnes 3 (some .int) ∈ WS := tb_3 (List.mem_of_getElem? (i := 203) rfl) rfl
theorem mw_3_206 : Cond.instanceMethod yX4_gainOf ∈ WS := tb_3 (List.mem_of_getElem? (i := 206) rfl) rfl
theorem mw_3_207 : Cond.code yX4_gainOf cX4_gainOf 5 (some .int) ∈ WS := tb_3 (List.mem_of_getElem? (i := 207) rfl) rfl
theorem mw_3_214 : Cond.instanceMethod yX4_hasSet ∈ WS := tb_3 (List.mem_of_getElem? (i := 214) rfl) rfl
theorem mw_3_215 : Cond.code yX4_hasSet cX4_hasSet 2 (some .boolean) ∈ WS := tb_3 (List.mem_of_getElem? (i := 215) rfl) rfl
theorem mw_3_218 : Cond.instanceMethod yX3_lookAt ∈ WS := tb_3 (List.mem_of_getElem? (i := 218) rfl) rfl
theorem mw_3_219 : Cond.code yX3_lookAt cX3_lookAt 2 none ∈ WS := tb_3 (List.mem_of_getElem? (i := 219) rfl) rfl
theorem mw_3_220 : Cond.methodLink RX3 41 yX3_lookAtBaited ∈ WS := tb_3 (List.mem_of_getElem? (i := 220) rfl) rfl
theorem mw_3_222 : Cond.instanceMethod yX3_lookAtBaited ∈ WS := tb_3 (List.mem_of_getElem? (i := 222) rfl) rfl
theorem mw_3_223 : Cond.code yX3_lookAtBaited cX3_lookAtBaited 5 none ∈ WS := tb_3 (List.mem_of_getElem? (i := 223) rfl) rfl
theorem mw_3_227 : Cond.methodLink RX3 82 yX3_orderFor ∈ WS := tb_3 (List.mem_of_getElem? (i := 227) rfl) rfl
theorem mw_3_229 : Cond.instanceMethod yX3_orderFor ∈ WS := tb_3 (List.mem_of_getElem? (i := 229) rfl) rfl
theorem mw_3_230 : Cond.code yX3_orderFor cX3_orderFor 9 none ∈ WS := tb_3 (List.mem_of_getElem? (i := 230) rfl) rfl
theorem mw_3_232 : Cond.methodLink RX3 96 yX3_putInOrder ∈ WS := tb_3 (List.mem_of_getElem? (i := 232) rfl) rfl
theorem mw_3_234 : Cond.instanceMethod yX3_putInOrder ∈ WS := tb_3 (List.mem_of_getElem? (i := 234) rfl) rfl
theorem mw_3_235 : Cond.code yX3_putInOrder cX3_putInOrder 6 none ∈ WS := tb_3 (List.mem_of_getElem? (i := 235) rfl) rfl
theorem mw_3_238 : Cond.instanceMethod yX3_pick ∈ WS := tb_3 (List.mem_of_getElem? (i := 238) rfl) rfl
theorem mw_3_239 : Cond.code yX3_pick cX3_pick 6 (some .int) ∈ WS := tb_3 (List.mem_of_getElem? (i := 239) rfl) rfl
theorem mw_4_6 : Cond.instanceMethod yX3_wantedBy ∈ WS := tb_4 (List.mem_of_getElem? (i := 6) rfl) rfl
theorem mw_4_7 : Cond.code yX3_wantedBy cX3_wantedBy 5 (some .int) ∈ WS := tb_4 (List.mem_of_getElem? (i := 7) rfl) rfl
theorem mw_4_8 : Cond.methodLink RX3 100 yX3_netOf ∈ WS := tb_4 (List.mem_of_getElem? (i := 8) rfl) rfl
theorem mw_4_10 : Cond.instanceMethod yX3_netOf ∈ WS := tb_4 (List.mem_of_getElem? (i := 10) rfl) rfl
theorem mw_4_11 : Cond.code yX3_netOf cX3_netOf 4 (some .int) ∈ WS := tb_4 (List.mem_of_getElem? (i := 11) rfl) rfl
theorem mw_4_18 : Cond.instanceMethod yX4_isTold ∈ WS := tb_4 (List.mem_of_getElem? (i := 18) rfl) rfl
theorem mw_4_19 : Cond.code yX4_isTold cX4_isTold 1 (some .boolean) ∈ WS := tb_4 (List.mem_of_getElem? (i := 19) rfl) rfl
theorem mw_4_20 : Cond.constantLong RX11 152 (-2) ∈ WS := tb_4 (List.mem_of_getElem? (i := 20) rfl) rfl
theorem mw_4_23 : Cond.instanceMethod yX3_play ∈ WS := tb_4 (List.mem_of_getElem? (i := 23) rfl) rfl
theorem mw_4_24 : Cond.code yX3_play cX3_play 3 none ∈ WS := tb_4 (List.mem_of_getElem? (i := 24) rfl) rfl
theorem mw_4_25 : Cond.methodLink RX3 104 yX3_begin ∈ WS := tb_4 (List.mem_of_getElem? (i := 25) rfl) rfl
theorem mw_4_27 : Cond.instanceMethod yX3_begin ∈ WS := tb_4 (List.mem_of_getElem? (i := 27) rfl) rfl
theorem mw_4_28 : Cond.code yX3_begin cX3_begin 2 none ∈ WS := tb_4 (List.mem_of_getElem? (i := 28) rfl) rfl
theorem mw_4_31 : Cond.instanceMethod yX7_wipe ∈ WS := tb_4 (List.mem_of_getElem? (i := 31) rfl) rfl
theorem mw_4_32 : Cond.code yX7_wipe cX7_wipe 2 none ∈ WS := tb_4 (List.mem_of_getElem? (i := 32) rfl) rfl
theorem mw_4_33 : Cond.constantLong RX3 117 1000000000000 ∈ WS := tb_4 (List.mem_of_getElem? (i := 33) rfl) rfl
theorem mw_4_36 : Cond.instanceMethod yX7_put ∈ WS := tb_4 (List.mem_of_getElem? (i := 36) rfl) rfl
theorem mw_4_37 : Cond.code yX7_put cX7_put 7 none ∈ WS := tb_4 (List.mem_of_getElem? (i := 37) rfl) rfl
theorem mw_4_38 : Cond.constant RX7 27 (-1640531535) ∈ WS := tb_4 (List.mem_of_getElem? (i := 38) rfl) rfl
theorem mw_4_39 : Cond.methodLink RX3 110 yX3_letCome ∈ WS := tb_4 (List.mem_of_getElem? (i := 39) rfl) rfl
theorem mw_4_41 : Cond.instanceMethod yX3_letCome ∈ WS := tb_4 (List.mem_of_getElem? (i := 41) rfl) rfl
theorem mw_4_42 : Cond.code yX3_letCome cX3_letCome 10 none ∈ WS := tb_4 (List.mem_of_getElem? (i := 42) rfl) rfl
theorem mw_4_43 : Cond.methodLink RX3 132 yX3_isCaught ∈ WS := tb_4 (List.mem_of_getElem? (i := 43) rfl) rfl
theorem mw_4_44 : Cond.static yX3_isCaught ∈ WS := tb_4 (List.mem_of_getElem? (i := 44) rfl) rfl
theorem mw_4_45 : Cond.code yX3_isCaught cX3_isCaught 2 (some .boolean) ∈ WS := tb_4 (List.mem_of_getElem? (i := 45) rfl) rfl
theorem mw_4_46 : Cond.methodLink RX3 151 yX3_caughtBit ∈ WS := tb_4 (List.mem_of_getElem? (i := 46) rfl) rfl
theorem mw_4_47 : Cond.static yX3_caughtBit ∈ WS := tb_4 (List.mem_of_getElem? (i := 47) rfl) rfl
theorem mw_4_48 : Cond.code yX3_caughtBit cX3_caughtBit 1 (some .int) ∈ WS := tb_4 (List.mem_of_getElem? (i := 48) rfl) rfl
theorem mw_4_49 : Cond.methodLink RX3 136 yX3_pick ∈ WS := tb_4 (List.mem_of_getElem? (i := 49) rfl) rfl
theorem mw_4_50 : Cond.constantLong RX3 139 100 ∈ WS := tb_4 (List.mem_of_getElem? (i := 50) rfl) rfl
theorem mw_4_51 : Cond.methodLink RX3 141 yX3_letTake ∈ WS := tb_4 (List.mem_of_getElem? (i := 51) rfl) rfl
theorem mw_4_53 : Cond.instanceMethod yX3_letTake ∈ WS := tb_4 (List.mem_of_getElem? (i := 53) rfl) rfl
theorem mw_4_54 : Cond.code yX3_letTake cX3_letTake 9 none ∈ WS := tb_4 (List.mem_of_getElem? (i := 54) rfl) rfl
theorem mw_4_55 : Cond.methodLink RX3 145 yX3_turn ∈ WS := tb_4 (List.mem_of_getElem? (i := 55) rfl) rfl
theorem mw_4_57 : Cond.instanceMethod yX3_turn ∈ WS := tb_4 (List.mem_of_getElem? (i := 57) rfl) rfl
theorem mw_4_58 : Cond.code yX3_turn cX3_turn 2 none ∈ WS := tb_4 (List.mem_of_getElem? (i := 58) rfl) rfl
theorem mw_4_61 : Cond.instanceMethod yX3_partsOf ∈ WS := tb_4 (List.mem_of_getElem? (i := 61) rfl) rfl
theorem mw_4_62 : Cond.code yX3_partsOf cX3_partsOf 5 (some .long) ∈ WS := tb_4 (List.mem_of_getElem? (i := 62) rfl) rfl
theorem mw_4_69 : Cond.instanceMethod yX3_partsOfMany ∈ WS := tb_4 (List.mem_of_getElem? (i := 69) rfl) rfl
theorem mw_4_70 : Cond.code yX3_partsOfMany cX3_partsOfMany 5 (some .long) ∈ WS := tb_4 (List.mem_of_getElem? (i := 70) rfl) rfl
theorem mw_4_71 : Cond.methodLink RX3 160 yJ6_bitCount_0f7a4 ∈ WS := tb_4 (List.mem_of_getElem? (i := 71) rfl) rfl
theorem mw_4_72 : Cond.static yJ6_bitCount_0f7a4 ∈ WS := tb_4 (List.mem_of_getElem? (i := 72) rfl) rfl
theorem mw_4_73 : Cond.code yJ6_bitCount_0f7a4 cJ6_bitCount_0f7a4 1 (some .int) ∈ WS := tb_4 (List.mem_of_getElem? (i := 73) rfl) rfl
theorem mw_4_74 : Cond.constant RJ6 265 1431655765 ∈ WS := tb_4 (List.mem_of_getElem? (i := 74) rfl) rfl
theorem mw_4_75 : Cond.constant RJ6 266 858993459 ∈ WS := tb_4 (List.mem_of_getElem? (i := 75) rfl) rfl
theorem mw_4_76 : Cond.constant RJ6 267 252645135 ∈ WS := tb_4 (List.mem_of_getElem? (i := 76) rfl) rfl
theorem mw_4_83 : Cond.instanceMethod yX3_riskOf ∈ WS := tb_4 (List.mem_of_getElem? (i := 83) rfl) rfl
theorem mw_4_84 : Cond.code yX3_riskOf cX3_riskOf 5 (some .long) ∈ WS := tb_4 (List.mem_of_getElem? (i := 84) rfl) rfl
theorem mw_4_85 : Cond.methodLink RX3 165 yX3_hadBy ∈ WS := tb_4 (List.mem_of_getElem? (i := 85) rfl) rfl
theorem mw_4_87 : Cond.instanceMethod yX3_hadBy ∈ WS := tb_4 (List.mem_of_getElem? (i := 87) rfl) rfl
theorem mw_4_88 : Cond.code yX3_hadBy cX3_hadBy 3 (some .long) ∈ WS := tb_4 (List.mem_of_getElem? (i := 88) rfl) rfl
theorem mw_4_98 : Cond.methodLink RX11 174 yX11_isCost ∈ WS := tb_4 (List.mem_of_getElem? (i := 98) rfl) rfl
theorem mw_4_99 : Cond.static yX11_isCost ∈ WS := tb_4 (List.mem_of_getElem? (i := 99) rfl) rfl
theorem mw_4_100 : Cond.code yX11_isCost cX11_isCost 1 (some .boolean) ∈ WS := tb_4 (List.mem_of_getElem? (i := 100) rfl) rfl
theorem mw_4_103 : Cond.instanceMethod yX3_costOf ∈ WS := tb_4 (List.mem_of_getElem? (i := 103) rfl) rfl
theorem mw_4_104 : Cond.code yX3_costOf cX3_costOf 8 (some .long) ∈ WS := tb_4 (List.mem_of_getElem? (i := 104) rfl) rfl
theorem mw_4_107 : Cond.instanceMethod yX4_paidFor ∈ WS := tb_4 (List.mem_of_getElem? (i := 107) rfl) rfl
theorem mw_4_108 : Cond.code yX4_paidFor cX4_paidFor 4 (some .long) ∈ WS := tb_4 (List.mem_of_getElem? (i := 108) rfl) rfl
theorem mw_4_109 : Cond.constantLong RX4 153 1000 ∈ WS := tb_4 (List.mem_of_getElem? (i := 109) rfl) rfl
theorem mw_4_110 : Cond.methodLink RX3 176 yX3_riskOf ∈ WS := tb_4 (List.mem_of_getElem? (i := 110) rfl) rfl
theorem mw_4_111 : Cond.constantLong RX3 179 1000000000 ∈ WS := tb_4 (List.mem_of_getElem? (i := 111) rfl) rfl
theorem mw_4_114 : Cond.instanceMethod yX4_wageShare ∈ WS := tb_4 (List.mem_of_getElem? (i := 114) rfl) rfl
theorem mw_4_115 : Cond.code yX4_wageShare cX4_wageShare 1 (some .long) ∈ WS := tb_4 (List.mem_of_getElem? (i := 115) rfl) rfl
theorem mw_4_116 : Cond.methodLink RX4 155 yX4_wages ∈ WS := tb_4 (List.mem_of_getElem? (i := 116) rfl) rfl
theorem mw_4_118 : Cond.instanceMethod yX4_wages ∈ WS := tb_4 (List.mem_of_getElem? (i := 118) rfl) rfl
theorem mw_4_119 : Cond.code yX4_wages cX4_wages 1 (some .long) ∈ WS := tb_4 (List.mem_of_getElem? (i := 119) rfl) rfl
theorem mw_4_124 : Cond.methodLink RX11 181 yX11_allOn ∈ WS := tb_4 (List.mem_of_getElem? (i := 124) rfl) rfl
theorem mw_4_126 : Cond.instanceMethod yX11_allOn ∈ WS := tb_4 (List.mem_of_getElem? (i := 126) rfl) rfl
theorem mw_4_127 : Cond.code yX11_allOn cX11_allOn 3 (some .long) ∈ WS := tb_4 (List.mem_of_getElem? (i := 127) rfl) rfl
theorem mw_4_130 : Cond.instanceMethod yX3_costOfAll ∈ WS := tb_4 (List.mem_of_getElem? (i := 130) rfl) rfl
theorem mw_4_131 : Cond.code yX3_costOfAll cX3_costOfAll 6 (some .long) ∈ WS := tb_4 (List.mem_of_getElem? (i := 131) rfl) rfl
theorem mw_4_132 : Cond.methodLink RX3 185 yX3_costOf ∈ WS := tb_4 (List.mem_of_getElem? (i := 132) rfl) rfl
theorem mw_4_139 : Cond.instanceMethod yX4_hasOption ∈ WS := tb_4 (List.mem_of_getElem? (i := 139) rfl) rfl
theorem mw_4_140 : Cond.code yX4_hasOption cX4_hasOption 2 (some .boolean) ∈ WS := tb_4 (List.mem_of_getElem? (i := 140) rfl) rfl
theorem mw_4_141 : Cond.methodLink RX4 106 yX4_options ∈ WS := tb_4 (List.mem_of_getElem? (i := 141) rfl) rfl
theorem mw_4_143 : Cond.instanceMethod yX4_options ∈ WS := tb_4 (List.mem_of_getElem? (i := 143) rfl) rfl
theorem mw_4_144 : Cond.code yX4_options cX4_options 1 (some .int) ∈ WS := tb_4 (List.mem_of_getElem? (i := 144) rfl) rfl
theorem mw_4_145 : Cond.methodLink RX4 110 yX4_isTold ∈ WS := tb_4 (List.mem_of_getElem? (i := 145) rfl) rfl
theorem mw_4_148 : Cond.instanceMethod yX0_optionOf ∈ WS := tb_4 (List.mem_of_getElem? (i := 148) rfl) rfl
theorem mw_4_149 : Cond.code yX0_optionOf cX0_optionOf 2 (some .int) ∈ WS := tb_4 (List.mem_of_getElem? (i := 149) rfl) rfl
theorem mw_4_152 : Cond.instanceMethod yX0_setOption ∈ WS := tb_4 (List.mem_of_getElem? (i := 152) rfl) rfl
theorem mw_4_153 : Cond.code yX0_setOption cX0_setOption 3 none ∈ WS := tb_4 (List.mem_of_getElem? (i := 153) rfl) rfl
theorem mw_4_158 : Cond.methodLink RX11 195 yX11_costOn ∈ WS := tb_4 (List.mem_of_getElem? (i := 158) rfl) rfl
theorem mw_4_160 : Cond.instanceMethod yX11_costOn ∈ WS := tb_4 (List.mem_of_getElem? (i := 160) rfl) rfl
theorem mw_4_161 : Cond.code yX11_costOn cX11_costOn 3 (some .long) ∈ WS := tb_4 (List.mem_of_getElem? (i := 161) rfl) rfl
theorem mw_4_166 : Cond.methodLink RX11 198 yX11_leastOption ∈ WS := tb_4 (List.mem_of_getElem? (i := 166) rfl) rfl
theorem mw_4_168 : Cond.instanceMethod yX11_leastOption ∈ WS := tb_4 (List.mem_of_getElem? (i := 168) rfl) rfl
theorem mw_4_169 : Cond.code yX11_leastOption cX11_leastOption 11 (some .int) ∈ WS := tb_4 (List.mem_of_getElem? (i := 169) rfl) rfl
theorem mw_4_170 : Cond.constantLong RX11 222 9223372036854775807 ∈ WS := tb_4 (List.mem_of_getElem? (i := 170) rfl) rfl
theorem mw_4_180 : Cond.methodLink RX11 202 yX11_roundsOn ∈ WS := tb_4 (List.mem_of_getElem? (i := 180) rfl) rfl
theorem mw_4_182 : Cond.instanceMethod yX11_roundsOn ∈ WS := tb_4 (List.mem_of_getElem? (i := 182) rfl) rfl
theorem mw_4_183 : Cond.code yX11_roundsOn cX11_roundsOn 7 (some .int) ∈ WS := tb_4 (List.mem_of_getElem? (i := 183) rfl) rfl
theorem mw_4_184 : Cond.methodLink RX11 205 Lib.Math.min.name ∈ WS := tb_4 (List.mem_of_getElem? (i := 184) rfl) rfl
theorem mw_4_193 : Cond.constantLong RX11 210 (-1) ∈ WS := tb_4 (List.mem_of_getElem? (i := 193) rfl) rfl
theorem mw_4_198 : Cond.methodLink RX11 212 yX11_changesOn ∈ WS := tb_4 (List.mem_of_getElem? (i := 198) rfl) rfl
theorem mw_4_200 : Cond.instanceMethod yX11_changesOn ∈ WS := tb_4 (List.mem_of_getElem? (i := 200) rfl) rfl
theorem mw_4_201 : Cond.code yX11_changesOn cX11_changesOn 4 (some .int) ∈ WS := tb_4 (List.mem_of_getElem? (i := 201) rfl) rfl
theorem mw_4_202 : Cond.methodLink RX11 406 yX11_changeBetters ∈ WS := tb_4 (List.mem_of_getElem? (i := 202) rfl) rfl
theorem mw_4_204 : Cond.instanceMethod yX11_changeBetters ∈ WS := tb_4 (List.mem_of_getElem? (i := 204) rfl) rfl
theorem mw_4_205 : Cond.code yX11_changeBetters cX11_changeBetters 11 (some .boolean) ∈ WS := tb_4 (List.mem_of_getElem? (i := 205) rfl) rfl
theorem mw_4_214 : Cond.methodLink RX11 215 yX11_areTwo ∈ WS := tb_4 (List.mem_of_getElem? (i := 214) rfl) rfl
theorem mw_4_216 : Cond.instanceMethod yX11_areTwo ∈ WS := tb_4 (List.mem_of_getElem? (i := 216) rfl) rfl
theorem mw_4_217 : Cond.code yX11_areTwo cX11_areTwo 3 (some .boolean) ∈ WS := tb_4 (List.mem_of_getElem? (i := 217) rfl) rfl
theorem mw_4_222 : Cond.constantLong RX11 224 (-1000000000000) ∈ WS := tb_4 (List.mem_of_getElem? (i := 222) rfl) rfl
theorem mw_4_227 : Cond.methodLink RX11 226 yX11_findGrownRisks ∈ WS := tb_4 (List.mem_of_getElem? (i := 227) rfl) rfl
theorem mw_4_229 : Cond.instanceMethod yX11_findGrownRisks ∈ WS := tb_4 (List.mem_of_getElem? (i := 229) rfl) rfl
theorem mw_4_230 : Cond.code yX11_findGrownRisks cX11_findGrownRisks 4 none ∈ WS := tb_4 (List.mem_of_getElem? (i := 230) rfl) rfl
theorem mw_5_16 : Cond.methodLink RX11 235 yX11_isBright ∈ WS := tb_5 (List.mem_of_getElem? (i := 16) rfl) rfl
theorem mw_5_17 : Cond.static yX11_isBright ∈ WS := tb_5 (List.mem_of_getElem? (i := 17) rfl) rfl
theorem mw_5_18 : Cond.code yX11_isBright cX11_isBright 1 (some .boolean) ∈ WS := tb_5 (List.mem_of_getElem? (i := 18) rfl) rfl
theorem mw_5_19 : Cond.methodLink RX11 238 yX11_lossLit ∈ WS := tb_5 (List.mem_of_getElem? (i := 19) rfl) rfl
theorem mw_5_21 : Cond.instanceMethod yX11_lossLit ∈ WS := tb_5 (List.mem_of_getElem? (i := 21) rfl) rfl
theorem mw_5_22 : Cond.code yX11_lossLit cX11_lossLit 3 (some .long) ∈ WS := tb_5 (List.mem_of_getElem? (i := 22) rfl) rfl
theorem mw_5_41 : Cond.methodLink RX11 252 yX11_findSpared ∈ WS := tb_5 (List.mem_of_getElem? (i := 41) rfl) rfl
theorem mw_5_43 : Cond.instanceMethod yX11_findSpared ∈ WS := tb_5 (List.mem_of_getElem? (i := 43) rfl) rfl
theorem mw_5_44 : Cond.code yX11_findSpared cX11_findSpared 5 none ∈ WS := tb_5 (List.mem_of_getElem? (i := 44) rfl) rfl
theorem mw_5_49 : Cond.methodLink RX11 255 yX11_anyWanted ∈ WS := tb_5 (List.mem_of_getElem? (i := 49) rfl) rfl
theorem mw_5_51 : Cond.instanceMethod yX11_anyWanted ∈ WS := tb_5 (List.mem_of_getElem? (i := 51) rfl) rfl
theorem mw_5_52 : Cond.code yX11_anyWanted cX11_anyWanted 3 (some .boolean) ∈ WS := tb_5 (List.mem_of_getElem? (i := 52) rfl) rfl
theorem mw_5_59 : Cond.instanceMethod yX0_markOthers ∈ WS := tb_5 (List.mem_of_getElem? (i := 59) rfl) rfl
theorem mw_5_60 : Cond.code yX0_markOthers cX0_markOthers 4 none ∈ WS := tb_5 (List.mem_of_getElem? (i := 60) rfl) rfl
theorem mw_5_61 : Cond.methodLink RX11 262 yX11_lossOn ∈ WS := tb_5 (List.mem_of_getElem? (i := 61) rfl) rfl
theorem mw_5_63 : Cond.instanceMethod yX11_lossOn ∈ WS := tb_5 (List.mem_of_getElem? (i := 63) rfl) rfl
theorem mw_5_64 : Cond.code yX11_lossOn cX11_lossOn 3 (some .long) ∈ WS := tb_5 (List.mem_of_getElem? (i := 64) rfl) rfl
theorem mw_5_69 : Cond.methodLink RX11 265 yX11_refusedBait ∈ WS := tb_5 (List.mem_of_getElem? (i := 69) rfl) rfl
theorem mw_5_71 : Cond.instanceMethod yX11_refusedBait ∈ WS := tb_5 (List.mem_of_getElem? (i := 71) rfl) rfl
theorem mw_5_72 : Cond.code yX11_refusedBait cX11_refusedBait 4 (some .int) ∈ WS := tb_5 (List.mem_of_getElem? (i := 72) rfl) rfl
theorem mw_5_75 : Cond.instanceMethod yX3_playBaited ∈ WS := tb_5 (List.mem_of_getElem? (i := 75) rfl) rfl
theorem mw_5_76 : Cond.code yX3_playBaited cX3_playBaited 6 none ∈ WS := tb_5 (List.mem_of_getElem? (i := 76) rfl) rfl
theorem mw_5_77 : Cond.methodLink RX3 157 yX3_bringBack ∈ WS := tb_5 (List.mem_of_getElem? (i := 77) rfl) rfl
theorem mw_5_79 : Cond.instanceMethod yX3_bringBack ∈ WS := tb_5 (List.mem_of_getElem? (i := 79) rfl) rfl
theorem mw_5_80 : Cond.code yX3_bringBack cX3_bringBack 2 none ∈ WS := tb_5 (List.mem_of_getElem? (i := 80) rfl) rfl
theorem mw_5_83 : Cond.instanceMethod yX3_baitedLoss ∈ WS := tb_5 (List.mem_of_getElem? (i := 83) rfl) rfl
theorem mw_5_84 : Cond.code yX3_baitedLoss cX3_baitedLoss 5 (some .long) ∈ WS := tb_5 (List.mem_of_getElem? (i := 84) rfl) rfl
theorem mw_5_91 : Cond.instanceMethod yX3_partsCaught ∈ WS := tb_5 (List.mem_of_getElem? (i := 91) rfl) rfl
theorem mw_5_92 : Cond.code yX3_partsCaught cX3_partsCaught 5 (some .long) ∈ WS := tb_5 (List.mem_of_getElem? (i := 92) rfl) rfl
theorem mw_5_99 : Cond.instanceMethod yX3_leastLure ∈ WS := tb_5 (List.mem_of_getElem? (i := 99) rfl) rfl
theorem mw_5_100 : Cond.code yX3_leastLure cX3_leastLure 5 (some .int) ∈ WS := tb_5 (List.mem_of_getElem? (i := 100) rfl) rfl
theorem mw_5_105 : Cond.methodLink RX11 289 yX11_isCover ∈ WS := tb_5 (List.mem_of_getElem? (i := 105) rfl) rfl
theorem mw_5_107 : Cond.instanceMethod yX11_isCover ∈ WS := tb_5 (List.mem_of_getElem? (i := 107) rfl) rfl
theorem mw_5_108 : Cond.code yX11_isCover cX11_isCover 4 (some .boolean) ∈ WS := tb_5 (List.mem_of_getElem? (i := 108) rfl) rfl
theorem mw_5_109 : Cond.methodLink RX11 293 yX11_carelessOption ∈ WS := tb_5 (List.mem_of_getElem? (i := 109) rfl) rfl
theorem mw_5_111 : Cond.instanceMethod yX11_carelessOption ∈ WS := tb_5 (List.mem_of_getElem? (i := 111) rfl) rfl
theorem mw_5_112 : Cond.code yX11_carelessOption cX11_carelessOption 10 (some .int) ∈ WS := tb_5 (List.mem_of_getElem? (i := 112) rfl) rfl
theorem mw_5_113 : Cond.methodLink RX11 296 yX11_coveredOn ∈ WS := tb_5 (List.mem_of_getElem? (i := 113) rfl) rfl
theorem mw_5_115 : Cond.instanceMethod yX11_coveredOn ∈ WS := tb_5 (List.mem_of_getElem? (i := 115) rfl) rfl
theorem mw_5_116 : Cond.code yX11_coveredOn cX11_coveredOn 7 (some .long) ∈ WS := tb_5 (List.mem_of_getElem? (i := 116) rfl) rfl
theorem mw_5_117 : Cond.constantLong RX11 412 1000 ∈ WS := tb_5 (List.mem_of_getElem? (i := 117) rfl) rfl
theorem mw_5_118 : Cond.constantLong RX11 414 100 ∈ WS := tb_5 (List.mem_of_getElem? (i := 118) rfl) rfl
theorem mw_5_129 : Cond.instanceMethod yX4_hasLock ∈ WS := tb_5 (List.mem_of_getElem? (i := 129) rfl) rfl
theorem mw_5_130 : Cond.code yX4_hasLock cX4_hasLock 2 (some .boolean) ∈ WS := tb_5 (List.mem_of_getElem? (i := 130) rfl) rfl
theorem mw_5_131 : Cond.methodLink RX11 303 yX11_costByLaw ∈ WS := tb_5 (List.mem_of_getElem? (i := 131) rfl) rfl
theorem mw_5_133 : Cond.instanceMethod yX11_costByLaw ∈ WS := tb_5 (List.mem_of_getElem? (i := 133) rfl) rfl
theorem mw_5_134 : Cond.code yX11_costByLaw cX11_costByLaw 3 (some .long) ∈ WS := tb_5 (List.mem_of_getElem? (i := 134) rfl) rfl
theorem mw_5_135 : Cond.methodLink RX11 416 Lib.Math.max.name ∈ WS := tb_5 (List.mem_of_getElem? (i := 135) rfl) rfl
theorem mw_5_157 : Cond.methodLink RX11 322 yX11_isSeed ∈ WS := tb_5 (List.mem_of_getElem? (i := 157) rfl) rfl
theorem mw_5_158 : Cond.static yX11_isSeed ∈ WS := tb_5 (List.mem_of_getElem? (i := 158) rfl) rfl
theorem mw_5_159 : Cond.code yX11_isSeed cX11_isSeed 1 (some .boolean) ∈ WS := tb_5 (List.mem_of_getElem? (i := 159) rfl) rfl
theorem mw_5_160 : Cond.constant RX11 402 2000000000 ∈ WS := tb_5 (List.mem_of_getElem? (i := 160) rfl) rfl
theorem mw_5_163 : Cond.instanceMethod yX3_drawYear ∈ WS := tb_5 (List.mem_of_getElem? (i := 163) rfl) rfl
theorem mw_5_164 : Cond.code yX3_drawYear cX3_drawYear 10 (some .int) ∈ WS := tb_5 (List.mem_of_getElem? (i := 164) rfl) rfl
theorem mw_5_167 : Cond.instanceMethod yX10_begin ∈ WS := tb_5 (List.mem_of_getElem? (i := 167) rfl) rfl
theorem mw_5_168 : Cond.code yX10_begin cX10_begin 2 none ∈ WS := tb_5 (List.mem_of_getElem? (i := 168) rfl) rfl
theorem mw_5_169 : Cond.constantLong RX3 192 1103515245 ∈ WS := tb_5 (List.mem_of_getElem? (i := 169) rfl) rfl
theorem mw_5_170 : Cond.constantLong RX3 194 12345 ∈ WS := tb_5 (List.mem_of_getElem? (i := 170) rfl) rfl
theorem mw_5_171 : Cond.constantLong RX3 196 2147483647 ∈ WS := tb_5 (List.mem_of_getElem? (i := 171) rfl) rfl
theorem mw_5_172 : Cond.constantLong RX3 198 65536 ∈ WS := tb_5 (List.mem_of_getElem? (i := 172) rfl) rfl
theorem mw_5_173 : Cond.methodLink RX3 200 yX3_letAllCome ∈ WS := tb_5 (List.mem_of_getElem? (i := 173) rfl) rfl
theorem mw_5_175 : Cond.instanceMethod yX3_letAllCome ∈ WS := tb_5 (List.mem_of_getElem? (i := 175) rfl) rfl
theorem mw_5_176 : Cond.code yX3_letAllCome cX3_letAllCome 7 (some .int) ∈ WS := tb_5 (List.mem_of_getElem? (i := 176) rfl) rfl
theorem mw_5_183 : Cond.instanceMethod yX6_isSlot ∈ WS := tb_5 (List.mem_of_getElem? (i := 183) rfl) rfl
theorem mw_5_184 : Cond.code yX6_isSlot cX6_isSlot 2 (some .boolean) ∈ WS := tb_5 (List.mem_of_getElem? (i := 184) rfl) rfl
theorem mw_5_187 : Cond.instanceMethod yX6_hasRow ∈ WS := tb_5 (List.mem_of_getElem? (i := 187) rfl) rfl
theorem mw_5_188 : Cond.code yX6_hasRow cX6_hasRow 2 (some .boolean) ∈ WS := tb_5 (List.mem_of_getElem? (i := 188) rfl) rfl
theorem mw_5_191 : Cond.instanceMethod yX6_tellsNights ∈ WS := tb_5 (List.mem_of_getElem? (i := 191) rfl) rfl
theorem mw_5_192 : Cond.code yX6_tellsNights cX6_tellsNights 5 (some .boolean) ∈ WS := tb_5 (List.mem_of_getElem? (i := 192) rfl) rfl
theorem mw_5_193 : Cond.methodLink RX6 34 yX6_numberAt ∈ WS := tb_5 (List.mem_of_getElem? (i := 193) rfl) rfl
theorem mw_5_195 : Cond.instanceMethod yX6_numberAt ∈ WS := tb_5 (List.mem_of_getElem? (i := 195) rfl) rfl
theorem mw_5_196 : Cond.code yX6_numberAt cX6_numberAt 3 (some .long) ∈ WS := tb_5 (List.mem_of_getElem? (i := 196) rfl) rfl
theorem mw_5_200 : Cond.instanceMethod yX6_sizeOf ∈ WS := tb_5 (List.mem_of_getElem? (i := 200) rfl) rfl
theorem mw_5_201 : Cond.code yX6_sizeOf cX6_sizeOf 2 (some .int) ∈ WS := tb_5 (List.mem_of_getElem? (i := 201) rfl) rfl
theorem mw_5_216 : Cond.methodLink RX11 366 Lib.MathLoose.max_long.x ∈ WS := tb_5 (List.mem_of_getElem? (i := 216) rfl) rfl
theorem mw_5_217 : Cond.static Lib.MathLoose.max_long.x ∈ WS := tb_5 (List.mem_of_getElem? (i := 217) rfl) rfl
theorem mw_5_218 : Cond.code Lib.MathLoose.max_long.x Lib.MathLoose.max_long.code 4 (some .long) ∈ WS := tb_5 (List.mem_of_getElem? (i := 218) rfl) rfl
theorem mw_5_221 : Cond.instanceMethod yX4_worthTaken ∈ WS := tb_5 (List.mem_of_getElem? (i := 221) rfl) rfl
theorem mw_5_222 : Cond.code yX4_worthTaken cX4_worthTaken 5 (some .long) ∈ WS := tb_5 (List.mem_of_getElem? (i := 222) rfl) rfl
theorem mw_5_229 : Cond.instanceMethod yX6_rows ∈ WS := tb_5 (List.mem_of_getElem? (i := 229) rfl) rfl
theorem mw_5_230 : Cond.code yX6_rows cX6_rows 3 (some .int) ∈ WS := tb_5 (List.mem_of_getElem? (i := 230) rfl) rfl
theorem mw_5_231 : Cond.methodLink RX6 20 yX6_hasRow ∈ WS := tb_5 (List.mem_of_getElem? (i := 231) rfl) rfl
theorem mw_6_6 : Cond.instanceMethod yX6_make ∈ WS := tb_6 (List.mem_of_getElem? (i := 6) rfl) rfl
theorem mw_6_7 : Cond.code yX6_make cX6_make 5 none ∈ WS := tb_6 (List.mem_of_getElem? (i := 7) rfl) rfl
theorem mw_6_14 : Cond.instanceMethod yX6_put ∈ WS := tb_6 (List.mem_of_getElem? (i := 14) rfl) rfl
theorem mw_6_15 : Cond.code yX6_put cX6_put 5 none ∈ WS := tb_6 (List.mem_of_getElem? (i := 15) rfl) rfl
theorem mw_6_16 : Cond.methodLink RX6 24 yX6_cut ∈ WS := tb_6 (List.mem_of_getElem? (i := 16) rfl) rfl
theorem mw_6_17 : Cond.static yX6_cut ∈ WS := tb_6 (List.mem_of_getElem? (i := 17) rfl) rfl
theorem mw_6_18 : Cond.code yX6_cut cX6_cut 3 (some .long) ∈ WS := tb_6 (List.mem_of_getElem? (i := 18) rfl) rfl
theorem mw_6_25 : Cond.instanceMethod yX6_areAlike ∈ WS := tb_6 (List.mem_of_getElem? (i := 25) rfl) rfl
theorem mw_6_26 : Cond.code yX6_areAlike cX6_areAlike 3 (some .boolean) ∈ WS := tb_6 (List.mem_of_getElem? (i := 26) rfl) rfl
theorem mw_6_29 : Cond.instanceMethod yX6_hasAll ∈ WS := tb_6 (List.mem_of_getElem? (i := 29) rfl) rfl
theorem mw_6_30 : Cond.code yX6_hasAll cX6_hasAll 4 (some .boolean) ∈ WS := tb_6 (List.mem_of_getElem? (i := 30) rfl) rfl
theorem mw_6_33 : Cond.instanceMethod yX6_copy ∈ WS := tb_6 (List.mem_of_getElem? (i := 33) rfl) rfl
theorem mw_6_34 : Cond.code yX6_copy cX6_copy 6 none ∈ WS := tb_6 (List.mem_of_getElem? (i := 34) rfl) rfl
theorem mw_6_35 : Cond.methodLink RX6 28 arraycopyName ∈ WS := tb_6 (List.mem_of_getElem? (i := 35) rfl) rfl
theorem mw_6_43 : Cond.fieldLink RX12 114 "LockRailModel" "thrown" "I" ∈ WS := tb_6 (List.mem_of_getElem? (i := 43) rfl) rfl
theorem mw_6_44 : Cond.fieldLink RX12 7 "LockRailModel" "width" "[I" ∈ WS := tb_6 (List.mem_of_getElem? (i := 44) rfl) rfl
theorem mw_6_45 : Cond.fieldLink RX12 13 "LockRailModel" "many" "[I" ∈ WS := tb_6 (List.mem_of_getElem? (i := 45) rfl) rfl
theorem mw_6_46 : Cond.fieldLink RX12 16 "LockRailModel" "cells" "[J" ∈ WS := tb_6 (List.mem_of_getElem? (i := 46) rfl) rfl
theorem mw_6_47 : Cond.fieldLink RX12 20 "LockRailModel" "moved" "[J" ∈ WS := tb_6 (List.mem_of_getElem? (i := 47) rfl) rfl
theorem mw_6_48 : Cond.fieldLink RX12 23 "LockRailModel" "tape" "[B" ∈ WS := tb_6 (List.mem_of_getElem? (i := 48) rfl) rfl
theorem mw_6_49 : Cond.fieldLink RX12 131 "LockRailModel" "taped" "I" ∈ WS := tb_6 (List.mem_of_getElem? (i := 49) rfl) rfl
theorem mw_6_50 : Cond.fieldLink RX12 138 "LockRailModel" "at" "I" ∈ WS := tb_6 (List.mem_of_getElem? (i := 50) rfl) rfl
theorem mw_6_51 : Cond.fieldLink RX12 155 "LockRailModel" "token" "I" ∈ WS := tb_6 (List.mem_of_getElem? (i := 51) rfl) rfl
theorem mw_6_52 : Cond.fieldLink RX12 145 "LockRailModel" "place" "I" ∈ WS := tb_6 (List.mem_of_getElem? (i := 52) rfl) rfl
theorem mw_6_53 : Cond.fieldLink RX12 148 "LockRailModel" "value" "I" ∈ WS := tb_6 (List.mem_of_getElem? (i := 53) rfl) rfl
theorem mw_6_54 : Cond.fieldLink RX12 151 "LockRailModel" "word" "J" ∈ WS := tb_6 (List.mem_of_getElem? (i := 54) rfl) rfl
theorem mw_6_55 : Cond.fieldLink RX12 166 "LockRailModel" "bad" "I" ∈ WS := tb_6 (List.mem_of_getElem? (i := 55) rfl) rfl
theorem mw_6_56 : Cond.fieldLink RX12 169 "LockRailModel" "badPlace" "I" ∈ WS := tb_6 (List.mem_of_getElem? (i := 56) rfl) rfl
theorem mw_6_57 : Cond.fieldLink RX12 193 "LockRailModel" "fault" "I" ∈ WS := tb_6 (List.mem_of_getElem? (i := 57) rfl) rfl
theorem mw_6_58 : Cond.fieldLink RX12 27 "LockRailModel" "faultPlace" "I" ∈ WS := tb_6 (List.mem_of_getElem? (i := 58) rfl) rfl
theorem mw_6_59 : Cond.fieldLink RX12 31 "LockRailModel" "lines" "[I" ∈ WS := tb_6 (List.mem_of_getElem? (i := 59) rfl) rfl
theorem mw_6_60 : Cond.fieldLink RX12 34 "LockRailModel" "places" "[I" ∈ WS := tb_6 (List.mem_of_getElem? (i := 60) rfl) rfl
theorem mw_6_61 : Cond.fieldLink RX12 37 "LockRailModel" "nights" "[I" ∈ WS := tb_6 (List.mem_of_getElem? (i := 61) rfl) rfl
theorem mw_6_62 : Cond.fieldLink RX12 40 "LockRailModel" "lamps" "[I" ∈ WS := tb_6 (List.mem_of_getElem? (i := 62) rfl) rfl
theorem mw_6_63 : Cond.fieldLink RX12 43 "LockRailModel" "lamp" "[I" ∈ WS := tb_6 (List.mem_of_getElem? (i := 63) rfl) rfl
theorem mw_6_64 : Cond.fieldLink RX12 46 "LockRailModel" "locks" "[I" ∈ WS := tb_6 (List.mem_of_getElem? (i := 64) rfl) rfl
theorem mw_6_65 : Cond.fieldLink RX12 49 "LockRailModel" "lock" "[I" ∈ WS := tb_6 (List.mem_of_getElem? (i := 65) rfl) rfl
theorem mw_6_66 : Cond.fieldLink RX12 52 "LockRailModel" "bikes" "[I" ∈ WS := tb_6 (List.mem_of_getElem? (i := 66) rfl) rfl
theorem mw_6_67 : Cond.fieldLink RX12 55 "LockRailModel" "bike" "[I" ∈ WS := tb_6 (List.mem_of_getElem? (i := 67) rfl) rfl
theorem mw_6_68 : Cond.fieldLink RX12 58 "LockRailModel" "thieves" "[I" ∈ WS := tb_6 (List.mem_of_getElem? (i := 68) rfl) rfl
theorem mw_6_69 : Cond.fieldLink RX12 61 "LockRailModel" "thief" "[I" ∈ WS := tb_6 (List.mem_of_getElem? (i := 69) rfl) rfl
theorem mw_6_70 : Cond.fieldLink RX12 64 "LockRailModel" "set" "[I" ∈ WS := tb_6 (List.mem_of_getElem? (i := 70) rfl) rfl
theorem mw_6_71 : Cond.fieldLink RX12 67 "LockRailModel" "once" "[Z" ∈ WS := tb_6 (List.mem_of_getElem? (i := 71) rfl) rfl
theorem mw_6_72 : Cond.fieldLink RX12 71 "LockRailModel" "year" "[I" ∈ WS := tb_6 (List.mem_of_getElem? (i := 72) rfl) rfl
theorem mw_6_73 : Cond.fieldLink RX12 74 "LockRailModel" "isKept" "[Z" ∈ WS := tb_6 (List.mem_of_getElem? (i := 73) rfl) rfl
theorem mw_6_74 : Cond.fieldLink RX12 309 "LockRailModel" "moreAt" "I" ∈ WS := tb_6 (List.mem_of_getElem? (i := 74) rfl) rfl
theorem mw_6_75 : Cond.fieldLink RX12 306 "LockRailModel" "moreBright" "I" ∈ WS := tb_6 (List.mem_of_getElem? (i := 75) rfl) rfl
theorem mw_6_76 : Cond.fieldLink RX12 77 "LockRailModel" "troubles" "[I" ∈ WS := tb_6 (List.mem_of_getElem? (i := 76) rfl) rfl
theorem mw_6_77 : Cond.fieldLink RX12 80 "LockRailModel" "nets" "[I" ∈ WS := tb_6 (List.mem_of_getElem? (i := 77) rfl) rfl
theorem mw_6_78 : Cond.fieldLink RX12 340 "LockRailModel" "there" "I" ∈ WS := tb_6 (List.mem_of_getElem? (i := 78) rfl) rfl
theorem mw_6_79 : Cond.fieldLink RX12 83 "LockRailModel" "parts" "[J" ∈ WS := tb_6 (List.mem_of_getElem? (i := 79) rfl) rfl
theorem mw_6_80 : Cond.fieldLink RX12 86 "LockRailModel" "come" "[J" ∈ WS := tb_6 (List.mem_of_getElem? (i := 80) rfl) rfl
theorem mw_6_81 : Cond.fieldLink RX12 89 "LockRailModel" "hasOf" "[J" ∈ WS := tb_6 (List.mem_of_getElem? (i := 81) rfl) rfl
theorem mw_6_82 : Cond.fieldLink RX12 420 "LockRailModel" "leastCost" "J" ∈ WS := tb_6 (List.mem_of_getElem? (i := 82) rfl) rfl
theorem mw_6_83 : Cond.fieldLink RX12 92 "LockRailModel" "aside" "[I" ∈ WS := tb_6 (List.mem_of_getElem? (i := 83) rfl) rfl
theorem mw_6_84 : Cond.fieldLink RX12 426 "LockRailModel" "isSettled" "Z" ∈ WS := tb_6 (List.mem_of_getElem? (i := 84) rfl) rfl
theorem mw_6_85 : Cond.fieldLink RX12 95 "LockRailModel" "grows" "[J" ∈ WS := tb_6 (List.mem_of_getElem? (i := 85) rfl) rfl
theorem mw_6_86 : Cond.fieldLink RX12 98 "LockRailModel" "lessLost" "[J" ∈ WS := tb_6 (List.mem_of_getElem? (i := 86) rfl) rfl
theorem mw_6_87 : Cond.fieldLink RX12 102 "LockRailModel" "states" "[J" ∈ WS := tb_6 (List.mem_of_getElem? (i := 87) rfl) rfl
theorem mw_6_88 : Cond.fieldLink RX12 105 "LockRailModel" "coming" "[J" ∈ WS := tb_6 (List.mem_of_getElem? (i := 88) rfl) rfl
theorem mw_6_89 : Cond.fieldLink RX12 108 "LockRailModel" "byCaught" "[J" ∈ WS := tb_6 (List.mem_of_getElem? (i := 89) rfl) rfl
theorem mw_6_90 : Cond.fieldLink RX12 484 "LockRailModel" "baitLoss" "J" ∈ WS := tb_6 (List.mem_of_getElem? (i := 90) rfl) rfl
theorem mw_6_91 : Cond.fieldLink RX12 499 "LockRailModel" "leastCovered" "J" ∈ WS := tb_6 (List.mem_of_getElem? (i := 91) rfl) rfl
theorem mw_6_92 : Cond.fieldLink RX12 111 "LockRailModel" "drawn" "[I" ∈ WS := tb_6 (List.mem_of_getElem? (i := 92) rfl) rfl
theorem mw_6_93 : Cond.fieldLink RX12 516 "LockRailModel" "x" "J" ∈ WS := tb_6 (List.mem_of_getElem? (i := 93) rfl) rfl
theorem mw_6_201 : Cond.methodLink RX12 123 yX12_isSlot ∈ WS := tb_6 (List.mem_of_getElem? (i := 201) rfl) rfl
theorem mw_6_202 : Cond.static yX12_isSlot ∈ WS := tb_6 (List.mem_of_getElem? (i := 202) rfl) rfl
theorem mw_6_203 : Cond.code yX12_isSlot cX12_isSlot 1 (some .boolean) ∈ WS := tb_6 (List.mem_of_getElem? (i := 203) rfl) rfl
theorem mw_6_204 : Cond.constantLong RX12 117 3 ∈ WS := tb_6 (List.mem_of_getElem? (i := 204) rfl) rfl
theorem mw_6_205 : Cond.methodLink RX12 119 yX12_in ∈ WS := tb_6 (List.mem_of_getElem? (i := 205) rfl) rfl
theorem mw_6_206 : Cond.static yX12_in ∈ WS := tb_6 (List.mem_of_getElem? (i := 206) rfl) rfl
theorem mw_6_207 : Cond.code yX12_in cX12_in 6 (some .boolean) ∈ WS := tb_6 (List.mem_of_getElem? (i := 207) rfl) rfl
theorem mw_6_212 : Cond.methodLink RX12 127 yX12_cut ∈ WS := tb_6 (List.mem_of_getElem? (i := 212) rfl) rfl
theorem mw_6_213 : Cond.static yX12_cut ∈ WS := tb_6 (List.mem_of_getElem? (i := 213) rfl) rfl
theorem mw_6_214 : Cond.code yX12_cut cX12_cut 3 (some .long) ∈ WS := tb_6 (List.mem_of_getElem? (i := 214) rfl) rfl
theorem mw_6_223 : Cond.methodLink RX12 134 yX12_four ∈ WS := tb_6 (List.mem_of_getElem? (i := 223) rfl) rfl
theorem mw_6_225 : Cond.instanceMethod yX12_four ∈ WS := tb_6 (List.mem_of_getElem? (i := 225) rfl) rfl
theorem mw_6_226 : Cond.code yX12_four cX12_four 3 none ∈ WS := tb_6 (List.mem_of_getElem? (i := 226) rfl) rfl
theorem mw_6_239 : Cond.methodLink RX12 269 yX12_clears ∈ WS := tb_6 (List.mem_of_getElem? (i := 239) rfl) rfl
theorem mw_7_1 : Cond.instanceMethod yX12_clears ∈ WS := tb_7 (List.mem_of_getElem? (i := 1) rfl) rfl
theorem mw_7_2 : Cond.code yX12_clears cX12_clears 2 none ∈ WS := tb_7 (List.mem_of_getElem? (i := 2) rfl) rfl
theorem mw_7_3 : Cond.methodLink RX12 272 yX12_begins ∈ WS := tb_7 (List.mem_of_getElem? (i := 3) rfl) rfl
theorem mw_7_5 : Cond.instanceMethod yX12_begins ∈ WS := tb_7 (List.mem_of_getElem? (i := 5) rfl) rfl
theorem mw_7_6 : Cond.code yX12_begins cX12_begins 1 none ∈ WS := tb_7 (List.mem_of_getElem? (i := 6) rfl) rfl
theorem mw_7_7 : Cond.methodLink RX12 176 yX12_next ∈ WS := tb_7 (List.mem_of_getElem? (i := 7) rfl) rfl
theorem mw_7_9 : Cond.instanceMethod yX12_next ∈ WS := tb_7 (List.mem_of_getElem? (i := 9) rfl) rfl
theorem mw_7_10 : Cond.code yX12_next cX12_next 2 none ∈ WS := tb_7 (List.mem_of_getElem? (i := 10) rfl) rfl
theorem mw_7_11 : Cond.methodLink RX12 141 yX12_isByte ∈ WS := tb_7 (List.mem_of_getElem? (i := 11) rfl) rfl
theorem mw_7_13 : Cond.instanceMethod yX12_isByte ∈ WS := tb_7 (List.mem_of_getElem? (i := 13) rfl) rfl
theorem mw_7_14 : Cond.code yX12_isByte cX12_isByte 4 (some .boolean) ∈ WS := tb_7 (List.mem_of_getElem? (i := 14) rfl) rfl
theorem mw_7_15 : Cond.constantLong RX12 158 (-1) ∈ WS := tb_7 (List.mem_of_getElem? (i := 15) rfl) rfl
theorem mw_7_16 : Cond.constantLong RX12 160 27 ∈ WS := tb_7 (List.mem_of_getElem? (i := 16) rfl) rfl
theorem mw_7_17 : Cond.constantLong RX12 162 96 ∈ WS := tb_7 (List.mem_of_getElem? (i := 17) rfl) rfl
theorem mw_7_18 : Cond.constant RX12 164 100000 ∈ WS := tb_7 (List.mem_of_getElem? (i := 18) rfl) rfl
theorem mw_7_19 : Cond.constant RX12 165 1000000 ∈ WS := tb_7 (List.mem_of_getElem? (i := 19) rfl) rfl
theorem mw_7_20 : Cond.methodLink RX12 275 yX12_isGood ∈ WS := tb_7 (List.mem_of_getElem? (i := 20) rfl) rfl
theorem mw_7_22 : Cond.instanceMethod yX12_isGood ∈ WS := tb_7 (List.mem_of_getElem? (i := 22) rfl) rfl
theorem mw_7_23 : Cond.code yX12_isGood cX12_isGood 1 (some .boolean) ∈ WS := tb_7 (List.mem_of_getElem? (i := 23) rfl) rfl
theorem mw_7_24 : Cond.methodLink RX12 279 yX12_railLine ∈ WS := tb_7 (List.mem_of_getElem? (i := 24) rfl) rfl
theorem mw_7_26 : Cond.instanceMethod yX12_railLine ∈ WS := tb_7 (List.mem_of_getElem? (i := 26) rfl) rfl
theorem mw_7_27 : Cond.code yX12_railLine cX12_railLine 1 none ∈ WS := tb_7 (List.mem_of_getElem? (i := 27) rfl) rfl
theorem mw_7_28 : Cond.constantLong RX12 263 355278 ∈ WS := tb_7 (List.mem_of_getElem? (i := 28) rfl) rfl
theorem mw_7_29 : Cond.methodLink RX12 185 yX12_asks ∈ WS := tb_7 (List.mem_of_getElem? (i := 29) rfl) rfl
theorem mw_7_31 : Cond.instanceMethod yX12_asks ∈ WS := tb_7 (List.mem_of_getElem? (i := 31) rfl) rfl
theorem mw_7_32 : Cond.code yX12_asks cX12_asks 3 none ∈ WS := tb_7 (List.mem_of_getElem? (i := 32) rfl) rfl
theorem mw_7_33 : Cond.methodLink RX12 179 yX12_takes ∈ WS := tb_7 (List.mem_of_getElem? (i := 33) rfl) rfl
theorem mw_7_35 : Cond.instanceMethod yX12_takes ∈ WS := tb_7 (List.mem_of_getElem? (i := 35) rfl) rfl
theorem mw_7_36 : Cond.code yX12_takes cX12_takes 3 (some .boolean) ∈ WS := tb_7 (List.mem_of_getElem? (i := 36) rfl) rfl
theorem mw_7_37 : Cond.methodLink RX12 172 yX12_is ∈ WS := tb_7 (List.mem_of_getElem? (i := 37) rfl) rfl
theorem mw_7_39 : Cond.instanceMethod yX12_is ∈ WS := tb_7 (List.mem_of_getElem? (i := 39) rfl) rfl
theorem mw_7_40 : Cond.code yX12_is cX12_is 3 (some .boolean) ∈ WS := tb_7 (List.mem_of_getElem? (i := 40) rfl) rfl
theorem mw_7_41 : Cond.methodLink RX12 182 yX12_fails ∈ WS := tb_7 (List.mem_of_getElem? (i := 41) rfl) rfl
theorem mw_7_43 : Cond.instanceMethod yX12_fails ∈ WS := tb_7 (List.mem_of_getElem? (i := 43) rfl) rfl
theorem mw_7_44 : Cond.code yX12_fails cX12_fails 2 none ∈ WS := tb_7 (List.mem_of_getElem? (i := 44) rfl) rfl
theorem mw_7_45 : Cond.constantLong RX12 265 235981828 ∈ WS := tb_7 (List.mem_of_getElem? (i := 45) rfl) rfl
theorem mw_7_46 : Cond.methodLink RX12 198 yX12_number_ ∈ WS := tb_7 (List.mem_of_getElem? (i := 46) rfl) rfl
theorem mw_7_48 : Cond.instanceMethod yX12_number_ ∈ WS := tb_7 (List.mem_of_getElem? (i := 48) rfl) rfl
theorem mw_7_49 : Cond.code yX12_number_ cX12_number_ 5 (some .int) ∈ WS := tb_7 (List.mem_of_getElem? (i := 49) rfl) rfl
theorem mw_7_50 : Cond.methodLink RX12 189 yX12_number ∈ WS := tb_7 (List.mem_of_getElem? (i := 50) rfl) rfl
theorem mw_7_52 : Cond.instanceMethod yX12_number ∈ WS := tb_7 (List.mem_of_getElem? (i := 52) rfl) rfl
theorem mw_7_53 : Cond.code yX12_number cX12_number 4 (some .int) ∈ WS := tb_7 (List.mem_of_getElem? (i := 53) rfl) rfl
theorem mw_7_54 : Cond.constantLong RX12 267 205811839 ∈ WS := tb_7 (List.mem_of_getElem? (i := 54) rfl) rfl
theorem mw_7_55 : Cond.methodLink RX12 282 yX12_line ∈ WS := tb_7 (List.mem_of_getElem? (i := 55) rfl) rfl
theorem mw_7_57 : Cond.instanceMethod yX12_line ∈ WS := tb_7 (List.mem_of_getElem? (i := 57) rfl) rfl
theorem mw_7_58 : Cond.code yX12_line cX12_line 3 none ∈ WS := tb_7 (List.mem_of_getElem? (i := 58) rfl) rfl
theorem mw_7_59 : Cond.constantLong RX12 235 257105 ∈ WS := tb_7 (List.mem_of_getElem? (i := 59) rfl) rfl
theorem mw_7_60 : Cond.constantLong RX12 237 12257495 ∈ WS := tb_7 (List.mem_of_getElem? (i := 60) rfl) rfl
theorem mw_7_61 : Cond.methodLink RX12 239 yX12_onceLine ∈ WS := tb_7 (List.mem_of_getElem? (i := 61) rfl) rfl
theorem mw_7_63 : Cond.instanceMethod yX12_onceLine ∈ WS := tb_7 (List.mem_of_getElem? (i := 63) rfl) rfl
theorem mw_7_64 : Cond.code yX12_onceLine cX12_onceLine 3 none ∈ WS := tb_7 (List.mem_of_getElem? (i := 64) rfl) rfl
theorem mw_7_65 : Cond.constantLong RX12 203 8863997 ∈ WS := tb_7 (List.mem_of_getElem? (i := 65) rfl) rfl
theorem mw_7_66 : Cond.constantLong RX12 227 6132983 ∈ WS := tb_7 (List.mem_of_getElem? (i := 66) rfl) rfl
theorem mw_7_67 : Cond.constantLong RX12 229 119656022 ∈ WS := tb_7 (List.mem_of_getElem? (i := 67) rfl) rfl
theorem mw_7_68 : Cond.constantLong RX12 231 453632 ∈ WS := tb_7 (List.mem_of_getElem? (i := 68) rfl) rfl
theorem mw_7_69 : Cond.constantLong RX12 233 22726 ∈ WS := tb_7 (List.mem_of_getElem? (i := 69) rfl) rfl
theorem mw_7_70 : Cond.constantLong RX12 242 237292 ∈ WS := tb_7 (List.mem_of_getElem? (i := 70) rfl) rfl
theorem mw_7_71 : Cond.constantLong RX12 211 247223 ∈ WS := tb_7 (List.mem_of_getElem? (i := 71) rfl) rfl
theorem mw_7_72 : Cond.constantLong RX12 244 46229 ∈ WS := tb_7 (List.mem_of_getElem? (i := 72) rfl) rfl
theorem mw_7_73 : Cond.constantLong RX12 246 10792986 ∈ WS := tb_7 (List.mem_of_getElem? (i := 73) rfl) rfl
theorem mw_7_74 : Cond.methodLink RX12 248 yX12_isFull ∈ WS := tb_7 (List.mem_of_getElem? (i := 74) rfl) rfl
theorem mw_7_76 : Cond.instanceMethod yX12_isFull ∈ WS := tb_7 (List.mem_of_getElem? (i := 76) rfl) rfl
theorem mw_7_77 : Cond.code yX12_isFull cX12_isFull 2 (some .boolean) ∈ WS := tb_7 (List.mem_of_getElem? (i := 77) rfl) rfl
theorem mw_7_78 : Cond.methodLink RX12 251 yX12_lampLine ∈ WS := tb_7 (List.mem_of_getElem? (i := 78) rfl) rfl
theorem mw_7_80 : Cond.instanceMethod yX12_lampLine ∈ WS := tb_7 (List.mem_of_getElem? (i := 80) rfl) rfl
theorem mw_7_81 : Cond.code yX12_lampLine cX12_lampLine 2 none ∈ WS := tb_7 (List.mem_of_getElem? (i := 81) rfl) rfl
theorem mw_7_82 : Cond.constantLong RX12 196 47 ∈ WS := tb_7 (List.mem_of_getElem? (i := 82) rfl) rfl
theorem mw_7_83 : Cond.constantLong RX12 201 38446238 ∈ WS := tb_7 (List.mem_of_getElem? (i := 83) rfl) rfl
theorem mw_7_84 : Cond.methodLink RX12 254 yX12_lockLine ∈ WS := tb_7 (List.mem_of_getElem? (i := 84) rfl) rfl
theorem mw_7_86 : Cond.instanceMethod yX12_lockLine ∈ WS := tb_7 (List.mem_of_getElem? (i := 86) rfl) rfl
theorem mw_7_87 : Cond.code yX12_lockLine cX12_lockLine 2 none ∈ WS := tb_7 (List.mem_of_getElem? (i := 87) rfl) rfl
theorem mw_7_88 : Cond.constantLong RX12 205 74917 ∈ WS := tb_7 (List.mem_of_getElem? (i := 88) rfl) rfl
theorem mw_7_89 : Cond.methodLink RX12 257 yX12_bikeLine ∈ WS := tb_7 (List.mem_of_getElem? (i := 89) rfl) rfl
theorem mw_7_91 : Cond.instanceMethod yX12_bikeLine ∈ WS := tb_7 (List.mem_of_getElem? (i := 91) rfl) rfl
theorem mw_7_92 : Cond.code yX12_bikeLine cX12_bikeLine 4 none ∈ WS := tb_7 (List.mem_of_getElem? (i := 92) rfl) rfl
theorem mw_7_93 : Cond.constantLong RX12 207 12532058 ∈ WS := tb_7 (List.mem_of_getElem? (i := 93) rfl) rfl
theorem mw_7_94 : Cond.constantLong RX12 209 10199809 ∈ WS := tb_7 (List.mem_of_getElem? (i := 94) rfl) rfl
theorem mw_7_95 : Cond.constantLong RX12 213 187429684 ∈ WS := tb_7 (List.mem_of_getElem? (i := 95) rfl) rfl
theorem mw_7_96 : Cond.methodLink RX12 260 yX12_thiefLine ∈ WS := tb_7 (List.mem_of_getElem? (i := 96) rfl) rfl
theorem mw_7_98 : Cond.instanceMethod yX12_thiefLine ∈ WS := tb_7 (List.mem_of_getElem? (i := 98) rfl) rfl
theorem mw_7_99 : Cond.code yX12_thiefLine cX12_thiefLine 3 none ∈ WS := tb_7 (List.mem_of_getElem? (i := 99) rfl) rfl
theorem mw_7_100 : Cond.constantLong RX12 215 405012 ∈ WS := tb_7 (List.mem_of_getElem? (i := 100) rfl) rfl
theorem mw_7_101 : Cond.constantLong RX12 217 1899199 ∈ WS := tb_7 (List.mem_of_getElem? (i := 101) rfl) rfl
theorem mw_7_102 : Cond.constantLong RX12 219 3288295 ∈ WS := tb_7 (List.mem_of_getElem? (i := 102) rfl) rfl
theorem mw_7_103 : Cond.constantLong RX12 221 43544 ∈ WS := tb_7 (List.mem_of_getElem? (i := 103) rfl) rfl
theorem mw_7_104 : Cond.constantLong RX12 223 1132 ∈ WS := tb_7 (List.mem_of_getElem? (i := 104) rfl) rfl
theorem mw_7_105 : Cond.constantLong RX12 225 212672 ∈ WS := tb_7 (List.mem_of_getElem? (i := 105) rfl) rfl
theorem mw_7_106 : Cond.methodLink RX12 285 yX12_ends ∈ WS := tb_7 (List.mem_of_getElem? (i := 106) rfl) rfl
theorem mw_7_108 : Cond.instanceMethod yX12_ends ∈ WS := tb_7 (List.mem_of_getElem? (i := 108) rfl) rfl
theorem mw_7_109 : Cond.code yX12_ends cX12_ends 1 none ∈ WS := tb_7 (List.mem_of_getElem? (i := 109) rfl) rfl
theorem mw_7_110 : Cond.methodLink RX12 288 yX12_isOver ∈ WS := tb_7 (List.mem_of_getElem? (i := 110) rfl) rfl
theorem mw_7_112 : Cond.instanceMethod yX12_isOver ∈ WS := tb_7 (List.mem_of_getElem? (i := 112) rfl) rfl
theorem mw_7_113 : Cond.code yX12_isOver cX12_isOver 1 none ∈ WS := tb_7 (List.mem_of_getElem? (i := 113) rfl) rfl
theorem mw_7_114 : Cond.methodLink RX12 291 yX12_copyRail ∈ WS := tb_7 (List.mem_of_getElem? (i := 114) rfl) rfl
theorem mw_7_116 : Cond.instanceMethod yX12_copyRail ∈ WS := tb_7 (List.mem_of_getElem? (i := 116) rfl) rfl
theorem mw_7_117 : Cond.code yX12_copyRail cX12_copyRail 3 none ∈ WS := tb_7 (List.mem_of_getElem? (i := 117) rfl) rfl
theorem mw_7_118 : Cond.methodLink RX12 295 yX12_copyRow ∈ WS := tb_7 (List.mem_of_getElem? (i := 118) rfl) rfl
theorem mw_7_119 : Cond.static yX12_copyRow ∈ WS := tb_7 (List.mem_of_getElem? (i := 119) rfl) rfl
theorem mw_7_120 : Cond.code yX12_copyRow cX12_copyRow 5 none ∈ WS := tb_7 (List.mem_of_getElem? (i := 120) rfl) rfl
theorem mw_7_125 : Cond.methodLink RX12 312 yX12_isPlace ∈ WS := tb_7 (List.mem_of_getElem? (i := 125) rfl) rfl
theorem mw_7_127 : Cond.instanceMethod yX12_isPlace ∈ WS := tb_7 (List.mem_of_getElem? (i := 127) rfl) rfl
theorem mw_7_128 : Cond.code yX12_isPlace cX12_isPlace 2 (some .boolean) ∈ WS := tb_7 (List.mem_of_getElem? (i := 128) rfl) rfl
theorem mw_7_129 : Cond.methodLink RX12 315 yX12_lightOf ∈ WS := tb_7 (List.mem_of_getElem? (i := 129) rfl) rfl
theorem mw_7_131 : Cond.instanceMethod yX12_lightOf ∈ WS := tb_7 (List.mem_of_getElem? (i := 131) rfl) rfl
theorem mw_7_132 : Cond.code yX12_lightOf cX12_lightOf 6 (some .int) ∈ WS := tb_7 (List.mem_of_getElem? (i := 132) rfl) rfl
theorem mw_7_133 : Cond.methodLink RX12 299 yX12_apart ∈ WS := tb_7 (List.mem_of_getElem? (i := 133) rfl) rfl
theorem mw_7_134 : Cond.static yX12_apart ∈ WS := tb_7 (List.mem_of_getElem? (i := 134) rfl) rfl
theorem mw_7_135 : Cond.code yX12_apart cX12_apart 2 (some .int) ∈ WS := tb_7 (List.mem_of_getElem? (i := 135) rfl) rfl
theorem mw_7_136 : Cond.methodLink RX12 302 yX12_above ∈ WS := tb_7 (List.mem_of_getElem? (i := 136) rfl) rfl
theorem mw_7_137 : Cond.static yX12_above ∈ WS := tb_7 (List.mem_of_getElem? (i := 137) rfl) rfl
theorem mw_7_138 : Cond.code yX12_above cX12_above 1 (some .int) ∈ WS := tb_7 (List.mem_of_getElem? (i := 138) rfl) rfl
theorem mw_7_143 : Cond.methodLink RX12 318 yX12_isBike ∈ WS := tb_7 (List.mem_of_getElem? (i := 143) rfl) rfl
theorem mw_7_145 : Cond.instanceMethod yX12_isBike ∈ WS := tb_7 (List.mem_of_getElem? (i := 145) rfl) rfl
theorem mw_7_146 : Cond.code yX12_isBike cX12_isBike 2 (some .boolean) ∈ WS := tb_7 (List.mem_of_getElem? (i := 146) rfl) rfl
theorem mw_7_147 : Cond.constantLong RX12 321 4 ∈ WS := tb_7 (List.mem_of_getElem? (i := 147) rfl) rfl
theorem mw_7_148 : Cond.methodLink RX12 323 yX12_at ∈ WS := tb_7 (List.mem_of_getElem? (i := 148) rfl) rfl
theorem mw_7_149 : Cond.static yX12_at ∈ WS := tb_7 (List.mem_of_getElem? (i := 149) rfl) rfl
theorem mw_7_150 : Cond.code yX12_at cX12_at 2 (some .int) ∈ WS := tb_7 (List.mem_of_getElem? (i := 150) rfl) rfl
theorem mw_7_155 : Cond.methodLink RX12 330 yX12_isThief ∈ WS := tb_7 (List.mem_of_getElem? (i := 155) rfl) rfl
theorem mw_7_157 : Cond.instanceMethod yX12_isThief ∈ WS := tb_7 (List.mem_of_getElem? (i := 157) rfl) rfl
theorem mw_7_158 : Cond.code yX12_isThief cX12_isThief 2 (some .boolean) ∈ WS := tb_7 (List.mem_of_getElem? (i := 158) rfl) rfl
theorem mw_7_159 : Cond.methodLink RX12 333 yX12_troubleOf ∈ WS := tb_7 (List.mem_of_getElem? (i := 159) rfl) rfl
theorem mw_7_161 : Cond.instanceMethod yX12_troubleOf ∈ WS := tb_7 (List.mem_of_getElem? (i := 161) rfl) rfl
theorem mw_7_162 : Cond.code yX12_troubleOf cX12_troubleOf 7 (some .int) ∈ WS := tb_7 (List.mem_of_getElem? (i := 162) rfl) rfl
theorem mw_7_163 : Cond.constantLong RX12 325 100 ∈ WS := tb_7 (List.mem_of_getElem? (i := 163) rfl) rfl
theorem mw_7_168 : Cond.methodLink RX12 337 yX12_gainOf ∈ WS := tb_7 (List.mem_of_getElem? (i := 168) rfl) rfl
theorem mw_7_170 : Cond.instanceMethod yX12_gainOf ∈ WS := tb_7 (List.mem_of_getElem? (i := 170) rfl) rfl
theorem mw_7_171 : Cond.code yX12_gainOf cX12_gainOf 5 (some .int) ∈ WS := tb_7 (List.mem_of_getElem? (i := 171) rfl) rfl
theorem mw_7_172 : Cond.methodLink RX12 327 yX12_markedOn ∈ WS := tb_7 (List.mem_of_getElem? (i := 172) rfl) rfl
theorem mw_7_174 : Cond.instanceMethod yX12_markedOn ∈ WS := tb_7 (List.mem_of_getElem? (i := 174) rfl) rfl
theorem mw_7_175 : Cond.code yX12_markedOn cX12_markedOn 4 (some .int) ∈ WS := tb_7 (List.mem_of_getElem? (i := 175) rfl) rfl
theorem mw_7_180 : Cond.methodLink RX12 343 yX12_lays ∈ WS := tb_7 (List.mem_of_getElem? (i := 180) rfl) rfl
theorem mw_7_182 : Cond.instanceMethod yX12_lays ∈ WS := tb_7 (List.mem_of_getElem? (i := 182) rfl) rfl
theorem mw_7_183 : Cond.code yX12_lays cX12_lays 4 none ∈ WS := tb_7 (List.mem_of_getElem? (i := 183) rfl) rfl
theorem mw_7_184 : Cond.methodLink RX12 346 yX12_takesOf ∈ WS := tb_7 (List.mem_of_getElem? (i := 184) rfl) rfl
theorem mw_7_186 : Cond.instanceMethod yX12_takesOf ∈ WS := tb_7 (List.mem_of_getElem? (i := 186) rfl) rfl
theorem mw_7_187 : Cond.code yX12_takesOf cX12_takesOf 7 (some .int) ∈ WS := tb_7 (List.mem_of_getElem? (i := 187) rfl) rfl
theorem mw_7_192 : Cond.methodLink RX12 349 yX12_wantsOf ∈ WS := tb_7 (List.mem_of_getElem? (i := 192) rfl) rfl
theorem mw_7_194 : Cond.instanceMethod yX12_wantsOf ∈ WS := tb_7 (List.mem_of_getElem? (i := 194) rfl) rfl
theorem mw_7_195 : Cond.code yX12_wantsOf cX12_wantsOf 4 (some .int) ∈ WS := tb_7 (List.mem_of_getElem? (i := 195) rfl) rfl
theorem mw_7_200 : Cond.methodLink RX12 357 yX12_isSet ∈ WS := tb_7 (List.mem_of_getElem? (i := 200) rfl) rfl
theorem mw_7_202 : Cond.instanceMethod yX12_isSet ∈ WS := tb_7 (List.mem_of_getElem? (i := 202) rfl) rfl
theorem mw_7_203 : Cond.code yX12_isSet cX12_isSet 2 (some .boolean) ∈ WS := tb_7 (List.mem_of_getElem? (i := 203) rfl) rfl
theorem mw_7_204 : Cond.methodLink RX12 354 yX12_isRail ∈ WS := tb_7 (List.mem_of_getElem? (i := 204) rfl) rfl
theorem mw_7_206 : Cond.instanceMethod yX12_isRail ∈ WS := tb_7 (List.mem_of_getElem? (i := 206) rfl) rfl
theorem mw_7_207 : Cond.code yX12_isRail cX12_isRail 1 (some .boolean) ∈ WS := tb_7 (List.mem_of_getElem? (i := 207) rfl) rfl
theorem mw_7_208 : Cond.constantLong RX12 360 (-2) ∈ WS := tb_7 (List.mem_of_getElem? (i := 208) rfl) rfl
theorem mw_7_209 : Cond.methodLink RX12 362 yX12_night ∈ WS := tb_7 (List.mem_of_getElem? (i := 209) rfl) rfl
theorem mw_7_211 : Cond.instanceMethod yX12_night ∈ WS := tb_7 (List.mem_of_getElem? (i := 211) rfl) rfl
theorem mw_7_212 : Cond.code yX12_night cX12_night 5 none ∈ WS := tb_7 (List.mem_of_getElem? (i := 212) rfl) rfl
theorem mw_7_213 : Cond.constantLong RX12 352 1000000000000 ∈ WS := tb_7 (List.mem_of_getElem? (i := 213) rfl) rfl
theorem mw_7_218 : Cond.methodLink RX12 365 yX12_sizeOf ∈ WS := tb_7 (List.mem_of_getElem? (i := 218) rfl) rfl
theorem mw_7_219 : Cond.static yX12_sizeOf ∈ WS := tb_7 (List.mem_of_getElem? (i := 219) rfl) rfl
theorem mw_7_220 : Cond.code yX12_sizeOf cX12_sizeOf 3 (some .int) ∈ WS := tb_7 (List.mem_of_getElem? (i := 220) rfl) rfl
theorem mw_7_225 : Cond.methodLink RX12 372 yX12_riskNow ∈ WS := tb_7 (List.mem_of_getElem? (i := 225) rfl) rfl
theorem mw_7_227 : Cond.instanceMethod yX12_riskNow ∈ WS := tb_7 (List.mem_of_getElem? (i := 227) rfl) rfl
theorem mw_7_228 : Cond.code yX12_riskNow cX12_riskNow 2 (some .long) ∈ WS := tb_7 (List.mem_of_getElem? (i := 228) rfl) rfl
theorem mw_7_229 : Cond.methodLink RX12 368 yX12_riskOf ∈ WS := tb_7 (List.mem_of_getElem? (i := 229) rfl) rfl
theorem mw_7_231 : Cond.instanceMethod yX12_riskOf ∈ WS := tb_7 (List.mem_of_getElem? (i := 231) rfl) rfl
theorem mw_7_232 : Cond.code yX12_riskOf cX12_riskOf 5 (some .long) ∈ WS := tb_7 (List.mem_of_getElem? (i := 232) rfl) rfl
theorem mw_8_1 : Cond.constantLong RX12 392 2 ∈ WS := tb_8 (List.mem_of_getElem? (i := 1) rfl) rfl
theorem mw_8_2 : Cond.methodLink RX12 394 yX12_whatOf ∈ WS := tb_8 (List.mem_of_getElem? (i := 2) rfl) rfl
theorem mw_8_4 : Cond.instanceMethod yX12_whatOf ∈ WS := tb_8 (List.mem_of_getElem? (i := 4) rfl) rfl
theorem mw_8_5 : Cond.code yX12_whatOf cX12_whatOf 3 (some .long) ∈ WS := tb_8 (List.mem_of_getElem? (i := 5) rfl) rfl
theorem mw_8_6 : Cond.methodLink RX12 379 yX12_paidOf ∈ WS := tb_8 (List.mem_of_getElem? (i := 6) rfl) rfl
theorem mw_8_8 : Cond.instanceMethod yX12_paidOf ∈ WS := tb_8 (List.mem_of_getElem? (i := 8) rfl) rfl
theorem mw_8_9 : Cond.code yX12_paidOf cX12_paidOf 3 (some .long) ∈ WS := tb_8 (List.mem_of_getElem? (i := 9) rfl) rfl
theorem mw_8_10 : Cond.constantLong RX12 375 1000 ∈ WS := tb_8 (List.mem_of_getElem? (i := 10) rfl) rfl
theorem mw_8_11 : Cond.methodLink RX12 382 yX12_lossOf ∈ WS := tb_8 (List.mem_of_getElem? (i := 11) rfl) rfl
theorem mw_8_13 : Cond.instanceMethod yX12_lossOf ∈ WS := tb_8 (List.mem_of_getElem? (i := 13) rfl) rfl
theorem mw_8_14 : Cond.code yX12_lossOf cX12_lossOf 2 (some .long) ∈ WS := tb_8 (List.mem_of_getElem? (i := 14) rfl) rfl
theorem mw_8_15 : Cond.constantLong RX12 377 1000000000 ∈ WS := tb_8 (List.mem_of_getElem? (i := 15) rfl) rfl
theorem mw_8_16 : Cond.methodLink RX12 389 yX12_costOf ∈ WS := tb_8 (List.mem_of_getElem? (i := 16) rfl) rfl
theorem mw_8_18 : Cond.instanceMethod yX12_costOf ∈ WS := tb_8 (List.mem_of_getElem? (i := 18) rfl) rfl
theorem mw_8_19 : Cond.code yX12_costOf cX12_costOf 2 (some .long) ∈ WS := tb_8 (List.mem_of_getElem? (i := 19) rfl) rfl
theorem mw_8_20 : Cond.methodLink RX12 385 yX12_wages ∈ WS := tb_8 (List.mem_of_getElem? (i := 20) rfl) rfl
theorem mw_8_22 : Cond.instanceMethod yX12_wages ∈ WS := tb_8 (List.mem_of_getElem? (i := 22) rfl) rfl
theorem mw_8_23 : Cond.code yX12_wages cX12_wages 1 (some .long) ∈ WS := tb_8 (List.mem_of_getElem? (i := 23) rfl) rfl
theorem mw_8_28 : Cond.methodLink RX12 398 yX12_allNow ∈ WS := tb_8 (List.mem_of_getElem? (i := 28) rfl) rfl
theorem mw_8_30 : Cond.instanceMethod yX12_allNow ∈ WS := tb_8 (List.mem_of_getElem? (i := 30) rfl) rfl
theorem mw_8_31 : Cond.code yX12_allNow cX12_allNow 5 (some .long) ∈ WS := tb_8 (List.mem_of_getElem? (i := 31) rfl) rfl
theorem mw_8_36 : Cond.methodLink RX12 405 yX12_isOption ∈ WS := tb_8 (List.mem_of_getElem? (i := 36) rfl) rfl
theorem mw_8_38 : Cond.instanceMethod yX12_isOption ∈ WS := tb_8 (List.mem_of_getElem? (i := 38) rfl) rfl
theorem mw_8_39 : Cond.code yX12_isOption cX12_isOption 2 (some .boolean) ∈ WS := tb_8 (List.mem_of_getElem? (i := 39) rfl) rfl
theorem mw_8_40 : Cond.methodLink RX12 401 yX12_optionMany ∈ WS := tb_8 (List.mem_of_getElem? (i := 40) rfl) rfl
theorem mw_8_42 : Cond.instanceMethod yX12_optionMany ∈ WS := tb_8 (List.mem_of_getElem? (i := 42) rfl) rfl
theorem mw_8_43 : Cond.code yX12_optionMany cX12_optionMany 1 (some .int) ∈ WS := tb_8 (List.mem_of_getElem? (i := 43) rfl) rfl
theorem mw_8_44 : Cond.methodLink RX12 408 yX12_optionOf ∈ WS := tb_8 (List.mem_of_getElem? (i := 44) rfl) rfl
theorem mw_8_46 : Cond.instanceMethod yX12_optionOf ∈ WS := tb_8 (List.mem_of_getElem? (i := 46) rfl) rfl
theorem mw_8_47 : Cond.code yX12_optionOf cX12_optionOf 2 (some .int) ∈ WS := tb_8 (List.mem_of_getElem? (i := 47) rfl) rfl
theorem mw_8_48 : Cond.methodLink RX12 411 yX12_hasOption ∈ WS := tb_8 (List.mem_of_getElem? (i := 48) rfl) rfl
theorem mw_8_50 : Cond.instanceMethod yX12_hasOption ∈ WS := tb_8 (List.mem_of_getElem? (i := 50) rfl) rfl
theorem mw_8_51 : Cond.code yX12_hasOption cX12_hasOption 3 none ∈ WS := tb_8 (List.mem_of_getElem? (i := 51) rfl) rfl
theorem mw_8_56 : Cond.methodLink RX12 417 yX12_wouldOf ∈ WS := tb_8 (List.mem_of_getElem? (i := 56) rfl) rfl
theorem mw_8_58 : Cond.instanceMethod yX12_wouldOf ∈ WS := tb_8 (List.mem_of_getElem? (i := 58) rfl) rfl
theorem mw_8_59 : Cond.code yX12_wouldOf cX12_wouldOf 6 (some .long) ∈ WS := tb_8 (List.mem_of_getElem? (i := 59) rfl) rfl
theorem mw_8_60 : Cond.methodLink RX12 414 yX12_costNow ∈ WS := tb_8 (List.mem_of_getElem? (i := 60) rfl) rfl
theorem mw_8_62 : Cond.instanceMethod yX12_costNow ∈ WS := tb_8 (List.mem_of_getElem? (i := 62) rfl) rfl
theorem mw_8_63 : Cond.code yX12_costNow cX12_costNow 2 (some .long) ∈ WS := tb_8 (List.mem_of_getElem? (i := 63) rfl) rfl
theorem mw_8_68 : Cond.methodLink RX12 423 yX12_bestOf ∈ WS := tb_8 (List.mem_of_getElem? (i := 68) rfl) rfl
theorem mw_8_70 : Cond.instanceMethod yX12_bestOf ∈ WS := tb_8 (List.mem_of_getElem? (i := 70) rfl) rfl
theorem mw_8_71 : Cond.code yX12_bestOf cX12_bestOf 6 (some .int) ∈ WS := tb_8 (List.mem_of_getElem? (i := 71) rfl) rfl
theorem mw_8_80 : Cond.constantLong RX12 433 30 ∈ WS := tb_8 (List.mem_of_getElem? (i := 80) rfl) rfl
theorem mw_8_81 : Cond.methodLink RX12 435 yX12_settlesIn ∈ WS := tb_8 (List.mem_of_getElem? (i := 81) rfl) rfl
theorem mw_8_83 : Cond.instanceMethod yX12_settlesIn ∈ WS := tb_8 (List.mem_of_getElem? (i := 83) rfl) rfl
theorem mw_8_84 : Cond.code yX12_settlesIn cX12_settlesIn 3 (some .int) ∈ WS := tb_8 (List.mem_of_getElem? (i := 84) rfl) rfl
theorem mw_8_85 : Cond.methodLink RX12 430 yX12_round ∈ WS := tb_8 (List.mem_of_getElem? (i := 85) rfl) rfl
theorem mw_8_87 : Cond.instanceMethod yX12_round ∈ WS := tb_8 (List.mem_of_getElem? (i := 87) rfl) rfl
theorem mw_8_88 : Cond.code yX12_round cX12_round 4 (some .boolean) ∈ WS := tb_8 (List.mem_of_getElem? (i := 88) rfl) rfl
theorem mw_8_93 : Cond.methodLink RX12 438 yX12_laysAside ∈ WS := tb_8 (List.mem_of_getElem? (i := 93) rfl) rfl
theorem mw_8_95 : Cond.instanceMethod yX12_laysAside ∈ WS := tb_8 (List.mem_of_getElem? (i := 95) rfl) rfl
theorem mw_8_96 : Cond.code yX12_laysAside cX12_laysAside 2 none ∈ WS := tb_8 (List.mem_of_getElem? (i := 96) rfl) rfl
theorem mw_8_97 : Cond.methodLink RX12 441 yX12_takesBack ∈ WS := tb_8 (List.mem_of_getElem? (i := 97) rfl) rfl
theorem mw_8_99 : Cond.instanceMethod yX12_takesBack ∈ WS := tb_8 (List.mem_of_getElem? (i := 99) rfl) rfl
theorem mw_8_100 : Cond.code yX12_takesBack cX12_takesBack 2 none ∈ WS := tb_8 (List.mem_of_getElem? (i := 100) rfl) rfl
theorem mw_8_109 : Cond.constantLong RX12 447 60 ∈ WS := tb_8 (List.mem_of_getElem? (i := 109) rfl) rfl
theorem mw_8_110 : Cond.methodLink RX12 449 yX12_betters ∈ WS := tb_8 (List.mem_of_getElem? (i := 110) rfl) rfl
theorem mw_8_112 : Cond.instanceMethod yX12_betters ∈ WS := tb_8 (List.mem_of_getElem? (i := 112) rfl) rfl
theorem mw_8_113 : Cond.code yX12_betters cX12_betters 3 (some .int) ∈ WS := tb_8 (List.mem_of_getElem? (i := 113) rfl) rfl
theorem mw_8_114 : Cond.methodLink RX12 444 yX12_changes ∈ WS := tb_8 (List.mem_of_getElem? (i := 114) rfl) rfl
theorem mw_8_116 : Cond.instanceMethod yX12_changes ∈ WS := tb_8 (List.mem_of_getElem? (i := 116) rfl) rfl
theorem mw_8_117 : Cond.code yX12_changes cX12_changes 10 (some .boolean) ∈ WS := tb_8 (List.mem_of_getElem? (i := 117) rfl) rfl
theorem mw_8_126 : Cond.methodLink RX12 452 yX12_areTwo ∈ WS := tb_8 (List.mem_of_getElem? (i := 126) rfl) rfl
theorem mw_8_128 : Cond.instanceMethod yX12_areTwo ∈ WS := tb_8 (List.mem_of_getElem? (i := 128) rfl) rfl
theorem mw_8_129 : Cond.code yX12_areTwo cX12_areTwo 3 (some .boolean) ∈ WS := tb_8 (List.mem_of_getElem? (i := 129) rfl) rfl
theorem mw_8_134 : Cond.constantLong RX12 456 (-1000000000000) ∈ WS := tb_8 (List.mem_of_getElem? (i := 134) rfl) rfl
theorem mw_8_139 : Cond.methodLink RX12 458 yX12_laysGrowth ∈ WS := tb_8 (List.mem_of_getElem? (i := 139) rfl) rfl
theorem mw_8_141 : Cond.instanceMethod yX12_laysGrowth ∈ WS := tb_8 (List.mem_of_getElem? (i := 141) rfl) rfl
theorem mw_8_142 : Cond.code yX12_laysGrowth cX12_laysGrowth 5 none ∈ WS := tb_8 (List.mem_of_getElem? (i := 142) rfl) rfl
theorem mw_8_155 : Cond.methodLink RX12 461 yX12_standsAt ∈ WS := tb_8 (List.mem_of_getElem? (i := 155) rfl) rfl
theorem mw_8_157 : Cond.instanceMethod yX12_standsAt ∈ WS := tb_8 (List.mem_of_getElem? (i := 157) rfl) rfl
theorem mw_8_158 : Cond.code yX12_standsAt cX12_standsAt 3 (some .int) ∈ WS := tb_8 (List.mem_of_getElem? (i := 158) rfl) rfl
theorem mw_8_171 : Cond.methodLink RX12 466 yX12_isBright ∈ WS := tb_8 (List.mem_of_getElem? (i := 171) rfl) rfl
theorem mw_8_172 : Cond.static yX12_isBright ∈ WS := tb_8 (List.mem_of_getElem? (i := 172) rfl) rfl
theorem mw_8_173 : Cond.code yX12_isBright cX12_isBright 1 (some .boolean) ∈ WS := tb_8 (List.mem_of_getElem? (i := 173) rfl) rfl
theorem mw_8_174 : Cond.constantLong RX12 464 99 ∈ WS := tb_8 (List.mem_of_getElem? (i := 174) rfl) rfl
theorem mw_8_175 : Cond.methodLink RX12 469 yX12_litBy ∈ WS := tb_8 (List.mem_of_getElem? (i := 175) rfl) rfl
theorem mw_8_177 : Cond.instanceMethod yX12_litBy ∈ WS := tb_8 (List.mem_of_getElem? (i := 177) rfl) rfl
theorem mw_8_178 : Cond.code yX12_litBy cX12_litBy 5 (some .long) ∈ WS := tb_8 (List.mem_of_getElem? (i := 178) rfl) rfl
theorem mw_8_191 : Cond.methodLink RX12 472 yX12_laysWatch ∈ WS := tb_8 (List.mem_of_getElem? (i := 191) rfl) rfl
theorem mw_8_193 : Cond.instanceMethod yX12_laysWatch ∈ WS := tb_8 (List.mem_of_getElem? (i := 193) rfl) rfl
theorem mw_8_194 : Cond.code yX12_laysWatch cX12_laysWatch 3 none ∈ WS := tb_8 (List.mem_of_getElem? (i := 194) rfl) rfl
theorem mw_8_203 : Cond.methodLink RX12 475 yX12_marksSet ∈ WS := tb_8 (List.mem_of_getElem? (i := 203) rfl) rfl
theorem mw_8_205 : Cond.instanceMethod yX12_marksSet ∈ WS := tb_8 (List.mem_of_getElem? (i := 205) rfl) rfl
theorem mw_8_206 : Cond.code yX12_marksSet cX12_marksSet 3 none ∈ WS := tb_8 (List.mem_of_getElem? (i := 206) rfl) rfl
theorem mw_8_207 : Cond.methodLink RX12 478 yX12_isWanted ∈ WS := tb_8 (List.mem_of_getElem? (i := 207) rfl) rfl
theorem mw_8_209 : Cond.instanceMethod yX12_isWanted ∈ WS := tb_8 (List.mem_of_getElem? (i := 209) rfl) rfl
theorem mw_8_210 : Cond.code yX12_isWanted cX12_isWanted 2 (some .boolean) ∈ WS := tb_8 (List.mem_of_getElem? (i := 210) rfl) rfl
theorem mw_8_219 : Cond.methodLink RX12 492 yX12_whyNot ∈ WS := tb_8 (List.mem_of_getElem? (i := 219) rfl) rfl
theorem mw_8_221 : Cond.instanceMethod yX12_whyNot ∈ WS := tb_8 (List.mem_of_getElem? (i := 221) rfl) rfl
theorem mw_8_222 : Cond.code yX12_whyNot cX12_whyNot 4 (some .int) ∈ WS := tb_8 (List.mem_of_getElem? (i := 222) rfl) rfl
theorem mw_8_223 : Cond.constantLong RX12 490 9999 ∈ WS := tb_8 (List.mem_of_getElem? (i := 223) rfl) rfl
theorem mw_8_224 : Cond.methodLink RX12 495 yX12_baits ∈ WS := tb_8 (List.mem_of_getElem? (i := 224) rfl) rfl
theorem mw_8_226 : Cond.instanceMethod yX12_baits ∈ WS := tb_8 (List.mem_of_getElem? (i := 226) rfl) rfl
theorem mw_8_227 : Cond.code yX12_baits cX12_baits 10 none ∈ WS := tb_8 (List.mem_of_getElem? (i := 227) rfl) rfl
theorem mw_8_228 : Cond.methodLink RX12 481 yX12_state ∈ WS := tb_8 (List.mem_of_getElem? (i := 228) rfl) rfl
theorem mw_8_229 : Cond.static yX12_state ∈ WS := tb_8 (List.mem_of_getElem? (i := 229) rfl) rfl
theorem mw_8_230 : Cond.code yX12_state cX12_state 2 (some .int) ∈ WS := tb_8 (List.mem_of_getElem? (i := 230) rfl) rfl
theorem mw_8_231 : Cond.methodLink RX12 487 yX12_thiefGoes ∈ WS := tb_8 (List.mem_of_getElem? (i := 231) rfl) rfl
theorem mw_8_233 : Cond.instanceMethod yX12_thiefGoes ∈ WS := tb_8 (List.mem_of_getElem? (i := 233) rfl) rfl
theorem mw_8_234 : Cond.code yX12_thiefGoes cX12_thiefGoes 12 none ∈ WS := tb_8 (List.mem_of_getElem? (i := 234) rfl) rfl
theorem mw_9_7 : Cond.methodLink RX12 502 yX12_isCover ∈ WS := tb_9 (List.mem_of_getElem? (i := 7) rfl) rfl
theorem mw_9_9 : Cond.instanceMethod yX12_isCover ∈ WS := tb_9 (List.mem_of_getElem? (i := 9) rfl) rfl
theorem mw_9_10 : Cond.code yX12_isCover cX12_isCover 4 (some .boolean) ∈ WS := tb_9 (List.mem_of_getElem? (i := 10) rfl) rfl
theorem mw_9_11 : Cond.methodLink RX12 505 yX12_covers ∈ WS := tb_9 (List.mem_of_getElem? (i := 11) rfl) rfl
theorem mw_9_13 : Cond.instanceMethod yX12_covers ∈ WS := tb_9 (List.mem_of_getElem? (i := 13) rfl) rfl
theorem mw_9_14 : Cond.code yX12_covers cX12_covers 9 (some .int) ∈ WS := tb_9 (List.mem_of_getElem? (i := 14) rfl) rfl
theorem mw_9_23 : Cond.methodLink RX12 508 yX12_byLaw ∈ WS := tb_9 (List.mem_of_getElem? (i := 23) rfl) rfl
theorem mw_9_25 : Cond.instanceMethod yX12_byLaw ∈ WS := tb_9 (List.mem_of_getElem? (i := 25) rfl) rfl
theorem mw_9_26 : Cond.code yX12_byLaw cX12_byLaw 4 (some .long) ∈ WS := tb_9 (List.mem_of_getElem? (i := 26) rfl) rfl
theorem mw_9_35 : Cond.methodLink RX12 511 yX12_netOn ∈ WS := tb_9 (List.mem_of_getElem? (i := 35) rfl) rfl
theorem mw_9_37 : Cond.instanceMethod yX12_netOn ∈ WS := tb_9 (List.mem_of_getElem? (i := 37) rfl) rfl
theorem mw_9_38 : Cond.code yX12_netOn cX12_netOn 9 (some .int) ∈ WS := tb_9 (List.mem_of_getElem? (i := 38) rfl) rfl
theorem mw_9_43 : Cond.methodLink RX12 539 yX12_isSeed ∈ WS := tb_9 (List.mem_of_getElem? (i := 43) rfl) rfl
theorem mw_9_44 : Cond.static yX12_isSeed ∈ WS := tb_9 (List.mem_of_getElem? (i := 44) rfl) rfl
theorem mw_9_45 : Cond.code yX12_isSeed cX12_isSeed 1 (some .boolean) ∈ WS := tb_9 (List.mem_of_getElem? (i := 45) rfl) rfl
theorem mw_9_46 : Cond.constantLong RX12 537 2000000000 ∈ WS := tb_9 (List.mem_of_getElem? (i := 46) rfl) rfl
theorem mw_9_47 : Cond.methodLink RX12 542 yX12_draws ∈ WS := tb_9 (List.mem_of_getElem? (i := 47) rfl) rfl
theorem mw_9_49 : Cond.instanceMethod yX12_draws ∈ WS := tb_9 (List.mem_of_getElem? (i := 49) rfl) rfl
theorem mw_9_50 : Cond.code yX12_draws cX12_draws 6 none ∈ WS := tb_9 (List.mem_of_getElem? (i := 50) rfl) rfl
theorem mw_9_51 : Cond.methodLink RX12 525 yX12_newYear ∈ WS := tb_9 (List.mem_of_getElem? (i := 51) rfl) rfl
theorem mw_9_53 : Cond.instanceMethod yX12_newYear ∈ WS := tb_9 (List.mem_of_getElem? (i := 53) rfl) rfl
theorem mw_9_54 : Cond.code yX12_newYear cX12_newYear 2 none ∈ WS := tb_9 (List.mem_of_getElem? (i := 54) rfl) rfl
theorem mw_9_55 : Cond.methodLink RX12 528 yX12_draw ∈ WS := tb_9 (List.mem_of_getElem? (i := 55) rfl) rfl
theorem mw_9_57 : Cond.instanceMethod yX12_draw ∈ WS := tb_9 (List.mem_of_getElem? (i := 57) rfl) rfl
theorem mw_9_58 : Cond.code yX12_draw cX12_draw 1 (some .int) ∈ WS := tb_9 (List.mem_of_getElem? (i := 58) rfl) rfl
theorem mw_9_59 : Cond.constantLong RX12 514 1103515245 ∈ WS := tb_9 (List.mem_of_getElem? (i := 59) rfl) rfl
theorem mw_9_60 : Cond.constantLong RX12 519 12345 ∈ WS := tb_9 (List.mem_of_getElem? (i := 60) rfl) rfl
theorem mw_9_61 : Cond.constantLong RX12 521 2147483648 ∈ WS := tb_9 (List.mem_of_getElem? (i := 61) rfl) rfl
theorem mw_9_62 : Cond.constantLong RX12 523 65536 ∈ WS := tb_9 (List.mem_of_getElem? (i := 62) rfl) rfl
theorem mw_9_63 : Cond.methodLink RX12 531 yX12_comes ∈ WS := tb_9 (List.mem_of_getElem? (i := 63) rfl) rfl
theorem mw_9_65 : Cond.instanceMethod yX12_comes ∈ WS := tb_9 (List.mem_of_getElem? (i := 65) rfl) rfl
theorem mw_9_66 : Cond.code yX12_comes cX12_comes 4 (some .int) ∈ WS := tb_9 (List.mem_of_getElem? (i := 66) rfl) rfl
theorem mw_9_67 : Cond.methodLink RX12 545 yX12_tellsYear ∈ WS := tb_9 (List.mem_of_getElem? (i := 67) rfl) rfl
theorem mw_9_69 : Cond.instanceMethod yX12_tellsYear ∈ WS := tb_9 (List.mem_of_getElem? (i := 69) rfl) rfl
theorem mw_9_70 : Cond.code yX12_tellsYear cX12_tellsYear 2 (some .int) ∈ WS := tb_9 (List.mem_of_getElem? (i := 70) rfl) rfl
theorem mw_9_71 : Cond.methodLink RX12 534 yX12_drawnAll ∈ WS := tb_9 (List.mem_of_getElem? (i := 71) rfl) rfl
theorem mw_9_73 : Cond.instanceMethod yX12_drawnAll ∈ WS := tb_9 (List.mem_of_getElem? (i := 73) rfl) rfl
theorem mw_9_74 : Cond.code yX12_drawnAll cX12_drawnAll 3 (some .int) ∈ WS := tb_9 (List.mem_of_getElem? (i := 74) rfl) rfl
set_option maxRecDepth 100000 in
theorem inW_X0 : ∀ w ∈ wsX00, w ∈ WS := fun w h => ws_mem ((by decide +kernel : ∀ w ∈ wsX00, w ∈ lw_tbl) w h) ((by decide +kernel : ∀ w ∈ wsX00, goodWord w = true) w h)
set_option maxRecDepth 100000 in
theorem inW_X1 : ∀ w ∈ wsX10, w ∈ WS := fun w h => ws_mem ((by decide +kernel : ∀ w ∈ wsX10, w ∈ lw_tbl) w h) ((by decide +kernel : ∀ w ∈ wsX10, goodWord w = true) w h)
set_option maxRecDepth 100000 in
theorem inW_X2 : ∀ w ∈ wsX20, w ∈ WS := fun w h => ws_mem ((by decide +kernel : ∀ w ∈ wsX20, w ∈ lw_tbl) w h) ((by decide +kernel : ∀ w ∈ wsX20, goodWord w = true) w h)
set_option maxRecDepth 100000 in
theorem inW_X3 : ∀ w ∈ wsX30, w ∈ WS := fun w h => ws_mem ((by decide +kernel : ∀ w ∈ wsX30, w ∈ lw_tbl) w h) ((by decide +kernel : ∀ w ∈ wsX30, goodWord w = true) w h)
set_option maxRecDepth 100000 in
theorem inW_X4 : ∀ w ∈ wsX40, w ∈ WS := fun w h => ws_mem ((by decide +kernel : ∀ w ∈ wsX40, w ∈ lw_tbl) w h) ((by decide +kernel : ∀ w ∈ wsX40, goodWord w = true) w h)
set_option maxRecDepth 100000 in
theorem inW_X5 : ∀ w ∈ wsX50, w ∈ WS := fun w h => ws_mem ((by decide +kernel : ∀ w ∈ wsX50, w ∈ lw_tbl) w h) ((by decide +kernel : ∀ w ∈ wsX50, goodWord w = true) w h)
set_option maxRecDepth 100000 in
theorem inW_X6 : ∀ w ∈ wsX60, w ∈ WS := fun w h => ws_mem ((by decide +kernel : ∀ w ∈ wsX60, w ∈ lw_tbl) w h) ((by decide +kernel : ∀ w ∈ wsX60, goodWord w = true) w h)
set_option maxRecDepth 100000 in
theorem inW_X7 : ∀ w ∈ wsX70, w ∈ WS := fun w h => ws_mem ((by decide +kernel : ∀ w ∈ wsX70, w ∈ lw_tbl) w h) ((by decide +kernel : ∀ w ∈ wsX70, goodWord w = true) w h)
set_option maxRecDepth 100000 in
theorem inW_X8 : ∀ w ∈ wsX80, w ∈ WS := fun w h => ws_mem ((by decide +kernel : ∀ w ∈ wsX80, w ∈ lw_tbl) w h) ((by decide +kernel : ∀ w ∈ wsX80, goodWord w = true) w h)
set_option maxRecDepth 100000 in
theorem inW_X9 : ∀ w ∈ wsX90, w ∈ WS := fun w h => ws_mem ((by decide +kernel : ∀ w ∈ wsX90, w ∈ lw_tbl) w h) ((by decide +kernel : ∀ w ∈ wsX90, goodWord w = true) w h)
set_option maxRecDepth 100000 in
theorem inW_X10 : ∀ w ∈ wsX100, w ∈ WS := fun w h => ws_mem ((by decide +kernel : ∀ w ∈ wsX100, w ∈ lw_tbl) w h) ((by decide +kernel : ∀ w ∈ wsX100, goodWord w = true) w h)
set_option maxRecDepth 100000 in
theorem inW_X11 : ∀ w ∈ wsX110, w ∈ WS := fun w h => ws_mem ((by decide +kernel : ∀ w ∈ wsX110, w ∈ lw_tbl) w h) ((by decide +kernel : ∀ w ∈ wsX110, goodWord w = true) w h)
set_option maxRecDepth 100000 in
theorem inW_X12 : ∀ w ∈ wsX120, w ∈ WS := fun w h => ws_mem ((by decide +kernel : ∀ w ∈ wsX120, w ∈ lw_tbl) w h) ((by decide +kernel : ∀ w ∈ wsX120, goodWord w = true) w h)
