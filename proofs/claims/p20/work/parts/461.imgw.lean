theorem mw_s92 : Cond.selects RX11 yX11_netTaken yX11_netTaken ∈ WS := tb_s (y := ⟨"LockRail", "netTaken", "(LLockRail$Rail;I)I"⟩) (n := 8) (List.mem_of_getElem? (i := 92) (by decide +kernel))
theorem mw_5_144 : Cond.methodLink RX11 313 yX11_isImage ∈ WS := tb_5 (td_mem td_5_9 (j := 0) rfl) rfl
theorem mw_5_145 : Cond.static yX11_isImage ∈ WS := tb_5 (td_mem td_5_9 (j := 1) rfl) rfl
theorem mw_5_146 : Cond.code yX11_isImage cX11_isImage 1 (some .boolean) ∈ WS := tb_5 (td_mem td_5_9 (j := 2) rfl) rfl
theorem mw_5_147 : Cond.methodLink RX11 316 yX11_netTaken ∈ WS := tb_5 (td_mem td_5_9 (j := 3) rfl) rfl
theorem mw_5_149 : Cond.instanceMethod yX11_netTaken ∈ WS := tb_5 (td_mem td_5_9 (j := 5) rfl) rfl
theorem mw_5_150 : Cond.code yX11_netTaken cX11_netTaken 4 (some .int) ∈ WS := tb_5 (td_mem td_5_9 (j := 6) rfl) rfl
