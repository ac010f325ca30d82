theorem mw_1_23 : Cond.methodLink RL 9 yX11_init ∈ WS := tb_1 (td_mem td_1_1 (j := 7) rfl) rfl
theorem mw_1_24 : Cond.instanceMethod yX11_init ∈ WS := tb_1 (td_mem td_1_1 (j := 8) rfl) rfl
theorem mw_1_25 : Cond.code yX11_init cX11_init 1 none ∈ WS := tb_1 (td_mem td_1_1 (j := 9) rfl) rfl
theorem mw_6_38 : Cond.methodLink RL 12 yX12_init ∈ WS := tb_6 (td_mem td_6_2 (j := 6) rfl) rfl
theorem mw_6_39 : Cond.instanceMethod yX12_init ∈ WS := tb_6 (td_mem td_6_2 (j := 7) rfl) rfl
theorem mw_6_40 : Cond.code yX12_init cX12_init 2 none ∈ WS := tb_6 (td_mem td_6_2 (j := 8) rfl) rfl
