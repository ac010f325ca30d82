theorem mw_1_23 : Cond.methodLink RL 9 yX11_init ∈ WS := tb_1 (List.mem_of_getElem? (i := 23) rfl) rfl
theorem mw_1_24 : Cond.instanceMethod yX11_init ∈ WS := tb_1 (List.mem_of_getElem? (i := 24) rfl) rfl
theorem mw_1_25 : Cond.code yX11_init cX11_init 1 none ∈ WS := tb_1 (List.mem_of_getElem? (i := 25) rfl) rfl
theorem mw_6_38 : Cond.methodLink RL 12 yX12_init ∈ WS := tb_6 (List.mem_of_getElem? (i := 38) rfl) rfl
theorem mw_6_39 : Cond.instanceMethod yX12_init ∈ WS := tb_6 (List.mem_of_getElem? (i := 39) rfl) rfl
theorem mw_6_40 : Cond.code yX12_init cX12_init 2 none ∈ WS := tb_6 (List.mem_of_getElem? (i := 40) rfl) rfl
