abbrev vsX12_line : List Cond := Cond.code yX12_line cX12_line 3 none :: WS
abbrev rmX12_line : Room := { frames := 6, cells := 0, slots := 0, locals := 135 }
set_option maxHeartbeats 4000000 in
set_option maxRecDepth 100000 in
theorem k_X12_line (l : Launch) (D : va_G) (C : Nat → ClassId) (sz : Nat) (aM : Nat → Nat)  (ms : Nat → Int32) (mw : Nat → Int64) (ma : Nat → Nat → Int32) (ml : Nat → Nat → Int64)  {post : (Nat → Int32) → (Nat → Int64) → (Nat → Nat → Int32) → Prop} (h : P_X12_line ms mw ma post) : Met l yX12_line vsX12_line rmX12_line (cPre D C [.ref (aM 0)] sz (wM aM C ms mw ma ml)) (cQv D (fun (u : (Nat → Int32) × (Nat → Int64) × (Nat → Nat → Int32)) => post u.1 u.2.1 u.2.2) (fun u => wM aM C u.1 u.2.1 u.2.2 ml) (va_A (List.flatten (wM aM C ms mw ma ml)) sz)) 0 0 (va_A (List.flatten (wM aM C ms mw ma ml)) sz) := by
  refine cStart (QA := fun A => cQv D (fun (u : (Nat → Int32) × (Nat → Int64) × (Nat → Nat → Int32)) => post u.1 u.2.1 u.2.2) (fun u => wM aM C u.1 u.2.1 u.2.2 ml) A) (cc := cX12_line) (maxL := 3) (ret := none) (by decide) (Nat.le_of_ble_eq_true rfl) ?_
  intro p e s m args below meth c A ls hx hb hr hml hown hw hlocks hname hK hN hA hP hD hS hl
  generalize hQ : MQ below _ args s 0 0 A = Q
  have hl : lv_has ls 3 [(0, .ref (aM 0))] := hl
  obtain ⟨H, hH⟩ : ∃ H, H = s.heap := ⟨_, rfl⟩
  obtain ⟨locs, hlo⟩ : ∃ z : List Loc, z = [] := ⟨_, rfl⟩
  have hP : va_P D vwCl (List.flatten (wM aM C ms mw ma ml)) H := by rw [hH]; exact hP
  have hS : va_S A s.heap H locs := by rw [hH, hlo]; exact hS
  rw [show W p l e rmX12_line s m args below meth c s.heap [] 0 0 Q (F0 m 0 ls []) = W p l e rmX12_line s m args below meth c H locs 0 0 Q (F0 m 0 ls []) from by rw [hH, hlo]]
  have N122 : ∀ (x2_ : Int32) (ms : Nat → Int32) (mw : Nat → Int64) (ma : Nat → Nat → Int32) (H : Heap) (locs : List Loc) (ls : Array Slot), P_X12_line_122  post  x2_ ms mw ma → va_P D vwCl (List.flatten (wM aM C ms mw ma ml)) H → va_D A (List.flatten (wM aM C ms mw ma ml)) → va_S A s.heap H locs → lv_has ls 3 [(0, .ref (aM 0)), (2, .int x2_)] → W p l e rmX12_line s m args below meth c H locs 0 0 Q (F0 m 122 ls []) := by
    intro x2_ ms mw ma H locs ls h hP hD hS hl
    refine lv_aload_n hx hb dX12_line_122 rfl (lv_at hl 0 rfl) ?_
    refine va_get (D := D) (ci := 12) (v := .int (ms 6)) (C := RX12) (T := TX12) (N := 51) hx hb hw inW_X12 hown hK hP 0 rfl rfl 12 (by decide) (hw _ mw_6_55) (fun _ h9 => h9) rfl dX12_line_123 ?_
    refine lv_if_eq (tgt := 130) hx hb dX12_line_126 (by decide) (fun c1 => ?_) (fun c1 => ?_)
    · have h := h.1 c1
      refine lv_aload_n hx hb dX12_line_130 rfl (lv_at hl 0 rfl) ?_
      refine cGoAV (cRunAV (As := []) (rest := []) ⟨hx, hb, hml, hown, hw⟩ hK hN hP hD (k_X12_next l D C _ aM  ms mw ma ml  h) (cwV 0 hw (goodV mw_7_7 mw_7_9 mw_s111 mw_1_13 mw_7_10) rfl rfl rfl (by decide +kernel) ⟨Nat.le_of_ble_eq_true rfl, Nat.le_of_ble_eq_true rfl⟩) rfl rfl rfl hl.1 rfl (Nat.le_of_ble_eq_true rfl) dX12_line_131 ⟨Nat.zero_le _, Nat.zero_le _⟩) hP hD hS hA (fun u H locs h hP hD hS => ?_)
      obtain ⟨ms_2, mw_3⟩ := u
      have hP : va_P D vwCl (List.flatten (wM aM C ms_2 mw_3 ma ml)) H := hP
      have hD : va_D A (List.flatten (wM aM C ms_2 mw_3 ma ml)) := hD
      refine lv_iload_n hx hb dX12_line_134 rfl (lv_at hl 1 rfl) ?_
      by_cases c4_0 : x2_ = 0
      · refine lv_tableIn (tgt := 160) hx hb dX12_line_135 (by rw [c4_0] <;> decide) (by rw [c4_0] <;> decide) (by rw [c4_0] <;> rfl) (by decide) ?_
        have h := h.1 c4_0
        refine lv_aload_n hx hb dX12_line_160 rfl (lv_at hl 0 rfl) ?_
        refine cGoAV (cRunAV (As := []) (rest := []) ⟨hx, hb, hml, hown, hw⟩ hK hN hP hD (k_X12_lampLine l D C _ aM  ms_2 mw_3 ma ml  h) (cwV 0 hw (goodV mw_7_78 mw_7_80 mw_s124 mw_1_13 mw_7_81) rfl rfl rfl (by decide +kernel) ⟨Nat.le_of_ble_eq_true rfl, Nat.le_of_ble_eq_true rfl⟩) rfl rfl rfl hl.1 rfl (Nat.le_of_ble_eq_true rfl) dX12_line_161 ⟨Nat.zero_le _, Nat.zero_le _⟩) hP hD hS hA (fun u H locs h hP hD hS => ?_)
        obtain ⟨ms_5, mw_6, ma_7⟩ := u
        have hP : va_P D vwCl (List.flatten (wM aM C ms_5 mw_6 ma_7 ml)) H := hP
        have hD : va_D A (List.flatten (wM aM C ms_5 mw_6 ma_7 ml)) := hD
        refine lv_goto (tgt := 185) hx hb dX12_line_164 (by decide) ?_
        rw [← hQ]
        exact cRetV (ms_5, mw_6, ma_7) hx hb hr hlocks hS hP hD h dX12_line_185
      by_cases c4_1 : x2_ = 1
      · refine lv_tableIn (tgt := 167) hx hb dX12_line_135 (by rw [c4_1] <;> decide) (by rw [c4_1] <;> decide) (by rw [c4_1] <;> rfl) (by decide) ?_
        have h := h.2.1 c4_1
        refine lv_aload_n hx hb dX12_line_167 rfl (lv_at hl 0 rfl) ?_
        refine cGoAV (cRunAV (As := []) (rest := []) ⟨hx, hb, hml, hown, hw⟩ hK hN hP hD (k_X12_lockLine l D C _ aM  ms_2 mw_3 ma ml  h) (cwV 0 hw (goodV mw_7_84 mw_7_86 mw_s125 mw_1_13 mw_7_87) rfl rfl rfl (by decide +kernel) ⟨Nat.le_of_ble_eq_true rfl, Nat.le_of_ble_eq_true rfl⟩) rfl rfl rfl hl.1 rfl (Nat.le_of_ble_eq_true rfl) dX12_line_168 ⟨Nat.zero_le _, Nat.zero_le _⟩) hP hD hS hA (fun u H locs h hP hD hS => ?_)
        obtain ⟨ms_8, mw_9, ma_10⟩ := u
        have hP : va_P D vwCl (List.flatten (wM aM C ms_8 mw_9 ma_10 ml)) H := hP
        have hD : va_D A (List.flatten (wM aM C ms_8 mw_9 ma_10 ml)) := hD
        refine lv_goto (tgt := 185) hx hb dX12_line_171 (by decide) ?_
        rw [← hQ]
        exact cRetV (ms_8, mw_9, ma_10) hx hb hr hlocks hS hP hD h dX12_line_185
      by_cases c4_2 : x2_ = 2
      · refine lv_tableIn (tgt := 174) hx hb dX12_line_135 (by rw [c4_2] <;> decide) (by rw [c4_2] <;> decide) (by rw [c4_2] <;> rfl) (by decide) ?_
        have h := h.2.2.1 c4_2
        refine lv_aload_n hx hb dX12_line_174 rfl (lv_at hl 0 rfl) ?_
        refine cGoAV (cRunAV (As := []) (rest := []) ⟨hx, hb, hml, hown, hw⟩ hK hN hP hD (k_X12_bikeLine l D C _ aM  ms_2 mw_3 ma ml  h) (cwV 0 hw (goodV mw_7_89 mw_7_91 mw_s126 mw_1_13 mw_7_92) rfl rfl rfl (by decide +kernel) ⟨Nat.le_of_ble_eq_true rfl, Nat.le_of_ble_eq_true rfl⟩) rfl rfl rfl hl.1 rfl (Nat.le_of_ble_eq_true rfl) dX12_line_175 ⟨Nat.zero_le _, Nat.zero_le _⟩) hP hD hS hA (fun u H locs h hP hD hS => ?_)
        obtain ⟨ms_11, mw_12, ma_13⟩ := u
        have hP : va_P D vwCl (List.flatten (wM aM C ms_11 mw_12 ma_13 ml)) H := hP
        have hD : va_D A (List.flatten (wM aM C ms_11 mw_12 ma_13 ml)) := hD
        refine lv_goto (tgt := 185) hx hb dX12_line_178 (by decide) ?_
        rw [← hQ]
        exact cRetV (ms_11, mw_12, ma_13) hx hb hr hlocks hS hP hD h dX12_line_185
      refine lv_tableOut (tgt := 181) hx hb dX12_line_135 (sw_out3 c4_0 c4_1 c4_2) (by decide) ?_
      have h := h.2.2.2 c4_0 c4_1 c4_2
      refine lv_aload_n hx hb dX12_line_181 rfl (lv_at hl 0 rfl) ?_
      refine cGoAV (cRunAV (As := []) (rest := []) ⟨hx, hb, hml, hown, hw⟩ hK hN hP hD (k_X12_thiefLine l D C _ aM  ms_2 mw_3 ma ml  h) (cwV 0 hw (goodV mw_7_96 mw_7_98 mw_s127 mw_1_13 mw_7_99) rfl rfl rfl (by decide +kernel) ⟨Nat.le_of_ble_eq_true rfl, Nat.le_of_ble_eq_true rfl⟩) rfl rfl rfl hl.1 rfl (Nat.le_of_ble_eq_true rfl) dX12_line_182 ⟨Nat.zero_le _, Nat.zero_le _⟩) hP hD hS hA (fun u H locs h hP hD hS => ?_)
      obtain ⟨ms_14, mw_15, ma_16⟩ := u
      have hP : va_P D vwCl (List.flatten (wM aM C ms_14 mw_15 ma_16 ml)) H := hP
      have hD : va_D A (List.flatten (wM aM C ms_14 mw_15 ma_16 ml)) := hD
      rw [← hQ]
      exact cRetV (ms_14, mw_15, ma_16) hx hb hr hlocks hS hP hD h dX12_line_185
    · have h := h.2 c1
      rw [← hQ]
      exact cRetV (ms, mw, ma) hx hb hr hlocks hS hP hD h dX12_line_129
  have N109 : ∀ (x2_ : Int32) (ms : Nat → Int32) (mw : Nat → Int64) (ma : Nat → Nat → Int32) (H : Heap) (locs : List Loc) (ls : Array Slot), P_X12_line_109  post  x2_ ms mw ma → va_P D vwCl (List.flatten (wM aM C ms mw ma ml)) H → va_D A (List.flatten (wM aM C ms mw ma ml)) → va_S A s.heap H locs → lv_has ls 3 [(0, .ref (aM 0)), (2, .int x2_)] → W p l e rmX12_line s m args below meth c H locs 0 0 Q (F0 m 109 ls []) := by
    intro x2_ ms mw ma H locs ls h hP hD hS hl
    refine lv_aload_n hx hb dX12_line_109 rfl (lv_at hl 0 rfl) ?_
    refine lv_iload_n hx hb dX12_line_110 rfl (lv_at hl 1 rfl) ?_
    refine cGoAI (cRunAV (As := [.int x2_]) (rest := []) ⟨hx, hb, hml, hown, hw⟩ hK hN hP hD (k_X12_isFull l D C _ aM  ms mw ma ml x2_ h) (cwV 1 hw (goodV mw_7_74 mw_7_76 mw_s123 mw_1_13 mw_7_77) rfl rfl rfl (by decide +kernel) ⟨Nat.le_of_ble_eq_true rfl, Nat.le_of_ble_eq_true rfl⟩) rfl rfl rfl hl.1 rfl (Nat.le_of_ble_eq_true rfl) dX12_line_111 ⟨Nat.zero_le _, Nat.zero_le _⟩) hP hD hS hA (fun r17 u H locs h hP hD hS => ?_)
    have hP : va_P D vwCl (List.flatten (wM aM C ms mw ma ml)) H := hP
    have hD : va_D A (List.flatten (wM aM C ms mw ma ml)) := hD
    refine lv_if_eq (tgt := 122) hx hb dX12_line_114 (by decide) (fun c18 => ?_) (fun c18 => ?_)
    · have h := h.1 c18
      exact N122 x2_ ms mw ma _ _ _ h hP hD hS (lv_sub hl [0, 1] rfl)
    · have h := h.2 c18
      refine lv_aload_n hx hb dX12_line_117 rfl (lv_at hl 0 rfl) ?_
      refine lv_iconst (v := 3) hx hb dX12_line_118 (by decide) ?_
      refine cGoAV (cRunAV (As := [.int 3]) (rest := []) ⟨hx, hb, hml, hown, hw⟩ hK hN hP hD (k_X12_fails l D C _ aM  ms mw ma ml 3 h) (cwV 1 hw (goodV mw_7_41 mw_7_43 mw_s118 mw_1_13 mw_7_44) rfl rfl rfl (by decide +kernel) ⟨Nat.le_of_ble_eq_true rfl, Nat.le_of_ble_eq_true rfl⟩) rfl rfl rfl hl.1 rfl (Nat.le_of_ble_eq_true rfl) dX12_line_119 ⟨Nat.zero_le _, Nat.zero_le _⟩) hP hD hS hA (fun ms_19 H locs h hP hD hS => ?_)
      have hP : va_P D vwCl (List.flatten (wM aM C ms_19 mw ma ml)) H := hP
      have hD : va_D A (List.flatten (wM aM C ms_19 mw ma ml)) := hD
      exact N122 x2_ ms_19 mw ma _ _ _ h hP hD hS (lv_sub hl [0, 1] rfl)
  have N98 : ∀ (k0_ : Int32) (ms : Nat → Int32) (mw : Nat → Int64) (ma : Nat → Nat → Int32) (H : Heap) (locs : List Loc) (ls : Array Slot), P_X12_line_98  post  k0_ ms mw ma → va_P D vwCl (List.flatten (wM aM C ms mw ma ml)) H → va_D A (List.flatten (wM aM C ms mw ma ml)) → va_S A s.heap H locs → lv_has ls 3 [(0, .ref (aM 0))] → W p l e rmX12_line s m args below meth c H locs 0 0 Q (F0 m 98 ls [.int k0_]) := by
    intro k0_ ms mw ma H locs ls h hP hD hS hl
    refine lv_istore_n (lv' := [(2, .int k0_), (0, .ref (aM 0))]) hx hb dX12_line_98 rfl hl (by decide) rfl (fun ls hl => ?_)
    refine lv_iload_n hx hb dX12_line_99 rfl (lv_at hl 0 rfl) ?_
    refine lv_iconst (v := (-1)) hx hb dX12_line_100 (by decide) ?_
    refine lv_icmp_ne (tgt := 109) hx hb dX12_line_101 (by decide) (fun c20 => ?_) (fun c20 => ?_)
    · have h := h.1 c20
      exact N109 k0_ ms mw ma _ _ _ h hP hD hS (lv_sub hl [1, 0] rfl)
    · have h := h.2 c20
      refine lv_aload_n hx hb dX12_line_104 rfl (lv_at hl 1 rfl) ?_
      refine lv_iconst (v := 1) hx hb dX12_line_105 (by decide) ?_
      refine cGoAV (cRunAV (As := [.int 1]) (rest := []) ⟨hx, hb, hml, hown, hw⟩ hK hN hP hD (k_X12_fails l D C _ aM  ms mw ma ml 1 h) (cwV 1 hw (goodV mw_7_41 mw_7_43 mw_s118 mw_1_13 mw_7_44) rfl rfl rfl (by decide +kernel) ⟨Nat.le_of_ble_eq_true rfl, Nat.le_of_ble_eq_true rfl⟩) rfl rfl rfl hl.1 rfl (Nat.le_of_ble_eq_true rfl) dX12_line_106 ⟨Nat.zero_le _, Nat.zero_le _⟩) hP hD hS hA (fun ms_21 H locs h hP hD hS => ?_)
      have hP : va_P D vwCl (List.flatten (wM aM C ms_21 mw ma ml)) H := hP
      have hD : va_D A (List.flatten (wM aM C ms_21 mw ma ml)) := hD
      exact N109 k0_ ms_21 mw ma _ _ _ h hP hD hS (lv_sub hl [1, 0] rfl)
  have N29 : ∀ (k0_ : Int32) (ms : Nat → Int32) (mw : Nat → Int64) (ma : Nat → Nat → Int32) (H : Heap) (locs : List Loc) (ls : Array Slot), P_X12_line_29  post  k0_ ms mw ma → va_P D vwCl (List.flatten (wM aM C ms mw ma ml)) H → va_D A (List.flatten (wM aM C ms mw ma ml)) → va_S A s.heap H locs → lv_has ls 3 [(0, .ref (aM 0))] → W p l e rmX12_line s m args below meth c H locs 0 0 Q (F0 m 29 ls [.int k0_]) := by
    intro k0_ ms mw ma H locs ls h hP hD hS hl
    refine lv_istore_n (lv' := [(1, .int k0_), (0, .ref (aM 0))]) hx hb dX12_line_29 rfl hl (by decide) rfl (fun ls hl => ?_)
    refine lv_iload_n hx hb dX12_line_30 rfl (lv_at hl 0 rfl) ?_
    refine lv_iconst (v := (-1)) hx hb dX12_line_31 (by decide) ?_
    refine lv_icmp_eq (tgt := 41) hx hb dX12_line_32 (by decide) (fun c22 => ?_) (fun c22 => ?_)
    · have h := h.1 c22
      refine lv_aload_n hx hb dX12_line_41 rfl (lv_at hl 1 rfl) ?_
      refine lv_ldc2 (v := 237292) hx hb hown (hw _ mw_7_70) dX12_line_42 ?_
      refine cGoAI (cRunAV (As := [.long 237292]) (rest := []) ⟨hx, hb, hml, hown, hw⟩ hK hN hP hD (k_X12_is l D C _ aM  ms mw ma ml 237292 h) (cwV 1 hw (goodV mw_7_37 mw_7_39 mw_s117 mw_1_13 mw_7_40) rfl rfl rfl (by decide +kernel) ⟨Nat.le_of_ble_eq_true rfl, Nat.le_of_ble_eq_true rfl⟩) rfl rfl rfl hl.1 rfl (Nat.le_of_ble_eq_true rfl) dX12_line_45 ⟨Nat.zero_le _, Nat.zero_le _⟩) hP hD hS hA (fun r23 u H locs h hP hD hS => ?_)
      have hP : va_P D vwCl (List.flatten (wM aM C ms mw ma ml)) H := hP
      have hD : va_D A (List.flatten (wM aM C ms mw ma ml)) := hD
      refine lv_if_eq (tgt := 55) hx hb dX12_line_48 (by decide) (fun c24 => ?_) (fun c24 => ?_)
      · have h := h.1 c24
        refine lv_aload_n hx hb dX12_line_55 rfl (lv_at hl 1 rfl) ?_
        refine lv_ldc2 (v := 247223) hx hb hown (hw _ mw_7_71) dX12_line_56 ?_
        refine cGoAI (cRunAV (As := [.long 247223]) (rest := []) ⟨hx, hb, hml, hown, hw⟩ hK hN hP hD (k_X12_is l D C _ aM  ms mw ma ml 247223 h) (cwV 1 hw (goodV mw_7_37 mw_7_39 mw_s117 mw_1_13 mw_7_40) rfl rfl rfl (by decide +kernel) ⟨Nat.le_of_ble_eq_true rfl, Nat.le_of_ble_eq_true rfl⟩) rfl rfl rfl hl.1 rfl (Nat.le_of_ble_eq_true rfl) dX12_line_59 ⟨Nat.zero_le _, Nat.zero_le _⟩) hP hD hS hA (fun r25 u H locs h hP hD hS => ?_)
        have hP : va_P D vwCl (List.flatten (wM aM C ms mw ma ml)) H := hP
        have hD : va_D A (List.flatten (wM aM C ms mw ma ml)) := hD
        refine lv_if_eq (tgt := 69) hx hb dX12_line_62 (by decide) (fun c26 => ?_) (fun c26 => ?_)
        · have h := h.1 c26
          refine lv_aload_n hx hb dX12_line_69 rfl (lv_at hl 1 rfl) ?_
          refine lv_ldc2 (v := 46229) hx hb hown (hw _ mw_7_72) dX12_line_70 ?_
          refine cGoAI (cRunAV (As := [.long 46229]) (rest := []) ⟨hx, hb, hml, hown, hw⟩ hK hN hP hD (k_X12_is l D C _ aM  ms mw ma ml 46229 h) (cwV 1 hw (goodV mw_7_37 mw_7_39 mw_s117 mw_1_13 mw_7_40) rfl rfl rfl (by decide +kernel) ⟨Nat.le_of_ble_eq_true rfl, Nat.le_of_ble_eq_true rfl⟩) rfl rfl rfl hl.1 rfl (Nat.le_of_ble_eq_true rfl) dX12_line_73 ⟨Nat.zero_le _, Nat.zero_le _⟩) hP hD hS hA (fun r27 u H locs h hP hD hS => ?_)
          have hP : va_P D vwCl (List.flatten (wM aM C ms mw ma ml)) H := hP
          have hD : va_D A (List.flatten (wM aM C ms mw ma ml)) := hD
          refine lv_if_eq (tgt := 83) hx hb dX12_line_76 (by decide) (fun c28 => ?_) (fun c28 => ?_)
          · have h := h.1 c28
            refine lv_aload_n hx hb dX12_line_83 rfl (lv_at hl 1 rfl) ?_
            refine lv_ldc2 (v := 10792986) hx hb hown (hw _ mw_7_73) dX12_line_84 ?_
            refine cGoAI (cRunAV (As := [.long 10792986]) (rest := []) ⟨hx, hb, hml, hown, hw⟩ hK hN hP hD (k_X12_is l D C _ aM  ms mw ma ml 10792986 h) (cwV 1 hw (goodV mw_7_37 mw_7_39 mw_s117 mw_1_13 mw_7_40) rfl rfl rfl (by decide +kernel) ⟨Nat.le_of_ble_eq_true rfl, Nat.le_of_ble_eq_true rfl⟩) rfl rfl rfl hl.1 rfl (Nat.le_of_ble_eq_true rfl) dX12_line_87 ⟨Nat.zero_le _, Nat.zero_le _⟩) hP hD hS hA (fun r29 u H locs h hP hD hS => ?_)
            have hP : va_P D vwCl (List.flatten (wM aM C ms mw ma ml)) H := hP
            have hD : va_D A (List.flatten (wM aM C ms mw ma ml)) := hD
            refine lv_if_eq (tgt := 97) hx hb dX12_line_90 (by decide) (fun c30 => ?_) (fun c30 => ?_)
            · have h := h.1 c30
              refine lv_iconst (v := (-1)) hx hb dX12_line_97 (by decide) ?_
              exact N98 (-1) ms mw ma _ _ _ h hP hD hS (lv_sub hl [1] rfl)
            · have h := h.2 c30
              refine lv_iconst (v := 3) hx hb dX12_line_93 (by decide) ?_
              refine lv_goto (tgt := 98) hx hb dX12_line_94 (by decide) ?_
              exact N98 3 ms mw ma _ _ _ h hP hD hS (lv_sub hl [1] rfl)
          · have h := h.2 c28
            refine lv_iconst (v := 2) hx hb dX12_line_79 (by decide) ?_
            refine lv_goto (tgt := 98) hx hb dX12_line_80 (by decide) ?_
            exact N98 2 ms mw ma _ _ _ h hP hD hS (lv_sub hl [1] rfl)
        · have h := h.2 c26
          refine lv_iconst (v := 1) hx hb dX12_line_65 (by decide) ?_
          refine lv_goto (tgt := 98) hx hb dX12_line_66 (by decide) ?_
          exact N98 1 ms mw ma _ _ _ h hP hD hS (lv_sub hl [1] rfl)
      · have h := h.2 c24
        refine lv_iconst (v := 0) hx hb dX12_line_51 (by decide) ?_
        refine lv_goto (tgt := 98) hx hb dX12_line_52 (by decide) ?_
        exact N98 0 ms mw ma _ _ _ h hP hD hS (lv_sub hl [1] rfl)
    · have h := h.2 c22
      refine lv_aload_n hx hb dX12_line_35 rfl (lv_at hl 1 rfl) ?_
      refine lv_iload_n hx hb dX12_line_36 rfl (lv_at hl 0 rfl) ?_
      refine cGoAV (cRunAV (As := [.int k0_]) (rest := []) ⟨hx, hb, hml, hown, hw⟩ hK hN hP hD (k_X12_onceLine l D C _ aM  ms mw ma ml k0_ h) (cwV 1 hw (goodV mw_7_61 mw_7_63 mw_s122 mw_1_13 mw_7_64) rfl rfl rfl (by decide +kernel) ⟨Nat.le_of_ble_eq_true rfl, Nat.le_of_ble_eq_true rfl⟩) rfl rfl rfl hl.1 rfl (Nat.le_of_ble_eq_true rfl) dX12_line_37 ⟨Nat.zero_le _, Nat.zero_le _⟩) hP hD hS hA (fun u H locs h hP hD hS => ?_)
      obtain ⟨ms_31, mw_32, ma_33⟩ := u
      have hP : va_P D vwCl (List.flatten (wM aM C ms_31 mw_32 ma_33 ml)) H := hP
      have hD : va_D A (List.flatten (wM aM C ms_31 mw_32 ma_33 ml)) := hD
      rw [← hQ]
      exact cRetV (ms_31, mw_32, ma_33) hx hb hr hlocks hS hP hD h dX12_line_40
  refine lv_aload_n hx hb dX12_line_0 rfl (lv_at hl 0 rfl) ?_
  refine lv_ldc2 (v := 257105) hx hb hown (hw _ mw_7_59) dX12_line_1 ?_
  refine cGoAI (cRunAV (As := [.long 257105]) (rest := []) ⟨hx, hb, hml, hown, hw⟩ hK hN hP hD (k_X12_is l D C _ aM  ms mw ma ml 257105 h) (cwV 1 hw (goodV mw_7_37 mw_7_39 mw_s117 mw_1_13 mw_7_40) rfl rfl rfl (by decide +kernel) ⟨Nat.le_of_ble_eq_true rfl, Nat.le_of_ble_eq_true rfl⟩) rfl rfl rfl hl.1 rfl (Nat.le_of_ble_eq_true rfl) dX12_line_4 ⟨Nat.zero_le _, Nat.zero_le _⟩) hP hD hS hA (fun r34 u H locs h hP hD hS => ?_)
  have hP : va_P D vwCl (List.flatten (wM aM C ms mw ma ml)) H := hP
  have hD : va_D A (List.flatten (wM aM C ms mw ma ml)) := hD
  refine lv_if_eq (tgt := 14) hx hb dX12_line_7 (by decide) (fun c35 => ?_) (fun c35 => ?_)
  · have h := h.1 c35
    refine lv_aload_n hx hb dX12_line_14 rfl (lv_at hl 0 rfl) ?_
    refine lv_ldc2 (v := 12257495) hx hb hown (hw _ mw_7_60) dX12_line_15 ?_
    refine cGoAI (cRunAV (As := [.long 12257495]) (rest := []) ⟨hx, hb, hml, hown, hw⟩ hK hN hP hD (k_X12_is l D C _ aM  ms mw ma ml 12257495 h) (cwV 1 hw (goodV mw_7_37 mw_7_39 mw_s117 mw_1_13 mw_7_40) rfl rfl rfl (by decide +kernel) ⟨Nat.le_of_ble_eq_true rfl, Nat.le_of_ble_eq_true rfl⟩) rfl rfl rfl hl.1 rfl (Nat.le_of_ble_eq_true rfl) dX12_line_18 ⟨Nat.zero_le _, Nat.zero_le _⟩) hP hD hS hA (fun r36 u H locs h hP hD hS => ?_)
    have hP : va_P D vwCl (List.flatten (wM aM C ms mw ma ml)) H := hP
    have hD : va_D A (List.flatten (wM aM C ms mw ma ml)) := hD
    refine lv_if_eq (tgt := 28) hx hb dX12_line_21 (by decide) (fun c37 => ?_) (fun c37 => ?_)
    · have h := h.1 c37
      refine lv_iconst (v := (-1)) hx hb dX12_line_28 (by decide) ?_
      exact N29 (-1) ms mw ma _ _ _ h hP hD hS (lv_sub hl [0] rfl)
    · have h := h.2 c37
      refine lv_iconst (v := 1) hx hb dX12_line_24 (by decide) ?_
      refine lv_goto (tgt := 29) hx hb dX12_line_25 (by decide) ?_
      exact N29 1 ms mw ma _ _ _ h hP hD hS (lv_sub hl [0] rfl)
  · have h := h.2 c35
    refine lv_iconst (v := 0) hx hb dX12_line_10 (by decide) ?_
    refine lv_goto (tgt := 29) hx hb dX12_line_11 (by decide) ?_
    exact N29 0 ms mw ma _ _ _ h hP hD hS (lv_sub hl [0] rfl)
abbrev vsX12_rail : List Cond := Cond.code yX12_rail cX12_rail 1 (some .int) :: WS
abbrev rmX12_rail : Room := { frames := 7, cells := 0, slots := 0, locals := 157 }
set_option maxHeartbeats 4000000 in
set_option maxRecDepth 100000 in
theorem k_X12_rail (l : Launch) (D : va_G) (C : Nat → ClassId) (sz : Nat) (aM : Nat → Nat)  (ms : Nat → Int32) (mw : Nat → Int64) (ma : Nat → Nat → Int32) (ml : Nat → Nat → Int64)  {post : Int32 → (Nat → Int32) → (Nat → Int64) → (Nat → Nat → Int32) → Prop} (h : P_X12_rail ms mw ma post) : Met l yX12_rail vsX12_rail rmX12_rail (cPre D C [.ref (aM 0)] sz (wM aM C ms mw ma ml)) (cQi D (fun (r : Int32) (u : (Nat → Int32) × (Nat → Int64) × (Nat → Nat → Int32)) => post r u.1 u.2.1 u.2.2) (fun u => wM aM C u.1 u.2.1 u.2.2 ml) (va_A (List.flatten (wM aM C ms mw ma ml)) sz)) 0 0 (va_A (List.flatten (wM aM C ms mw ma ml)) sz) := by
  refine cStart (QA := fun A => cQi D (fun (r : Int32) (u : (Nat → Int32) × (Nat → Int64) × (Nat → Nat → Int32)) => post r u.1 u.2.1 u.2.2) (fun u => wM aM C u.1 u.2.1 u.2.2 ml) A) (cc := cX12_rail) (maxL := 1) (ret := (some .int)) (by decide) (Nat.le_of_ble_eq_true rfl) ?_
  intro p e s m args below meth c A ls hx hb hr hml hown hw hlocks hname hK hN hA hP hD hS hl
  generalize hQ : MQ below _ args s 0 0 A = Q
  have hl : lv_has ls 1 [(0, .ref (aM 0))] := hl
  obtain ⟨H, hH⟩ : ∃ H, H = s.heap := ⟨_, rfl⟩
  obtain ⟨locs, hlo⟩ : ∃ z : List Loc, z = [] := ⟨_, rfl⟩
  have hP : va_P D vwCl (List.flatten (wM aM C ms mw ma ml)) H := by rw [hH]; exact hP
  have hS : va_S A s.heap H locs := by rw [hH, hlo]; exact hS
  rw [show W p l e rmX12_rail s m args below meth c s.heap [] 0 0 Q (F0 m 0 ls []) = W p l e rmX12_rail s m args below meth c H locs 0 0 Q (F0 m 0 ls []) from by rw [hH, hlo]]
  have N71 : ∀ (ms : Nat → Int32) (mw : Nat → Int64) (ma : Nat → Nat → Int32) (H : Heap) (locs : List Loc) (ls : Array Slot), P_X12_rail_71  post  ms mw ma → va_P D vwCl (List.flatten (wM aM C ms mw ma ml)) H → va_D A (List.flatten (wM aM C ms mw ma ml)) → va_S A s.heap H locs → lv_has ls 1 [(0, .ref (aM 0))] → W p l e rmX12_rail s m args below meth c H locs 0 0 Q (F0 m 71 ls []) := by
    intro ms mw ma H locs ls h hP hD hS hl
    refine lv_aload_n hx hb dX12_rail_71 rfl (lv_at hl 0 rfl) ?_
    refine cGoAV (cRunAV (As := []) (rest := []) ⟨hx, hb, hml, hown, hw⟩ hK hN hP hD (k_X12_isOver l D C _ aM  ms mw ma ml  h) (cwV 0 hw (goodV mw_7_110 mw_7_112 mw_s129 mw_1_13 mw_7_113) rfl rfl rfl (by decide +kernel) ⟨Nat.le_of_ble_eq_true rfl, Nat.le_of_ble_eq_true rfl⟩) rfl rfl rfl hl.1 rfl (Nat.le_of_ble_eq_true rfl) dX12_rail_72 ⟨Nat.zero_le _, Nat.zero_le _⟩) hP hD hS hA (fun ms_5 H locs h hP hD hS => ?_)
    have hP : va_P D vwCl (List.flatten (wM aM C ms_5 mw ma ml)) H := hP
    have hD : va_D A (List.flatten (wM aM C ms_5 mw ma ml)) := hD
    refine lv_aload_n hx hb dX12_rail_75 rfl (lv_at hl 0 rfl) ?_
    refine va_get (D := D) (ci := 12) (v := .int (ms_5 6)) (C := RX12) (T := TX12) (N := 51) hx hb hw inW_X12 hown hK hP 0 rfl rfl 12 (by decide) (hw _ mw_6_55) (fun _ h9 => h9) rfl dX12_rail_76 ?_
    refine lv_if_eq (tgt := 85) hx hb dX12_rail_79 (by decide) (fun c6 => ?_) (fun c6 => ?_)
    · have h := h.1 c6
      refine lv_aload_n hx hb dX12_rail_85 rfl (lv_at hl 0 rfl) ?_
      refine lv_iconst (v := 4) hx hb dX12_rail_86 (by decide) ?_
      refine lv_iconst (v := 0) hx hb dX12_rail_87 (by decide) ?_
      refine cGoAV (cRunAV (As := [.int 4, .int 0]) (rest := []) ⟨hx, hb, hml, hown, hw⟩ hK hN hP hD (k_X12_copyRail l D C _ aM  ms_5 mw ma ml 4 0 h) (cwV 2 hw (goodV mw_7_114 mw_7_116 mw_s130 mw_1_13 mw_7_117) rfl rfl rfl (by decide +kernel) ⟨Nat.le_of_ble_eq_true rfl, Nat.le_of_ble_eq_true rfl⟩) rfl rfl rfl hl.1 rfl (Nat.le_of_ble_eq_true rfl) dX12_rail_88 ⟨Nat.zero_le _, Nat.zero_le _⟩) hP hD hS hA (fun ma_7 H locs h hP hD hS => ?_)
      have hP : va_P D vwCl (List.flatten (wM aM C ms_5 mw ma_7 ml)) H := hP
      have hD : va_D A (List.flatten (wM aM C ms_5 mw ma_7 ml)) := hD
      refine lv_aload_n hx hb dX12_rail_91 rfl (lv_at hl 0 rfl) ?_
      refine va_get (D := D) (ci := 12) (v := .ref (aM 6)) (C := RX12) (T := TX12) (N := 51) hx hb hw inW_X12 hown hK hP 0 rfl rfl 16 (by decide) (hw _ mw_6_59) (fun _ h9 => h9) rfl dX12_rail_92 ?_
      refine lv_iconst (v := 0) hx hb dX12_rail_95 (by decide) ?_
      refine cIald hx hb hK hP 6 0 rfl rfl 0 (by decide +kernel) (cIn (by decide +kernel)) dX12_rail_96 ?_
      rw [← hQ]
      exact cRetI (v := (ma_7 3 0)) (ms_5, mw, ma_7) hx hb hr hlocks hS hP hD h dX12_rail_97
    · have h := h.2 c6
      refine lv_bipush (v := (-4)) hx hb dX12_rail_82 (by decide) ?_
      rw [← hQ]
      exact cRetI (v := (-4)) (ms_5, mw, ma) hx hb hr hlocks hS hP hD h dX12_rail_84
  have N13 : ∀  (n13 : Nat) (ms : Nat → Int32) (mw : Nat → Int64) (ma : Nat → Nat → Int32) (H : Heap) (locs : List Loc) (ls : Array Slot), P_X12_rail_13  post (fun (ms : Nat → Int32) (mw : Nat → Int64) (ma : Nat → Nat → Int32) => P_X12_rail_71  post  ms mw ma)  n13 ms mw ma → va_P D vwCl (List.flatten (wM aM C ms mw ma ml)) H → va_D A (List.flatten (wM aM C ms mw ma ml)) → va_S A s.heap H locs → lv_has ls 1 [(0, .ref (aM 0))] → W p l e rmX12_rail s m args below meth c H locs 0 0 Q (F0 m 13 ls []) := by
    intro n13
    induction n13 with
    | zero => intro ms mw ma H locs ls h hP hD hS hl; exact False.elim h
    | succ n13 ih13 =>
      have N47 : ∀ (ms : Nat → Int32) (mw : Nat → Int64) (ma : Nat → Nat → Int32) (H : Heap) (locs : List Loc) (ls : Array Slot), P_X12_rail_47  post (P_X12_rail_13  post (fun (ms : Nat → Int32) (mw : Nat → Int64) (ma : Nat → Nat → Int32) => P_X12_rail_71  post  ms mw ma)  n13) ms mw ma → va_P D vwCl (List.flatten (wM aM C ms mw ma ml)) H → va_D A (List.flatten (wM aM C ms mw ma ml)) → va_S A s.heap H locs → lv_has ls 1 [(0, .ref (aM 0))] → W p l e rmX12_rail s m args below meth c H locs 0 0 Q (F0 m 47 ls []) := by
        intro ms mw ma H locs ls h hP hD hS hl
        refine lv_aload_n hx hb dX12_rail_47 rfl (lv_at hl 0 rfl) ?_
        refine cGoAI (cRunAV (As := []) (rest := []) ⟨hx, hb, hml, hown, hw⟩ hK hN hP hD (k_X12_isGood l D C _ aM  ms mw ma ml  h) (cwV 0 hw (goodV mw_7_20 mw_7_22 mw_s113 mw_1_13 mw_7_23) rfl rfl rfl (by decide +kernel) ⟨Nat.le_of_ble_eq_true rfl, Nat.le_of_ble_eq_true rfl⟩) rfl rfl rfl hl.1 rfl (Nat.le_of_ble_eq_true rfl) dX12_rail_48 ⟨Nat.zero_le _, Nat.zero_le _⟩) hP hD hS hA (fun r1 u H locs h hP hD hS => ?_)
        have hP : va_P D vwCl (List.flatten (wM aM C ms mw ma ml)) H := hP
        have hD : va_D A (List.flatten (wM aM C ms mw ma ml)) := hD
        refine lv_if_eq (tgt := 58) hx hb dX12_rail_51 (by decide) (fun c2 => ?_) (fun c2 => ?_)
        · have h := h.1 c2
          refine lv_aload_n hx hb dX12_rail_58 rfl (lv_at hl 0 rfl) ?_
          refine va_get (D := D) (ci := 12) (v := .ref (aM 6)) (C := RX12) (T := TX12) (N := 51) hx hb hw inW_X12 hown hK hP 0 rfl rfl 16 (by decide) (hw _ mw_6_59) (fun _ h9 => h9) rfl dX12_rail_59 ?_
          refine lv_iconst (v := 4) hx hb dX12_rail_62 (by decide) ?_
          refine lv_dup2_11 hx hb dX12_rail_63 rfl rfl ?_
          refine cIald hx hb hK hP 6 0 rfl rfl 4 (by decide +kernel) (cIn (by decide +kernel)) dX12_rail_64 ?_
          refine lv_iconst (v := 1) hx hb dX12_rail_65 (by decide) ?_
          refine lv_iadd hx hb dX12_rail_66 ?_
          refine cIast hx hb hK hP hD hS 6 0 rfl rfl 4 (by decide +kernel) (cIn (by decide +kernel)) dX12_rail_67 (fun H locs hP hD hS => ?_)
          refine lv_goto (tgt := 13) hx hb dX12_rail_68 (by decide) ?_
          have hP : va_P D vwCl (List.flatten (wM aM C ms mw (va_up ma 3 (upd (ma 3) 4 ((ma 3 4) + 1))) ml)) H := hP
          have hD : va_D A (List.flatten (wM aM C ms mw (va_up ma 3 (upd (ma 3) 4 ((ma 3 4) + 1))) ml)) := hD
          exact ih13 ms mw (va_up ma 3 (upd (ma 3) 4 ((ma 3 4) + 1))) _ _ _ h hP hD hS (lv_sub hl [0] rfl)
        · have h := h.2 c2
          refine lv_aload_n hx hb dX12_rail_54 rfl (lv_at hl 0 rfl) ?_
          refine cGoAV (cRunAV (As := []) (rest := []) ⟨hx, hb, hml, hown, hw⟩ hK hN hP hD (k_X12_ends l D C _ aM  ms mw ma ml  h) (cwV 0 hw (goodV mw_7_106 mw_7_108 mw_s128 mw_1_13 mw_7_109) rfl rfl rfl (by decide +kernel) ⟨Nat.le_of_ble_eq_true rfl, Nat.le_of_ble_eq_true rfl⟩) rfl rfl rfl hl.1 rfl (Nat.le_of_ble_eq_true rfl) dX12_rail_55 ⟨Nat.zero_le _, Nat.zero_le _⟩) hP hD hS hA (fun u H locs h hP hD hS => ?_)
          obtain ⟨ms_3, mw_4⟩ := u
          have hP : va_P D vwCl (List.flatten (wM aM C ms_3 mw_4 ma ml)) H := hP
          have hD : va_D A (List.flatten (wM aM C ms_3 mw_4 ma ml)) := hD
          refine lv_aload_n hx hb dX12_rail_58 rfl (lv_at hl 0 rfl) ?_
          refine va_get (D := D) (ci := 12) (v := .ref (aM 6)) (C := RX12) (T := TX12) (N := 51) hx hb hw inW_X12 hown hK hP 0 rfl rfl 16 (by decide) (hw _ mw_6_59) (fun _ h9 => h9) rfl dX12_rail_59 ?_
          refine lv_iconst (v := 4) hx hb dX12_rail_62 (by decide) ?_
          refine lv_dup2_11 hx hb dX12_rail_63 rfl rfl ?_
          refine cIald hx hb hK hP 6 0 rfl rfl 4 (by decide +kernel) (cIn (by decide +kernel)) dX12_rail_64 ?_
          refine lv_iconst (v := 1) hx hb dX12_rail_65 (by decide) ?_
          refine lv_iadd hx hb dX12_rail_66 ?_
          refine cIast hx hb hK hP hD hS 6 0 rfl rfl 4 (by decide +kernel) (cIn (by decide +kernel)) dX12_rail_67 (fun H locs hP hD hS => ?_)
          refine lv_goto (tgt := 13) hx hb dX12_rail_68 (by decide) ?_
          have hP : va_P D vwCl (List.flatten (wM aM C ms_3 mw_4 (va_up ma 3 (upd (ma 3) 4 ((ma 3 4) + 1))) ml)) H := hP
          have hD : va_D A (List.flatten (wM aM C ms_3 mw_4 (va_up ma 3 (upd (ma 3) 4 ((ma 3 4) + 1))) ml)) := hD
          exact ih13 ms_3 mw_4 (va_up ma 3 (upd (ma 3) 4 ((ma 3 4) + 1))) _ _ _ h hP hD hS (lv_sub hl [0] rfl)
      intro ms mw ma H locs ls h hP hD hS hl
      have h : P_X12_rail_13_b  post (fun (ms : Nat → Int32) (mw : Nat → Int64) (ma : Nat → Nat → Int32) => P_X12_rail_71  post  ms mw ma)  (P_X12_rail_13  post (fun (ms : Nat → Int32) (mw : Nat → Int64) (ma : Nat → Nat → Int32) => P_X12_rail_71  post  ms mw ma)  n13) ms mw ma := h
      unfold P_X12_rail_13_b at h
      refine lv_aload_n hx hb dX12_rail_13 rfl (lv_at hl 0 rfl) ?_
      refine cGoAI (cRunAV (As := []) (rest := []) ⟨hx, hb, hml, hown, hw⟩ hK hN hP hD (k_X12_isGood l D C _ aM  ms mw ma ml  h) (cwV 0 hw (goodV mw_7_20 mw_7_22 mw_s113 mw_1_13 mw_7_23) rfl rfl rfl (by decide +kernel) ⟨Nat.le_of_ble_eq_true rfl, Nat.le_of_ble_eq_true rfl⟩) rfl rfl rfl hl.1 rfl (Nat.le_of_ble_eq_true rfl) dX12_rail_14 ⟨Nat.zero_le _, Nat.zero_le _⟩) hP hD hS hA (fun r8 u H locs h hP hD hS => ?_)
      have hP : va_P D vwCl (List.flatten (wM aM C ms mw ma ml)) H := hP
      have hD : va_D A (List.flatten (wM aM C ms mw ma ml)) := hD
      refine lv_if_eq (tgt := 71) hx hb dX12_rail_17 (by decide) (fun c9 => ?_) (fun c9 => ?_)
      · have h := h.1 c9
        exact N71 ms mw ma _ _ _ h hP hD hS (lv_sub hl [0] rfl)
      · have h := h.2 c9
        refine lv_aload_n hx hb dX12_rail_20 rfl (lv_at hl 0 rfl) ?_
        refine va_get (D := D) (ci := 12) (v := .int (ms 3)) (C := RX12) (T := TX12) (N := 51) hx hb hw inW_X12 hown hK hP 0 rfl rfl 8 (by decide) (hw _ mw_6_51) (fun _ h9 => h9) rfl dX12_rail_21 ?_
        refine lv_if_eq (tgt := 71) hx hb dX12_rail_24 (by decide) (fun c10 => ?_) (fun c10 => ?_)
        · have h := h.1 c10
          exact N71 ms mw ma _ _ _ h hP hD hS (lv_sub hl [0] rfl)
        · have h := h.2 c10
          refine lv_aload_n hx hb dX12_rail_27 rfl (lv_at hl 0 rfl) ?_
          refine va_get (D := D) (ci := 12) (v := .ref (aM 6)) (C := RX12) (T := TX12) (N := 51) hx hb hw inW_X12 hown hK hP 0 rfl rfl 16 (by decide) (hw _ mw_6_59) (fun _ h9 => h9) rfl dX12_rail_28 ?_
          refine lv_iconst (v := 4) hx hb dX12_rail_31 (by decide) ?_
          refine cIald hx hb hK hP 6 0 rfl rfl 4 (by decide +kernel) (cIn (by decide +kernel)) dX12_rail_32 ?_
          refine lv_if_ne (tgt := 43) hx hb dX12_rail_33 (by decide) (fun c11 => ?_) (fun c11 => ?_)
          · have h := h.1 c11
            refine lv_aload_n hx hb dX12_rail_43 rfl (lv_at hl 0 rfl) ?_
            refine cGoAV (cRunAV (As := []) (rest := []) ⟨hx, hb, hml, hown, hw⟩ hK hN hP hD (k_X12_line l D C _ aM  ms mw ma ml  h) (cwV 0 hw (goodV mw_7_55 mw_7_57 mw_s121 mw_1_13 mw_7_58) rfl rfl rfl (by decide +kernel) ⟨Nat.le_of_ble_eq_true rfl, Nat.le_of_ble_eq_true rfl⟩) rfl rfl rfl hl.1 rfl (Nat.le_of_ble_eq_true rfl) dX12_rail_44 ⟨Nat.zero_le _, Nat.zero_le _⟩) hP hD hS hA (fun u H locs h hP hD hS => ?_)
            obtain ⟨ms_12, mw_13, ma_14⟩ := u
            have hP : va_P D vwCl (List.flatten (wM aM C ms_12 mw_13 ma_14 ml)) H := hP
            have hD : va_D A (List.flatten (wM aM C ms_12 mw_13 ma_14 ml)) := hD
            exact N47 ms_12 mw_13 ma_14 _ _ _ h hP hD hS (lv_sub hl [0] rfl)
          · have h := h.2 c11
            refine lv_aload_n hx hb dX12_rail_36 rfl (lv_at hl 0 rfl) ?_
            refine cGoAV (cRunAV (As := []) (rest := []) ⟨hx, hb, hml, hown, hw⟩ hK hN hP hD (k_X12_railLine l D C _ aM  ms mw ma ml  h) (cwV 0 hw (goodV mw_7_24 mw_7_26 mw_s114 mw_1_13 mw_7_27) rfl rfl rfl (by decide +kernel) ⟨Nat.le_of_ble_eq_true rfl, Nat.le_of_ble_eq_true rfl⟩) rfl rfl rfl hl.1 rfl (Nat.le_of_ble_eq_true rfl) dX12_rail_37 ⟨Nat.zero_le _, Nat.zero_le _⟩) hP hD hS hA (fun u H locs h hP hD hS => ?_)
            obtain ⟨ms_15, mw_16, ma_17⟩ := u
            have hP : va_P D vwCl (List.flatten (wM aM C ms_15 mw_16 ma_17 ml)) H := hP
            have hD : va_D A (List.flatten (wM aM C ms_15 mw_16 ma_17 ml)) := hD
            refine lv_goto (tgt := 47) hx hb dX12_rail_40 (by decide) ?_
            exact N47 ms_15 mw_16 ma_17 _ _ _ h hP hD hS (lv_sub hl [0] rfl)
  refine lv_aload_n hx hb dX12_rail_0 rfl (lv_at hl 0 rfl) ?_
  refine lv_iconst (v := 0) hx hb dX12_rail_1 (by decide) ?_
  refine va_put (D := D) (ci := 12) (v := .int 0) (ty := .int) (C := RX12) (T := TX12) (N := 51) hx hb hw inW_X12 tyX12 tyX12_ok nmX12 hown hK hP hD hS 0 rfl rfl 0 (by decide) (hw _ mw_6_43) (fun _ h9 => h9) rfl (by decide +kernel) rfl rfl (Nat.le_of_ble_eq_true rfl) dX12_rail_2 (fun H locs hP hD hS => ?_)
  refine lv_aload_n hx hb dX12_rail_5 rfl (lv_at hl 0 rfl) ?_
  have hP : va_P D vwCl (List.flatten (wM aM C (va_up ms 0 0) mw ma ml)) H := hP
  have hD : va_D A (List.flatten (wM aM C (va_up ms 0 0) mw ma ml)) := hD
  refine cGoAV (cRunAV (As := []) (rest := []) ⟨hx, hb, hml, hown, hw⟩ hK hN hP hD (k_X12_clears l D C _ aM  (va_up ms 0 0) mw ma ml  h) (cwV 0 hw (goodV mw_6_239 mw_7_1 mw_s109 mw_1_13 mw_7_2) rfl rfl rfl (by decide +kernel) ⟨Nat.le_of_ble_eq_true rfl, Nat.le_of_ble_eq_true rfl⟩) rfl rfl rfl hl.1 rfl (Nat.le_of_ble_eq_true rfl) dX12_rail_6 ⟨Nat.zero_le _, Nat.zero_le _⟩) hP hD hS hA (fun ma_18 H locs h hP hD hS => ?_)
  have hP : va_P D vwCl (List.flatten (wM aM C (va_up ms 0 0) mw ma_18 ml)) H := hP
  have hD : va_D A (List.flatten (wM aM C (va_up ms 0 0) mw ma_18 ml)) := hD
  refine lv_aload_n hx hb dX12_rail_9 rfl (lv_at hl 0 rfl) ?_
  refine cGoAV (cRunAV (As := []) (rest := []) ⟨hx, hb, hml, hown, hw⟩ hK hN hP hD (k_X12_begins l D C _ aM  (va_up ms 0 0) mw ma_18 ml  h) (cwV 0 hw (goodV mw_7_3 mw_7_5 mw_s110 mw_1_13 mw_7_6) rfl rfl rfl (by decide +kernel) ⟨Nat.le_of_ble_eq_true rfl, Nat.le_of_ble_eq_true rfl⟩) rfl rfl rfl hl.1 rfl (Nat.le_of_ble_eq_true rfl) dX12_rail_10 ⟨Nat.zero_le _, Nat.zero_le _⟩) hP hD hS hA (fun u H locs h hP hD hS => ?_)
  obtain ⟨ms_19, mw_20⟩ := u
  have hP : va_P D vwCl (List.flatten (wM aM C ms_19 mw_20 ma_18 ml)) H := hP
  have hD : va_D A (List.flatten (wM aM C ms_19 mw_20 ma_18 ml)) := hD
  obtain ⟨n, h⟩ := h
  exact N13  n ms_19 mw_20 ma_18 _ _ _ h hP hD hS (lv_sub hl [0] rfl)
