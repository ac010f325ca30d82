abbrev vsX12_gainOf : List Cond := Cond.code yX12_gainOf cX12_gainOf 5 (some .int) :: WS
abbrev rmX12_gainOf : Room := { frames := 2, cells := 0, slots := 0, locals := 44 }
set_option maxHeartbeats 4000000 in
set_option maxRecDepth 100000 in
theorem k_X12_gainOf (l : Launch) (D : va_G) (C : Nat → ClassId) (sz : Nat) (aM : Nat → Nat)  (ms : Nat → Int32) (mw : Nat → Int64) (ma : Nat → Nat → Int32) (ml : Nat → Nat → Int64) (p1 : Int32) (p2 : Int32) {post : Int32 → Prop} (h : P_X12_gainOf ma p1 p2 post) : Met l yX12_gainOf vsX12_gainOf rmX12_gainOf (cPre D C [.ref (aM 0), .int p1, .int p2] sz (wM aM C ms mw ma ml)) (cQi D (fun (r : Int32) (u : Unit) => post r ) (fun u => wM aM C ms mw ma ml) (va_A (List.flatten (wM aM C ms mw ma ml)) sz)) 0 0 (va_A (List.flatten (wM aM C ms mw ma ml)) sz) := by
  refine cStart (QA := fun A => cQi D (fun (r : Int32) (u : Unit) => post r ) (fun u => wM aM C ms mw ma ml) A) (cc := cX12_gainOf) (maxL := 5) (ret := (some .int)) (by decide) (Nat.le_of_ble_eq_true rfl) ?_
  intro p e s m args below meth c A ls hx hb hr hml hown hw hlocks hname hK hN hA hP hD hS hl
  generalize hQ : MQ below _ args s 0 0 A = Q
  have hl : lv_has ls 5 [(0, .ref (aM 0)), (1, .int p1), (2, .int p2)] := hl
  obtain ⟨H, hH⟩ : ∃ H, H = s.heap := ⟨_, rfl⟩
  obtain ⟨locs, hlo⟩ : ∃ z : List Loc, z = [] := ⟨_, rfl⟩
  have hP : va_P D vwCl (List.flatten (wM aM C ms mw ma ml)) H := by rw [hH]; exact hP
  have hS : va_S A s.heap H locs := by rw [hH, hlo]; exact hS
  rw [show W p l e rmX12_gainOf s m args below meth c s.heap [] 0 0 Q (F0 m 0 ls []) = W p l e rmX12_gainOf s m args below meth c H locs 0 0 Q (F0 m 0 ls []) from by rw [hH, hlo]]
  refine lv_iload_n hx hb dX12_gainOf_0 rfl (lv_at hl 1 rfl) ?_
  refine lv_iload_n hx hb dX12_gainOf_1 rfl (lv_at hl 2 rfl) ?_
  refine cGoEI (cRunES (As := [.int p1, .int p2]) (rest := []) ⟨hx, hb, hml, hown, hw⟩ hK hN hP hD (k_X12_at l D C _    p1 p2 h) (va_cwS 2 hw (goodS mw_7_148 mw_7_149 mw_1_13 mw_7_150) rfl rfl rfl (by decide +kernel) ⟨Nat.le_of_ble_eq_true rfl, Nat.le_of_ble_eq_true rfl⟩) rfl hl.1 rfl (Nat.le_of_ble_eq_true rfl) dX12_gainOf_2 ⟨Nat.zero_le _, Nat.zero_le _⟩) hP hD hS hA (fun r1 u H locs h hP hD hS => ?_)
  have hP : va_P D vwCl (List.flatten (wM aM C ms mw ma ml)) H := hP
  have hD : va_D A (List.flatten (wM aM C ms mw ma ml)) := hD
  refine lv_istore_n (lv' := [(3, .int r1), (0, .ref (aM 0)), (1, .int p1), (2, .int p2)]) hx hb dX12_gainOf_5 rfl hl (by decide) rfl (fun ls hl => ?_)
  refine lv_aload_n hx hb dX12_gainOf_6 rfl (lv_at hl 1 rfl) ?_
  refine va_get (D := D) (ci := 12) (v := .ref (aM 17)) (C := RX12) (T := TX12) (N := 51) hx hb hw inW_X12 hown hK hP 0 rfl rfl 27 (by decide) (hw _ mw_6_70) (fun _ h9 => h9) rfl dX12_gainOf_7 ?_
  refine lv_bipush (v := 7) hx hb dX12_gainOf_10 (by decide) ?_
  refine lv_iload_n hx hb dX12_gainOf_12 rfl (lv_at hl 2 rfl) ?_
  refine lv_imul hx hb dX12_gainOf_13 ?_
  refine lv_iconst (v := 1) hx hb dX12_gainOf_14 (by decide) ?_
  refine lv_iadd hx hb dX12_gainOf_15 ?_
  refine cIald hx hb hK hP 17 0 rfl rfl (((7 * p1) + 1).toNatClampNeg) rfl h.1 dX12_gainOf_16 ?_
  have h := h.2
  refine lv_topi (fun x2 ex2 => ?_)
  have h := h x2 ex2
  refine lv_istore (lv' := [(4, .int x2), (3, .int r1), (0, .ref (aM 0)), (1, .int p1), (2, .int p2)]) hx hb dX12_gainOf_17 hl (by decide) rfl (fun ls hl => ?_)
  refine lv_aload_n hx hb dX12_gainOf_19 rfl (lv_at hl 2 rfl) ?_
  refine va_get (D := D) (ci := 12) (v := .ref (aM 17)) (C := RX12) (T := TX12) (N := 51) hx hb hw inW_X12 hown hK hP 0 rfl rfl 27 (by decide) (hw _ mw_6_70) (fun _ h9 => h9) rfl dX12_gainOf_20 ?_
  refine lv_bipush (v := 7) hx hb dX12_gainOf_23 (by decide) ?_
  refine lv_iload_n hx hb dX12_gainOf_25 rfl (lv_at hl 3 rfl) ?_
  refine lv_imul hx hb dX12_gainOf_26 ?_
  refine lv_iconst (v := 2) hx hb dX12_gainOf_27 (by decide) ?_
  refine lv_iadd hx hb dX12_gainOf_28 ?_
  refine cIald hx hb hK hP 17 0 rfl rfl (((7 * p1) + 2).toNatClampNeg) rfl h.1 dX12_gainOf_29 ?_
  have h := h.2
  refine lv_iconst (v := 1) hx hb dX12_gainOf_30 (by decide) ?_
  refine lv_icmp_ne (tgt := 76) hx hb dX12_gainOf_31 (by decide) (fun c3 => ?_) (fun c3 => ?_)
  · have h := h.1 c3
    refine lv_aload_n hx hb dX12_gainOf_76 rfl (lv_at hl 2 rfl) ?_
    refine va_get (D := D) (ci := 12) (v := .ref (aM 14)) (C := RX12) (T := TX12) (N := 51) hx hb hw inW_X12 hown hK hP 0 rfl rfl 24 (by decide) (hw _ mw_6_67) (fun _ h9 => h9) rfl dX12_gainOf_77 ?_
    refine lv_iload_n hx hb dX12_gainOf_80 rfl (lv_at hl 1 rfl) ?_
    refine lv_iconst (v := 4) hx hb dX12_gainOf_81 (by decide) ?_
    refine lv_iadd hx hb dX12_gainOf_82 ?_
    refine cIald hx hb hK hP 14 0 rfl rfl ((r1 + 4).toNatClampNeg) rfl h.1 dX12_gainOf_83 ?_
    have h := h.2
    refine lv_iconst (v := 1) hx hb dX12_gainOf_84 (by decide) ?_
    refine lv_icmp_ne (tgt := 108) hx hb dX12_gainOf_85 (by decide) (fun c4 => ?_) (fun c4 => ?_)
    · have h := h.1 c4
      refine lv_aload_n hx hb dX12_gainOf_108 rfl (lv_at hl 2 rfl) ?_
      refine va_get (D := D) (ci := 12) (v := .ref (aM 14)) (C := RX12) (T := TX12) (N := 51) hx hb hw inW_X12 hown hK hP 0 rfl rfl 24 (by decide) (hw _ mw_6_67) (fun _ h9 => h9) rfl dX12_gainOf_109 ?_
      refine lv_iload_n hx hb dX12_gainOf_112 rfl (lv_at hl 1 rfl) ?_
      refine lv_iconst (v := 1) hx hb dX12_gainOf_113 (by decide) ?_
      refine lv_iadd hx hb dX12_gainOf_114 ?_
      refine cIald hx hb hK hP 14 0 rfl rfl ((r1 + 1).toNatClampNeg) rfl h.1 dX12_gainOf_115 ?_
      have h := h.2
      rw [← hQ]
      exact cRetI (v := (ma 11 ((r1 + 1).toNatClampNeg))) () hx hb hr hlocks hS hP hD h dX12_gainOf_116
    · have h := h.2 c4
      refine lv_aload_n hx hb dX12_gainOf_88 rfl (lv_at hl 2 rfl) ?_
      refine va_get (D := D) (ci := 12) (v := .ref (aM 14)) (C := RX12) (T := TX12) (N := 51) hx hb hw inW_X12 hown hK hP 0 rfl rfl 24 (by decide) (hw _ mw_6_67) (fun _ h9 => h9) rfl dX12_gainOf_89 ?_
      refine lv_iload_n hx hb dX12_gainOf_92 rfl (lv_at hl 1 rfl) ?_
      refine lv_iconst (v := 1) hx hb dX12_gainOf_93 (by decide) ?_
      refine lv_iadd hx hb dX12_gainOf_94 ?_
      refine cIald hx hb hK hP 14 0 rfl rfl ((r1 + 1).toNatClampNeg) rfl h.1 dX12_gainOf_95 ?_
      have h := h.2
      refine lv_bipush (v := 100) hx hb dX12_gainOf_96 (by decide) ?_
      refine lv_iload hx hb dX12_gainOf_98 (lv_at hl 0 rfl) ?_
      refine lv_isub hx hb dX12_gainOf_100 ?_
      refine lv_imul hx hb dX12_gainOf_101 ?_
      refine lv_bipush (v := 100) hx hb dX12_gainOf_102 (by decide) ?_
      refine lv_idiv hx hb dX12_gainOf_104 (by decide) ?_
      refine lv_goto (tgt := 116) hx hb dX12_gainOf_105 (by decide) ?_
      rw [← hQ]
      exact cRetI (v := (((ma 11 ((r1 + 1).toNatClampNeg)) * (100 - x2)) / 100)) () hx hb hr hlocks hS hP hD h dX12_gainOf_116
  · have h := h.2 c3
    refine lv_aload_n hx hb dX12_gainOf_34 rfl (lv_at hl 2 rfl) ?_
    refine va_get (D := D) (ci := 12) (v := .ref (aM 14)) (C := RX12) (T := TX12) (N := 51) hx hb hw inW_X12 hown hK hP 0 rfl rfl 24 (by decide) (hw _ mw_6_67) (fun _ h9 => h9) rfl dX12_gainOf_35 ?_
    refine lv_iload_n hx hb dX12_gainOf_38 rfl (lv_at hl 1 rfl) ?_
    refine lv_iconst (v := 1) hx hb dX12_gainOf_39 (by decide) ?_
    refine lv_iadd hx hb dX12_gainOf_40 ?_
    refine cIald hx hb hK hP 14 0 rfl rfl ((r1 + 1).toNatClampNeg) rfl h.1 dX12_gainOf_41 ?_
    have h := h.2
    refine lv_i2l hx hb dX12_gainOf_42 rfl ?_
    refine lv_bipush (v := 100) hx hb dX12_gainOf_43 (by decide) ?_
    refine lv_aload_n hx hb dX12_gainOf_45 rfl (lv_at hl 2 rfl) ?_
    refine va_get (D := D) (ci := 12) (v := .ref (aM 13)) (C := RX12) (T := TX12) (N := 51) hx hb hw inW_X12 hown hK hP 0 rfl rfl 23 (by decide) (hw _ mw_6_66) (fun _ h9 => h9) rfl dX12_gainOf_46 ?_
    refine lv_iload_n hx hb dX12_gainOf_49 rfl (lv_at hl 3 rfl) ?_
    refine cIald hx hb hK hP 13 0 rfl rfl p1.toNatClampNeg rfl h.1 dX12_gainOf_50 ?_
    have h := h.2
    refine lv_imul hx hb dX12_gainOf_51 ?_
    refine lv_iload hx hb dX12_gainOf_52 (lv_at hl 0 rfl) ?_
    refine lv_aload_n hx hb dX12_gainOf_54 rfl (lv_at hl 2 rfl) ?_
    refine lv_iload_n hx hb dX12_gainOf_55 rfl (lv_at hl 3 rfl) ?_
    refine cGoAI (cRunAV (As := [.int p1]) (rest := [.int x2, .int (100 * (ma 10 p1.toNatClampNeg)), .long ((ma 11 ((r1 + 1).toNatClampNeg)).toInt64)]) ⟨hx, hb, hml, hown, hw⟩ hK hN hP hD (k_X12_markedOn l D C _ aM  ms mw ma ml p1 h) (cwV 1 hw (goodV mw_7_172 mw_7_174 mw_s137 mw_1_13 mw_7_175) rfl rfl rfl (by decide +kernel) ⟨Nat.le_of_ble_eq_true rfl, Nat.le_of_ble_eq_true rfl⟩) rfl rfl rfl hl.1 rfl (Nat.le_of_ble_eq_true rfl) dX12_gainOf_56 ⟨Nat.zero_le _, Nat.zero_le _⟩) hP hD hS hA (fun r5 u H locs h hP hD hS => ?_)
    have hP : va_P D vwCl (List.flatten (wM aM C ms mw ma ml)) H := hP
    have hD : va_D A (List.flatten (wM aM C ms mw ma ml)) := hD
    refine lv_imul hx hb dX12_gainOf_59 ?_
    refine lv_isub hx hb dX12_gainOf_60 ?_
    refine lv_i2l hx hb dX12_gainOf_61 rfl ?_
    refine lv_lmul hx hb dX12_gainOf_62 ?_
    refine lv_bipush (v := 100) hx hb dX12_gainOf_63 (by decide) ?_
    refine lv_aload_n hx hb dX12_gainOf_65 rfl (lv_at hl 2 rfl) ?_
    refine va_get (D := D) (ci := 12) (v := .ref (aM 13)) (C := RX12) (T := TX12) (N := 51) hx hb hw inW_X12 hown hK hP 0 rfl rfl 23 (by decide) (hw _ mw_6_66) (fun _ h9 => h9) rfl dX12_gainOf_66 ?_
    refine lv_iload_n hx hb dX12_gainOf_69 rfl (lv_at hl 3 rfl) ?_
    refine cIald hx hb hK hP 13 0 rfl rfl p1.toNatClampNeg rfl h.1 dX12_gainOf_70 ?_
    have h := h.2
    refine lv_imul hx hb dX12_gainOf_71 ?_
    refine lv_i2l hx hb dX12_gainOf_72 rfl ?_
    refine lv_ldiv hx hb dX12_gainOf_73 h.1 ?_
    have h := h.2
    refine lv_l2i hx hb dX12_gainOf_74 rfl ?_
    rw [← hQ]
    exact cRetI (v := (((ma 11 ((r1 + 1).toNatClampNeg)).toInt64 * ((100 * (ma 10 p1.toNatClampNeg)) - (x2 * r5)).toInt64) / (100 * (ma 10 p1.toNatClampNeg)).toInt64).toInt32) () hx hb hr hlocks hS hP hD h dX12_gainOf_75
abbrev vsX12_trouble : List Cond := Cond.code yX12_trouble cX12_trouble 3 (some .int) :: WS
abbrev rmX12_trouble : Room := { frames := 3, cells := 0, slots := 0, locals := 72 }
set_option maxHeartbeats 4000000 in
set_option maxRecDepth 100000 in
theorem k_X12_trouble (l : Launch) (D : va_G) (C : Nat → ClassId) (sz : Nat) (aM : Nat → Nat)  (ms : Nat → Int32) (mw : Nat → Int64) (ma : Nat → Nat → Int32) (ml : Nat → Nat → Int64) (p1 : Int32) (p2 : Int32) {post : Int32 → (Nat → Int32) → Prop} (h : P_X12_trouble ms ma p1 p2 post) : Met l yX12_trouble vsX12_trouble rmX12_trouble (cPre D C [.ref (aM 0), .int p1, .int p2] sz (wM aM C ms mw ma ml)) (cQi D (fun (r : Int32) (u : (Nat → Int32)) => post r u) (fun u => wM aM C u mw ma ml) (va_A (List.flatten (wM aM C ms mw ma ml)) sz)) 0 0 (va_A (List.flatten (wM aM C ms mw ma ml)) sz) := by
  refine cStart (QA := fun A => cQi D (fun (r : Int32) (u : (Nat → Int32)) => post r u) (fun u => wM aM C u mw ma ml) A) (cc := cX12_trouble) (maxL := 3) (ret := (some .int)) (by decide) (Nat.le_of_ble_eq_true rfl) ?_
  intro p e s m args below meth c A ls hx hb hr hml hown hw hlocks hname hK hN hA hP hD hS hl
  generalize hQ : MQ below _ args s 0 0 A = Q
  have hl : lv_has ls 3 [(0, .ref (aM 0)), (1, .int p1), (2, .int p2)] := hl
  obtain ⟨H, hH⟩ : ∃ H, H = s.heap := ⟨_, rfl⟩
  obtain ⟨locs, hlo⟩ : ∃ z : List Loc, z = [] := ⟨_, rfl⟩
  have hP : va_P D vwCl (List.flatten (wM aM C ms mw ma ml)) H := by rw [hH]; exact hP
  have hS : va_S A s.heap H locs := by rw [hH, hlo]; exact hS
  rw [show W p l e rmX12_trouble s m args below meth c s.heap [] 0 0 Q (F0 m 0 ls []) = W p l e rmX12_trouble s m args below meth c H locs 0 0 Q (F0 m 0 ls []) from by rw [hH, hlo]]
  refine lv_aload_n hx hb dX12_trouble_0 rfl (lv_at hl 0 rfl) ?_
  refine lv_iconst (v := 0) hx hb dX12_trouble_1 (by decide) ?_
  refine va_put (D := D) (ci := 12) (v := .int 0) (ty := .int) (C := RX12) (T := TX12) (N := 51) hx hb hw inW_X12 tyX12 tyX12_ok nmX12 hown hK hP hD hS 0 rfl rfl 0 (by decide) (hw _ mw_6_43) (fun _ h9 => h9) rfl (by decide +kernel) rfl rfl (Nat.le_of_ble_eq_true rfl) dX12_trouble_2 (fun H locs hP hD hS => ?_)
  refine lv_aload_n hx hb dX12_trouble_5 rfl (lv_at hl 0 rfl) ?_
  refine lv_iload_n hx hb dX12_trouble_6 rfl (lv_at hl 1 rfl) ?_
  have hP : va_P D vwCl (List.flatten (wM aM C (va_up ms 0 0) mw ma ml)) H := hP
  have hD : va_D A (List.flatten (wM aM C (va_up ms 0 0) mw ma ml)) := hD
  refine cGoAI (cRunAV (As := [.int p1]) (rest := []) ⟨hx, hb, hml, hown, hw⟩ hK hN hP hD (k_X12_isThief l D C _ aM  (va_up ms 0 0) mw ma ml p1 h) (cwV 1 hw (goodV mw_7_155 mw_7_157 mw_s134 mw_1_13 mw_7_158) rfl rfl rfl (by decide +kernel) ⟨Nat.le_of_ble_eq_true rfl, Nat.le_of_ble_eq_true rfl⟩) rfl rfl rfl hl.1 rfl (Nat.le_of_ble_eq_true rfl) dX12_trouble_7 ⟨Nat.zero_le _, Nat.zero_le _⟩) hP hD hS hA (fun r1 u H locs h hP hD hS => ?_)
  have hP : va_P D vwCl (List.flatten (wM aM C (va_up ms 0 0) mw ma ml)) H := hP
  have hD : va_D A (List.flatten (wM aM C (va_up ms 0 0) mw ma ml)) := hD
  refine lv_if_eq (tgt := 31) hx hb dX12_trouble_10 (by decide) (fun c2 => ?_) (fun c2 => ?_)
  · have h := h.1 c2
    refine lv_bipush (v := (-2)) hx hb dX12_trouble_31 (by decide) ?_
    rw [← hQ]
    exact cRetI (v := (-2)) ((va_up ms 0 0)) hx hb hr hlocks hS hP hD h dX12_trouble_33
  · have h := h.2 c2
    refine lv_aload_n hx hb dX12_trouble_13 rfl (lv_at hl 0 rfl) ?_
    refine lv_iload_n hx hb dX12_trouble_14 rfl (lv_at hl 2 rfl) ?_
    refine cGoAI (cRunAV (As := [.int p2]) (rest := []) ⟨hx, hb, hml, hown, hw⟩ hK hN hP hD (k_X12_isBike l D C _ aM  (va_up ms 0 0) mw ma ml p2 h) (cwV 1 hw (goodV mw_7_143 mw_7_145 mw_s133 mw_1_13 mw_7_146) rfl rfl rfl (by decide +kernel) ⟨Nat.le_of_ble_eq_true rfl, Nat.le_of_ble_eq_true rfl⟩) rfl rfl rfl hl.1 rfl (Nat.le_of_ble_eq_true rfl) dX12_trouble_15 ⟨Nat.zero_le _, Nat.zero_le _⟩) hP hD hS hA (fun r3 u H locs h hP hD hS => ?_)
    have hP : va_P D vwCl (List.flatten (wM aM C (va_up ms 0 0) mw ma ml)) H := hP
    have hD : va_D A (List.flatten (wM aM C (va_up ms 0 0) mw ma ml)) := hD
    refine lv_if_eq (tgt := 31) hx hb dX12_trouble_18 (by decide) (fun c4 => ?_) (fun c4 => ?_)
    · have h := h.1 c4
      refine lv_bipush (v := (-2)) hx hb dX12_trouble_31 (by decide) ?_
      rw [← hQ]
      exact cRetI (v := (-2)) ((va_up ms 0 0)) hx hb hr hlocks hS hP hD h dX12_trouble_33
    · have h := h.2 c4
      refine lv_aload_n hx hb dX12_trouble_21 rfl (lv_at hl 0 rfl) ?_
      refine lv_iload_n hx hb dX12_trouble_22 rfl (lv_at hl 1 rfl) ?_
      refine lv_iconst (v := 0) hx hb dX12_trouble_23 (by decide) ?_
      refine lv_iload_n hx hb dX12_trouble_24 rfl (lv_at hl 2 rfl) ?_
      refine cGoAI (cRunAV (As := [.int p1, .int 0, .int p2]) (rest := []) ⟨hx, hb, hml, hown, hw⟩ hK hN hP hD (k_X12_troubleOf l D C _ aM  (va_up ms 0 0) mw ma ml p1 0 p2 h) (cwV 3 hw (goodV mw_7_159 mw_7_161 mw_s135 mw_1_13 mw_7_162) rfl rfl rfl (by decide +kernel) ⟨Nat.le_of_ble_eq_true rfl, Nat.le_of_ble_eq_true rfl⟩) rfl rfl rfl hl.1 rfl (Nat.le_of_ble_eq_true rfl) dX12_trouble_25 ⟨Nat.zero_le _, Nat.zero_le _⟩) hP hD hS hA (fun r5 u H locs h hP hD hS => ?_)
      have hP : va_P D vwCl (List.flatten (wM aM C (va_up ms 0 0) mw ma ml)) H := hP
      have hD : va_D A (List.flatten (wM aM C (va_up ms 0 0) mw ma ml)) := hD
      refine lv_goto (tgt := 33) hx hb dX12_trouble_28 (by decide) ?_
      rw [← hQ]
      exact cRetI (v := r5) ((va_up ms 0 0)) hx hb hr hlocks hS hP hD h dX12_trouble_33
abbrev vsX12_gain : List Cond := Cond.code yX12_gain cX12_gain 2 (some .int) :: WS
abbrev rmX12_gain : Room := { frames := 3, cells := 0, slots := 0, locals := 68 }
set_option maxHeartbeats 4000000 in
set_option maxRecDepth 100000 in
theorem k_X12_gain (l : Launch) (D : va_G) (C : Nat → ClassId) (sz : Nat) (aM : Nat → Nat)  (ms : Nat → Int32) (mw : Nat → Int64) (ma : Nat → Nat → Int32) (ml : Nat → Nat → Int64) (p1 : Int32) {post : Int32 → (Nat → Int32) → Prop} (h : P_X12_gain ms ma p1 post) : Met l yX12_gain vsX12_gain rmX12_gain (cPre D C [.ref (aM 0), .int p1] sz (wM aM C ms mw ma ml)) (cQi D (fun (r : Int32) (u : (Nat → Int32)) => post r u) (fun u => wM aM C u mw ma ml) (va_A (List.flatten (wM aM C ms mw ma ml)) sz)) 0 0 (va_A (List.flatten (wM aM C ms mw ma ml)) sz) := by
  refine cStart (QA := fun A => cQi D (fun (r : Int32) (u : (Nat → Int32)) => post r u) (fun u => wM aM C u mw ma ml) A) (cc := cX12_gain) (maxL := 2) (ret := (some .int)) (by decide) (Nat.le_of_ble_eq_true rfl) ?_
  intro p e s m args below meth c A ls hx hb hr hml hown hw hlocks hname hK hN hA hP hD hS hl
  generalize hQ : MQ below _ args s 0 0 A = Q
  have hl : lv_has ls 2 [(0, .ref (aM 0)), (1, .int p1)] := hl
  obtain ⟨H, hH⟩ : ∃ H, H = s.heap := ⟨_, rfl⟩
  obtain ⟨locs, hlo⟩ : ∃ z : List Loc, z = [] := ⟨_, rfl⟩
  have hP : va_P D vwCl (List.flatten (wM aM C ms mw ma ml)) H := by rw [hH]; exact hP
  have hS : va_S A s.heap H locs := by rw [hH, hlo]; exact hS
  rw [show W p l e rmX12_gain s m args below meth c s.heap [] 0 0 Q (F0 m 0 ls []) = W p l e rmX12_gain s m args below meth c H locs 0 0 Q (F0 m 0 ls []) from by rw [hH, hlo]]
  refine lv_aload_n hx hb dX12_gain_0 rfl (lv_at hl 0 rfl) ?_
  refine lv_iconst (v := 0) hx hb dX12_gain_1 (by decide) ?_
  refine va_put (D := D) (ci := 12) (v := .int 0) (ty := .int) (C := RX12) (T := TX12) (N := 51) hx hb hw inW_X12 tyX12 tyX12_ok nmX12 hown hK hP hD hS 0 rfl rfl 0 (by decide) (hw _ mw_6_43) (fun _ h9 => h9) rfl (by decide +kernel) rfl rfl (Nat.le_of_ble_eq_true rfl) dX12_gain_2 (fun H locs hP hD hS => ?_)
  refine lv_aload_n hx hb dX12_gain_5 rfl (lv_at hl 0 rfl) ?_
  refine lv_iload_n hx hb dX12_gain_6 rfl (lv_at hl 1 rfl) ?_
  have hP : va_P D vwCl (List.flatten (wM aM C (va_up ms 0 0) mw ma ml)) H := hP
  have hD : va_D A (List.flatten (wM aM C (va_up ms 0 0) mw ma ml)) := hD
  refine cGoAI (cRunAV (As := [.int p1]) (rest := []) ⟨hx, hb, hml, hown, hw⟩ hK hN hP hD (k_X12_isBike l D C _ aM  (va_up ms 0 0) mw ma ml p1 h) (cwV 1 hw (goodV mw_7_143 mw_7_145 mw_s133 mw_1_13 mw_7_146) rfl rfl rfl (by decide +kernel) ⟨Nat.le_of_ble_eq_true rfl, Nat.le_of_ble_eq_true rfl⟩) rfl rfl rfl hl.1 rfl (Nat.le_of_ble_eq_true rfl) dX12_gain_7 ⟨Nat.zero_le _, Nat.zero_le _⟩) hP hD hS hA (fun r1 u H locs h hP hD hS => ?_)
  have hP : va_P D vwCl (List.flatten (wM aM C (va_up ms 0 0) mw ma ml)) H := hP
  have hD : va_D A (List.flatten (wM aM C (va_up ms 0 0) mw ma ml)) := hD
  refine lv_if_eq (tgt := 22) hx hb dX12_gain_10 (by decide) (fun c2 => ?_) (fun c2 => ?_)
  · have h := h.1 c2
    refine lv_bipush (v := (-2)) hx hb dX12_gain_22 (by decide) ?_
    rw [← hQ]
    exact cRetI (v := (-2)) ((va_up ms 0 0)) hx hb hr hlocks hS hP hD h dX12_gain_24
  · have h := h.2 c2
    refine lv_aload_n hx hb dX12_gain_13 rfl (lv_at hl 0 rfl) ?_
    refine lv_iconst (v := 0) hx hb dX12_gain_14 (by decide) ?_
    refine lv_iload_n hx hb dX12_gain_15 rfl (lv_at hl 1 rfl) ?_
    refine cGoAI (cRunAV (As := [.int 0, .int p1]) (rest := []) ⟨hx, hb, hml, hown, hw⟩ hK hN hP hD (k_X12_gainOf l D C _ aM  (va_up ms 0 0) mw ma ml 0 p1 h) (cwV 2 hw (goodV mw_7_168 mw_7_170 mw_s136 mw_1_13 mw_7_171) rfl rfl rfl (by decide +kernel) ⟨Nat.le_of_ble_eq_true rfl, Nat.le_of_ble_eq_true rfl⟩) rfl rfl rfl hl.1 rfl (Nat.le_of_ble_eq_true rfl) dX12_gain_16 ⟨Nat.zero_le _, Nat.zero_le _⟩) hP hD hS hA (fun r3 u H locs h hP hD hS => ?_)
    have hP : va_P D vwCl (List.flatten (wM aM C (va_up ms 0 0) mw ma ml)) H := hP
    have hD : va_D A (List.flatten (wM aM C (va_up ms 0 0) mw ma ml)) := hD
    refine lv_goto (tgt := 24) hx hb dX12_gain_19 (by decide) ?_
    rw [← hQ]
    exact cRetI (v := r3) ((va_up ms 0 0)) hx hb hr hlocks hS hP hD h dX12_gain_24
abbrev vsX12_lays : List Cond := Cond.code yX12_lays cX12_lays 4 none :: WS
abbrev rmX12_lays : Room := { frames := 3, cells := 0, slots := 0, locals := 72 }
set_option maxHeartbeats 4000000 in
set_option maxRecDepth 100000 in
theorem k_X12_lays (l : Launch) (D : va_G) (C : Nat → ClassId) (sz : Nat) (aM : Nat → Nat)  (ms : Nat → Int32) (mw : Nat → Int64) (ma : Nat → Nat → Int32) (ml : Nat → Nat → Int64) (p1 : Int32) {post : (Nat → Int32) → (Nat → Nat → Int32) → Prop} (h : P_X12_lays ms ma p1 post) : Met l yX12_lays vsX12_lays rmX12_lays (cPre D C [.ref (aM 0), .int p1] sz (wM aM C ms mw ma ml)) (cQv D (fun (u : (Nat → Int32) × (Nat → Nat → Int32)) => post u.1 u.2) (fun u => wM aM C u.1 mw u.2 ml) (va_A (List.flatten (wM aM C ms mw ma ml)) sz)) 0 0 (va_A (List.flatten (wM aM C ms mw ma ml)) sz) := by
  refine cStart (QA := fun A => cQv D (fun (u : (Nat → Int32) × (Nat → Nat → Int32)) => post u.1 u.2) (fun u => wM aM C u.1 mw u.2 ml) A) (cc := cX12_lays) (maxL := 4) (ret := none) (by decide) (Nat.le_of_ble_eq_true rfl) ?_
  intro p e s m args below meth c A ls hx hb hr hml hown hw hlocks hname hK hN hA hP hD hS hl
  generalize hQ : MQ below _ args s 0 0 A = Q
  have hl : lv_has ls 4 [(0, .ref (aM 0)), (1, .int p1)] := hl
  obtain ⟨H, hH⟩ : ∃ H, H = s.heap := ⟨_, rfl⟩
  obtain ⟨locs, hlo⟩ : ∃ z : List Loc, z = [] := ⟨_, rfl⟩
  have hP : va_P D vwCl (List.flatten (wM aM C ms mw ma ml)) H := by rw [hH]; exact hP
  have hS : va_S A s.heap H locs := by rw [hH, hlo]; exact hS
  rw [show W p l e rmX12_lays s m args below meth c s.heap [] 0 0 Q (F0 m 0 ls []) = W p l e rmX12_lays s m args below meth c H locs 0 0 Q (F0 m 0 ls []) from by rw [hH, hlo]]
  have N22 : ∀ (ms : Nat → Int32) (n22 : Nat) (x2_ : Int32) (ma : Nat → Nat → Int32) (H : Heap) (locs : List Loc) (ls : Array Slot), P_X12_lays_22 p1 post  ms n22 x2_ ma → va_P D vwCl (List.flatten (wM aM C ms mw ma ml)) H → va_D A (List.flatten (wM aM C ms mw ma ml)) → va_S A s.heap H locs → lv_has ls 4 [(0, .ref (aM 0)), (1, .int p1), (2, .int x2_)] → W p l e rmX12_lays s m args below meth c H locs 0 0 Q (F0 m 22 ls []) := by
    intro ms
    intro n22
    induction n22 with
    | zero => intro x2_ ma H locs ls h hP hD hS hl; exact False.elim h
    | succ n22 ih22 =>
      have N97 : ∀ (x2_ : Int32) (ma : Nat → Nat → Int32) (H : Heap) (locs : List Loc) (ls : Array Slot), P_X12_lays_97 p1 ms post (P_X12_lays_22 p1 post  ms n22) x2_ ma → va_P D vwCl (List.flatten (wM aM C ms mw ma ml)) H → va_D A (List.flatten (wM aM C ms mw ma ml)) → va_S A s.heap H locs → lv_has ls 4 [(0, .ref (aM 0)), (1, .int p1), (2, .int x2_)] → W p l e rmX12_lays s m args below meth c H locs 0 0 Q (F0 m 97 ls []) := by
        intro x2_ ma H locs ls h hP hD hS hl
        refine lv_iload_n hx hb dX12_lays_97 rfl (lv_at hl 1 rfl) ?_
        refine lv_if_ge (tgt := 104) hx hb dX12_lays_98 (by decide) (fun c1 => ?_) (fun c1 => ?_)
        · have h := h.1 c1
          refine lv_aload_n hx hb dX12_lays_104 rfl (lv_at hl 0 rfl) ?_
          refine va_get (D := D) (ci := 12) (v := .ref (aM 21)) (C := RX12) (T := TX12) (N := 51) hx hb hw inW_X12 hown hK hP 0 rfl rfl 33 (by decide) (hw _ mw_6_76) (fun _ h9 => h9) rfl dX12_lays_105 ?_
          refine lv_bipush (v := 11) hx hb dX12_lays_108 (by decide) ?_
          refine lv_iload_n hx hb dX12_lays_110 rfl (lv_at hl 2 rfl) ?_
          refine lv_imul hx hb dX12_lays_111 ?_
          refine lv_aload_n hx hb dX12_lays_112 rfl (lv_at hl 0 rfl) ?_
          refine va_get (D := D) (ci := 12) (v := .ref (aM 13)) (C := RX12) (T := TX12) (N := 51) hx hb hw inW_X12 hown hK hP 0 rfl rfl 23 (by decide) (hw _ mw_6_66) (fun _ h9 => h9) rfl dX12_lays_113 ?_
          refine lv_iconst (v := 0) hx hb dX12_lays_116 (by decide) ?_
          refine cIald hx hb hK hP 13 0 rfl rfl 0 (by decide +kernel) (cIn (by decide +kernel)) dX12_lays_117 ?_
          refine lv_iadd hx hb dX12_lays_118 ?_
          refine lv_iconst (v := 0) hx hb dX12_lays_119 (by decide) ?_
          refine cIast hx hb hK hP hD hS 21 0 rfl rfl (((11 * x2_) + (ma 10 0)).toNatClampNeg) rfl h.1 dX12_lays_120 (fun H locs hP hD hS => ?_)
          have h := h.2
          refine lv_aload_n hx hb dX12_lays_121 rfl (lv_at hl 0 rfl) ?_
          refine va_get (D := D) (ci := 12) (v := .ref (aM 22)) (C := RX12) (T := TX12) (N := 51) hx hb hw inW_X12 hown hK hP 0 rfl rfl 34 (by decide) (hw _ mw_6_77) (fun _ h9 => h9) rfl dX12_lays_122 ?_
          refine lv_bipush (v := 11) hx hb dX12_lays_125 (by decide) ?_
          refine lv_iload_n hx hb dX12_lays_127 rfl (lv_at hl 2 rfl) ?_
          refine lv_imul hx hb dX12_lays_128 ?_
          refine lv_aload_n hx hb dX12_lays_129 rfl (lv_at hl 0 rfl) ?_
          refine va_get (D := D) (ci := 12) (v := .ref (aM 13)) (C := RX12) (T := TX12) (N := 51) hx hb hw inW_X12 hown hK hP 0 rfl rfl 23 (by decide) (hw _ mw_6_66) (fun _ h9 => h9) rfl dX12_lays_130 ?_
          refine lv_iconst (v := 0) hx hb dX12_lays_133 (by decide) ?_
          refine cIald hx hb hK hP 13 0 rfl rfl 0 (by decide +kernel) (cIn (by decide +kernel)) dX12_lays_134 ?_
          refine lv_iadd hx hb dX12_lays_135 ?_
          refine lv_iload_n hx hb dX12_lays_136 rfl (lv_at hl 1 rfl) ?_
          refine cIast hx hb hK hP hD hS 22 0 rfl rfl (((11 * x2_) + (ma 10 0)).toNatClampNeg) rfl h.1 dX12_lays_137 (fun H locs hP hD hS => ?_)
          have h := h.2
          refine lv_iinc (v := (x2_ + 1)) (lv' := [(2, .int (x2_ + 1)), (0, .ref (aM 0)), (1, .int p1)]) hx hb dX12_lays_138 hl (k := 2) rfl rfl (by decide) rfl (fun ls hl => ?_)
          refine lv_goto (tgt := 22) hx hb dX12_lays_141 (by decide) ?_
          have hP : va_P D vwCl (List.flatten (wM aM C ms mw (va_up (va_up ma 18 (upd (ma 18) (((11 * x2_) + (ma 10 0)).toNatClampNeg) 0)) 19 (upd (ma 19) (((11 * x2_) + (ma 10 0)).toNatClampNeg) p1)) ml)) H := hP
          have hD : va_D A (List.flatten (wM aM C ms mw (va_up (va_up ma 18 (upd (ma 18) (((11 * x2_) + (ma 10 0)).toNatClampNeg) 0)) 19 (upd (ma 19) (((11 * x2_) + (ma 10 0)).toNatClampNeg) p1)) ml)) := hD
          exact ih22 (x2_ + 1) (va_up (va_up ma 18 (upd (ma 18) (((11 * x2_) + (ma 10 0)).toNatClampNeg) 0)) 19 (upd (ma 19) (((11 * x2_) + (ma 10 0)).toNatClampNeg) p1)) _ _ _ h hP hD hS (lv_sub hl [1, 2, 0] rfl)
        · have h := h.2 c1
          refine lv_goto (tgt := 138) hx hb dX12_lays_101 (by decide) ?_
          refine lv_iinc (v := (x2_ + 1)) (lv' := [(2, .int (x2_ + 1)), (0, .ref (aM 0)), (1, .int p1)]) hx hb dX12_lays_138 hl (k := 2) rfl rfl (by decide) rfl (fun ls hl => ?_)
          refine lv_goto (tgt := 22) hx hb dX12_lays_141 (by decide) ?_
          exact ih22 (x2_ + 1) ma _ _ _ h hP hD hS (lv_sub hl [1, 2, 0] rfl)
      have N34 : ∀ (x2_ : Int32) (n34 : Nat) (x3_ : Int32) (ma : Nat → Nat → Int32) (H : Heap) (locs : List Loc) (ls : Array Slot), P_X12_lays_34 p1 ms post (fun (x2_ : Int32) (ma : Nat → Nat → Int32) => P_X12_lays_97 p1 ms post (P_X12_lays_22 p1 post  ms n22) x2_ ma) x2_ n34 x3_ ma → va_P D vwCl (List.flatten (wM aM C ms mw ma ml)) H → va_D A (List.flatten (wM aM C ms mw ma ml)) → va_S A s.heap H locs → lv_has ls 4 [(0, .ref (aM 0)), (1, .int p1), (2, .int x2_), (3, .int x3_)] → W p l e rmX12_lays s m args below meth c H locs 0 0 Q (F0 m 34 ls []) := by
        intro x2_
        intro n34
        induction n34 with
        | zero => intro x3_ ma H locs ls h hP hD hS hl; exact False.elim h
        | succ n34 ih34 =>
          intro x3_ ma H locs ls h hP hD hS hl
          refine lv_iload_n hx hb dX12_lays_34 rfl (lv_at hl 3 rfl) ?_
          refine lv_aload_n hx hb dX12_lays_35 rfl (lv_at hl 0 rfl) ?_
          refine va_get (D := D) (ci := 12) (v := .ref (aM 13)) (C := RX12) (T := TX12) (N := 51) hx hb hw inW_X12 hown hK hP 0 rfl rfl 23 (by decide) (hw _ mw_6_66) (fun _ h9 => h9) rfl dX12_lays_36 ?_
          refine lv_iconst (v := 0) hx hb dX12_lays_39 (by decide) ?_
          refine cIald hx hb hK hP 13 0 rfl rfl 0 (by decide +kernel) (cIn (by decide +kernel)) dX12_lays_40 ?_
          refine lv_icmp_ge (tgt := 97) hx hb dX12_lays_41 (by decide) (fun c2 => ?_) (fun c2 => ?_)
          · have h := h.1 c2
            exact N97 x2_ ma _ _ _ h hP hD hS (lv_sub hl [0, 1, 2] rfl)
          · have h := h.2 c2
            refine lv_aload_n hx hb dX12_lays_44 rfl (lv_at hl 0 rfl) ?_
            refine va_get (D := D) (ci := 12) (v := .ref (aM 21)) (C := RX12) (T := TX12) (N := 51) hx hb hw inW_X12 hown hK hP 0 rfl rfl 33 (by decide) (hw _ mw_6_76) (fun _ h9 => h9) rfl dX12_lays_45 ?_
            refine lv_bipush (v := 11) hx hb dX12_lays_48 (by decide) ?_
            refine lv_iload_n hx hb dX12_lays_50 rfl (lv_at hl 2 rfl) ?_
            refine lv_imul hx hb dX12_lays_51 ?_
            refine lv_iload_n hx hb dX12_lays_52 rfl (lv_at hl 3 rfl) ?_
            refine lv_iadd hx hb dX12_lays_53 ?_
            refine lv_aload_n hx hb dX12_lays_54 rfl (lv_at hl 0 rfl) ?_
            refine lv_iload_n hx hb dX12_lays_55 rfl (lv_at hl 2 rfl) ?_
            refine lv_iconst (v := 0) hx hb dX12_lays_56 (by decide) ?_
            refine lv_iload_n hx hb dX12_lays_57 rfl (lv_at hl 3 rfl) ?_
            refine cGoAI (cRunAV (As := [.int x2_, .int 0, .int x3_]) (rest := [.int ((11 * x2_) + x3_), .ref (aM 21)]) ⟨hx, hb, hml, hown, hw⟩ hK hN hP hD (k_X12_troubleOf l D C _ aM  ms mw ma ml x2_ 0 x3_ h) (cwV 3 hw (goodV mw_7_159 mw_7_161 mw_s135 mw_1_13 mw_7_162) rfl rfl rfl (by decide +kernel) ⟨Nat.le_of_ble_eq_true rfl, Nat.le_of_ble_eq_true rfl⟩) rfl rfl rfl hl.1 rfl (Nat.le_of_ble_eq_true rfl) dX12_lays_58 ⟨Nat.zero_le _, Nat.zero_le _⟩) hP hD hS hA (fun r3 u H locs h hP hD hS => ?_)
            have hP : va_P D vwCl (List.flatten (wM aM C ms mw ma ml)) H := hP
            have hD : va_D A (List.flatten (wM aM C ms mw ma ml)) := hD
            refine cIast hx hb hK hP hD hS 21 0 rfl rfl (((11 * x2_) + x3_).toNatClampNeg) rfl h.1 dX12_lays_61 (fun H locs hP hD hS => ?_)
            have h := h.2
            refine lv_aload_n hx hb dX12_lays_62 rfl (lv_at hl 0 rfl) ?_
            refine va_get (D := D) (ci := 12) (v := .ref (aM 22)) (C := RX12) (T := TX12) (N := 51) hx hb hw inW_X12 hown hK hP 0 rfl rfl 34 (by decide) (hw _ mw_6_77) (fun _ h9 => h9) rfl dX12_lays_63 ?_
            refine lv_bipush (v := 11) hx hb dX12_lays_66 (by decide) ?_
            refine lv_iload_n hx hb dX12_lays_68 rfl (lv_at hl 2 rfl) ?_
            refine lv_imul hx hb dX12_lays_69 ?_
            refine lv_iload_n hx hb dX12_lays_70 rfl (lv_at hl 3 rfl) ?_
            refine lv_iadd hx hb dX12_lays_71 ?_
            refine lv_aload_n hx hb dX12_lays_72 rfl (lv_at hl 0 rfl) ?_
            refine lv_iconst (v := 0) hx hb dX12_lays_73 (by decide) ?_
            refine lv_iload_n hx hb dX12_lays_74 rfl (lv_at hl 3 rfl) ?_
            have hP : va_P D vwCl (List.flatten (wM aM C ms mw (va_up ma 18 (upd (ma 18) (((11 * x2_) + x3_).toNatClampNeg) r3)) ml)) H := hP
            have hD : va_D A (List.flatten (wM aM C ms mw (va_up ma 18 (upd (ma 18) (((11 * x2_) + x3_).toNatClampNeg) r3)) ml)) := hD
            refine cGoAI (cRunAV (As := [.int 0, .int x3_]) (rest := [.int ((11 * x2_) + x3_), .ref (aM 22)]) ⟨hx, hb, hml, hown, hw⟩ hK hN hP hD (k_X12_gainOf l D C _ aM  ms mw (va_up ma 18 (upd (ma 18) (((11 * x2_) + x3_).toNatClampNeg) r3)) ml 0 x3_ h) (cwV 2 hw (goodV mw_7_168 mw_7_170 mw_s136 mw_1_13 mw_7_171) rfl rfl rfl (by decide +kernel) ⟨Nat.le_of_ble_eq_true rfl, Nat.le_of_ble_eq_true rfl⟩) rfl rfl rfl hl.1 rfl (Nat.le_of_ble_eq_true rfl) dX12_lays_75 ⟨Nat.zero_le _, Nat.zero_le _⟩) hP hD hS hA (fun r4 u H locs h hP hD hS => ?_)
            have hP : va_P D vwCl (List.flatten (wM aM C ms mw (va_up ma 18 (upd (ma 18) (((11 * x2_) + x3_).toNatClampNeg) r3)) ml)) H := hP
            have hD : va_D A (List.flatten (wM aM C ms mw (va_up ma 18 (upd (ma 18) (((11 * x2_) + x3_).toNatClampNeg) r3)) ml)) := hD
            refine lv_aload_n hx hb dX12_lays_78 rfl (lv_at hl 0 rfl) ?_
            refine va_get (D := D) (ci := 12) (v := .ref (aM 21)) (C := RX12) (T := TX12) (N := 51) hx hb hw inW_X12 hown hK hP 0 rfl rfl 33 (by decide) (hw _ mw_6_76) (fun _ h9 => h9) rfl dX12_lays_79 ?_
            refine lv_bipush (v := 11) hx hb dX12_lays_82 (by decide) ?_
            refine lv_iload_n hx hb dX12_lays_84 rfl (lv_at hl 2 rfl) ?_
            refine lv_imul hx hb dX12_lays_85 ?_
            refine lv_iload_n hx hb dX12_lays_86 rfl (lv_at hl 3 rfl) ?_
            refine lv_iadd hx hb dX12_lays_87 ?_
            refine cIald hx hb hK hP 21 0 rfl rfl (((11 * x2_) + x3_).toNatClampNeg) rfl h.1 dX12_lays_88 ?_
            have h := h.2
            refine lv_isub hx hb dX12_lays_89 ?_
            refine cIast hx hb hK hP hD hS 22 0 rfl rfl (((11 * x2_) + x3_).toNatClampNeg) rfl h.1 dX12_lays_90 (fun H locs hP hD hS => ?_)
            have h := h.2
            refine lv_iinc (v := (x3_ + 1)) (lv' := [(3, .int (x3_ + 1)), (0, .ref (aM 0)), (1, .int p1), (2, .int x2_)]) hx hb dX12_lays_91 hl (k := 3) rfl rfl (by decide) rfl (fun ls hl => ?_)
            refine lv_goto (tgt := 34) hx hb dX12_lays_94 (by decide) ?_
            have hP : va_P D vwCl (List.flatten (wM aM C ms mw (va_up (va_up ma 18 (upd (ma 18) (((11 * x2_) + x3_).toNatClampNeg) r3)) 19 (upd (ma 19) (((11 * x2_) + x3_).toNatClampNeg) (r4 - ((upd (ma 18) (((11 * x2_) + x3_).toNatClampNeg) r3) (((11 * x2_) + x3_).toNatClampNeg))))) ml)) H := hP
            have hD : va_D A (List.flatten (wM aM C ms mw (va_up (va_up ma 18 (upd (ma 18) (((11 * x2_) + x3_).toNatClampNeg) r3)) 19 (upd (ma 19) (((11 * x2_) + x3_).toNatClampNeg) (r4 - ((upd (ma 18) (((11 * x2_) + x3_).toNatClampNeg) r3) (((11 * x2_) + x3_).toNatClampNeg))))) ml)) := hD
            exact ih34 (x3_ + 1) (va_up (va_up ma 18 (upd (ma 18) (((11 * x2_) + x3_).toNatClampNeg) r3)) 19 (upd (ma 19) (((11 * x2_) + x3_).toNatClampNeg) (r4 - ((upd (ma 18) (((11 * x2_) + x3_).toNatClampNeg) r3) (((11 * x2_) + x3_).toNatClampNeg))))) _ _ _ h hP hD hS (lv_sub hl [1, 2, 3, 0] rfl)
      intro x2_ ma H locs ls h hP hD hS hl
      refine lv_iload_n hx hb dX12_lays_22 rfl (lv_at hl 2 rfl) ?_
      refine lv_aload_n hx hb dX12_lays_23 rfl (lv_at hl 0 rfl) ?_
      refine va_get (D := D) (ci := 12) (v := .ref (aM 15)) (C := RX12) (T := TX12) (N := 51) hx hb hw inW_X12 hown hK hP 0 rfl rfl 25 (by decide) (hw _ mw_6_68) (fun _ h9 => h9) rfl dX12_lays_24 ?_
      refine lv_iconst (v := 0) hx hb dX12_lays_27 (by decide) ?_
      refine cIald hx hb hK hP 15 0 rfl rfl 0 (by decide +kernel) (cIn (by decide +kernel)) dX12_lays_28 ?_
      refine lv_icmp_ge (tgt := 144) hx hb dX12_lays_29 (by decide) (fun c5 => ?_) (fun c5 => ?_)
      · have h := h.1 c5
        rw [← hQ]
        exact cRetV (ms, ma) hx hb hr hlocks hS hP hD h dX12_lays_144
      · have h := h.2 c5
        refine lv_iconst (v := 0) hx hb dX12_lays_32 (by decide) ?_
        refine lv_istore_n (lv' := [(3, .int 0), (0, .ref (aM 0)), (1, .int p1), (2, .int x2_)]) hx hb dX12_lays_33 rfl hl (by decide) rfl (fun ls hl => ?_)
        obtain ⟨n, h⟩ := h
        exact N34 x2_ n 0 ma _ _ _ h hP hD hS (lv_sub hl [1, 2, 3, 0] rfl)
  refine lv_aload_n hx hb dX12_lays_0 rfl (lv_at hl 0 rfl) ?_
  refine lv_aload_n hx hb dX12_lays_1 rfl (lv_at hl 0 rfl) ?_
  refine va_get (D := D) (ci := 12) (v := .ref (aM 13)) (C := RX12) (T := TX12) (N := 51) hx hb hw inW_X12 hown hK hP 0 rfl rfl 23 (by decide) (hw _ mw_6_66) (fun _ h9 => h9) rfl dX12_lays_2 ?_
  refine lv_iconst (v := 0) hx hb dX12_lays_5 (by decide) ?_
  refine cIald hx hb hK hP 13 0 rfl rfl 0 (by decide +kernel) (cIn (by decide +kernel)) dX12_lays_6 ?_
  refine lv_iload_n hx hb dX12_lays_7 rfl (lv_at hl 1 rfl) ?_
  refine lv_if_ge (tgt := 15) hx hb dX12_lays_8 (by decide) (fun c6 => ?_) (fun c6 => ?_)
  · have h := h.1 c6
    refine lv_iconst (v := 1) hx hb dX12_lays_15 (by decide) ?_
    refine lv_iadd hx hb dX12_lays_16 ?_
    refine lv_topi (fun x7 ex7 => ?_)
    have h := h x7 ex7
    refine va_put (D := D) (ci := 12) (v := .int x7) (ty := .int) (C := RX12) (T := TX12) (N := 51) hx hb hw inW_X12 tyX12 tyX12_ok nmX12 hown hK hP hD hS 0 rfl rfl 35 (by decide) (hw _ mw_6_78) (fun _ h9 => h9) rfl (by decide +kernel) rfl rfl (Nat.le_of_ble_eq_true rfl) dX12_lays_17 (fun H locs hP hD hS => ?_)
    refine lv_iconst (v := 0) hx hb dX12_lays_20 (by decide) ?_
    refine lv_istore_n (lv' := [(2, .int 0), (0, .ref (aM 0)), (1, .int p1)]) hx hb dX12_lays_21 rfl hl (by decide) rfl (fun ls hl => ?_)
    have hP : va_P D vwCl (List.flatten (wM aM C (va_up ms 12 x7) mw ma ml)) H := hP
    have hD : va_D A (List.flatten (wM aM C (va_up ms 12 x7) mw ma ml)) := hD
    obtain ⟨n, h⟩ := h
    exact N22 (va_up ms 12 x7) n 0 ma _ _ _ h hP hD hS (lv_sub hl [1, 2, 0] rfl)
  · have h := h.2 c6
    refine lv_iconst (v := 0) hx hb dX12_lays_11 (by decide) ?_
    refine lv_goto (tgt := 16) hx hb dX12_lays_12 (by decide) ?_
    refine lv_iadd hx hb dX12_lays_16 ?_
    refine lv_topi (fun x8 ex8 => ?_)
    have h := h x8 ex8
    refine va_put (D := D) (ci := 12) (v := .int x8) (ty := .int) (C := RX12) (T := TX12) (N := 51) hx hb hw inW_X12 tyX12 tyX12_ok nmX12 hown hK hP hD hS 0 rfl rfl 35 (by decide) (hw _ mw_6_78) (fun _ h9 => h9) rfl (by decide +kernel) rfl rfl (Nat.le_of_ble_eq_true rfl) dX12_lays_17 (fun H locs hP hD hS => ?_)
    refine lv_iconst (v := 0) hx hb dX12_lays_20 (by decide) ?_
    refine lv_istore_n (lv' := [(2, .int 0), (0, .ref (aM 0)), (1, .int p1)]) hx hb dX12_lays_21 rfl hl (by decide) rfl (fun ls hl => ?_)
    have hP : va_P D vwCl (List.flatten (wM aM C (va_up ms 12 x8) mw ma ml)) H := hP
    have hD : va_D A (List.flatten (wM aM C (va_up ms 12 x8) mw ma ml)) := hD
    obtain ⟨n, h⟩ := h
    exact N22 (va_up ms 12 x8) n 0 ma _ _ _ h hP hD hS (lv_sub hl [1, 2, 0] rfl)
abbrev vsX12_takesOf : List Cond := Cond.code yX12_takesOf cX12_takesOf 7 (some .int) :: WS
abbrev rmX12_takesOf : Room := { frames := 0, cells := 0, slots := 0, locals := 0 }
set_option maxHeartbeats 4000000 in
set_option maxRecDepth 100000 in
theorem k_X12_takesOf (l : Launch) (D : va_G) (C : Nat → ClassId) (sz : Nat) (aM : Nat → Nat)  (ms : Nat → Int32) (mw : Nat → Int64) (ma : Nat → Nat → Int32) (ml : Nat → Nat → Int64) (p1 : Int32) (p2 : Int32) {post : Int32 → Prop} (h : P_X12_takesOf ms ma p1 p2 post) : Met l yX12_takesOf vsX12_takesOf rmX12_takesOf (cPre D C [.ref (aM 0), .int p1, .int p2] sz (wM aM C ms mw ma ml)) (cQi D (fun (r : Int32) (u : Unit) => post r ) (fun u => wM aM C ms mw ma ml) (va_A (List.flatten (wM aM C ms mw ma ml)) sz)) 0 0 (va_A (List.flatten (wM aM C ms mw ma ml)) sz) := by
  refine cStart (QA := fun A => cQi D (fun (r : Int32) (u : Unit) => post r ) (fun u => wM aM C ms mw ma ml) A) (cc := cX12_takesOf) (maxL := 7) (ret := (some .int)) (by decide) (Nat.le_of_ble_eq_true rfl) ?_
  intro p e s m args below meth c A ls hx hb hr hml hown hw hlocks hname hK hN hA hP hD hS hl
  generalize hQ : MQ below _ args s 0 0 A = Q
  have hl : lv_has ls 7 [(0, .ref (aM 0)), (1, .int p1), (2, .int p2)] := hl
  obtain ⟨H, hH⟩ : ∃ H, H = s.heap := ⟨_, rfl⟩
  obtain ⟨locs, hlo⟩ : ∃ z : List Loc, z = [] := ⟨_, rfl⟩
  have hP : va_P D vwCl (List.flatten (wM aM C ms mw ma ml)) H := by rw [hH]; exact hP
  have hS : va_S A s.heap H locs := by rw [hH, hlo]; exact hS
  rw [show W p l e rmX12_takesOf s m args below meth c s.heap [] 0 0 Q (F0 m 0 ls []) = W p l e rmX12_takesOf s m args below meth c H locs 0 0 Q (F0 m 0 ls []) from by rw [hH, hlo]]
  have N17 : ∀ (x3_ : Int32) (n17 : Nat) (x4_ : Int32) (x5_ : Int32) (H : Heap) (locs : List Loc) (ls : Array Slot), P_X12_takesOf_17 ms ma p1 p2 post  x3_ n17 x4_ x5_ → va_P D vwCl (List.flatten (wM aM C ms mw ma ml)) H → va_D A (List.flatten (wM aM C ms mw ma ml)) → va_S A s.heap H locs → lv_has ls 7 [(0, .ref (aM 0)), (1, .int p1), (2, .int p2), (3, .int x3_), (4, .int x4_), (5, .int x5_)] → W p l e rmX12_takesOf s m args below meth c H locs 0 0 Q (F0 m 17 ls []) := by
    intro x3_
    intro n17
    induction n17 with
    | zero => intro x4_ x5_ H locs ls h hP hD hS hl; exact False.elim h
    | succ n17 ih17 =>
      intro x4_ x5_ H locs ls h hP hD hS hl
      refine lv_iload hx hb dX12_takesOf_17 (lv_at hl 5 rfl) ?_
      refine lv_aload_n hx hb dX12_takesOf_19 rfl (lv_at hl 0 rfl) ?_
      refine va_get (D := D) (ci := 12) (v := .int (ms 12)) (C := RX12) (T := TX12) (N := 51) hx hb hw inW_X12 hown hK hP 0 rfl rfl 35 (by decide) (hw _ mw_6_78) (fun _ h9 => h9) rfl dX12_takesOf_20 ?_
      refine lv_icmp_ge (tgt := 148) hx hb dX12_takesOf_23 (by decide) (fun c1 => ?_) (fun c1 => ?_)
      · have h := h.1 c1
        refine lv_iload hx hb dX12_takesOf_148 (lv_at hl 4 rfl) ?_
        rw [← hQ]
        exact cRetI (v := x4_) () hx hb hr hlocks hS hP hD h dX12_takesOf_150
      · have h := h.2 c1
        refine lv_bipush (v := 11) hx hb dX12_takesOf_26 (by decide) ?_
        refine lv_iload_n hx hb dX12_takesOf_28 rfl (lv_at hl 1 rfl) ?_
        refine lv_imul hx hb dX12_takesOf_29 ?_
        refine lv_iload hx hb dX12_takesOf_30 (lv_at hl 5 rfl) ?_
        refine lv_iadd hx hb dX12_takesOf_32 ?_
        refine lv_topi (fun x2 ex2 => ?_)
        have h := h x2 ex2
        refine lv_istore (lv' := [(6, .int x2), (0, .ref (aM 0)), (1, .int p1), (2, .int p2), (3, .int x3_), (4, .int x4_), (5, .int x5_)]) hx hb dX12_takesOf_33 hl (by decide) rfl (fun ls hl => ?_)
        refine lv_iload_n hx hb dX12_takesOf_35 rfl (lv_at hl 3 rfl) ?_
        refine lv_iload hx hb dX12_takesOf_36 (lv_at hl 6 rfl) ?_
        refine lv_ishr hx hb dX12_takesOf_38 ?_
        refine lv_iconst (v := 1) hx hb dX12_takesOf_39 (by decide) ?_
        refine lv_iand hx hb dX12_takesOf_40 ?_
        refine lv_iconst (v := 1) hx hb dX12_takesOf_41 (by decide) ?_
        refine lv_icmp_eq (tgt := 142) hx hb dX12_takesOf_42 (by decide) (fun c3 => ?_) (fun c3 => ?_)
        · have h := h.1 c3
          refine lv_iinc (v := (x5_ + 1)) (lv' := [(5, .int (x5_ + 1)), (6, .int x2), (0, .ref (aM 0)), (1, .int p1), (2, .int p2), (3, .int x3_), (4, .int x4_)]) hx hb dX12_takesOf_142 hl (k := 6) rfl rfl (by decide) rfl (fun ls hl => ?_)
          refine lv_goto (tgt := 17) hx hb dX12_takesOf_145 (by decide) ?_
          exact ih17 x4_ (x5_ + 1) _ _ _ h hP hD hS (lv_sub hl [2, 3, 4, 5, 6, 0] rfl)
        · have h := h.2 c3
          refine lv_aload_n hx hb dX12_takesOf_45 rfl (lv_at hl 1 rfl) ?_
          refine va_get (D := D) (ci := 12) (v := .ref (aM 22)) (C := RX12) (T := TX12) (N := 51) hx hb hw inW_X12 hown hK hP 0 rfl rfl 34 (by decide) (hw _ mw_6_77) (fun _ h9 => h9) rfl dX12_takesOf_46 ?_
          refine lv_iload hx hb dX12_takesOf_49 (lv_at hl 0 rfl) ?_
          refine cIald hx hb hK hP 22 0 rfl rfl x2.toNatClampNeg rfl h.1 dX12_takesOf_51 ?_
          have h := h.2
          refine lv_if_gt (tgt := 58) hx hb dX12_takesOf_52 (by decide) (fun c4 => ?_) (fun c4 => ?_)
          · have h := h.1 c4
            refine lv_iload_n hx hb dX12_takesOf_58 rfl (lv_at hl 4 rfl) ?_
            refine lv_iconst (v := 2) hx hb dX12_takesOf_59 (by decide) ?_
            refine lv_icmp_ne (tgt := 81) hx hb dX12_takesOf_60 (by decide) (fun c5 => ?_) (fun c5 => ?_)
            · have h := h.1 c5
              refine lv_iload hx hb dX12_takesOf_81 (lv_at hl 5 rfl) ?_
              refine lv_iconst (v := (-1)) hx hb dX12_takesOf_83 (by decide) ?_
              refine lv_icmp_eq (tgt := 138) hx hb dX12_takesOf_84 (by decide) (fun c6 => ?_) (fun c6 => ?_)
              · have h := h.1 c6
                refine lv_iload hx hb dX12_takesOf_138 (lv_at hl 6 rfl) ?_
                refine lv_istore (lv' := [(4, .int x5_), (6, .int x2), (0, .ref (aM 0)), (1, .int p1), (2, .int p2), (3, .int x3_), (5, .int x5_)]) hx hb dX12_takesOf_140 hl (by decide) rfl (fun ls hl => ?_)
                refine lv_iinc (v := (x5_ + 1)) (lv' := [(5, .int (x5_ + 1)), (4, .int x5_), (6, .int x2), (0, .ref (aM 0)), (1, .int p1), (2, .int p2), (3, .int x3_)]) hx hb dX12_takesOf_142 hl (k := 6) rfl rfl (by decide) rfl (fun ls hl => ?_)
                refine lv_goto (tgt := 17) hx hb dX12_takesOf_145 (by decide) ?_
                exact ih17 x5_ (x5_ + 1) _ _ _ h hP hD hS (lv_sub hl [3, 4, 5, 6, 1, 0] rfl)
              · have h := h.2 c6
                refine lv_iload_n hx hb dX12_takesOf_87 rfl (lv_at hl 4 rfl) ?_
                refine lv_if_ne (tgt := 116) hx hb dX12_takesOf_88 (by decide) (fun c7 => ?_) (fun c7 => ?_)
                · have h := h.1 c7
                  refine lv_aload_n hx hb dX12_takesOf_116 rfl (lv_at hl 1 rfl) ?_
                  refine va_get (D := D) (ci := 12) (v := .ref (aM 21)) (C := RX12) (T := TX12) (N := 51) hx hb hw inW_X12 hown hK hP 0 rfl rfl 33 (by decide) (hw _ mw_6_76) (fun _ h9 => h9) rfl dX12_takesOf_117 ?_
                  refine lv_iload hx hb dX12_takesOf_120 (lv_at hl 0 rfl) ?_
                  refine cIald hx hb hK hP 21 0 rfl rfl x2.toNatClampNeg rfl h.1 dX12_takesOf_122 ?_
                  have h := h.2
                  refine lv_aload_n hx hb dX12_takesOf_123 rfl (lv_at hl 1 rfl) ?_
                  refine va_get (D := D) (ci := 12) (v := .ref (aM 21)) (C := RX12) (T := TX12) (N := 51) hx hb hw inW_X12 hown hK hP 0 rfl rfl 33 (by decide) (hw _ mw_6_76) (fun _ h9 => h9) rfl dX12_takesOf_124 ?_
                  refine lv_bipush (v := 11) hx hb dX12_takesOf_127 (by decide) ?_
                  refine lv_iload_n hx hb dX12_takesOf_129 rfl (lv_at hl 2 rfl) ?_
                  refine lv_imul hx hb dX12_takesOf_130 ?_
                  refine lv_iload hx hb dX12_takesOf_131 (lv_at hl 5 rfl) ?_
                  refine lv_iadd hx hb dX12_takesOf_133 ?_
                  refine cIald hx hb hK hP 21 0 rfl rfl (((11 * p1) + x4_).toNatClampNeg) rfl h.1 dX12_takesOf_134 ?_
                  have h := h.2
                  refine lv_icmp_ge (tgt := 142) hx hb dX12_takesOf_135 (by decide) (fun c8 => ?_) (fun c8 => ?_)
                  · have h := h.1 c8
                    refine lv_iinc (v := (x5_ + 1)) (lv' := [(5, .int (x5_ + 1)), (6, .int x2), (0, .ref (aM 0)), (1, .int p1), (2, .int p2), (3, .int x3_), (4, .int x4_)]) hx hb dX12_takesOf_142 hl (k := 6) rfl rfl (by decide) rfl (fun ls hl => ?_)
                    refine lv_goto (tgt := 17) hx hb dX12_takesOf_145 (by decide) ?_
                    exact ih17 x4_ (x5_ + 1) _ _ _ h hP hD hS (lv_sub hl [2, 3, 4, 5, 6, 0] rfl)
                  · have h := h.2 c8
                    refine lv_iload hx hb dX12_takesOf_138 (lv_at hl 6 rfl) ?_
                    refine lv_istore (lv' := [(4, .int x5_), (6, .int x2), (0, .ref (aM 0)), (1, .int p1), (2, .int p2), (3, .int x3_), (5, .int x5_)]) hx hb dX12_takesOf_140 hl (by decide) rfl (fun ls hl => ?_)
                    refine lv_iinc (v := (x5_ + 1)) (lv' := [(5, .int (x5_ + 1)), (4, .int x5_), (6, .int x2), (0, .ref (aM 0)), (1, .int p1), (2, .int p2), (3, .int x3_)]) hx hb dX12_takesOf_142 hl (k := 6) rfl rfl (by decide) rfl (fun ls hl => ?_)
                    refine lv_goto (tgt := 17) hx hb dX12_takesOf_145 (by decide) ?_
                    exact ih17 x5_ (x5_ + 1) _ _ _ h hP hD hS (lv_sub hl [3, 4, 5, 6, 1, 0] rfl)
                · have h := h.2 c7
                  refine lv_aload_n hx hb dX12_takesOf_91 rfl (lv_at hl 1 rfl) ?_
                  refine va_get (D := D) (ci := 12) (v := .ref (aM 22)) (C := RX12) (T := TX12) (N := 51) hx hb hw inW_X12 hown hK hP 0 rfl rfl 34 (by decide) (hw _ mw_6_77) (fun _ h9 => h9) rfl dX12_takesOf_92 ?_
                  refine lv_iload hx hb dX12_takesOf_95 (lv_at hl 0 rfl) ?_
                  refine cIald hx hb hK hP 22 0 rfl rfl x2.toNatClampNeg rfl h.1 dX12_takesOf_97 ?_
                  have h := h.2
                  refine lv_aload_n hx hb dX12_takesOf_98 rfl (lv_at hl 1 rfl) ?_
                  refine va_get (D := D) (ci := 12) (v := .ref (aM 22)) (C := RX12) (T := TX12) (N := 51) hx hb hw inW_X12 hown hK hP 0 rfl rfl 34 (by decide) (hw _ mw_6_77) (fun _ h9 => h9) rfl dX12_takesOf_99 ?_
                  refine lv_bipush (v := 11) hx hb dX12_takesOf_102 (by decide) ?_
                  refine lv_iload_n hx hb dX12_takesOf_104 rfl (lv_at hl 2 rfl) ?_
                  refine lv_imul hx hb dX12_takesOf_105 ?_
                  refine lv_iload hx hb dX12_takesOf_106 (lv_at hl 5 rfl) ?_
                  refine lv_iadd hx hb dX12_takesOf_108 ?_
                  refine cIald hx hb hK hP 22 0 rfl rfl (((11 * p1) + x4_).toNatClampNeg) rfl h.1 dX12_takesOf_109 ?_
                  have h := h.2
                  refine lv_icmp_le (tgt := 142) hx hb dX12_takesOf_110 (by decide) (fun c9 => ?_) (fun c9 => ?_)
                  · have h := h.1 c9
                    refine lv_iinc (v := (x5_ + 1)) (lv' := [(5, .int (x5_ + 1)), (6, .int x2), (0, .ref (aM 0)), (1, .int p1), (2, .int p2), (3, .int x3_), (4, .int x4_)]) hx hb dX12_takesOf_142 hl (k := 6) rfl rfl (by decide) rfl (fun ls hl => ?_)
                    refine lv_goto (tgt := 17) hx hb dX12_takesOf_145 (by decide) ?_
                    exact ih17 x4_ (x5_ + 1) _ _ _ h hP hD hS (lv_sub hl [2, 3, 4, 5, 6, 0] rfl)
                  · have h := h.2 c9
                    refine lv_goto (tgt := 138) hx hb dX12_takesOf_113 (by decide) ?_
                    refine lv_iload hx hb dX12_takesOf_138 (lv_at hl 6 rfl) ?_
                    refine lv_istore (lv' := [(4, .int x5_), (6, .int x2), (0, .ref (aM 0)), (1, .int p1), (2, .int p2), (3, .int x3_), (5, .int x5_)]) hx hb dX12_takesOf_140 hl (by decide) rfl (fun ls hl => ?_)
                    refine lv_iinc (v := (x5_ + 1)) (lv' := [(5, .int (x5_ + 1)), (4, .int x5_), (6, .int x2), (0, .ref (aM 0)), (1, .int p1), (2, .int p2), (3, .int x3_)]) hx hb dX12_takesOf_142 hl (k := 6) rfl rfl (by decide) rfl (fun ls hl => ?_)
                    refine lv_goto (tgt := 17) hx hb dX12_takesOf_145 (by decide) ?_
                    exact ih17 x5_ (x5_ + 1) _ _ _ h hP hD hS (lv_sub hl [3, 4, 5, 6, 1, 0] rfl)
            · have h := h.2 c5
              refine lv_iload hx hb dX12_takesOf_63 (lv_at hl 6 rfl) ?_
              refine lv_aload_n hx hb dX12_takesOf_65 rfl (lv_at hl 1 rfl) ?_
              refine va_get (D := D) (ci := 12) (v := .ref (aM 16)) (C := RX12) (T := TX12) (N := 51) hx hb hw inW_X12 hown hK hP 0 rfl rfl 26 (by decide) (hw _ mw_6_69) (fun _ h9 => h9) rfl dX12_takesOf_66 ?_
              refine lv_iconst (v := 5) hx hb dX12_takesOf_69 (by decide) ?_
              refine lv_iload_n hx hb dX12_takesOf_70 rfl (lv_at hl 2 rfl) ?_
              refine lv_imul hx hb dX12_takesOf_71 ?_
              refine lv_iconst (v := 4) hx hb dX12_takesOf_72 (by decide) ?_
              refine lv_iadd hx hb dX12_takesOf_73 ?_
              refine cIald hx hb hK hP 16 0 rfl rfl (((5 * p1) + 4).toNatClampNeg) rfl h.1 dX12_takesOf_74 ?_
              have h := h.2
              refine lv_icmp_ne (tgt := 142) hx hb dX12_takesOf_75 (by decide) (fun c10 => ?_) (fun c10 => ?_)
              · have h := h.1 c10
                refine lv_iinc (v := (x5_ + 1)) (lv' := [(5, .int (x5_ + 1)), (6, .int x2), (0, .ref (aM 0)), (1, .int p1), (2, .int p2), (3, .int x3_), (4, .int x4_)]) hx hb dX12_takesOf_142 hl (k := 6) rfl rfl (by decide) rfl (fun ls hl => ?_)
                refine lv_goto (tgt := 17) hx hb dX12_takesOf_145 (by decide) ?_
                exact ih17 x4_ (x5_ + 1) _ _ _ h hP hD hS (lv_sub hl [2, 3, 4, 5, 6, 0] rfl)
              · have h := h.2 c10
                refine lv_iload hx hb dX12_takesOf_78 (lv_at hl 6 rfl) ?_
                rw [← hQ]
                exact cRetI (v := x5_) () hx hb hr hlocks hS hP hD h dX12_takesOf_80
          · have h := h.2 c4
            refine lv_goto (tgt := 142) hx hb dX12_takesOf_55 (by decide) ?_
            refine lv_iinc (v := (x5_ + 1)) (lv' := [(5, .int (x5_ + 1)), (6, .int x2), (0, .ref (aM 0)), (1, .int p1), (2, .int p2), (3, .int x3_), (4, .int x4_)]) hx hb dX12_takesOf_142 hl (k := 6) rfl rfl (by decide) rfl (fun ls hl => ?_)
            refine lv_goto (tgt := 17) hx hb dX12_takesOf_145 (by decide) ?_
            exact ih17 x4_ (x5_ + 1) _ _ _ h hP hD hS (lv_sub hl [2, 3, 4, 5, 6, 0] rfl)
  refine lv_aload_n hx hb dX12_takesOf_0 rfl (lv_at hl 0 rfl) ?_
  refine va_get (D := D) (ci := 12) (v := .ref (aM 16)) (C := RX12) (T := TX12) (N := 51) hx hb hw inW_X12 hown hK hP 0 rfl rfl 26 (by decide) (hw _ mw_6_69) (fun _ h9 => h9) rfl dX12_takesOf_1 ?_
  refine lv_iconst (v := 5) hx hb dX12_takesOf_4 (by decide) ?_
  refine lv_iload_n hx hb dX12_takesOf_5 rfl (lv_at hl 1 rfl) ?_
  refine lv_imul hx hb dX12_takesOf_6 ?_
  refine lv_iconst (v := 3) hx hb dX12_takesOf_7 (by decide) ?_
  refine lv_iadd hx hb dX12_takesOf_8 ?_
  refine cIald hx hb hK hP 16 0 rfl rfl (((5 * p1) + 3).toNatClampNeg) rfl h.1 dX12_takesOf_9 ?_
  have h := h.2
  refine lv_topi (fun x11 ex11 => ?_)
  have h := h x11 ex11
  refine lv_istore_n (lv' := [(3, .int x11), (0, .ref (aM 0)), (1, .int p1), (2, .int p2)]) hx hb dX12_takesOf_10 rfl hl (by decide) rfl (fun ls hl => ?_)
  refine lv_iconst (v := (-1)) hx hb dX12_takesOf_11 (by decide) ?_
  refine lv_istore (lv' := [(4, .int (-1)), (3, .int x11), (0, .ref (aM 0)), (1, .int p1), (2, .int p2)]) hx hb dX12_takesOf_12 hl (by decide) rfl (fun ls hl => ?_)
  refine lv_iconst (v := 0) hx hb dX12_takesOf_14 (by decide) ?_
  refine lv_istore (lv' := [(5, .int 0), (4, .int (-1)), (3, .int x11), (0, .ref (aM 0)), (1, .int p1), (2, .int p2)]) hx hb dX12_takesOf_15 hl (by decide) rfl (fun ls hl => ?_)
  obtain ⟨n, h⟩ := h
  exact N17 x11 n (-1) 0 _ _ _ h hP hD hS (lv_sub hl [3, 4, 5, 2, 1, 0] rfl)
abbrev vsX12_takes_ : List Cond := Cond.code yX12_takes_ cX12_takes_ 3 (some .int) :: WS
abbrev rmX12_takes_ : Room := { frames := 4, cells := 0, slots := 0, locals := 95 }
set_option maxHeartbeats 4000000 in
set_option maxRecDepth 100000 in
theorem k_X12_takes_ (l : Launch) (D : va_G) (C : Nat → ClassId) (sz : Nat) (aM : Nat → Nat)  (ms : Nat → Int32) (mw : Nat → Int64) (ma : Nat → Nat → Int32) (ml : Nat → Nat → Int64) (p1 : Int32) (p2 : Int32) {post : Int32 → (Nat → Int32) → (Nat → Nat → Int32) → Prop} (h : P_X12_takes_ ms ma p1 p2 post) : Met l yX12_takes_ vsX12_takes_ rmX12_takes_ (cPre D C [.ref (aM 0), .int p1, .int p2] sz (wM aM C ms mw ma ml)) (cQi D (fun (r : Int32) (u : (Nat → Int32) × (Nat → Nat → Int32)) => post r u.1 u.2) (fun u => wM aM C u.1 mw u.2 ml) (va_A (List.flatten (wM aM C ms mw ma ml)) sz)) 0 0 (va_A (List.flatten (wM aM C ms mw ma ml)) sz) := by
  refine cStart (QA := fun A => cQi D (fun (r : Int32) (u : (Nat → Int32) × (Nat → Nat → Int32)) => post r u.1 u.2) (fun u => wM aM C u.1 mw u.2 ml) A) (cc := cX12_takes_) (maxL := 3) (ret := (some .int)) (by decide) (Nat.le_of_ble_eq_true rfl) ?_
  intro p e s m args below meth c A ls hx hb hr hml hown hw hlocks hname hK hN hA hP hD hS hl
  generalize hQ : MQ below _ args s 0 0 A = Q
  have hl : lv_has ls 3 [(0, .ref (aM 0)), (1, .int p1), (2, .int p2)] := hl
  obtain ⟨H, hH⟩ : ∃ H, H = s.heap := ⟨_, rfl⟩
  obtain ⟨locs, hlo⟩ : ∃ z : List Loc, z = [] := ⟨_, rfl⟩
  have hP : va_P D vwCl (List.flatten (wM aM C ms mw ma ml)) H := by rw [hH]; exact hP
  have hS : va_S A s.heap H locs := by rw [hH, hlo]; exact hS
  rw [show W p l e rmX12_takes_ s m args below meth c s.heap [] 0 0 Q (F0 m 0 ls []) = W p l e rmX12_takes_ s m args below meth c H locs 0 0 Q (F0 m 0 ls []) from by rw [hH, hlo]]
  refine lv_aload_n hx hb dX12_takes__0 rfl (lv_at hl 0 rfl) ?_
  refine lv_iconst (v := 0) hx hb dX12_takes__1 (by decide) ?_
  refine va_put (D := D) (ci := 12) (v := .int 0) (ty := .int) (C := RX12) (T := TX12) (N := 51) hx hb hw inW_X12 tyX12 tyX12_ok nmX12 hown hK hP hD hS 0 rfl rfl 0 (by decide) (hw _ mw_6_43) (fun _ h9 => h9) rfl (by decide +kernel) rfl rfl (Nat.le_of_ble_eq_true rfl) dX12_takes__2 (fun H locs hP hD hS => ?_)
  refine lv_aload_n hx hb dX12_takes__5 rfl (lv_at hl 0 rfl) ?_
  refine lv_iload_n hx hb dX12_takes__6 rfl (lv_at hl 1 rfl) ?_
  have hP : va_P D vwCl (List.flatten (wM aM C (va_up ms 0 0) mw ma ml)) H := hP
  have hD : va_D A (List.flatten (wM aM C (va_up ms 0 0) mw ma ml)) := hD
  refine cGoAI (cRunAV (As := [.int p1]) (rest := []) ⟨hx, hb, hml, hown, hw⟩ hK hN hP hD (k_X12_isThief l D C _ aM  (va_up ms 0 0) mw ma ml p1 h) (cwV 1 hw (goodV mw_7_155 mw_7_157 mw_s134 mw_1_13 mw_7_158) rfl rfl rfl (by decide +kernel) ⟨Nat.le_of_ble_eq_true rfl, Nat.le_of_ble_eq_true rfl⟩) rfl rfl rfl hl.1 rfl (Nat.le_of_ble_eq_true rfl) dX12_takes__7 ⟨Nat.zero_le _, Nat.zero_le _⟩) hP hD hS hA (fun r1 u H locs h hP hD hS => ?_)
  have hP : va_P D vwCl (List.flatten (wM aM C (va_up ms 0 0) mw ma ml)) H := hP
  have hD : va_D A (List.flatten (wM aM C (va_up ms 0 0) mw ma ml)) := hD
  refine lv_if_eq (tgt := 33) hx hb dX12_takes__10 (by decide) (fun c2 => ?_) (fun c2 => ?_)
  · have h := h.1 c2
    refine lv_bipush (v := (-2)) hx hb dX12_takes__33 (by decide) ?_
    rw [← hQ]
    exact cRetI (v := (-2)) ((va_up ms 0 0), ma) hx hb hr hlocks hS hP hD h dX12_takes__35
  · have h := h.2 c2
    refine lv_iload_n hx hb dX12_takes__13 rfl (lv_at hl 2 rfl) ?_
    refine lv_i2l hx hb dX12_takes__14 rfl ?_
    refine lv_lconst (v := 0) hx hb dX12_takes__15 (by decide) ?_
    refine lv_iconst (v := 1) hx hb dX12_takes__16 (by decide) ?_
    refine lv_aload_n hx hb dX12_takes__17 rfl (lv_at hl 0 rfl) ?_
    refine va_get (D := D) (ci := 12) (v := .ref (aM 13)) (C := RX12) (T := TX12) (N := 51) hx hb hw inW_X12 hown hK hP 0 rfl rfl 23 (by decide) (hw _ mw_6_66) (fun _ h9 => h9) rfl dX12_takes__18 ?_
    refine lv_iconst (v := 0) hx hb dX12_takes__21 (by decide) ?_
    refine cIald hx hb hK hP 13 0 rfl rfl 0 (by decide +kernel) (cIn (by decide +kernel)) dX12_takes__22 ?_
    refine lv_ishl hx hb dX12_takes__23 ?_
    refine lv_iconst (v := 1) hx hb dX12_takes__24 (by decide) ?_
    refine lv_isub hx hb dX12_takes__25 ?_
    refine lv_i2l hx hb dX12_takes__26 rfl ?_
    refine cGoEI (cRunES (As := [.long p2.toInt64, .long 0, .long ((((1 : Int32) <<< ((ma 10 0) &&& 31)) - 1).toInt64)]) (rest := []) ⟨hx, hb, hml, hown, hw⟩ hK hN hP hD (k_X12_in l D C _    p2.toInt64 0 ((((1 : Int32) <<< ((ma 10 0) &&& 31)) - 1).toInt64) h) (va_cwS 3 hw (goodS mw_6_205 mw_6_206 mw_1_13 mw_6_207) rfl rfl rfl (by decide +kernel) ⟨Nat.le_of_ble_eq_true rfl, Nat.le_of_ble_eq_true rfl⟩) rfl hl.1 rfl (Nat.le_of_ble_eq_true rfl) dX12_takes__27 ⟨Nat.zero_le _, Nat.zero_le _⟩) hP hD hS hA (fun r3 u H locs h hP hD hS => ?_)
    have hP : va_P D vwCl (List.flatten (wM aM C (va_up ms 0 0) mw ma ml)) H := hP
    have hD : va_D A (List.flatten (wM aM C (va_up ms 0 0) mw ma ml)) := hD
    refine lv_if_ne (tgt := 36) hx hb dX12_takes__30 (by decide) (fun c4 => ?_) (fun c4 => ?_)
    · have h := h.1 c4
      refine lv_aload_n hx hb dX12_takes__36 rfl (lv_at hl 0 rfl) ?_
      refine lv_iconst (v := (-1)) hx hb dX12_takes__37 (by decide) ?_
      refine cGoAV (cRunAV (As := [.int (-1)]) (rest := []) ⟨hx, hb, hml, hown, hw⟩ hK hN hP hD (k_X12_lays l D C _ aM  (va_up ms 0 0) mw ma ml (-1) h) (cwV 1 hw (goodV mw_7_180 mw_7_182 mw_s138 mw_1_13 mw_7_183) rfl rfl rfl (by decide +kernel) ⟨Nat.le_of_ble_eq_true rfl, Nat.le_of_ble_eq_true rfl⟩) rfl rfl rfl hl.1 rfl (Nat.le_of_ble_eq_true rfl) dX12_takes__38 ⟨Nat.zero_le _, Nat.zero_le _⟩) hP hD hS hA (fun u H locs h hP hD hS => ?_)
      obtain ⟨ms_5, ma_6⟩ := u
      have hP : va_P D vwCl (List.flatten (wM aM C ms_5 mw ma_6 ml)) H := hP
      have hD : va_D A (List.flatten (wM aM C ms_5 mw ma_6 ml)) := hD
      refine lv_aload_n hx hb dX12_takes__41 rfl (lv_at hl 0 rfl) ?_
      refine lv_iload_n hx hb dX12_takes__42 rfl (lv_at hl 1 rfl) ?_
      refine lv_iload_n hx hb dX12_takes__43 rfl (lv_at hl 2 rfl) ?_
      refine cGoAI (cRunAV (As := [.int p1, .int p2]) (rest := []) ⟨hx, hb, hml, hown, hw⟩ hK hN hP hD (k_X12_takesOf l D C _ aM  ms_5 mw ma_6 ml p1 p2 h) (cwV 2 hw (goodV mw_7_184 mw_7_186 mw_s139 mw_1_13 mw_7_187) rfl rfl rfl (by decide +kernel) ⟨Nat.le_of_ble_eq_true rfl, Nat.le_of_ble_eq_true rfl⟩) rfl rfl rfl hl.1 rfl (Nat.le_of_ble_eq_true rfl) dX12_takes__44 ⟨Nat.zero_le _, Nat.zero_le _⟩) hP hD hS hA (fun r7 u H locs h hP hD hS => ?_)
      have hP : va_P D vwCl (List.flatten (wM aM C ms_5 mw ma_6 ml)) H := hP
      have hD : va_D A (List.flatten (wM aM C ms_5 mw ma_6 ml)) := hD
      rw [← hQ]
      exact cRetI (v := r7) (ms_5, ma_6) hx hb hr hlocks hS hP hD h dX12_takes__47
    · have h := h.2 c4
      refine lv_bipush (v := (-2)) hx hb dX12_takes__33 (by decide) ?_
      rw [← hQ]
      exact cRetI (v := (-2)) ((va_up ms 0 0), ma) hx hb hr hlocks hS hP hD h dX12_takes__35
abbrev vsX12_wantsOf : List Cond := Cond.code yX12_wantsOf cX12_wantsOf 4 (some .int) :: WS
abbrev rmX12_wantsOf : Room := { frames := 0, cells := 0, slots := 0, locals := 0 }
set_option maxHeartbeats 4000000 in
set_option maxRecDepth 100000 in
theorem k_X12_wantsOf (l : Launch) (D : va_G) (C : Nat → ClassId) (sz : Nat) (aM : Nat → Nat)  (ms : Nat → Int32) (mw : Nat → Int64) (ma : Nat → Nat → Int32) (ml : Nat → Nat → Int64) (p1 : Int32) {post : Int32 → Prop} (h : P_X12_wantsOf ma p1 post) : Met l yX12_wantsOf vsX12_wantsOf rmX12_wantsOf (cPre D C [.ref (aM 0), .int p1] sz (wM aM C ms mw ma ml)) (cQi D (fun (r : Int32) (u : Unit) => post r ) (fun u => wM aM C ms mw ma ml) (va_A (List.flatten (wM aM C ms mw ma ml)) sz)) 0 0 (va_A (List.flatten (wM aM C ms mw ma ml)) sz) := by
  refine cStart (QA := fun A => cQi D (fun (r : Int32) (u : Unit) => post r ) (fun u => wM aM C ms mw ma ml) A) (cc := cX12_wantsOf) (maxL := 4) (ret := (some .int)) (by decide) (Nat.le_of_ble_eq_true rfl) ?_
  intro p e s m args below meth c A ls hx hb hr hml hown hw hlocks hname hK hN hA hP hD hS hl
  generalize hQ : MQ below _ args s 0 0 A = Q
  have hl : lv_has ls 4 [(0, .ref (aM 0)), (1, .int p1)] := hl
  obtain ⟨H, hH⟩ : ∃ H, H = s.heap := ⟨_, rfl⟩
  obtain ⟨locs, hlo⟩ : ∃ z : List Loc, z = [] := ⟨_, rfl⟩
  have hP : va_P D vwCl (List.flatten (wM aM C ms mw ma ml)) H := by rw [hH]; exact hP
  have hS : va_S A s.heap H locs := by rw [hH, hlo]; exact hS
  rw [show W p l e rmX12_wantsOf s m args below meth c s.heap [] 0 0 Q (F0 m 0 ls []) = W p l e rmX12_wantsOf s m args below meth c H locs 0 0 Q (F0 m 0 ls []) from by rw [hH, hlo]]
  have N4 : ∀  (n4 : Nat) (x2_ : Int32) (x3_ : Int32) (H : Heap) (locs : List Loc) (ls : Array Slot), P_X12_wantsOf_4 ma p1 post   n4 x2_ x3_ → va_P D vwCl (List.flatten (wM aM C ms mw ma ml)) H → va_D A (List.flatten (wM aM C ms mw ma ml)) → va_S A s.heap H locs → lv_has ls 4 [(0, .ref (aM 0)), (1, .int p1), (2, .int x2_), (3, .int x3_)] → W p l e rmX12_wantsOf s m args below meth c H locs 0 0 Q (F0 m 4 ls []) := by
    intro n4
    induction n4 with
    | zero => intro x2_ x3_ H locs ls h hP hD hS hl; exact False.elim h
    | succ n4 ih4 =>
      intro x2_ x3_ H locs ls h hP hD hS hl
      refine lv_iload_n hx hb dX12_wantsOf_4 rfl (lv_at hl 3 rfl) ?_
      refine lv_aload_n hx hb dX12_wantsOf_5 rfl (lv_at hl 0 rfl) ?_
      refine va_get (D := D) (ci := 12) (v := .ref (aM 13)) (C := RX12) (T := TX12) (N := 51) hx hb hw inW_X12 hown hK hP 0 rfl rfl 23 (by decide) (hw _ mw_6_66) (fun _ h9 => h9) rfl dX12_wantsOf_6 ?_
      refine lv_iconst (v := 0) hx hb dX12_wantsOf_9 (by decide) ?_
      refine cIald hx hb hK hP 13 0 rfl rfl 0 (by decide +kernel) (cIn (by decide +kernel)) dX12_wantsOf_10 ?_
      refine lv_icmp_ge (tgt := 42) hx hb dX12_wantsOf_11 (by decide) (fun c1 => ?_) (fun c1 => ?_)
      · have h := h.1 c1
        refine lv_iload_n hx hb dX12_wantsOf_42 rfl (lv_at hl 2 rfl) ?_
        rw [← hQ]
        exact cRetI (v := x2_) () hx hb hr hlocks hS hP hD h dX12_wantsOf_43
      · have h := h.2 c1
        refine lv_iload_n hx hb dX12_wantsOf_14 rfl (lv_at hl 2 rfl) ?_
        refine lv_aload_n hx hb dX12_wantsOf_15 rfl (lv_at hl 0 rfl) ?_
        refine va_get (D := D) (ci := 12) (v := .ref (aM 22)) (C := RX12) (T := TX12) (N := 51) hx hb hw inW_X12 hown hK hP 0 rfl rfl 34 (by decide) (hw _ mw_6_77) (fun _ h9 => h9) rfl dX12_wantsOf_16 ?_
        refine lv_bipush (v := 11) hx hb dX12_wantsOf_19 (by decide) ?_
        refine lv_iload_n hx hb dX12_wantsOf_21 rfl (lv_at hl 1 rfl) ?_
        refine lv_imul hx hb dX12_wantsOf_22 ?_
        refine lv_iload_n hx hb dX12_wantsOf_23 rfl (lv_at hl 3 rfl) ?_
        refine lv_iadd hx hb dX12_wantsOf_24 ?_
        refine cIald hx hb hK hP 22 0 rfl rfl (((11 * p1) + x3_).toNatClampNeg) rfl h.1 dX12_wantsOf_25 ?_
        have h := h.2
        refine lv_if_le (tgt := 33) hx hb dX12_wantsOf_26 (by decide) (fun c2 => ?_) (fun c2 => ?_)
        · have h := h.1 c2
          refine lv_iconst (v := 0) hx hb dX12_wantsOf_33 (by decide) ?_
          refine lv_iadd hx hb dX12_wantsOf_34 ?_
          refine lv_topi (fun x3 ex3 => ?_)
          have h := h x3 ex3
          refine lv_istore_n (lv' := [(2, .int x3), (0, .ref (aM 0)), (1, .int p1), (3, .int x3_)]) hx hb dX12_wantsOf_35 rfl hl (by decide) rfl (fun ls hl => ?_)
          refine lv_iinc (v := (x3_ + 1)) (lv' := [(3, .int (x3_ + 1)), (2, .int x3), (0, .ref (aM 0)), (1, .int p1)]) hx hb dX12_wantsOf_36 hl (k := 3) rfl rfl (by decide) rfl (fun ls hl => ?_)
          refine lv_goto (tgt := 4) hx hb dX12_wantsOf_39 (by decide) ?_
          exact ih4 x3 (x3_ + 1) _ _ _ h hP hD hS (lv_sub hl [2, 3, 1, 0] rfl)
        · have h := h.2 c2
          refine lv_iconst (v := 1) hx hb dX12_wantsOf_29 (by decide) ?_
          refine lv_goto (tgt := 34) hx hb dX12_wantsOf_30 (by decide) ?_
          refine lv_iadd hx hb dX12_wantsOf_34 ?_
          refine lv_topi (fun x4 ex4 => ?_)
          have h := h x4 ex4
          refine lv_istore_n (lv' := [(2, .int x4), (0, .ref (aM 0)), (1, .int p1), (3, .int x3_)]) hx hb dX12_wantsOf_35 rfl hl (by decide) rfl (fun ls hl => ?_)
          refine lv_iinc (v := (x3_ + 1)) (lv' := [(3, .int (x3_ + 1)), (2, .int x4), (0, .ref (aM 0)), (1, .int p1)]) hx hb dX12_wantsOf_36 hl (k := 3) rfl rfl (by decide) rfl (fun ls hl => ?_)
          refine lv_goto (tgt := 4) hx hb dX12_wantsOf_39 (by decide) ?_
          exact ih4 x4 (x3_ + 1) _ _ _ h hP hD hS (lv_sub hl [2, 3, 1, 0] rfl)
  refine lv_iconst (v := 0) hx hb dX12_wantsOf_0 (by decide) ?_
  refine lv_istore_n (lv' := [(2, .int 0), (0, .ref (aM 0)), (1, .int p1)]) hx hb dX12_wantsOf_1 rfl hl (by decide) rfl (fun ls hl => ?_)
  refine lv_iconst (v := 0) hx hb dX12_wantsOf_2 (by decide) ?_
  refine lv_istore_n (lv' := [(3, .int 0), (2, .int 0), (0, .ref (aM 0)), (1, .int p1)]) hx hb dX12_wantsOf_3 rfl hl (by decide) rfl (fun ls hl => ?_)
  obtain ⟨n, h⟩ := h
  exact N4  n 0 0 _ _ _ h hP hD hS (lv_sub hl [2, 3, 1, 0] rfl)
abbrev vsX12_wants : List Cond := Cond.code yX12_wants cX12_wants 2 (some .int) :: WS
abbrev rmX12_wants : Room := { frames := 4, cells := 0, slots := 0, locals := 95 }
set_option maxHeartbeats 4000000 in
set_option maxRecDepth 100000 in
theorem k_X12_wants (l : Launch) (D : va_G) (C : Nat → ClassId) (sz : Nat) (aM : Nat → Nat)  (ms : Nat → Int32) (mw : Nat → Int64) (ma : Nat → Nat → Int32) (ml : Nat → Nat → Int64) (p1 : Int32) {post : Int32 → (Nat → Int32) → (Nat → Nat → Int32) → Prop} (h : P_X12_wants ms ma p1 post) : Met l yX12_wants vsX12_wants rmX12_wants (cPre D C [.ref (aM 0), .int p1] sz (wM aM C ms mw ma ml)) (cQi D (fun (r : Int32) (u : (Nat → Int32) × (Nat → Nat → Int32)) => post r u.1 u.2) (fun u => wM aM C u.1 mw u.2 ml) (va_A (List.flatten (wM aM C ms mw ma ml)) sz)) 0 0 (va_A (List.flatten (wM aM C ms mw ma ml)) sz) := by
  refine cStart (QA := fun A => cQi D (fun (r : Int32) (u : (Nat → Int32) × (Nat → Nat → Int32)) => post r u.1 u.2) (fun u => wM aM C u.1 mw u.2 ml) A) (cc := cX12_wants) (maxL := 2) (ret := (some .int)) (by decide) (Nat.le_of_ble_eq_true rfl) ?_
  intro p e s m args below meth c A ls hx hb hr hml hown hw hlocks hname hK hN hA hP hD hS hl
  generalize hQ : MQ below _ args s 0 0 A = Q
  have hl : lv_has ls 2 [(0, .ref (aM 0)), (1, .int p1)] := hl
  obtain ⟨H, hH⟩ : ∃ H, H = s.heap := ⟨_, rfl⟩
  obtain ⟨locs, hlo⟩ : ∃ z : List Loc, z = [] := ⟨_, rfl⟩
  have hP : va_P D vwCl (List.flatten (wM aM C ms mw ma ml)) H := by rw [hH]; exact hP
  have hS : va_S A s.heap H locs := by rw [hH, hlo]; exact hS
  rw [show W p l e rmX12_wants s m args below meth c s.heap [] 0 0 Q (F0 m 0 ls []) = W p l e rmX12_wants s m args below meth c H locs 0 0 Q (F0 m 0 ls []) from by rw [hH, hlo]]
  refine lv_aload_n hx hb dX12_wants_0 rfl (lv_at hl 0 rfl) ?_
  refine lv_iconst (v := 0) hx hb dX12_wants_1 (by decide) ?_
  refine va_put (D := D) (ci := 12) (v := .int 0) (ty := .int) (C := RX12) (T := TX12) (N := 51) hx hb hw inW_X12 tyX12 tyX12_ok nmX12 hown hK hP hD hS 0 rfl rfl 0 (by decide) (hw _ mw_6_43) (fun _ h9 => h9) rfl (by decide +kernel) rfl rfl (Nat.le_of_ble_eq_true rfl) dX12_wants_2 (fun H locs hP hD hS => ?_)
  refine lv_aload_n hx hb dX12_wants_5 rfl (lv_at hl 0 rfl) ?_
  refine lv_iload_n hx hb dX12_wants_6 rfl (lv_at hl 1 rfl) ?_
  have hP : va_P D vwCl (List.flatten (wM aM C (va_up ms 0 0) mw ma ml)) H := hP
  have hD : va_D A (List.flatten (wM aM C (va_up ms 0 0) mw ma ml)) := hD
  refine cGoAI (cRunAV (As := [.int p1]) (rest := []) ⟨hx, hb, hml, hown, hw⟩ hK hN hP hD (k_X12_isThief l D C _ aM  (va_up ms 0 0) mw ma ml p1 h) (cwV 1 hw (goodV mw_7_155 mw_7_157 mw_s134 mw_1_13 mw_7_158) rfl rfl rfl (by decide +kernel) ⟨Nat.le_of_ble_eq_true rfl, Nat.le_of_ble_eq_true rfl⟩) rfl rfl rfl hl.1 rfl (Nat.le_of_ble_eq_true rfl) dX12_wants_7 ⟨Nat.zero_le _, Nat.zero_le _⟩) hP hD hS hA (fun r1 u H locs h hP hD hS => ?_)
  have hP : va_P D vwCl (List.flatten (wM aM C (va_up ms 0 0) mw ma ml)) H := hP
  have hD : va_D A (List.flatten (wM aM C (va_up ms 0 0) mw ma ml)) := hD
  refine lv_if_ne (tgt := 16) hx hb dX12_wants_10 (by decide) (fun c2 => ?_) (fun c2 => ?_)
  · have h := h.1 c2
    refine lv_aload_n hx hb dX12_wants_16 rfl (lv_at hl 0 rfl) ?_
    refine lv_iconst (v := (-1)) hx hb dX12_wants_17 (by decide) ?_
    refine cGoAV (cRunAV (As := [.int (-1)]) (rest := []) ⟨hx, hb, hml, hown, hw⟩ hK hN hP hD (k_X12_lays l D C _ aM  (va_up ms 0 0) mw ma ml (-1) h) (cwV 1 hw (goodV mw_7_180 mw_7_182 mw_s138 mw_1_13 mw_7_183) rfl rfl rfl (by decide +kernel) ⟨Nat.le_of_ble_eq_true rfl, Nat.le_of_ble_eq_true rfl⟩) rfl rfl rfl hl.1 rfl (Nat.le_of_ble_eq_true rfl) dX12_wants_18 ⟨Nat.zero_le _, Nat.zero_le _⟩) hP hD hS hA (fun u H locs h hP hD hS => ?_)
    obtain ⟨ms_3, ma_4⟩ := u
    have hP : va_P D vwCl (List.flatten (wM aM C ms_3 mw ma_4 ml)) H := hP
    have hD : va_D A (List.flatten (wM aM C ms_3 mw ma_4 ml)) := hD
    refine lv_aload_n hx hb dX12_wants_21 rfl (lv_at hl 0 rfl) ?_
    refine lv_iload_n hx hb dX12_wants_22 rfl (lv_at hl 1 rfl) ?_
    refine cGoAI (cRunAV (As := [.int p1]) (rest := []) ⟨hx, hb, hml, hown, hw⟩ hK hN hP hD (k_X12_wantsOf l D C _ aM  ms_3 mw ma_4 ml p1 h) (cwV 1 hw (goodV mw_7_192 mw_7_194 mw_s140 mw_1_13 mw_7_195) rfl rfl rfl (by decide +kernel) ⟨Nat.le_of_ble_eq_true rfl, Nat.le_of_ble_eq_true rfl⟩) rfl rfl rfl hl.1 rfl (Nat.le_of_ble_eq_true rfl) dX12_wants_23 ⟨Nat.zero_le _, Nat.zero_le _⟩) hP hD hS hA (fun r5 u H locs h hP hD hS => ?_)
    have hP : va_P D vwCl (List.flatten (wM aM C ms_3 mw ma_4 ml)) H := hP
    have hD : va_D A (List.flatten (wM aM C ms_3 mw ma_4 ml)) := hD
    rw [← hQ]
    exact cRetI (v := r5) (ms_3, ma_4) hx hb hr hlocks hS hP hD h dX12_wants_26
  · have h := h.2 c2
    refine lv_bipush (v := (-2)) hx hb dX12_wants_13 (by decide) ?_
    rw [← hQ]
    exact cRetI (v := (-2)) ((va_up ms 0 0), ma) hx hb hr hlocks hS hP hD h dX12_wants_15
abbrev vsX12_night : List Cond := Cond.code yX12_night cX12_night 5 none :: WS
abbrev rmX12_night : Room := { frames := 4, cells := 0, slots := 0, locals := 95 }
set_option maxHeartbeats 4000000 in
set_option maxRecDepth 100000 in
theorem k_X12_night (l : Launch) (D : va_G) (C : Nat → ClassId) (sz : Nat) (aM : Nat → Nat)  (ms : Nat → Int32) (mw : Nat → Int64) (ma : Nat → Nat → Int32) (ml : Nat → Nat → Int64)  {post : (Nat → Int32) → (Nat → Nat → Int32) → (Nat → Nat → Int64) → Prop} (h : P_X12_night ms ma ml post) : Met l yX12_night vsX12_night rmX12_night (cPre D C [.ref (aM 0)] sz (wM aM C ms mw ma ml)) (cQv D (fun (u : (Nat → Int32) × (Nat → Nat → Int32) × (Nat → Nat → Int64)) => post u.1 u.2.1 u.2.2) (fun u => wM aM C u.1 mw u.2.1 u.2.2) (va_A (List.flatten (wM aM C ms mw ma ml)) sz)) 0 0 (va_A (List.flatten (wM aM C ms mw ma ml)) sz) := by
  refine cStart (QA := fun A => cQv D (fun (u : (Nat → Int32) × (Nat → Nat → Int32) × (Nat → Nat → Int64)) => post u.1 u.2.1 u.2.2) (fun u => wM aM C u.1 mw u.2.1 u.2.2) A) (cc := cX12_night) (maxL := 5) (ret := none) (by decide) (Nat.le_of_ble_eq_true rfl) ?_
  intro p e s m args below meth c A ls hx hb hr hml hown hw hlocks hname hK hN hA hP hD hS hl
  generalize hQ : MQ below _ args s 0 0 A = Q
  have hl : lv_has ls 5 [(0, .ref (aM 0))] := hl
  obtain ⟨H, hH⟩ : ∃ H, H = s.heap := ⟨_, rfl⟩
  obtain ⟨locs, hlo⟩ : ∃ z : List Loc, z = [] := ⟨_, rfl⟩
  have hP : va_P D vwCl (List.flatten (wM aM C ms mw ma ml)) H := by rw [hH]; exact hP
  have hS : va_S A s.heap H locs := by rw [hH, hlo]; exact hS
  rw [show W p l e rmX12_night s m args below meth c s.heap [] 0 0 Q (F0 m 0 ls []) = W p l e rmX12_night s m args below meth c H locs 0 0 Q (F0 m 0 ls []) from by rw [hH, hlo]]
  have N67 : ∀ (x1_ : Int32) (ms : Nat → Int32) (ma : Nat → Nat → Int32) (n67 : Nat) (x2_ : Int32) (ml : Nat → Nat → Int64) (H : Heap) (locs : List Loc) (ls : Array Slot), P_X12_night_67  post  x1_ ms ma n67 x2_ ml → va_P D vwCl (List.flatten (wM aM C ms mw ma ml)) H → va_D A (List.flatten (wM aM C ms mw ma ml)) → va_S A s.heap H locs → lv_has ls 5 [(0, .ref (aM 0)), (1, .int x1_), (2, .int x2_)] → W p l e rmX12_night s m args below meth c H locs 0 0 Q (F0 m 67 ls []) := by
    intro x1_ ms ma
    intro n67
    induction n67 with
    | zero => intro x2_ ml H locs ls h hP hD hS hl; exact False.elim h
    | succ n67 ih67 =>
      have N120 : ∀ (x2_ : Int32) (n120 : Nat) (x3_ : Int32) (ml : Nat → Nat → Int64) (H : Heap) (locs : List Loc) (ls : Array Slot), P_X12_night_120 x1_ ms ma post (P_X12_night_67  post  x1_ ms ma n67) x2_ n120 x3_ ml → va_P D vwCl (List.flatten (wM aM C ms mw ma ml)) H → va_D A (List.flatten (wM aM C ms mw ma ml)) → va_S A s.heap H locs → lv_has ls 5 [(0, .ref (aM 0)), (1, .int x1_), (2, .int x2_), (3, .int x3_)] → W p l e rmX12_night s m args below meth c H locs 0 0 Q (F0 m 120 ls []) := by
        intro x2_
        intro n120
        induction n120 with
        | zero => intro x3_ ml H locs ls h hP hD hS hl; exact False.elim h
        | succ n120 ih120 =>
          intro x3_ ml H locs ls h hP hD hS hl
          refine lv_iload_n hx hb dX12_night_120 rfl (lv_at hl 3 rfl) ?_
          refine lv_iload_n hx hb dX12_night_121 rfl (lv_at hl 1 rfl) ?_
          refine lv_icmp_ge (tgt := 218) hx hb dX12_night_122 (by decide) (fun c1 => ?_) (fun c1 => ?_)
          · have h := h.1 c1
            refine lv_iinc (v := (x2_ + 1)) (lv' := [(2, .int (x2_ + 1)), (0, .ref (aM 0)), (1, .int x1_), (3, .int x3_)]) hx hb dX12_night_218 hl (k := 2) rfl rfl (by decide) rfl (fun ls hl => ?_)
            refine lv_goto (tgt := 67) hx hb dX12_night_221 (by decide) ?_
            exact ih67 (x2_ + 1) ml _ _ _ h hP hD hS (lv_sub hl [1, 2, 0] rfl)
          · have h := h.2 c1
            refine lv_aload_n hx hb dX12_night_125 rfl (lv_at hl 0 rfl) ?_
            refine va_get (D := D) (ci := 12) (v := .ref (aM 24)) (C := RX12) (T := TX12) (N := 51) hx hb hw inW_X12 hown hK hP 0 rfl rfl 37 (by decide) (hw _ mw_6_80) (fun _ h9 => h9) rfl dX12_night_126 ?_
            refine lv_iload_n hx hb dX12_night_129 rfl (lv_at hl 3 rfl) ?_
            refine cLald hx hb hK hP 24 1 rfl rfl x3_.toNatClampNeg rfl h.1 dX12_night_130 ?_
            have h := h.2
            refine lv_lconst (v := 0) hx hb dX12_night_131 (by decide) ?_
            refine W.lcmp hx hb dX12_night_132 ?_
            refine lv_if_ne (tgt := 139) hx hb dX12_night_133 (by decide) (fun c2 => ?_) (fun c2 => ?_)
            · have c2 : ¬ (ml 3 x3_.toNatClampNeg) = 0 := fun q => c2 ((lg_cmp_eq _ _).mpr q)
              have h := h.1 c2
              refine lv_aload_n hx hb dX12_night_139 rfl (lv_at hl 0 rfl) ?_
              refine lv_iload_n hx hb dX12_night_140 rfl (lv_at hl 2 rfl) ?_
              refine lv_iload_n hx hb dX12_night_141 rfl (lv_at hl 3 rfl) ?_
              refine cGoAI (cRunAV (As := [.int x2_, .int x3_]) (rest := []) ⟨hx, hb, hml, hown, hw⟩ hK hN hP hD (k_X12_takesOf l D C _ aM  ms mw ma ml x2_ x3_ h) (cwV 2 hw (goodV mw_7_184 mw_7_186 mw_s139 mw_1_13 mw_7_187) rfl rfl rfl (by decide +kernel) ⟨Nat.le_of_ble_eq_true rfl, Nat.le_of_ble_eq_true rfl⟩) rfl rfl rfl hl.1 rfl (Nat.le_of_ble_eq_true rfl) dX12_night_142 ⟨Nat.zero_le _, Nat.zero_le _⟩) hP hD hS hA (fun r3 u H locs h hP hD hS => ?_)
              have hP : va_P D vwCl (List.flatten (wM aM C ms mw ma ml)) H := hP
              have hD : va_D A (List.flatten (wM aM C ms mw ma ml)) := hD
              refine lv_istore (lv' := [(4, .int r3), (0, .ref (aM 0)), (1, .int x1_), (2, .int x2_), (3, .int x3_)]) hx hb dX12_night_145 hl (by decide) rfl (fun ls hl => ?_)
              refine lv_iload hx hb dX12_night_147 (lv_at hl 0 rfl) ?_
              refine lv_iconst (v := (-1)) hx hb dX12_night_149 (by decide) ?_
              refine lv_icmp_ne (tgt := 156) hx hb dX12_night_150 (by decide) (fun c4 => ?_) (fun c4 => ?_)
              · have h := h.1 c4
                refine lv_aload_n hx hb dX12_night_156 rfl (lv_at hl 1 rfl) ?_
                refine va_get (D := D) (ci := 12) (v := .ref (aM 23)) (C := RX12) (T := TX12) (N := 51) hx hb hw inW_X12 hown hK hP 0 rfl rfl 36 (by decide) (hw _ mw_6_79) (fun _ h9 => h9) rfl dX12_night_157 ?_
                refine lv_iload_n hx hb dX12_night_160 rfl (lv_at hl 4 rfl) ?_
                refine lv_dup2_11 hx hb dX12_night_161 rfl rfl ?_
                refine cLald hx hb hK hP 23 1 rfl rfl x3_.toNatClampNeg rfl h.1 dX12_night_162 ?_
                have h := h.2
                refine lv_aload_n hx hb dX12_night_163 rfl (lv_at hl 1 rfl) ?_
                refine va_get (D := D) (ci := 12) (v := .ref (aM 24)) (C := RX12) (T := TX12) (N := 51) hx hb hw inW_X12 hown hK hP 0 rfl rfl 37 (by decide) (hw _ mw_6_80) (fun _ h9 => h9) rfl dX12_night_164 ?_
                refine lv_iload_n hx hb dX12_night_167 rfl (lv_at hl 4 rfl) ?_
                refine cLald hx hb hK hP 24 1 rfl rfl x3_.toNatClampNeg rfl h.1 dX12_night_168 ?_
                have h := h.2
                refine lv_lsub hx hb dX12_night_169 ?_
                refine cLast hx hb hK hP hD hS 23 1 rfl rfl x3_.toNatClampNeg rfl h.1 dX12_night_170 (fun H locs hP hD hS => ?_)
                have h := h.2
                refine lv_aload_n hx hb dX12_night_171 rfl (lv_at hl 1 rfl) ?_
                refine va_get (D := D) (ci := 12) (v := .ref (aM 23)) (C := RX12) (T := TX12) (N := 51) hx hb hw inW_X12 hown hK hP 0 rfl rfl 36 (by decide) (hw _ mw_6_79) (fun _ h9 => h9) rfl dX12_night_172 ?_
                refine lv_iload_n hx hb dX12_night_175 rfl (lv_at hl 4 rfl) ?_
                refine lv_iconst (v := 1) hx hb dX12_night_176 (by decide) ?_
                refine lv_iload hx hb dX12_night_177 (lv_at hl 0 rfl) ?_
                refine lv_ishl hx hb dX12_night_179 ?_
                refine lv_ior hx hb dX12_night_180 ?_
                refine lv_dup2_11 hx hb dX12_night_181 rfl rfl ?_
                refine cLald hx hb hK hP 23 1 rfl rfl ((x3_ ||| ((1 : Int32) <<< (r3 &&& 31))).toNatClampNeg) rfl h.1 dX12_night_182 ?_
                have h := h.2
                refine lv_aload_n hx hb dX12_night_183 rfl (lv_at hl 1 rfl) ?_
                refine va_get (D := D) (ci := 12) (v := .ref (aM 24)) (C := RX12) (T := TX12) (N := 51) hx hb hw inW_X12 hown hK hP 0 rfl rfl 37 (by decide) (hw _ mw_6_80) (fun _ h9 => h9) rfl dX12_night_184 ?_
                refine lv_iload_n hx hb dX12_night_187 rfl (lv_at hl 4 rfl) ?_
                refine cLald hx hb hK hP 24 1 rfl rfl x3_.toNatClampNeg rfl h.1 dX12_night_188 ?_
                have h := h.2
                refine lv_ladd hx hb dX12_night_189 ?_
                refine cLast hx hb hK hP hD hS 23 1 rfl rfl ((x3_ ||| ((1 : Int32) <<< (r3 &&& 31))).toNatClampNeg) rfl h.1 dX12_night_190 (fun H locs hP hD hS => ?_)
                have h := h.2
                refine lv_aload_n hx hb dX12_night_191 rfl (lv_at hl 1 rfl) ?_
                refine va_get (D := D) (ci := 12) (v := .ref (aM 25)) (C := RX12) (T := TX12) (N := 51) hx hb hw inW_X12 hown hK hP 0 rfl rfl 38 (by decide) (hw _ mw_6_81) (fun _ h9 => h9) rfl dX12_night_192 ?_
                refine lv_bipush (v := 10) hx hb dX12_night_195 (by decide) ?_
                refine lv_iload_n hx hb dX12_night_197 rfl (lv_at hl 3 rfl) ?_
                refine lv_imul hx hb dX12_night_198 ?_
                refine lv_iload hx hb dX12_night_199 (lv_at hl 0 rfl) ?_
                refine lv_iadd hx hb dX12_night_201 ?_
                refine lv_dup2_11 hx hb dX12_night_202 rfl rfl ?_
                refine cLald hx hb hK hP 25 1 rfl rfl (((10 * x2_) + r3).toNatClampNeg) rfl h.1 dX12_night_203 ?_
                have h := h.2
                refine lv_aload_n hx hb dX12_night_204 rfl (lv_at hl 1 rfl) ?_
                refine va_get (D := D) (ci := 12) (v := .ref (aM 24)) (C := RX12) (T := TX12) (N := 51) hx hb hw inW_X12 hown hK hP 0 rfl rfl 37 (by decide) (hw _ mw_6_80) (fun _ h9 => h9) rfl dX12_night_205 ?_
                refine lv_iload_n hx hb dX12_night_208 rfl (lv_at hl 4 rfl) ?_
                refine cLald hx hb hK hP 24 1 rfl rfl x3_.toNatClampNeg rfl h.1 dX12_night_209 ?_
                have h := h.2
                refine lv_ladd hx hb dX12_night_210 ?_
                refine cLast hx hb hK hP hD hS 25 1 rfl rfl (((10 * x2_) + r3).toNatClampNeg) rfl h.1 dX12_night_211 (fun H locs hP hD hS => ?_)
                have h := h.2
                refine lv_iinc (v := (x3_ + 1)) (lv' := [(3, .int (x3_ + 1)), (4, .int r3), (0, .ref (aM 0)), (1, .int x1_), (2, .int x2_)]) hx hb dX12_night_212 hl (k := 4) rfl rfl (by decide) rfl (fun ls hl => ?_)
                refine lv_goto (tgt := 120) hx hb dX12_night_215 (by decide) ?_
                have hP : va_P D vwCl (List.flatten (wM aM C ms mw ma (va_up (va_up ml 2 (vp_updL (vp_updL (ml 2) x3_.toNatClampNeg ((ml 2 x3_.toNatClampNeg) - (ml 3 x3_.toNatClampNeg))) ((x3_ ||| ((1 : Int32) <<< (r3 &&& 31))).toNatClampNeg) (((vp_updL (ml 2) x3_.toNatClampNeg ((ml 2 x3_.toNatClampNeg) - (ml 3 x3_.toNatClampNeg))) ((x3_ ||| ((1 : Int32) <<< (r3 &&& 31))).toNatClampNeg)) + (ml 3 x3_.toNatClampNeg)))) 4 (vp_updL (ml 4) (((10 * x2_) + r3).toNatClampNeg) ((ml 4 (((10 * x2_) + r3).toNatClampNeg)) + (ml 3 x3_.toNatClampNeg)))))) H := hP
                have hD : va_D A (List.flatten (wM aM C ms mw ma (va_up (va_up ml 2 (vp_updL (vp_updL (ml 2) x3_.toNatClampNeg ((ml 2 x3_.toNatClampNeg) - (ml 3 x3_.toNatClampNeg))) ((x3_ ||| ((1 : Int32) <<< (r3 &&& 31))).toNatClampNeg) (((vp_updL (ml 2) x3_.toNatClampNeg ((ml 2 x3_.toNatClampNeg) - (ml 3 x3_.toNatClampNeg))) ((x3_ ||| ((1 : Int32) <<< (r3 &&& 31))).toNatClampNeg)) + (ml 3 x3_.toNatClampNeg)))) 4 (vp_updL (ml 4) (((10 * x2_) + r3).toNatClampNeg) ((ml 4 (((10 * x2_) + r3).toNatClampNeg)) + (ml 3 x3_.toNatClampNeg)))))) := hD
                exact ih120 (x3_ + 1) (va_up (va_up ml 2 (vp_updL (vp_updL (ml 2) x3_.toNatClampNeg ((ml 2 x3_.toNatClampNeg) - (ml 3 x3_.toNatClampNeg))) ((x3_ ||| ((1 : Int32) <<< (r3 &&& 31))).toNatClampNeg) (((vp_updL (ml 2) x3_.toNatClampNeg ((ml 2 x3_.toNatClampNeg) - (ml 3 x3_.toNatClampNeg))) ((x3_ ||| ((1 : Int32) <<< (r3 &&& 31))).toNatClampNeg)) + (ml 3 x3_.toNatClampNeg)))) 4 (vp_updL (ml 4) (((10 * x2_) + r3).toNatClampNeg) ((ml 4 (((10 * x2_) + r3).toNatClampNeg)) + (ml 3 x3_.toNatClampNeg)))) _ _ _ h hP hD hS (lv_sub hl [2, 3, 4, 0] rfl)
              · have h := h.2 c4
                refine lv_goto (tgt := 212) hx hb dX12_night_153 (by decide) ?_
                refine lv_iinc (v := (x3_ + 1)) (lv' := [(3, .int (x3_ + 1)), (4, .int r3), (0, .ref (aM 0)), (1, .int x1_), (2, .int x2_)]) hx hb dX12_night_212 hl (k := 4) rfl rfl (by decide) rfl (fun ls hl => ?_)
                refine lv_goto (tgt := 120) hx hb dX12_night_215 (by decide) ?_
                exact ih120 (x3_ + 1) ml _ _ _ h hP hD hS (lv_sub hl [2, 3, 4, 0] rfl)
            · have c2 : (ml 3 x3_.toNatClampNeg) = 0 := (lg_cmp_eq _ _).mp c2
              have h := h.2 c2
              refine lv_goto (tgt := 212) hx hb dX12_night_136 (by decide) ?_
              refine lv_iinc (v := (x3_ + 1)) (lv' := [(3, .int (x3_ + 1)), (0, .ref (aM 0)), (1, .int x1_), (2, .int x2_)]) hx hb dX12_night_212 hl (k := 3) rfl rfl (by decide) rfl (fun ls hl => ?_)
              refine lv_goto (tgt := 120) hx hb dX12_night_215 (by decide) ?_
              exact ih120 (x3_ + 1) ml _ _ _ h hP hD hS (lv_sub hl [1, 2, 3, 0] rfl)
      have N79 : ∀ (x2_ : Int32) (n79 : Nat) (x3_ : Int32) (ml : Nat → Nat → Int64) (H : Heap) (locs : List Loc) (ls : Array Slot), P_X12_night_79 x1_ ms ma post (fun (x2_ : Int32) (x3_ : Int32) (ml : Nat → Nat → Int64) => ∃ n : Nat, P_X12_night_120 x1_ ms ma post (P_X12_night_67  post  x1_ ms ma n67) x2_ n x3_ ml) x2_ n79 x3_ ml → va_P D vwCl (List.flatten (wM aM C ms mw ma ml)) H → va_D A (List.flatten (wM aM C ms mw ma ml)) → va_S A s.heap H locs → lv_has ls 5 [(0, .ref (aM 0)), (1, .int x1_), (2, .int x2_), (3, .int x3_)] → W p l e rmX12_night s m args below meth c H locs 0 0 Q (F0 m 79 ls []) := by
        intro x2_
        intro n79
        induction n79 with
        | zero => intro x3_ ml H locs ls h hP hD hS hl; exact False.elim h
        | succ n79 ih79 =>
          intro x3_ ml H locs ls h hP hD hS hl
          refine lv_iload_n hx hb dX12_night_79 rfl (lv_at hl 3 rfl) ?_
          refine lv_iload_n hx hb dX12_night_80 rfl (lv_at hl 1 rfl) ?_
          refine lv_icmp_ge (tgt := 118) hx hb dX12_night_81 (by decide) (fun c5 => ?_) (fun c5 => ?_)
          · have h := h.1 c5
            refine lv_iconst (v := 0) hx hb dX12_night_118 (by decide) ?_
            refine lv_istore_n (lv' := [(3, .int 0), (0, .ref (aM 0)), (1, .int x1_), (2, .int x2_)]) hx hb dX12_night_119 rfl hl (by decide) rfl (fun ls hl => ?_)
            obtain ⟨n, h⟩ := h
            exact N120 x2_ n 0 ml _ _ _ h hP hD hS (lv_sub hl [1, 2, 3, 0] rfl)
          · have h := h.2 c5
            refine lv_aload_n hx hb dX12_night_84 rfl (lv_at hl 0 rfl) ?_
            refine va_get (D := D) (ci := 12) (v := .ref (aM 24)) (C := RX12) (T := TX12) (N := 51) hx hb hw inW_X12 hown hK hP 0 rfl rfl 37 (by decide) (hw _ mw_6_80) (fun _ h9 => h9) rfl dX12_night_85 ?_
            refine lv_iload_n hx hb dX12_night_88 rfl (lv_at hl 3 rfl) ?_
            refine lv_aload_n hx hb dX12_night_89 rfl (lv_at hl 0 rfl) ?_
            refine va_get (D := D) (ci := 12) (v := .ref (aM 23)) (C := RX12) (T := TX12) (N := 51) hx hb hw inW_X12 hown hK hP 0 rfl rfl 36 (by decide) (hw _ mw_6_79) (fun _ h9 => h9) rfl dX12_night_90 ?_
            refine lv_iload_n hx hb dX12_night_93 rfl (lv_at hl 3 rfl) ?_
            refine cLald hx hb hK hP 23 1 rfl rfl x3_.toNatClampNeg rfl h.1 dX12_night_94 ?_
            have h := h.2
            refine lv_aload_n hx hb dX12_night_95 rfl (lv_at hl 0 rfl) ?_
            refine va_get (D := D) (ci := 12) (v := .ref (aM 16)) (C := RX12) (T := TX12) (N := 51) hx hb hw inW_X12 hown hK hP 0 rfl rfl 26 (by decide) (hw _ mw_6_69) (fun _ h9 => h9) rfl dX12_night_96 ?_
            refine lv_iconst (v := 5) hx hb dX12_night_99 (by decide) ?_
            refine lv_iload_n hx hb dX12_night_100 rfl (lv_at hl 2 rfl) ?_
            refine lv_imul hx hb dX12_night_101 ?_
            refine lv_iconst (v := 1) hx hb dX12_night_102 (by decide) ?_
            refine lv_iadd hx hb dX12_night_103 ?_
            refine cIald hx hb hK hP 16 0 rfl rfl (((5 * x2_) + 1).toNatClampNeg) rfl h.1 dX12_night_104 ?_
            have h := h.2
            refine lv_i2l hx hb dX12_night_105 rfl ?_
            refine lv_lmul hx hb dX12_night_106 ?_
            refine lv_ldc2 (v := 100) hx hb hown (hw _ mw_7_163) dX12_night_107 ?_
            refine lv_ldiv hx hb dX12_night_110 (by decide) ?_
            refine cLast hx hb hK hP hD hS 24 1 rfl rfl x3_.toNatClampNeg rfl h.1 dX12_night_111 (fun H locs hP hD hS => ?_)
            have h := h.2
            refine lv_iinc (v := (x3_ + 1)) (lv' := [(3, .int (x3_ + 1)), (0, .ref (aM 0)), (1, .int x1_), (2, .int x2_)]) hx hb dX12_night_112 hl (k := 3) rfl rfl (by decide) rfl (fun ls hl => ?_)
            refine lv_goto (tgt := 79) hx hb dX12_night_115 (by decide) ?_
            have hP : va_P D vwCl (List.flatten (wM aM C ms mw ma (va_up ml 3 (vp_updL (ml 3) x3_.toNatClampNeg (((ml 2 x3_.toNatClampNeg) * (ma 13 (((5 * x2_) + 1).toNatClampNeg)).toInt64) / 100))))) H := hP
            have hD : va_D A (List.flatten (wM aM C ms mw ma (va_up ml 3 (vp_updL (ml 3) x3_.toNatClampNeg (((ml 2 x3_.toNatClampNeg) * (ma 13 (((5 * x2_) + 1).toNatClampNeg)).toInt64) / 100))))) := hD
            exact ih79 (x3_ + 1) (va_up ml 3 (vp_updL (ml 3) x3_.toNatClampNeg (((ml 2 x3_.toNatClampNeg) * (ma 13 (((5 * x2_) + 1).toNatClampNeg)).toInt64) / 100))) _ _ _ h hP hD hS (lv_sub hl [1, 2, 3, 0] rfl)
      intro x2_ ml H locs ls h hP hD hS hl
      refine lv_iload_n hx hb dX12_night_67 rfl (lv_at hl 2 rfl) ?_
      refine lv_aload_n hx hb dX12_night_68 rfl (lv_at hl 0 rfl) ?_
      refine va_get (D := D) (ci := 12) (v := .ref (aM 15)) (C := RX12) (T := TX12) (N := 51) hx hb hw inW_X12 hown hK hP 0 rfl rfl 25 (by decide) (hw _ mw_6_68) (fun _ h9 => h9) rfl dX12_night_69 ?_
      refine lv_iconst (v := 0) hx hb dX12_night_72 (by decide) ?_
      refine cIald hx hb hK hP 15 0 rfl rfl 0 (by decide +kernel) (cIn (by decide +kernel)) dX12_night_73 ?_
      refine lv_icmp_ge (tgt := 224) hx hb dX12_night_74 (by decide) (fun c6 => ?_) (fun c6 => ?_)
      · have h := h.1 c6
        rw [← hQ]
        exact cRetV (ms, ma, ml) hx hb hr hlocks hS hP hD h dX12_night_224
      · have h := h.2 c6
        refine lv_iconst (v := 0) hx hb dX12_night_77 (by decide) ?_
        refine lv_istore_n (lv' := [(3, .int 0), (0, .ref (aM 0)), (1, .int x1_), (2, .int x2_)]) hx hb dX12_night_78 rfl hl (by decide) rfl (fun ls hl => ?_)
        obtain ⟨n, h⟩ := h
        exact N79 x2_ n 0 ml _ _ _ h hP hD hS (lv_sub hl [1, 2, 3, 0] rfl)
  have N46 : ∀ (x1_ : Int32) (ms : Nat → Int32) (ma : Nat → Nat → Int32) (n46 : Nat) (x2_ : Int32) (ml : Nat → Nat → Int64) (H : Heap) (locs : List Loc) (ls : Array Slot), P_X12_night_46  post (fun (x1_ : Int32) (ms : Nat → Int32) (ma : Nat → Nat → Int32) (x2_ : Int32) (ml : Nat → Nat → Int64) => ∃ n : Nat, P_X12_night_67  post  x1_ ms ma n x2_ ml) x1_ ms ma n46 x2_ ml → va_P D vwCl (List.flatten (wM aM C ms mw ma ml)) H → va_D A (List.flatten (wM aM C ms mw ma ml)) → va_S A s.heap H locs → lv_has ls 5 [(0, .ref (aM 0)), (1, .int x1_), (2, .int x2_)] → W p l e rmX12_night s m args below meth c H locs 0 0 Q (F0 m 46 ls []) := by
    intro x1_ ms ma
    intro n46
    induction n46 with
    | zero => intro x2_ ml H locs ls h hP hD hS hl; exact False.elim h
    | succ n46 ih46 =>
      intro x2_ ml H locs ls h hP hD hS hl
      refine lv_iload_n hx hb dX12_night_46 rfl (lv_at hl 2 rfl) ?_
      refine lv_bipush (v := 60) hx hb dX12_night_47 (by decide) ?_
      refine lv_icmp_ge (tgt := 65) hx hb dX12_night_49 (by decide) (fun c7 => ?_) (fun c7 => ?_)
      · have h := h.1 c7
        refine lv_iconst (v := 0) hx hb dX12_night_65 (by decide) ?_
        refine lv_istore_n (lv' := [(2, .int 0), (0, .ref (aM 0)), (1, .int x1_)]) hx hb dX12_night_66 rfl hl (by decide) rfl (fun ls hl => ?_)
        obtain ⟨n, h⟩ := h
        exact N67 x1_ ms ma n 0 ml _ _ _ h hP hD hS (lv_sub hl [1, 2, 0] rfl)
      · have h := h.2 c7
        refine lv_aload_n hx hb dX12_night_52 rfl (lv_at hl 0 rfl) ?_
        refine va_get (D := D) (ci := 12) (v := .ref (aM 25)) (C := RX12) (T := TX12) (N := 51) hx hb hw inW_X12 hown hK hP 0 rfl rfl 38 (by decide) (hw _ mw_6_81) (fun _ h9 => h9) rfl dX12_night_53 ?_
        refine lv_iload_n hx hb dX12_night_56 rfl (lv_at hl 2 rfl) ?_
        refine lv_lconst (v := 0) hx hb dX12_night_57 (by decide) ?_
        refine cLast hx hb hK hP hD hS 25 1 rfl rfl x2_.toNatClampNeg rfl h.1 dX12_night_58 (fun H locs hP hD hS => ?_)
        have h := h.2
        refine lv_iinc (v := (x2_ + 1)) (lv' := [(2, .int (x2_ + 1)), (0, .ref (aM 0)), (1, .int x1_)]) hx hb dX12_night_59 hl (k := 2) rfl rfl (by decide) rfl (fun ls hl => ?_)
        refine lv_goto (tgt := 46) hx hb dX12_night_62 (by decide) ?_
        have hP : va_P D vwCl (List.flatten (wM aM C ms mw ma (va_up ml 4 (vp_updL (ml 4) x2_.toNatClampNeg 0)))) H := hP
        have hD : va_D A (List.flatten (wM aM C ms mw ma (va_up ml 4 (vp_updL (ml 4) x2_.toNatClampNeg 0)))) := hD
        exact ih46 (x2_ + 1) (va_up ml 4 (vp_updL (ml 4) x2_.toNatClampNeg 0)) _ _ _ h hP hD hS (lv_sub hl [1, 2, 0] rfl)
  have N16 : ∀ (x1_ : Int32) (ms : Nat → Int32) (ma : Nat → Nat → Int32) (n16 : Nat) (x2_ : Int32) (ml : Nat → Nat → Int64) (H : Heap) (locs : List Loc) (ls : Array Slot), P_X12_night_16  post (fun (x1_ : Int32) (ms : Nat → Int32) (ma : Nat → Nat → Int32) (x2_ : Int32) (ml : Nat → Nat → Int64) => ∃ n : Nat, P_X12_night_46  post (fun (x1_ : Int32) (ms : Nat → Int32) (ma : Nat → Nat → Int32) (x2_ : Int32) (ml : Nat → Nat → Int64) => ∃ n : Nat, P_X12_night_67  post  x1_ ms ma n x2_ ml) x1_ ms ma n x2_ ml) x1_ ms ma n16 x2_ ml → va_P D vwCl (List.flatten (wM aM C ms mw ma ml)) H → va_D A (List.flatten (wM aM C ms mw ma ml)) → va_S A s.heap H locs → lv_has ls 5 [(0, .ref (aM 0)), (1, .int x1_), (2, .int x2_)] → W p l e rmX12_night s m args below meth c H locs 0 0 Q (F0 m 16 ls []) := by
    intro x1_ ms ma
    intro n16
    induction n16 with
    | zero => intro x2_ ml H locs ls h hP hD hS hl; exact False.elim h
    | succ n16 ih16 =>
      intro x2_ ml H locs ls h hP hD hS hl
      refine lv_iload_n hx hb dX12_night_16 rfl (lv_at hl 2 rfl) ?_
      refine lv_iload_n hx hb dX12_night_17 rfl (lv_at hl 1 rfl) ?_
      refine lv_icmp_ge (tgt := 44) hx hb dX12_night_18 (by decide) (fun c8 => ?_) (fun c8 => ?_)
      · have h := h.1 c8
        refine lv_iconst (v := 0) hx hb dX12_night_44 (by decide) ?_
        refine lv_istore_n (lv' := [(2, .int 0), (0, .ref (aM 0)), (1, .int x1_)]) hx hb dX12_night_45 rfl hl (by decide) rfl (fun ls hl => ?_)
        obtain ⟨n, h⟩ := h
        exact N46 x1_ ms ma n 0 ml _ _ _ h hP hD hS (lv_sub hl [1, 2, 0] rfl)
      · have h := h.2 c8
        refine lv_aload_n hx hb dX12_night_21 rfl (lv_at hl 0 rfl) ?_
        refine va_get (D := D) (ci := 12) (v := .ref (aM 23)) (C := RX12) (T := TX12) (N := 51) hx hb hw inW_X12 hown hK hP 0 rfl rfl 36 (by decide) (hw _ mw_6_79) (fun _ h9 => h9) rfl dX12_night_22 ?_
        refine lv_iload_n hx hb dX12_night_25 rfl (lv_at hl 2 rfl) ?_
        refine lv_iload_n hx hb dX12_night_26 rfl (lv_at hl 2 rfl) ?_
        refine lv_if_ne (tgt := 36) hx hb dX12_night_27 (by decide) (fun c9 => ?_) (fun c9 => ?_)
        · have h := h.1 c9
          refine lv_lconst (v := 0) hx hb dX12_night_36 (by decide) ?_
          refine cLast hx hb hK hP hD hS 23 1 rfl rfl x2_.toNatClampNeg rfl h.1 dX12_night_37 (fun H locs hP hD hS => ?_)
          have h := h.2
          refine lv_iinc (v := (x2_ + 1)) (lv' := [(2, .int (x2_ + 1)), (0, .ref (aM 0)), (1, .int x1_)]) hx hb dX12_night_38 hl (k := 2) rfl rfl (by decide) rfl (fun ls hl => ?_)
          refine lv_goto (tgt := 16) hx hb dX12_night_41 (by decide) ?_
          have hP : va_P D vwCl (List.flatten (wM aM C ms mw ma (va_up ml 2 (vp_updL (ml 2) x2_.toNatClampNeg 0)))) H := hP
          have hD : va_D A (List.flatten (wM aM C ms mw ma (va_up ml 2 (vp_updL (ml 2) x2_.toNatClampNeg 0)))) := hD
          exact ih16 (x2_ + 1) (va_up ml 2 (vp_updL (ml 2) x2_.toNatClampNeg 0)) _ _ _ h hP hD hS (lv_sub hl [1, 2, 0] rfl)
        · have h := h.2 c9
          refine lv_ldc2 (v := 1000000000000) hx hb hown (hw _ mw_7_213) dX12_night_30 ?_
          refine lv_goto (tgt := 37) hx hb dX12_night_33 (by decide) ?_
          refine cLast hx hb hK hP hD hS 23 1 rfl rfl x2_.toNatClampNeg rfl h.1 dX12_night_37 (fun H locs hP hD hS => ?_)
          have h := h.2
          refine lv_iinc (v := (x2_ + 1)) (lv' := [(2, .int (x2_ + 1)), (0, .ref (aM 0)), (1, .int x1_)]) hx hb dX12_night_38 hl (k := 2) rfl rfl (by decide) rfl (fun ls hl => ?_)
          refine lv_goto (tgt := 16) hx hb dX12_night_41 (by decide) ?_
          have hP : va_P D vwCl (List.flatten (wM aM C ms mw ma (va_up ml 2 (vp_updL (ml 2) x2_.toNatClampNeg 1000000000000)))) H := hP
          have hD : va_D A (List.flatten (wM aM C ms mw ma (va_up ml 2 (vp_updL (ml 2) x2_.toNatClampNeg 1000000000000)))) := hD
          exact ih16 (x2_ + 1) (va_up ml 2 (vp_updL (ml 2) x2_.toNatClampNeg 1000000000000)) _ _ _ h hP hD hS (lv_sub hl [1, 2, 0] rfl)
  refine lv_aload_n hx hb dX12_night_0 rfl (lv_at hl 0 rfl) ?_
  refine lv_iconst (v := (-1)) hx hb dX12_night_1 (by decide) ?_
  refine cGoAV (cRunAV (As := [.int (-1)]) (rest := []) ⟨hx, hb, hml, hown, hw⟩ hK hN hP hD (k_X12_lays l D C _ aM  ms mw ma ml (-1) h) (cwV 1 hw (goodV mw_7_180 mw_7_182 mw_s138 mw_1_13 mw_7_183) rfl rfl rfl (by decide +kernel) ⟨Nat.le_of_ble_eq_true rfl, Nat.le_of_ble_eq_true rfl⟩) rfl rfl rfl hl.1 rfl (Nat.le_of_ble_eq_true rfl) dX12_night_2 ⟨Nat.zero_le _, Nat.zero_le _⟩) hP hD hS hA (fun u H locs h hP hD hS => ?_)
  obtain ⟨ms_10, ma_11⟩ := u
  have hP : va_P D vwCl (List.flatten (wM aM C ms_10 mw ma_11 ml)) H := hP
  have hD : va_D A (List.flatten (wM aM C ms_10 mw ma_11 ml)) := hD
  refine lv_iconst (v := 1) hx hb dX12_night_5 (by decide) ?_
  refine lv_aload_n hx hb dX12_night_6 rfl (lv_at hl 0 rfl) ?_
  refine va_get (D := D) (ci := 12) (v := .ref (aM 13)) (C := RX12) (T := TX12) (N := 51) hx hb hw inW_X12 hown hK hP 0 rfl rfl 23 (by decide) (hw _ mw_6_66) (fun _ h9 => h9) rfl dX12_night_7 ?_
  refine lv_iconst (v := 0) hx hb dX12_night_10 (by decide) ?_
  refine cIald hx hb hK hP 13 0 rfl rfl 0 (by decide +kernel) (cIn (by decide +kernel)) dX12_night_11 ?_
  refine lv_ishl hx hb dX12_night_12 ?_
  refine lv_topi (fun x12 ex12 => ?_)
  have h := h x12 ex12
  refine lv_istore_n (lv' := [(1, .int x12), (0, .ref (aM 0))]) hx hb dX12_night_13 rfl hl (by decide) rfl (fun ls hl => ?_)
  refine lv_iconst (v := 0) hx hb dX12_night_14 (by decide) ?_
  refine lv_istore_n (lv' := [(2, .int 0), (1, .int x12), (0, .ref (aM 0))]) hx hb dX12_night_15 rfl hl (by decide) rfl (fun ls hl => ?_)
  obtain ⟨n, h⟩ := h
  exact N16 x12 ms_10 ma_11 n 0 ml _ _ _ h hP hD hS (lv_sub hl [2, 1, 0] rfl)
abbrev vsX12_isSet : List Cond := Cond.code yX12_isSet cX12_isSet 2 (some .boolean) :: WS
abbrev rmX12_isSet : Room := { frames := 1, cells := 0, slots := 0, locals := 25 }
set_option maxHeartbeats 4000000 in
set_option maxRecDepth 100000 in
theorem k_X12_isSet (l : Launch) (D : va_G) (C : Nat → ClassId) (sz : Nat) (aM : Nat → Nat)  (ms : Nat → Int32) (mw : Nat → Int64) (ma : Nat → Nat → Int32) (ml : Nat → Nat → Int64) (p1 : Int32) {post : Int32 → Prop} (h : P_X12_isSet ma p1 post) : Met l yX12_isSet vsX12_isSet rmX12_isSet (cPre D C [.ref (aM 0), .int p1] sz (wM aM C ms mw ma ml)) (cQi D (fun (r : Int32) (u : Unit) => post r ) (fun u => wM aM C ms mw ma ml) (va_A (List.flatten (wM aM C ms mw ma ml)) sz)) 0 0 (va_A (List.flatten (wM aM C ms mw ma ml)) sz) := by
  refine cStart (QA := fun A => cQi D (fun (r : Int32) (u : Unit) => post r ) (fun u => wM aM C ms mw ma ml) A) (cc := cX12_isSet) (maxL := 2) (ret := (some .boolean)) (by decide) (Nat.le_of_ble_eq_true rfl) ?_
  intro p e s m args below meth c A ls hx hb hr hml hown hw hlocks hname hK hN hA hP hD hS hl
  generalize hQ : MQ below _ args s 0 0 A = Q
  have hl : lv_has ls 2 [(0, .ref (aM 0)), (1, .int p1)] := hl
  obtain ⟨H, hH⟩ : ∃ H, H = s.heap := ⟨_, rfl⟩
  obtain ⟨locs, hlo⟩ : ∃ z : List Loc, z = [] := ⟨_, rfl⟩
  have hP : va_P D vwCl (List.flatten (wM aM C ms mw ma ml)) H := by rw [hH]; exact hP
  have hS : va_S A s.heap H locs := by rw [hH, hlo]; exact hS
  rw [show W p l e rmX12_isSet s m args below meth c s.heap [] 0 0 Q (F0 m 0 ls []) = W p l e rmX12_isSet s m args below meth c H locs 0 0 Q (F0 m 0 ls []) from by rw [hH, hlo]]
  refine lv_aload_n hx hb dX12_isSet_0 rfl (lv_at hl 0 rfl) ?_
  refine cGoAI (cRunAV (As := []) (rest := []) ⟨hx, hb, hml, hown, hw⟩ hK hN hP hD (k_X12_isRail l D C _ aM  ms mw ma ml  h) (cwV 0 hw (goodV mw_7_204 mw_7_206 mw_s142 mw_1_13 mw_7_207) rfl rfl rfl (by decide +kernel) ⟨Nat.le_of_ble_eq_true rfl, Nat.le_of_ble_eq_true rfl⟩) rfl rfl rfl hl.1 rfl (Nat.le_of_ble_eq_true rfl) dX12_isSet_1 ⟨Nat.zero_le _, Nat.zero_le _⟩) hP hD hS hA (fun r1 u H locs h hP hD hS => ?_)
  have hP : va_P D vwCl (List.flatten (wM aM C ms mw ma ml)) H := hP
  have hD : va_D A (List.flatten (wM aM C ms mw ma ml)) := hD
  refine lv_if_eq (tgt := 31) hx hb dX12_isSet_4 (by decide) (fun c2 => ?_) (fun c2 => ?_)
  · have h := h.1 c2
    refine lv_iconst (v := 0) hx hb dX12_isSet_31 (by decide) ?_
    rw [← hQ]
    exact cRetZ (v := 0) () hx hb hr hlocks hS hP hD (Or.inl rfl) h dX12_isSet_32
  · have h := h.2 c2
    refine lv_iload_n hx hb dX12_isSet_7 rfl (lv_at hl 1 rfl) ?_
    refine lv_i2l hx hb dX12_isSet_8 rfl ?_
    refine lv_lconst (v := 0) hx hb dX12_isSet_9 (by decide) ?_
    refine lv_iconst (v := 1) hx hb dX12_isSet_10 (by decide) ?_
    refine lv_aload_n hx hb dX12_isSet_11 rfl (lv_at hl 0 rfl) ?_
    refine va_get (D := D) (ci := 12) (v := .ref (aM 13)) (C := RX12) (T := TX12) (N := 51) hx hb hw inW_X12 hown hK hP 0 rfl rfl 23 (by decide) (hw _ mw_6_66) (fun _ h9 => h9) rfl dX12_isSet_12 ?_
    refine lv_iconst (v := 0) hx hb dX12_isSet_15 (by decide) ?_
    refine cIald hx hb hK hP 13 0 rfl rfl 0 (by decide +kernel) (cIn (by decide +kernel)) dX12_isSet_16 ?_
    refine lv_ishl hx hb dX12_isSet_17 ?_
    refine lv_iconst (v := 1) hx hb dX12_isSet_18 (by decide) ?_
    refine lv_isub hx hb dX12_isSet_19 ?_
    refine lv_i2l hx hb dX12_isSet_20 rfl ?_
    refine cGoEI (cRunES (As := [.long p1.toInt64, .long 0, .long ((((1 : Int32) <<< ((ma 10 0) &&& 31)) - 1).toInt64)]) (rest := []) ⟨hx, hb, hml, hown, hw⟩ hK hN hP hD (k_X12_in l D C _    p1.toInt64 0 ((((1 : Int32) <<< ((ma 10 0) &&& 31)) - 1).toInt64) h) (va_cwS 3 hw (goodS mw_6_205 mw_6_206 mw_1_13 mw_6_207) rfl rfl rfl (by decide +kernel) ⟨Nat.le_of_ble_eq_true rfl, Nat.le_of_ble_eq_true rfl⟩) rfl hl.1 rfl (Nat.le_of_ble_eq_true rfl) dX12_isSet_21 ⟨Nat.zero_le _, Nat.zero_le _⟩) hP hD hS hA (fun r3 u H locs h hP hD hS => ?_)
    have hP : va_P D vwCl (List.flatten (wM aM C ms mw ma ml)) H := hP
    have hD : va_D A (List.flatten (wM aM C ms mw ma ml)) := hD
    refine lv_if_eq (tgt := 31) hx hb dX12_isSet_24 (by decide) (fun c4 => ?_) (fun c4 => ?_)
    · have h := h.1 c4
      refine lv_iconst (v := 0) hx hb dX12_isSet_31 (by decide) ?_
      rw [← hQ]
      exact cRetZ (v := 0) () hx hb hr hlocks hS hP hD (Or.inl rfl) h dX12_isSet_32
    · have h := h.2 c4
      refine lv_iconst (v := 1) hx hb dX12_isSet_27 (by decide) ?_
      refine lv_goto (tgt := 32) hx hb dX12_isSet_28 (by decide) ?_
      rw [← hQ]
      exact cRetZ (v := 1) () hx hb hr hlocks hS hP hD (Or.inr rfl) h dX12_isSet_32
abbrev vsX12_part : List Cond := Cond.code yX12_part cX12_part 2 (some .long) :: WS
abbrev rmX12_part : Room := { frames := 5, cells := 0, slots := 0, locals := 119 }
set_option maxHeartbeats 4000000 in
set_option maxRecDepth 100000 in
theorem k_X12_part (l : Launch) (D : va_G) (C : Nat → ClassId) (sz : Nat) (aM : Nat → Nat)  (ms : Nat → Int32) (mw : Nat → Int64) (ma : Nat → Nat → Int32) (ml : Nat → Nat → Int64) (p1 : Int32) {post : Int64 → (Nat → Int32) → (Nat → Nat → Int32) → (Nat → Nat → Int64) → Prop} (h : P_X12_part ms ma ml p1 post) : Met l yX12_part vsX12_part rmX12_part (cPre D C [.ref (aM 0), .int p1] sz (wM aM C ms mw ma ml)) (cQl D (fun (r : Int64) (u : (Nat → Int32) × (Nat → Nat → Int32) × (Nat → Nat → Int64)) => post r u.1 u.2.1 u.2.2) (fun u => wM aM C u.1 mw u.2.1 u.2.2) (va_A (List.flatten (wM aM C ms mw ma ml)) sz)) 0 0 (va_A (List.flatten (wM aM C ms mw ma ml)) sz) := by
  refine cStart (QA := fun A => cQl D (fun (r : Int64) (u : (Nat → Int32) × (Nat → Nat → Int32) × (Nat → Nat → Int64)) => post r u.1 u.2.1 u.2.2) (fun u => wM aM C u.1 mw u.2.1 u.2.2) A) (cc := cX12_part) (maxL := 2) (ret := (some .long)) (by decide) (Nat.le_of_ble_eq_true rfl) ?_
  intro p e s m args below meth c A ls hx hb hr hml hown hw hlocks hname hK hN hA hP hD hS hl
  generalize hQ : MQ below _ args s 0 0 A = Q
  have hl : lv_has ls 2 [(0, .ref (aM 0)), (1, .int p1)] := hl
  obtain ⟨H, hH⟩ : ∃ H, H = s.heap := ⟨_, rfl⟩
  obtain ⟨locs, hlo⟩ : ∃ z : List Loc, z = [] := ⟨_, rfl⟩
  have hP : va_P D vwCl (List.flatten (wM aM C ms mw ma ml)) H := by rw [hH]; exact hP
  have hS : va_S A s.heap H locs := by rw [hH, hlo]; exact hS
  rw [show W p l e rmX12_part s m args below meth c s.heap [] 0 0 Q (F0 m 0 ls []) = W p l e rmX12_part s m args below meth c H locs 0 0 Q (F0 m 0 ls []) from by rw [hH, hlo]]
  refine lv_aload_n hx hb dX12_part_0 rfl (lv_at hl 0 rfl) ?_
  refine lv_iconst (v := 0) hx hb dX12_part_1 (by decide) ?_
  refine va_put (D := D) (ci := 12) (v := .int 0) (ty := .int) (C := RX12) (T := TX12) (N := 51) hx hb hw inW_X12 tyX12 tyX12_ok nmX12 hown hK hP hD hS 0 rfl rfl 0 (by decide) (hw _ mw_6_43) (fun _ h9 => h9) rfl (by decide +kernel) rfl rfl (Nat.le_of_ble_eq_true rfl) dX12_part_2 (fun H locs hP hD hS => ?_)
  refine lv_aload_n hx hb dX12_part_5 rfl (lv_at hl 0 rfl) ?_
  refine lv_iload_n hx hb dX12_part_6 rfl (lv_at hl 1 rfl) ?_
  have hP : va_P D vwCl (List.flatten (wM aM C (va_up ms 0 0) mw ma ml)) H := hP
  have hD : va_D A (List.flatten (wM aM C (va_up ms 0 0) mw ma ml)) := hD
  refine cGoAI (cRunAV (As := [.int p1]) (rest := []) ⟨hx, hb, hml, hown, hw⟩ hK hN hP hD (k_X12_isSet l D C _ aM  (va_up ms 0 0) mw ma ml p1 h) (cwV 1 hw (goodV mw_7_200 mw_7_202 mw_s141 mw_1_13 mw_7_203) rfl rfl rfl (by decide +kernel) ⟨Nat.le_of_ble_eq_true rfl, Nat.le_of_ble_eq_true rfl⟩) rfl rfl rfl hl.1 rfl (Nat.le_of_ble_eq_true rfl) dX12_part_7 ⟨Nat.zero_le _, Nat.zero_le _⟩) hP hD hS hA (fun r1 u H locs h hP hD hS => ?_)
  have hP : va_P D vwCl (List.flatten (wM aM C (va_up ms 0 0) mw ma ml)) H := hP
  have hD : va_D A (List.flatten (wM aM C (va_up ms 0 0) mw ma ml)) := hD
  refine lv_if_ne (tgt := 17) hx hb dX12_part_10 (by decide) (fun c2 => ?_) (fun c2 => ?_)
  · have h := h.1 c2
    refine lv_aload_n hx hb dX12_part_17 rfl (lv_at hl 0 rfl) ?_
    refine cGoAV (cRunAV (As := []) (rest := []) ⟨hx, hb, hml, hown, hw⟩ hK hN hP hD (k_X12_night l D C _ aM  (va_up ms 0 0) mw ma ml  h) (cwV 0 hw (goodV mw_7_209 mw_7_211 mw_s143 mw_1_13 mw_7_212) rfl rfl rfl (by decide +kernel) ⟨Nat.le_of_ble_eq_true rfl, Nat.le_of_ble_eq_true rfl⟩) rfl rfl rfl hl.1 rfl (Nat.le_of_ble_eq_true rfl) dX12_part_18 ⟨Nat.zero_le _, Nat.zero_le _⟩) hP hD hS hA (fun u H locs h hP hD hS => ?_)
    obtain ⟨ms_3, ma_4, ml_5⟩ := u
    have hP : va_P D vwCl (List.flatten (wM aM C ms_3 mw ma_4 ml_5)) H := hP
    have hD : va_D A (List.flatten (wM aM C ms_3 mw ma_4 ml_5)) := hD
    refine lv_aload_n hx hb dX12_part_21 rfl (lv_at hl 0 rfl) ?_
    refine va_get (D := D) (ci := 12) (v := .ref (aM 23)) (C := RX12) (T := TX12) (N := 51) hx hb hw inW_X12 hown hK hP 0 rfl rfl 36 (by decide) (hw _ mw_6_79) (fun _ h9 => h9) rfl dX12_part_22 ?_
    refine lv_iload_n hx hb dX12_part_25 rfl (lv_at hl 1 rfl) ?_
    refine cLald hx hb hK hP 23 1 rfl rfl p1.toNatClampNeg rfl h.1 dX12_part_26 ?_
    have h := h.2
    rw [← hQ]
    exact cRetL (v := (ml_5 2 p1.toNatClampNeg)) (ms_3, ma_4, ml_5) hx hb hr hlocks hS hP hD h dX12_part_27
  · have h := h.2 c2
    refine lv_ldc2 (v := (-2)) hx hb hown (hw _ mw_7_208) dX12_part_13 ?_
    rw [← hQ]
    exact cRetL (v := (-2)) ((va_up ms 0 0), ma, ml) hx hb hr hlocks hS hP hD h dX12_part_16
abbrev vsX12_sizeOf : List Cond := Cond.code yX12_sizeOf cX12_sizeOf 3 (some .int) :: WS
abbrev rmX12_sizeOf : Room := { frames := 0, cells := 0, slots := 0, locals := 0 }
set_option maxHeartbeats 4000000 in
set_option maxRecDepth 100000 in
theorem k_X12_sizeOf (l : Launch) (D : va_G) (C : Nat → ClassId) (sz : Nat)    (p1 : Int32) {post : Int32 → Prop} (h : P_X12_sizeOf p1 post) : Met l yX12_sizeOf vsX12_sizeOf rmX12_sizeOf (cPre D C [.int p1] sz (([] : List va_W))) (cQi D (fun (r : Int32) (u : Unit) => post r ) (fun u => ([] : List va_W)) (va_A (List.flatten (([] : List va_W))) sz)) 0 0 (va_A (List.flatten (([] : List va_W))) sz) := by
  refine cStart (QA := fun A => cQi D (fun (r : Int32) (u : Unit) => post r ) (fun u => ([] : List va_W)) A) (cc := cX12_sizeOf) (maxL := 3) (ret := (some .int)) (by decide) (Nat.le_of_ble_eq_true rfl) ?_
  intro p e s m args below meth c A ls hx hb hr hml hown hw hlocks hname hK hN hA hP hD hS hl
  generalize hQ : MQ below _ args s 0 0 A = Q
  have hl : lv_has ls 3 [(0, .int p1)] := hl
  obtain ⟨H, hH⟩ : ∃ H, H = s.heap := ⟨_, rfl⟩
  obtain ⟨locs, hlo⟩ : ∃ z : List Loc, z = [] := ⟨_, rfl⟩
  have hP : va_P D vwCl (List.flatten (([] : List va_W))) H := by rw [hH]; exact hP
  have hS : va_S A s.heap H locs := by rw [hH, hlo]; exact hS
  rw [show W p l e rmX12_sizeOf s m args below meth c s.heap [] 0 0 Q (F0 m 0 ls []) = W p l e rmX12_sizeOf s m args below meth c H locs 0 0 Q (F0 m 0 ls []) from by rw [hH, hlo]]
  have N4 : ∀  (n4 : Nat) (x1_ : Int32) (x2_ : Int32) (H : Heap) (locs : List Loc) (ls : Array Slot), P_X12_sizeOf_4 p1 post   n4 x1_ x2_ → va_P D vwCl (List.flatten (([] : List va_W))) H → va_D A (List.flatten (([] : List va_W))) → va_S A s.heap H locs → lv_has ls 3 [(1, .int x1_), (2, .int x2_)] → W p l e rmX12_sizeOf s m args below meth c H locs 0 0 Q (F0 m 4 ls []) := by
    intro n4
    induction n4 with
    | zero => intro x1_ x2_ H locs ls h hP hD hS hl; exact False.elim h
    | succ n4 ih4 =>
      intro x1_ x2_ H locs ls h hP hD hS hl
      refine lv_iload_n hx hb dX12_sizeOf_4 rfl (lv_at hl 1 rfl) ?_
      refine lv_if_eq (tgt := 20) hx hb dX12_sizeOf_5 (by decide) (fun c1 => ?_) (fun c1 => ?_)
      · have h := h.1 c1
        refine lv_iload_n hx hb dX12_sizeOf_20 rfl (lv_at hl 0 rfl) ?_
        rw [← hQ]
        exact cRetI (v := x1_) () hx hb hr hlocks hS hP hD h dX12_sizeOf_21
      · have h := h.2 c1
        refine lv_iinc (v := (x1_ + 1)) (lv' := [(1, .int (x1_ + 1)), (2, .int x2_)]) hx hb dX12_sizeOf_8 hl (k := 0) rfl rfl (by decide) rfl (fun ls hl => ?_)
        refine lv_iload_n hx hb dX12_sizeOf_11 rfl (lv_at hl 1 rfl) ?_
        refine lv_iload_n hx hb dX12_sizeOf_12 rfl (lv_at hl 1 rfl) ?_
        refine lv_iconst (v := 1) hx hb dX12_sizeOf_13 (by decide) ?_
        refine lv_isub hx hb dX12_sizeOf_14 ?_
        refine lv_iand hx hb dX12_sizeOf_15 ?_
        refine lv_topi (fun x2 ex2 => ?_)
        have h := h x2 ex2
        refine lv_istore_n (lv' := [(2, .int x2), (1, .int (x1_ + 1))]) hx hb dX12_sizeOf_16 rfl hl (by decide) rfl (fun ls hl => ?_)
        refine lv_goto (tgt := 4) hx hb dX12_sizeOf_17 (by decide) ?_
        exact ih4 (x1_ + 1) x2 _ _ _ h hP hD hS (lv_sub hl [1, 0] rfl)
  refine lv_iconst (v := 0) hx hb dX12_sizeOf_0 (by decide) ?_
  refine lv_istore_n (lv' := [(1, .int 0), (0, .int p1)]) hx hb dX12_sizeOf_1 rfl hl (by decide) rfl (fun ls hl => ?_)
  refine lv_iload_n hx hb dX12_sizeOf_2 rfl (lv_at hl 1 rfl) ?_
  refine lv_istore_n (lv' := [(2, .int p1), (1, .int 0), (0, .int p1)]) hx hb dX12_sizeOf_3 rfl hl (by decide) rfl (fun ls hl => ?_)
  obtain ⟨n, h⟩ := h
  exact N4  n 0 p1 _ _ _ h hP hD hS (lv_sub hl [1, 0] rfl)
abbrev vsX12_many : List Cond := Cond.code yX12_many cX12_many 5 (some .long) :: WS
abbrev rmX12_many : Room := { frames := 5, cells := 0, slots := 0, locals := 119 }
set_option maxHeartbeats 4000000 in
set_option maxRecDepth 100000 in
theorem k_X12_many (l : Launch) (D : va_G) (C : Nat → ClassId) (sz : Nat) (aM : Nat → Nat)  (ms : Nat → Int32) (mw : Nat → Int64) (ma : Nat → Nat → Int32) (ml : Nat → Nat → Int64) (p1 : Int32) {post : Int64 → (Nat → Int32) → (Nat → Nat → Int32) → (Nat → Nat → Int64) → Prop} (h : P_X12_many ms ma ml p1 post) : Met l yX12_many vsX12_many rmX12_many (cPre D C [.ref (aM 0), .int p1] sz (wM aM C ms mw ma ml)) (cQl D (fun (r : Int64) (u : (Nat → Int32) × (Nat → Nat → Int32) × (Nat → Nat → Int64)) => post r u.1 u.2.1 u.2.2) (fun u => wM aM C u.1 mw u.2.1 u.2.2) (va_A (List.flatten (wM aM C ms mw ma ml)) sz)) 0 0 (va_A (List.flatten (wM aM C ms mw ma ml)) sz) := by
  refine cStart (QA := fun A => cQl D (fun (r : Int64) (u : (Nat → Int32) × (Nat → Nat → Int32) × (Nat → Nat → Int64)) => post r u.1 u.2.1 u.2.2) (fun u => wM aM C u.1 mw u.2.1 u.2.2) A) (cc := cX12_many) (maxL := 5) (ret := (some .long)) (by decide) (Nat.le_of_ble_eq_true rfl) ?_
  intro p e s m args below meth c A ls hx hb hr hml hown hw hlocks hname hK hN hA hP hD hS hl
  generalize hQ : MQ below _ args s 0 0 A = Q
  have hl : lv_has ls 5 [(0, .ref (aM 0)), (1, .int p1)] := hl
  obtain ⟨H, hH⟩ : ∃ H, H = s.heap := ⟨_, rfl⟩
  obtain ⟨locs, hlo⟩ : ∃ z : List Loc, z = [] := ⟨_, rfl⟩
  have hP : va_P D vwCl (List.flatten (wM aM C ms mw ma ml)) H := by rw [hH]; exact hP
  have hS : va_S A s.heap H locs := by rw [hH, hlo]; exact hS
  rw [show W p l e rmX12_many s m args below meth c s.heap [] 0 0 Q (F0 m 0 ls []) = W p l e rmX12_many s m args below meth c H locs 0 0 Q (F0 m 0 ls []) from by rw [hH, hlo]]
  have N41 : ∀ (ms : Nat → Int32) (ma : Nat → Nat → Int32) (ml : Nat → Nat → Int64) (n41 : Nat) (x2_ : Int64) (x4_ : Int32) (H : Heap) (locs : List Loc) (ls : Array Slot), P_X12_many_41 p1 post  ms ma ml n41 x2_ x4_ → va_P D vwCl (List.flatten (wM aM C ms mw ma ml)) H → va_D A (List.flatten (wM aM C ms mw ma ml)) → va_S A s.heap H locs → lv_has ls 5 [(0, .ref (aM 0)), (1, .int p1), (2, .long x2_), (4, .int x4_)] → W p l e rmX12_many s m args below meth c H locs 0 0 Q (F0 m 41 ls []) := by
    intro ms ma ml
    intro n41
    induction n41 with
    | zero => intro x2_ x4_ H locs ls h hP hD hS hl; exact False.elim h
    | succ n41 ih41 =>
      intro x2_ x4_ H locs ls h hP hD hS hl
      refine lv_iload hx hb dX12_many_41 (lv_at hl 3 rfl) ?_
      refine lv_iconst (v := 1) hx hb dX12_many_43 (by decide) ?_
      refine lv_aload_n hx hb dX12_many_44 rfl (lv_at hl 0 rfl) ?_
      refine va_get (D := D) (ci := 12) (v := .ref (aM 13)) (C := RX12) (T := TX12) (N := 51) hx hb hw inW_X12 hown hK hP 0 rfl rfl 23 (by decide) (hw _ mw_6_66) (fun _ h9 => h9) rfl dX12_many_45 ?_
      refine lv_iconst (v := 0) hx hb dX12_many_48 (by decide) ?_
      refine cIald hx hb hK hP 13 0 rfl rfl 0 (by decide +kernel) (cIn (by decide +kernel)) dX12_many_49 ?_
      refine lv_ishl hx hb dX12_many_50 ?_
      refine lv_icmp_ge (tgt := 83) hx hb dX12_many_51 (by decide) (fun c1 => ?_) (fun c1 => ?_)
      · have h := h.1 c1
        refine lv_lload_n hx hb dX12_many_83 rfl (lv_at hl 2 rfl) ?_
        rw [← hQ]
        exact cRetL (v := x2_) (ms, ma, ml) hx hb hr hlocks hS hP hD h dX12_many_84
      · have h := h.2 c1
        refine lv_lload_n hx hb dX12_many_54 rfl (lv_at hl 2 rfl) ?_
        refine lv_iload hx hb dX12_many_55 (lv_at hl 3 rfl) ?_
        refine cGoEI (cRunES (As := [.int x4_]) (rest := [.long x2_]) ⟨hx, hb, hml, hown, hw⟩ hK hN hP hD (k_X12_sizeOf l D C _    x4_ h) (va_cwS 1 hw (goodS mw_7_218 mw_7_219 mw_1_13 mw_7_220) rfl rfl rfl (by decide +kernel) ⟨Nat.le_of_ble_eq_true rfl, Nat.le_of_ble_eq_true rfl⟩) rfl hl.1 rfl (Nat.le_of_ble_eq_true rfl) dX12_many_57 ⟨Nat.zero_le _, Nat.zero_le _⟩) hP hD hS hA (fun r2 u H locs h hP hD hS => ?_)
        have hP : va_P D vwCl (List.flatten (wM aM C ms mw ma ml)) H := hP
        have hD : va_D A (List.flatten (wM aM C ms mw ma ml)) := hD
        refine lv_iload_n hx hb dX12_many_60 rfl (lv_at hl 1 rfl) ?_
        refine lv_icmp_ne (tgt := 74) hx hb dX12_many_61 (by decide) (fun c3 => ?_) (fun c3 => ?_)
        · have h := h.1 c3
          refine lv_lconst (v := 0) hx hb dX12_many_74 (by decide) ?_
          refine lv_ladd hx hb dX12_many_75 ?_
          refine lv_topl (fun x4 ex4 => ?_)
          have h := h x4 ex4
          refine lv_lstore_n (lv' := [(2, .long x4), (0, .ref (aM 0)), (1, .int p1), (4, .int x4_)]) hx hb dX12_many_76 rfl hl (by decide) rfl (fun ls hl => ?_)
          refine lv_iinc (v := (x4_ + 1)) (lv' := [(4, .int (x4_ + 1)), (2, .long x4), (0, .ref (aM 0)), (1, .int p1)]) hx hb dX12_many_77 hl (k := 3) rfl rfl (by decide) rfl (fun ls hl => ?_)
          refine lv_goto (tgt := 41) hx hb dX12_many_80 (by decide) ?_
          exact ih41 x4 (x4_ + 1) _ _ _ h hP hD hS (lv_sub hl [2, 3, 1, 0] rfl)
        · have h := h.2 c3
          refine lv_aload_n hx hb dX12_many_64 rfl (lv_at hl 0 rfl) ?_
          refine va_get (D := D) (ci := 12) (v := .ref (aM 23)) (C := RX12) (T := TX12) (N := 51) hx hb hw inW_X12 hown hK hP 0 rfl rfl 36 (by decide) (hw _ mw_6_79) (fun _ h9 => h9) rfl dX12_many_65 ?_
          refine lv_iload hx hb dX12_many_68 (lv_at hl 3 rfl) ?_
          refine cLald hx hb hK hP 23 1 rfl rfl x4_.toNatClampNeg rfl h.1 dX12_many_70 ?_
          have h := h.2
          refine lv_goto (tgt := 75) hx hb dX12_many_71 (by decide) ?_
          refine lv_ladd hx hb dX12_many_75 ?_
          refine lv_topl (fun x5 ex5 => ?_)
          have h := h x5 ex5
          refine lv_lstore_n (lv' := [(2, .long x5), (0, .ref (aM 0)), (1, .int p1), (4, .int x4_)]) hx hb dX12_many_76 rfl hl (by decide) rfl (fun ls hl => ?_)
          refine lv_iinc (v := (x4_ + 1)) (lv' := [(4, .int (x4_ + 1)), (2, .long x5), (0, .ref (aM 0)), (1, .int p1)]) hx hb dX12_many_77 hl (k := 3) rfl rfl (by decide) rfl (fun ls hl => ?_)
          refine lv_goto (tgt := 41) hx hb dX12_many_80 (by decide) ?_
          exact ih41 x5 (x4_ + 1) _ _ _ h hP hD hS (lv_sub hl [2, 3, 1, 0] rfl)
  refine lv_aload_n hx hb dX12_many_0 rfl (lv_at hl 0 rfl) ?_
  refine lv_iconst (v := 0) hx hb dX12_many_1 (by decide) ?_
  refine va_put (D := D) (ci := 12) (v := .int 0) (ty := .int) (C := RX12) (T := TX12) (N := 51) hx hb hw inW_X12 tyX12 tyX12_ok nmX12 hown hK hP hD hS 0 rfl rfl 0 (by decide) (hw _ mw_6_43) (fun _ h9 => h9) rfl (by decide +kernel) rfl rfl (Nat.le_of_ble_eq_true rfl) dX12_many_2 (fun H locs hP hD hS => ?_)
  refine lv_aload_n hx hb dX12_many_5 rfl (lv_at hl 0 rfl) ?_
  have hP : va_P D vwCl (List.flatten (wM aM C (va_up ms 0 0) mw ma ml)) H := hP
  have hD : va_D A (List.flatten (wM aM C (va_up ms 0 0) mw ma ml)) := hD
  refine cGoAI (cRunAV (As := []) (rest := []) ⟨hx, hb, hml, hown, hw⟩ hK hN hP hD (k_X12_isRail l D C _ aM  (va_up ms 0 0) mw ma ml  h) (cwV 0 hw (goodV mw_7_204 mw_7_206 mw_s142 mw_1_13 mw_7_207) rfl rfl rfl (by decide +kernel) ⟨Nat.le_of_ble_eq_true rfl, Nat.le_of_ble_eq_true rfl⟩) rfl rfl rfl hl.1 rfl (Nat.le_of_ble_eq_true rfl) dX12_many_6 ⟨Nat.zero_le _, Nat.zero_le _⟩) hP hD hS hA (fun r6 u H locs h hP hD hS => ?_)
  have hP : va_P D vwCl (List.flatten (wM aM C (va_up ms 0 0) mw ma ml)) H := hP
  have hD : va_D A (List.flatten (wM aM C (va_up ms 0 0) mw ma ml)) := hD
  refine lv_if_eq (tgt := 28) hx hb dX12_many_9 (by decide) (fun c7 => ?_) (fun c7 => ?_)
  · have h := h.1 c7
    refine lv_ldc2 (v := (-2)) hx hb hown (hw _ mw_7_208) dX12_many_28 ?_
    rw [← hQ]
    exact cRetL (v := (-2)) ((va_up ms 0 0), ma, ml) hx hb hr hlocks hS hP hD h dX12_many_31
  · have h := h.2 c7
    refine lv_iload_n hx hb dX12_many_12 rfl (lv_at hl 1 rfl) ?_
    refine lv_i2l hx hb dX12_many_13 rfl ?_
    refine lv_lconst (v := 0) hx hb dX12_many_14 (by decide) ?_
    refine lv_aload_n hx hb dX12_many_15 rfl (lv_at hl 0 rfl) ?_
    refine va_get (D := D) (ci := 12) (v := .ref (aM 13)) (C := RX12) (T := TX12) (N := 51) hx hb hw inW_X12 hown hK hP 0 rfl rfl 23 (by decide) (hw _ mw_6_66) (fun _ h9 => h9) rfl dX12_many_16 ?_
    refine lv_iconst (v := 0) hx hb dX12_many_19 (by decide) ?_
    refine cIald hx hb hK hP 13 0 rfl rfl 0 (by decide +kernel) (cIn (by decide +kernel)) dX12_many_20 ?_
    refine lv_i2l hx hb dX12_many_21 rfl ?_
    refine cGoEI (cRunES (As := [.long p1.toInt64, .long 0, .long ((ma 10 0).toInt64)]) (rest := []) ⟨hx, hb, hml, hown, hw⟩ hK hN hP hD (k_X12_in l D C _    p1.toInt64 0 ((ma 10 0).toInt64) h) (va_cwS 3 hw (goodS mw_6_205 mw_6_206 mw_1_13 mw_6_207) rfl rfl rfl (by decide +kernel) ⟨Nat.le_of_ble_eq_true rfl, Nat.le_of_ble_eq_true rfl⟩) rfl hl.1 rfl (Nat.le_of_ble_eq_true rfl) dX12_many_22 ⟨Nat.zero_le _, Nat.zero_le _⟩) hP hD hS hA (fun r8 u H locs h hP hD hS => ?_)
    have hP : va_P D vwCl (List.flatten (wM aM C (va_up ms 0 0) mw ma ml)) H := hP
    have hD : va_D A (List.flatten (wM aM C (va_up ms 0 0) mw ma ml)) := hD
    refine lv_if_ne (tgt := 32) hx hb dX12_many_25 (by decide) (fun c9 => ?_) (fun c9 => ?_)
    · have h := h.1 c9
      refine lv_aload_n hx hb dX12_many_32 rfl (lv_at hl 0 rfl) ?_
      refine cGoAV (cRunAV (As := []) (rest := []) ⟨hx, hb, hml, hown, hw⟩ hK hN hP hD (k_X12_night l D C _ aM  (va_up ms 0 0) mw ma ml  h) (cwV 0 hw (goodV mw_7_209 mw_7_211 mw_s143 mw_1_13 mw_7_212) rfl rfl rfl (by decide +kernel) ⟨Nat.le_of_ble_eq_true rfl, Nat.le_of_ble_eq_true rfl⟩) rfl rfl rfl hl.1 rfl (Nat.le_of_ble_eq_true rfl) dX12_many_33 ⟨Nat.zero_le _, Nat.zero_le _⟩) hP hD hS hA (fun u H locs h hP hD hS => ?_)
      obtain ⟨ms_10, ma_11, ml_12⟩ := u
      have hP : va_P D vwCl (List.flatten (wM aM C ms_10 mw ma_11 ml_12)) H := hP
      have hD : va_D A (List.flatten (wM aM C ms_10 mw ma_11 ml_12)) := hD
      refine lv_lconst (v := 0) hx hb dX12_many_36 (by decide) ?_
      refine lv_lstore_n (lv' := [(2, .long 0), (0, .ref (aM 0)), (1, .int p1)]) hx hb dX12_many_37 rfl hl (by decide) rfl (fun ls hl => ?_)
      refine lv_iconst (v := 0) hx hb dX12_many_38 (by decide) ?_
      refine lv_istore (lv' := [(4, .int 0), (2, .long 0), (0, .ref (aM 0)), (1, .int p1)]) hx hb dX12_many_39 hl (by decide) rfl (fun ls hl => ?_)
      obtain ⟨n, h⟩ := h
      exact N41 ms_10 ma_11 ml_12 n 0 0 _ _ _ h hP hD hS (lv_sub hl [2, 3, 1, 0] rfl)
    · have h := h.2 c9
      refine lv_ldc2 (v := (-2)) hx hb hown (hw _ mw_7_208) dX12_many_28 ?_
      rw [← hQ]
      exact cRetL (v := (-2)) ((va_up ms 0 0), ma, ml) hx hb hr hlocks hS hP hD h dX12_many_31
abbrev vsX12_riskOf : List Cond := Cond.code yX12_riskOf cX12_riskOf 5 (some .long) :: WS
abbrev rmX12_riskOf : Room := { frames := 0, cells := 0, slots := 0, locals := 0 }
set_option maxHeartbeats 4000000 in
set_option maxRecDepth 100000 in
theorem k_X12_riskOf (l : Launch) (D : va_G) (C : Nat → ClassId) (sz : Nat) (aM : Nat → Nat)  (ms : Nat → Int32) (mw : Nat → Int64) (ma : Nat → Nat → Int32) (ml : Nat → Nat → Int64) (p1 : Int32) {post : Int64 → Prop} (h : P_X12_riskOf ma ml p1 post) : Met l yX12_riskOf vsX12_riskOf rmX12_riskOf (cPre D C [.ref (aM 0), .int p1] sz (wM aM C ms mw ma ml)) (cQl D (fun (r : Int64) (u : Unit) => post r ) (fun u => wM aM C ms mw ma ml) (va_A (List.flatten (wM aM C ms mw ma ml)) sz)) 0 0 (va_A (List.flatten (wM aM C ms mw ma ml)) sz) := by
  refine cStart (QA := fun A => cQl D (fun (r : Int64) (u : Unit) => post r ) (fun u => wM aM C ms mw ma ml) A) (cc := cX12_riskOf) (maxL := 5) (ret := (some .long)) (by decide) (Nat.le_of_ble_eq_true rfl) ?_
  intro p e s m args below meth c A ls hx hb hr hml hown hw hlocks hname hK hN hA hP hD hS hl
  generalize hQ : MQ below _ args s 0 0 A = Q
  have hl : lv_has ls 5 [(0, .ref (aM 0)), (1, .int p1)] := hl
  obtain ⟨H, hH⟩ : ∃ H, H = s.heap := ⟨_, rfl⟩
  obtain ⟨locs, hlo⟩ : ∃ z : List Loc, z = [] := ⟨_, rfl⟩
  have hP : va_P D vwCl (List.flatten (wM aM C ms mw ma ml)) H := by rw [hH]; exact hP
  have hS : va_S A s.heap H locs := by rw [hH, hlo]; exact hS
  rw [show W p l e rmX12_riskOf s m args below meth c s.heap [] 0 0 Q (F0 m 0 ls []) = W p l e rmX12_riskOf s m args below meth c H locs 0 0 Q (F0 m 0 ls []) from by rw [hH, hlo]]
  have N5 : ∀  (n5 : Nat) (x2_ : Int64) (x4_ : Int32) (H : Heap) (locs : List Loc) (ls : Array Slot), P_X12_riskOf_5 ma ml p1 post   n5 x2_ x4_ → va_P D vwCl (List.flatten (wM aM C ms mw ma ml)) H → va_D A (List.flatten (wM aM C ms mw ma ml)) → va_S A s.heap H locs → lv_has ls 5 [(0, .ref (aM 0)), (1, .int p1), (2, .long x2_), (4, .int x4_)] → W p l e rmX12_riskOf s m args below meth c H locs 0 0 Q (F0 m 5 ls []) := by
    intro n5
    induction n5 with
    | zero => intro x2_ x4_ H locs ls h hP hD hS hl; exact False.elim h
    | succ n5 ih5 =>
      intro x2_ x4_ H locs ls h hP hD hS hl
      refine lv_iload hx hb dX12_riskOf_5 (lv_at hl 3 rfl) ?_
      refine lv_iconst (v := 1) hx hb dX12_riskOf_7 (by decide) ?_
      refine lv_aload_n hx hb dX12_riskOf_8 rfl (lv_at hl 0 rfl) ?_
      refine va_get (D := D) (ci := 12) (v := .ref (aM 13)) (C := RX12) (T := TX12) (N := 51) hx hb hw inW_X12 hown hK hP 0 rfl rfl 23 (by decide) (hw _ mw_6_66) (fun _ h9 => h9) rfl dX12_riskOf_9 ?_
      refine lv_iconst (v := 0) hx hb dX12_riskOf_12 (by decide) ?_
      refine cIald hx hb hK hP 13 0 rfl rfl 0 (by decide +kernel) (cIn (by decide +kernel)) dX12_riskOf_13 ?_
      refine lv_ishl hx hb dX12_riskOf_14 ?_
      refine lv_icmp_ge (tgt := 48) hx hb dX12_riskOf_15 (by decide) (fun c1 => ?_) (fun c1 => ?_)
      · have h := h.1 c1
        refine lv_lload_n hx hb dX12_riskOf_48 rfl (lv_at hl 2 rfl) ?_
        rw [← hQ]
        exact cRetL (v := x2_) () hx hb hr hlocks hS hP hD h dX12_riskOf_49
      · have h := h.2 c1
        refine lv_lload_n hx hb dX12_riskOf_18 rfl (lv_at hl 2 rfl) ?_
        refine lv_iload hx hb dX12_riskOf_19 (lv_at hl 3 rfl) ?_
        refine lv_iload_n hx hb dX12_riskOf_21 rfl (lv_at hl 1 rfl) ?_
        refine lv_ishr hx hb dX12_riskOf_22 ?_
        refine lv_iconst (v := 1) hx hb dX12_riskOf_23 (by decide) ?_
        refine lv_iand hx hb dX12_riskOf_24 ?_
        refine lv_iconst (v := 1) hx hb dX12_riskOf_25 (by decide) ?_
        refine lv_icmp_ne (tgt := 39) hx hb dX12_riskOf_26 (by decide) (fun c2 => ?_) (fun c2 => ?_)
        · have h := h.1 c2
          refine lv_lconst (v := 0) hx hb dX12_riskOf_39 (by decide) ?_
          refine lv_ladd hx hb dX12_riskOf_40 ?_
          refine lv_topl (fun x3 ex3 => ?_)
          have h := h x3 ex3
          refine lv_lstore_n (lv' := [(2, .long x3), (0, .ref (aM 0)), (1, .int p1), (4, .int x4_)]) hx hb dX12_riskOf_41 rfl hl (by decide) rfl (fun ls hl => ?_)
          refine lv_iinc (v := (x4_ + 1)) (lv' := [(4, .int (x4_ + 1)), (2, .long x3), (0, .ref (aM 0)), (1, .int p1)]) hx hb dX12_riskOf_42 hl (k := 3) rfl rfl (by decide) rfl (fun ls hl => ?_)
          refine lv_goto (tgt := 5) hx hb dX12_riskOf_45 (by decide) ?_
          exact ih5 x3 (x4_ + 1) _ _ _ h hP hD hS (lv_sub hl [2, 3, 1, 0] rfl)
        · have h := h.2 c2
          refine lv_aload_n hx hb dX12_riskOf_29 rfl (lv_at hl 0 rfl) ?_
          refine va_get (D := D) (ci := 12) (v := .ref (aM 23)) (C := RX12) (T := TX12) (N := 51) hx hb hw inW_X12 hown hK hP 0 rfl rfl 36 (by decide) (hw _ mw_6_79) (fun _ h9 => h9) rfl dX12_riskOf_30 ?_
          refine lv_iload hx hb dX12_riskOf_33 (lv_at hl 3 rfl) ?_
          refine cLald hx hb hK hP 23 1 rfl rfl x4_.toNatClampNeg rfl h.1 dX12_riskOf_35 ?_
          have h := h.2
          refine lv_goto (tgt := 40) hx hb dX12_riskOf_36 (by decide) ?_
          refine lv_ladd hx hb dX12_riskOf_40 ?_
          refine lv_topl (fun x4 ex4 => ?_)
          have h := h x4 ex4
          refine lv_lstore_n (lv' := [(2, .long x4), (0, .ref (aM 0)), (1, .int p1), (4, .int x4_)]) hx hb dX12_riskOf_41 rfl hl (by decide) rfl (fun ls hl => ?_)
          refine lv_iinc (v := (x4_ + 1)) (lv' := [(4, .int (x4_ + 1)), (2, .long x4), (0, .ref (aM 0)), (1, .int p1)]) hx hb dX12_riskOf_42 hl (k := 3) rfl rfl (by decide) rfl (fun ls hl => ?_)
          refine lv_goto (tgt := 5) hx hb dX12_riskOf_45 (by decide) ?_
          exact ih5 x4 (x4_ + 1) _ _ _ h hP hD hS (lv_sub hl [2, 3, 1, 0] rfl)
  refine lv_lconst (v := 0) hx hb dX12_riskOf_0 (by decide) ?_
  refine lv_lstore_n (lv' := [(2, .long 0), (0, .ref (aM 0)), (1, .int p1)]) hx hb dX12_riskOf_1 rfl hl (by decide) rfl (fun ls hl => ?_)
  refine lv_iconst (v := 0) hx hb dX12_riskOf_2 (by decide) ?_
  refine lv_istore (lv' := [(4, .int 0), (2, .long 0), (0, .ref (aM 0)), (1, .int p1)]) hx hb dX12_riskOf_3 hl (by decide) rfl (fun ls hl => ?_)
  obtain ⟨n, h⟩ := h
  exact N5  n 0 0 _ _ _ h hP hD hS (lv_sub hl [2, 3, 1, 0] rfl)
abbrev vsX12_riskNow : List Cond := Cond.code yX12_riskNow cX12_riskNow 2 (some .long) :: WS
abbrev rmX12_riskNow : Room := { frames := 5, cells := 0, slots := 0, locals := 119 }
set_option maxHeartbeats 4000000 in
set_option maxRecDepth 100000 in
theorem k_X12_riskNow (l : Launch) (D : va_G) (C : Nat → ClassId) (sz : Nat) (aM : Nat → Nat)  (ms : Nat → Int32) (mw : Nat → Int64) (ma : Nat → Nat → Int32) (ml : Nat → Nat → Int64) (p1 : Int32) {post : Int64 → (Nat → Int32) → (Nat → Nat → Int32) → (Nat → Nat → Int64) → Prop} (h : P_X12_riskNow ms ma ml p1 post) : Met l yX12_riskNow vsX12_riskNow rmX12_riskNow (cPre D C [.ref (aM 0), .int p1] sz (wM aM C ms mw ma ml)) (cQl D (fun (r : Int64) (u : (Nat → Int32) × (Nat → Nat → Int32) × (Nat → Nat → Int64)) => post r u.1 u.2.1 u.2.2) (fun u => wM aM C u.1 mw u.2.1 u.2.2) (va_A (List.flatten (wM aM C ms mw ma ml)) sz)) 0 0 (va_A (List.flatten (wM aM C ms mw ma ml)) sz) := by
  refine cStart (QA := fun A => cQl D (fun (r : Int64) (u : (Nat → Int32) × (Nat → Nat → Int32) × (Nat → Nat → Int64)) => post r u.1 u.2.1 u.2.2) (fun u => wM aM C u.1 mw u.2.1 u.2.2) A) (cc := cX12_riskNow) (maxL := 2) (ret := (some .long)) (by decide) (Nat.le_of_ble_eq_true rfl) ?_
  intro p e s m args below meth c A ls hx hb hr hml hown hw hlocks hname hK hN hA hP hD hS hl
  generalize hQ : MQ below _ args s 0 0 A = Q
  have hl : lv_has ls 2 [(0, .ref (aM 0)), (1, .int p1)] := hl
  obtain ⟨H, hH⟩ : ∃ H, H = s.heap := ⟨_, rfl⟩
  obtain ⟨locs, hlo⟩ : ∃ z : List Loc, z = [] := ⟨_, rfl⟩
  have hP : va_P D vwCl (List.flatten (wM aM C ms mw ma ml)) H := by rw [hH]; exact hP
  have hS : va_S A s.heap H locs := by rw [hH, hlo]; exact hS
  rw [show W p l e rmX12_riskNow s m args below meth c s.heap [] 0 0 Q (F0 m 0 ls []) = W p l e rmX12_riskNow s m args below meth c H locs 0 0 Q (F0 m 0 ls []) from by rw [hH, hlo]]
  refine lv_aload_n hx hb dX12_riskNow_0 rfl (lv_at hl 0 rfl) ?_
  refine cGoAV (cRunAV (As := []) (rest := []) ⟨hx, hb, hml, hown, hw⟩ hK hN hP hD (k_X12_night l D C _ aM  ms mw ma ml  h) (cwV 0 hw (goodV mw_7_209 mw_7_211 mw_s143 mw_1_13 mw_7_212) rfl rfl rfl (by decide +kernel) ⟨Nat.le_of_ble_eq_true rfl, Nat.le_of_ble_eq_true rfl⟩) rfl rfl rfl hl.1 rfl (Nat.le_of_ble_eq_true rfl) dX12_riskNow_1 ⟨Nat.zero_le _, Nat.zero_le _⟩) hP hD hS hA (fun u H locs h hP hD hS => ?_)
  obtain ⟨ms_1, ma_2, ml_3⟩ := u
  have hP : va_P D vwCl (List.flatten (wM aM C ms_1 mw ma_2 ml_3)) H := hP
  have hD : va_D A (List.flatten (wM aM C ms_1 mw ma_2 ml_3)) := hD
  refine lv_aload_n hx hb dX12_riskNow_4 rfl (lv_at hl 0 rfl) ?_
  refine lv_iload_n hx hb dX12_riskNow_5 rfl (lv_at hl 1 rfl) ?_
  refine cGoAL (cRunAV (As := [.int p1]) (rest := []) ⟨hx, hb, hml, hown, hw⟩ hK hN hP hD (k_X12_riskOf l D C _ aM  ms_1 mw ma_2 ml_3 p1 h) (cwV 1 hw (goodV mw_7_229 mw_7_231 mw_s145 mw_1_13 mw_7_232) rfl rfl rfl (by decide +kernel) ⟨Nat.le_of_ble_eq_true rfl, Nat.le_of_ble_eq_true rfl⟩) rfl rfl rfl hl.1 rfl (Nat.le_of_ble_eq_true rfl) dX12_riskNow_6 ⟨Nat.zero_le _, Nat.zero_le _⟩) hP hD hS hA (fun r4 u H locs h hP hD hS => ?_)
  have hP : va_P D vwCl (List.flatten (wM aM C ms_1 mw ma_2 ml_3)) H := hP
  have hD : va_D A (List.flatten (wM aM C ms_1 mw ma_2 ml_3)) := hD
  rw [← hQ]
  exact cRetL (v := r4) (ms_1, ma_2, ml_3) hx hb hr hlocks hS hP hD h dX12_riskNow_9
abbrev vsX12_risk : List Cond := Cond.code yX12_risk cX12_risk 2 (some .long) :: WS
abbrev rmX12_risk : Room := { frames := 6, cells := 0, slots := 0, locals := 140 }
set_option maxHeartbeats 4000000 in
set_option maxRecDepth 100000 in
theorem k_X12_risk (l : Launch) (D : va_G) (C : Nat → ClassId) (sz : Nat) (aM : Nat → Nat)  (ms : Nat → Int32) (mw : Nat → Int64) (ma : Nat → Nat → Int32) (ml : Nat → Nat → Int64) (p1 : Int32) {post : Int64 → (Nat → Int32) → (Nat → Nat → Int32) → (Nat → Nat → Int64) → Prop} (h : P_X12_risk ms ma ml p1 post) : Met l yX12_risk vsX12_risk rmX12_risk (cPre D C [.ref (aM 0), .int p1] sz (wM aM C ms mw ma ml)) (cQl D (fun (r : Int64) (u : (Nat → Int32) × (Nat → Nat → Int32) × (Nat → Nat → Int64)) => post r u.1 u.2.1 u.2.2) (fun u => wM aM C u.1 mw u.2.1 u.2.2) (va_A (List.flatten (wM aM C ms mw ma ml)) sz)) 0 0 (va_A (List.flatten (wM aM C ms mw ma ml)) sz) := by
  refine cStart (QA := fun A => cQl D (fun (r : Int64) (u : (Nat → Int32) × (Nat → Nat → Int32) × (Nat → Nat → Int64)) => post r u.1 u.2.1 u.2.2) (fun u => wM aM C u.1 mw u.2.1 u.2.2) A) (cc := cX12_risk) (maxL := 2) (ret := (some .long)) (by decide) (Nat.le_of_ble_eq_true rfl) ?_
  intro p e s m args below meth c A ls hx hb hr hml hown hw hlocks hname hK hN hA hP hD hS hl
  generalize hQ : MQ below _ args s 0 0 A = Q
  have hl : lv_has ls 2 [(0, .ref (aM 0)), (1, .int p1)] := hl
  obtain ⟨H, hH⟩ : ∃ H, H = s.heap := ⟨_, rfl⟩
  obtain ⟨locs, hlo⟩ : ∃ z : List Loc, z = [] := ⟨_, rfl⟩
  have hP : va_P D vwCl (List.flatten (wM aM C ms mw ma ml)) H := by rw [hH]; exact hP
  have hS : va_S A s.heap H locs := by rw [hH, hlo]; exact hS
  rw [show W p l e rmX12_risk s m args below meth c s.heap [] 0 0 Q (F0 m 0 ls []) = W p l e rmX12_risk s m args below meth c H locs 0 0 Q (F0 m 0 ls []) from by rw [hH, hlo]]
  refine lv_aload_n hx hb dX12_risk_0 rfl (lv_at hl 0 rfl) ?_
  refine lv_iconst (v := 0) hx hb dX12_risk_1 (by decide) ?_
  refine va_put (D := D) (ci := 12) (v := .int 0) (ty := .int) (C := RX12) (T := TX12) (N := 51) hx hb hw inW_X12 tyX12 tyX12_ok nmX12 hown hK hP hD hS 0 rfl rfl 0 (by decide) (hw _ mw_6_43) (fun _ h9 => h9) rfl (by decide +kernel) rfl rfl (Nat.le_of_ble_eq_true rfl) dX12_risk_2 (fun H locs hP hD hS => ?_)
  refine lv_aload_n hx hb dX12_risk_5 rfl (lv_at hl 0 rfl) ?_
  refine lv_iload_n hx hb dX12_risk_6 rfl (lv_at hl 1 rfl) ?_
  have hP : va_P D vwCl (List.flatten (wM aM C (va_up ms 0 0) mw ma ml)) H := hP
  have hD : va_D A (List.flatten (wM aM C (va_up ms 0 0) mw ma ml)) := hD
  refine cGoAI (cRunAV (As := [.int p1]) (rest := []) ⟨hx, hb, hml, hown, hw⟩ hK hN hP hD (k_X12_isBike l D C _ aM  (va_up ms 0 0) mw ma ml p1 h) (cwV 1 hw (goodV mw_7_143 mw_7_145 mw_s133 mw_1_13 mw_7_146) rfl rfl rfl (by decide +kernel) ⟨Nat.le_of_ble_eq_true rfl, Nat.le_of_ble_eq_true rfl⟩) rfl rfl rfl hl.1 rfl (Nat.le_of_ble_eq_true rfl) dX12_risk_7 ⟨Nat.zero_le _, Nat.zero_le _⟩) hP hD hS hA (fun r1 u H locs h hP hD hS => ?_)
  have hP : va_P D vwCl (List.flatten (wM aM C (va_up ms 0 0) mw ma ml)) H := hP
  have hD : va_D A (List.flatten (wM aM C (va_up ms 0 0) mw ma ml)) := hD
  refine lv_if_eq (tgt := 21) hx hb dX12_risk_10 (by decide) (fun c2 => ?_) (fun c2 => ?_)
  · have h := h.1 c2
    refine lv_ldc2 (v := (-2)) hx hb hown (hw _ mw_7_208) dX12_risk_21 ?_
    rw [← hQ]
    exact cRetL (v := (-2)) ((va_up ms 0 0), ma, ml) hx hb hr hlocks hS hP hD h dX12_risk_24
  · have h := h.2 c2
    refine lv_aload_n hx hb dX12_risk_13 rfl (lv_at hl 0 rfl) ?_
    refine lv_iload_n hx hb dX12_risk_14 rfl (lv_at hl 1 rfl) ?_
    refine cGoAL (cRunAV (As := [.int p1]) (rest := []) ⟨hx, hb, hml, hown, hw⟩ hK hN hP hD (k_X12_riskNow l D C _ aM  (va_up ms 0 0) mw ma ml p1 h) (cwV 1 hw (goodV mw_7_225 mw_7_227 mw_s144 mw_1_13 mw_7_228) rfl rfl rfl (by decide +kernel) ⟨Nat.le_of_ble_eq_true rfl, Nat.le_of_ble_eq_true rfl⟩) rfl rfl rfl hl.1 rfl (Nat.le_of_ble_eq_true rfl) dX12_risk_15 ⟨Nat.zero_le _, Nat.zero_le _⟩) hP hD hS hA (fun r6 u H locs h hP hD hS => ?_)
    obtain ⟨ms_3, ma_4, ml_5⟩ := u
    have hP : va_P D vwCl (List.flatten (wM aM C ms_3 mw ma_4 ml_5)) H := hP
    have hD : va_D A (List.flatten (wM aM C ms_3 mw ma_4 ml_5)) := hD
    refine lv_goto (tgt := 24) hx hb dX12_risk_18 (by decide) ?_
    rw [← hQ]
    exact cRetL (v := r6) (ms_3, ma_4, ml_5) hx hb hr hlocks hS hP hD h dX12_risk_24
abbrev vsX12_has : List Cond := Cond.code yX12_has cX12_has 3 (some .long) :: WS
abbrev rmX12_has : Room := { frames := 5, cells := 0, slots := 0, locals := 119 }
set_option maxHeartbeats 4000000 in
set_option maxRecDepth 100000 in
theorem k_X12_has (l : Launch) (D : va_G) (C : Nat → ClassId) (sz : Nat) (aM : Nat → Nat)  (ms : Nat → Int32) (mw : Nat → Int64) (ma : Nat → Nat → Int32) (ml : Nat → Nat → Int64) (p1 : Int32) (p2 : Int32) {post : Int64 → (Nat → Int32) → (Nat → Nat → Int32) → (Nat → Nat → Int64) → Prop} (h : P_X12_has ms ma ml p1 p2 post) : Met l yX12_has vsX12_has rmX12_has (cPre D C [.ref (aM 0), .int p1, .int p2] sz (wM aM C ms mw ma ml)) (cQl D (fun (r : Int64) (u : (Nat → Int32) × (Nat → Nat → Int32) × (Nat → Nat → Int64)) => post r u.1 u.2.1 u.2.2) (fun u => wM aM C u.1 mw u.2.1 u.2.2) (va_A (List.flatten (wM aM C ms mw ma ml)) sz)) 0 0 (va_A (List.flatten (wM aM C ms mw ma ml)) sz) := by
  refine cStart (QA := fun A => cQl D (fun (r : Int64) (u : (Nat → Int32) × (Nat → Nat → Int32) × (Nat → Nat → Int64)) => post r u.1 u.2.1 u.2.2) (fun u => wM aM C u.1 mw u.2.1 u.2.2) A) (cc := cX12_has) (maxL := 3) (ret := (some .long)) (by decide) (Nat.le_of_ble_eq_true rfl) ?_
  intro p e s m args below meth c A ls hx hb hr hml hown hw hlocks hname hK hN hA hP hD hS hl
  generalize hQ : MQ below _ args s 0 0 A = Q
  have hl : lv_has ls 3 [(0, .ref (aM 0)), (1, .int p1), (2, .int p2)] := hl
  obtain ⟨H, hH⟩ : ∃ H, H = s.heap := ⟨_, rfl⟩
  obtain ⟨locs, hlo⟩ : ∃ z : List Loc, z = [] := ⟨_, rfl⟩
  have hP : va_P D vwCl (List.flatten (wM aM C ms mw ma ml)) H := by rw [hH]; exact hP
  have hS : va_S A s.heap H locs := by rw [hH, hlo]; exact hS
  rw [show W p l e rmX12_has s m args below meth c s.heap [] 0 0 Q (F0 m 0 ls []) = W p l e rmX12_has s m args below meth c H locs 0 0 Q (F0 m 0 ls []) from by rw [hH, hlo]]
  refine lv_aload_n hx hb dX12_has_0 rfl (lv_at hl 0 rfl) ?_
  refine lv_iconst (v := 0) hx hb dX12_has_1 (by decide) ?_
  refine va_put (D := D) (ci := 12) (v := .int 0) (ty := .int) (C := RX12) (T := TX12) (N := 51) hx hb hw inW_X12 tyX12 tyX12_ok nmX12 hown hK hP hD hS 0 rfl rfl 0 (by decide) (hw _ mw_6_43) (fun _ h9 => h9) rfl (by decide +kernel) rfl rfl (Nat.le_of_ble_eq_true rfl) dX12_has_2 (fun H locs hP hD hS => ?_)
  refine lv_aload_n hx hb dX12_has_5 rfl (lv_at hl 0 rfl) ?_
  refine lv_iload_n hx hb dX12_has_6 rfl (lv_at hl 1 rfl) ?_
  have hP : va_P D vwCl (List.flatten (wM aM C (va_up ms 0 0) mw ma ml)) H := hP
  have hD : va_D A (List.flatten (wM aM C (va_up ms 0 0) mw ma ml)) := hD
  refine cGoAI (cRunAV (As := [.int p1]) (rest := []) ⟨hx, hb, hml, hown, hw⟩ hK hN hP hD (k_X12_isThief l D C _ aM  (va_up ms 0 0) mw ma ml p1 h) (cwV 1 hw (goodV mw_7_155 mw_7_157 mw_s134 mw_1_13 mw_7_158) rfl rfl rfl (by decide +kernel) ⟨Nat.le_of_ble_eq_true rfl, Nat.le_of_ble_eq_true rfl⟩) rfl rfl rfl hl.1 rfl (Nat.le_of_ble_eq_true rfl) dX12_has_7 ⟨Nat.zero_le _, Nat.zero_le _⟩) hP hD hS hA (fun r1 u H locs h hP hD hS => ?_)
  have hP : va_P D vwCl (List.flatten (wM aM C (va_up ms 0 0) mw ma ml)) H := hP
  have hD : va_D A (List.flatten (wM aM C (va_up ms 0 0) mw ma ml)) := hD
  refine lv_if_eq (tgt := 21) hx hb dX12_has_10 (by decide) (fun c2 => ?_) (fun c2 => ?_)
  · have h := h.1 c2
    refine lv_ldc2 (v := (-2)) hx hb hown (hw _ mw_7_208) dX12_has_21 ?_
    rw [← hQ]
    exact cRetL (v := (-2)) ((va_up ms 0 0), ma, ml) hx hb hr hlocks hS hP hD h dX12_has_24
  · have h := h.2 c2
    refine lv_aload_n hx hb dX12_has_13 rfl (lv_at hl 0 rfl) ?_
    refine lv_iload_n hx hb dX12_has_14 rfl (lv_at hl 2 rfl) ?_
    refine cGoAI (cRunAV (As := [.int p2]) (rest := []) ⟨hx, hb, hml, hown, hw⟩ hK hN hP hD (k_X12_isBike l D C _ aM  (va_up ms 0 0) mw ma ml p2 h) (cwV 1 hw (goodV mw_7_143 mw_7_145 mw_s133 mw_1_13 mw_7_146) rfl rfl rfl (by decide +kernel) ⟨Nat.le_of_ble_eq_true rfl, Nat.le_of_ble_eq_true rfl⟩) rfl rfl rfl hl.1 rfl (Nat.le_of_ble_eq_true rfl) dX12_has_15 ⟨Nat.zero_le _, Nat.zero_le _⟩) hP hD hS hA (fun r3 u H locs h hP hD hS => ?_)
    have hP : va_P D vwCl (List.flatten (wM aM C (va_up ms 0 0) mw ma ml)) H := hP
    have hD : va_D A (List.flatten (wM aM C (va_up ms 0 0) mw ma ml)) := hD
    refine lv_if_ne (tgt := 25) hx hb dX12_has_18 (by decide) (fun c4 => ?_) (fun c4 => ?_)
    · have h := h.1 c4
      refine lv_aload_n hx hb dX12_has_25 rfl (lv_at hl 0 rfl) ?_
      refine cGoAV (cRunAV (As := []) (rest := []) ⟨hx, hb, hml, hown, hw⟩ hK hN hP hD (k_X12_night l D C _ aM  (va_up ms 0 0) mw ma ml  h) (cwV 0 hw (goodV mw_7_209 mw_7_211 mw_s143 mw_1_13 mw_7_212) rfl rfl rfl (by decide +kernel) ⟨Nat.le_of_ble_eq_true rfl, Nat.le_of_ble_eq_true rfl⟩) rfl rfl rfl hl.1 rfl (Nat.le_of_ble_eq_true rfl) dX12_has_26 ⟨Nat.zero_le _, Nat.zero_le _⟩) hP hD hS hA (fun u H locs h hP hD hS => ?_)
      obtain ⟨ms_5, ma_6, ml_7⟩ := u
      have hP : va_P D vwCl (List.flatten (wM aM C ms_5 mw ma_6 ml_7)) H := hP
      have hD : va_D A (List.flatten (wM aM C ms_5 mw ma_6 ml_7)) := hD
      refine lv_aload_n hx hb dX12_has_29 rfl (lv_at hl 0 rfl) ?_
      refine va_get (D := D) (ci := 12) (v := .ref (aM 25)) (C := RX12) (T := TX12) (N := 51) hx hb hw inW_X12 hown hK hP 0 rfl rfl 38 (by decide) (hw _ mw_6_81) (fun _ h9 => h9) rfl dX12_has_30 ?_
      refine lv_bipush (v := 10) hx hb dX12_has_33 (by decide) ?_
      refine lv_iload_n hx hb dX12_has_35 rfl (lv_at hl 1 rfl) ?_
      refine lv_imul hx hb dX12_has_36 ?_
      refine lv_iload_n hx hb dX12_has_37 rfl (lv_at hl 2 rfl) ?_
      refine lv_iadd hx hb dX12_has_38 ?_
      refine cLald hx hb hK hP 25 1 rfl rfl (((10 * p1) + p2).toNatClampNeg) rfl h.1 dX12_has_39 ?_
      have h := h.2
      rw [← hQ]
      exact cRetL (v := (ml_7 4 (((10 * p1) + p2).toNatClampNeg))) (ms_5, ma_6, ml_7) hx hb hr hlocks hS hP hD h dX12_has_40
    · have h := h.2 c4
      refine lv_ldc2 (v := (-2)) hx hb hown (hw _ mw_7_208) dX12_has_21 ?_
      rw [← hQ]
      exact cRetL (v := (-2)) ((va_up ms 0 0), ma, ml) hx hb hr hlocks hS hP hD h dX12_has_24
abbrev vsX12_paidOf : List Cond := Cond.code yX12_paidOf cX12_paidOf 3 (some .long) :: WS
abbrev rmX12_paidOf : Room := { frames := 1, cells := 0, slots := 0, locals := 21 }
set_option maxHeartbeats 4000000 in
set_option maxRecDepth 100000 in
theorem k_X12_paidOf (l : Launch) (D : va_G) (C : Nat → ClassId) (sz : Nat) (aM : Nat → Nat)  (ms : Nat → Int32) (mw : Nat → Int64) (ma : Nat → Nat → Int32) (ml : Nat → Nat → Int64) (p1 : Int32) {post : Int64 → Prop} (h : P_X12_paidOf ma p1 post) : Met l yX12_paidOf vsX12_paidOf rmX12_paidOf (cPre D C [.ref (aM 0), .int p1] sz (wM aM C ms mw ma ml)) (cQl D (fun (r : Int64) (u : Unit) => post r ) (fun u => wM aM C ms mw ma ml) (va_A (List.flatten (wM aM C ms mw ma ml)) sz)) 0 0 (va_A (List.flatten (wM aM C ms mw ma ml)) sz) := by
  refine cStart (QA := fun A => cQl D (fun (r : Int64) (u : Unit) => post r ) (fun u => wM aM C ms mw ma ml) A) (cc := cX12_paidOf) (maxL := 3) (ret := (some .long)) (by decide) (Nat.le_of_ble_eq_true rfl) ?_
  intro p e s m args below meth c A ls hx hb hr hml hown hw hlocks hname hK hN hA hP hD hS hl
  generalize hQ : MQ below _ args s 0 0 A = Q
  have hl : lv_has ls 3 [(0, .ref (aM 0)), (1, .int p1)] := hl
  obtain ⟨H, hH⟩ : ∃ H, H = s.heap := ⟨_, rfl⟩
  obtain ⟨locs, hlo⟩ : ∃ z : List Loc, z = [] := ⟨_, rfl⟩
  have hP : va_P D vwCl (List.flatten (wM aM C ms mw ma ml)) H := by rw [hH]; exact hP
  have hS : va_S A s.heap H locs := by rw [hH, hlo]; exact hS
  rw [show W p l e rmX12_paidOf s m args below meth c s.heap [] 0 0 Q (F0 m 0 ls []) = W p l e rmX12_paidOf s m args below meth c H locs 0 0 Q (F0 m 0 ls []) from by rw [hH, hlo]]
  have N40 : ∀ (x2_ : Int32) (k0_ : Int32) (k1_ : Int64) (H : Heap) (locs : List Loc) (ls : Array Slot), P_X12_paidOf_40 ma p1 post  x2_ k0_ k1_ → va_P D vwCl (List.flatten (wM aM C ms mw ma ml)) H → va_D A (List.flatten (wM aM C ms mw ma ml)) → va_S A s.heap H locs → lv_has ls 3 [(0, .ref (aM 0)), (2, .int x2_)] → W p l e rmX12_paidOf s m args below meth c H locs 0 0 Q (F0 m 40 ls [.int k0_, .long k1_]) := by
    intro x2_ k0_ k1_ H locs ls h hP hD hS hl
    refine lv_aload_n hx hb dX12_paidOf_40 rfl (lv_at hl 0 rfl) ?_
    refine va_get (D := D) (ci := 12) (v := .ref (aM 14)) (C := RX12) (T := TX12) (N := 51) hx hb hw inW_X12 hown hK hP 0 rfl rfl 24 (by decide) (hw _ mw_6_67) (fun _ h9 => h9) rfl dX12_paidOf_41 ?_
    refine lv_iload_n hx hb dX12_paidOf_44 rfl (lv_at hl 1 rfl) ?_
    refine lv_iconst (v := 4) hx hb dX12_paidOf_45 (by decide) ?_
    refine lv_iadd hx hb dX12_paidOf_46 ?_
    refine cIald hx hb hK hP 14 0 rfl rfl ((x2_ + 4).toNatClampNeg) rfl h.1 dX12_paidOf_47 ?_
    have h := h.2
    refine lv_iconst (v := 1) hx hb dX12_paidOf_48 (by decide) ?_
    refine lv_icmp_ne (tgt := 61) hx hb dX12_paidOf_49 (by decide) (fun c1 => ?_) (fun c1 => ?_)
    · have h := h.1 c1
      refine lv_iconst (v := 0) hx hb dX12_paidOf_61 (by decide) ?_
      refine lv_iadd hx hb dX12_paidOf_62 ?_
      refine lv_i2l hx hb dX12_paidOf_63 rfl ?_
      refine lv_lmul hx hb dX12_paidOf_64 ?_
      rw [← hQ]
      exact cRetL (v := (k1_ * (k0_ + 0).toInt64)) () hx hb hr hlocks hS hP hD h dX12_paidOf_65
    · have h := h.2 c1
      refine lv_aload_n hx hb dX12_paidOf_52 rfl (lv_at hl 0 rfl) ?_
      refine va_get (D := D) (ci := 12) (v := .ref (aM 17)) (C := RX12) (T := TX12) (N := 51) hx hb hw inW_X12 hown hK hP 0 rfl rfl 27 (by decide) (hw _ mw_6_70) (fun _ h9 => h9) rfl dX12_paidOf_53 ?_
      refine lv_iconst (v := 0) hx hb dX12_paidOf_56 (by decide) ?_
      refine cIald hx hb hK hP 17 0 rfl rfl 0 (by decide +kernel) (cIn (by decide +kernel)) dX12_paidOf_57 ?_
      refine lv_goto (tgt := 62) hx hb dX12_paidOf_58 (by decide) ?_
      refine lv_iadd hx hb dX12_paidOf_62 ?_
      refine lv_i2l hx hb dX12_paidOf_63 rfl ?_
      refine lv_lmul hx hb dX12_paidOf_64 ?_
      rw [← hQ]
      exact cRetL (v := (k1_ * (k0_ + (ma 14 0)).toInt64)) () hx hb hr hlocks hS hP hD h dX12_paidOf_65
  refine lv_iconst (v := 0) hx hb dX12_paidOf_0 (by decide) ?_
  refine lv_iload_n hx hb dX12_paidOf_1 rfl (lv_at hl 1 rfl) ?_
  refine cGoEI (cRunES (As := [.int 0, .int p1]) (rest := []) ⟨hx, hb, hml, hown, hw⟩ hK hN hP hD (k_X12_at l D C _    0 p1 h) (va_cwS 2 hw (goodS mw_7_148 mw_7_149 mw_1_13 mw_7_150) rfl rfl rfl (by decide +kernel) ⟨Nat.le_of_ble_eq_true rfl, Nat.le_of_ble_eq_true rfl⟩) rfl hl.1 rfl (Nat.le_of_ble_eq_true rfl) dX12_paidOf_2 ⟨Nat.zero_le _, Nat.zero_le _⟩) hP hD hS hA (fun r2 u H locs h hP hD hS => ?_)
  have hP : va_P D vwCl (List.flatten (wM aM C ms mw ma ml)) H := hP
  have hD : va_D A (List.flatten (wM aM C ms mw ma ml)) := hD
  refine lv_istore_n (lv' := [(2, .int r2), (0, .ref (aM 0)), (1, .int p1)]) hx hb dX12_paidOf_5 rfl hl (by decide) rfl (fun ls hl => ?_)
  refine lv_ldc2 (v := 1000) hx hb hown (hw _ mw_8_10) dX12_paidOf_6 ?_
  refine lv_aload_n hx hb dX12_paidOf_9 rfl (lv_at hl 1 rfl) ?_
  refine va_get (D := D) (ci := 12) (v := .ref (aM 14)) (C := RX12) (T := TX12) (N := 51) hx hb hw inW_X12 hown hK hP 0 rfl rfl 24 (by decide) (hw _ mw_6_67) (fun _ h9 => h9) rfl dX12_paidOf_10 ?_
  refine lv_iload_n hx hb dX12_paidOf_13 rfl (lv_at hl 0 rfl) ?_
  refine lv_iconst (v := 3) hx hb dX12_paidOf_14 (by decide) ?_
  refine lv_iadd hx hb dX12_paidOf_15 ?_
  refine cIald hx hb hK hP 14 0 rfl rfl ((r2 + 3).toNatClampNeg) rfl h.1 dX12_paidOf_16 ?_
  have h := h.2
  refine lv_iconst (v := (-1)) hx hb dX12_paidOf_17 (by decide) ?_
  refine lv_icmp_ne (tgt := 25) hx hb dX12_paidOf_18 (by decide) (fun c3 => ?_) (fun c3 => ?_)
  · have h := h.1 c3
    refine lv_aload_n hx hb dX12_paidOf_25 rfl (lv_at hl 1 rfl) ?_
    refine va_get (D := D) (ci := 12) (v := .ref (aM 12)) (C := RX12) (T := TX12) (N := 51) hx hb hw inW_X12 hown hK hP 0 rfl rfl 22 (by decide) (hw _ mw_6_65) (fun _ h9 => h9) rfl dX12_paidOf_26 ?_
    refine lv_iconst (v := 4) hx hb dX12_paidOf_29 (by decide) ?_
    refine lv_aload_n hx hb dX12_paidOf_30 rfl (lv_at hl 1 rfl) ?_
    refine va_get (D := D) (ci := 12) (v := .ref (aM 14)) (C := RX12) (T := TX12) (N := 51) hx hb hw inW_X12 hown hK hP 0 rfl rfl 24 (by decide) (hw _ mw_6_67) (fun _ h9 => h9) rfl dX12_paidOf_31 ?_
    refine lv_iload_n hx hb dX12_paidOf_34 rfl (lv_at hl 0 rfl) ?_
    refine lv_iconst (v := 3) hx hb dX12_paidOf_35 (by decide) ?_
    refine lv_iadd hx hb dX12_paidOf_36 ?_
    refine cIald hx hb hK hP 14 0 rfl rfl ((r2 + 3).toNatClampNeg) rfl h.1 dX12_paidOf_37 ?_
    have h := h.2
    refine lv_imul hx hb dX12_paidOf_38 ?_
    refine cIald hx hb hK hP 12 0 rfl rfl ((4 * (ma 11 ((r2 + 3).toNatClampNeg))).toNatClampNeg) rfl h.1 dX12_paidOf_39 ?_
    have h := h.2
    exact N40 r2 (ma 9 ((4 * (ma 11 ((r2 + 3).toNatClampNeg))).toNatClampNeg)) 1000 _ _ _ h hP hD hS (lv_sub hl [1, 0] rfl)
  · have h := h.2 c3
    refine lv_iconst (v := 0) hx hb dX12_paidOf_21 (by decide) ?_
    refine lv_goto (tgt := 40) hx hb dX12_paidOf_22 (by decide) ?_
    exact N40 r2 0 1000 _ _ _ h hP hD hS (lv_sub hl [1, 0] rfl)
abbrev vsX12_lossOf : List Cond := Cond.code yX12_lossOf cX12_lossOf 2 (some .long) :: WS
abbrev rmX12_lossOf : Room := { frames := 1, cells := 0, slots := 0, locals := 24 }
set_option maxHeartbeats 4000000 in
set_option maxRecDepth 100000 in
theorem k_X12_lossOf (l : Launch) (D : va_G) (C : Nat → ClassId) (sz : Nat) (aM : Nat → Nat)  (ms : Nat → Int32) (mw : Nat → Int64) (ma : Nat → Nat → Int32) (ml : Nat → Nat → Int64) (p1 : Int32) {post : Int64 → Prop} (h : P_X12_lossOf ma ml p1 post) : Met l yX12_lossOf vsX12_lossOf rmX12_lossOf (cPre D C [.ref (aM 0), .int p1] sz (wM aM C ms mw ma ml)) (cQl D (fun (r : Int64) (u : Unit) => post r ) (fun u => wM aM C ms mw ma ml) (va_A (List.flatten (wM aM C ms mw ma ml)) sz)) 0 0 (va_A (List.flatten (wM aM C ms mw ma ml)) sz) := by
  refine cStart (QA := fun A => cQl D (fun (r : Int64) (u : Unit) => post r ) (fun u => wM aM C ms mw ma ml) A) (cc := cX12_lossOf) (maxL := 2) (ret := (some .long)) (by decide) (Nat.le_of_ble_eq_true rfl) ?_
  intro p e s m args below meth c A ls hx hb hr hml hown hw hlocks hname hK hN hA hP hD hS hl
  generalize hQ : MQ below _ args s 0 0 A = Q
  have hl : lv_has ls 2 [(0, .ref (aM 0)), (1, .int p1)] := hl
  obtain ⟨H, hH⟩ : ∃ H, H = s.heap := ⟨_, rfl⟩
  obtain ⟨locs, hlo⟩ : ∃ z : List Loc, z = [] := ⟨_, rfl⟩
  have hP : va_P D vwCl (List.flatten (wM aM C ms mw ma ml)) H := by rw [hH]; exact hP
  have hS : va_S A s.heap H locs := by rw [hH, hlo]; exact hS
  rw [show W p l e rmX12_lossOf s m args below meth c s.heap [] 0 0 Q (F0 m 0 ls []) = W p l e rmX12_lossOf s m args below meth c H locs 0 0 Q (F0 m 0 ls []) from by rw [hH, hlo]]
  refine lv_aload_n hx hb dX12_lossOf_0 rfl (lv_at hl 0 rfl) ?_
  refine va_get (D := D) (ci := 12) (v := .ref (aM 8)) (C := RX12) (T := TX12) (N := 51) hx hb hw inW_X12 hown hK hP 0 rfl rfl 18 (by decide) (hw _ mw_6_61) (fun _ h9 => h9) rfl dX12_lossOf_1 ?_
  refine lv_iconst (v := 0) hx hb dX12_lossOf_4 (by decide) ?_
  refine cIald hx hb hK hP 8 0 rfl rfl 0 (by decide +kernel) (cIn (by decide +kernel)) dX12_lossOf_5 ?_
  refine lv_aload_n hx hb dX12_lossOf_6 rfl (lv_at hl 0 rfl) ?_
  refine va_get (D := D) (ci := 12) (v := .ref (aM 14)) (C := RX12) (T := TX12) (N := 51) hx hb hw inW_X12 hown hK hP 0 rfl rfl 24 (by decide) (hw _ mw_6_67) (fun _ h9 => h9) rfl dX12_lossOf_7 ?_
  refine lv_iconst (v := 0) hx hb dX12_lossOf_10 (by decide) ?_
  refine lv_iload_n hx hb dX12_lossOf_11 rfl (lv_at hl 1 rfl) ?_
  refine cGoEI (cRunES (As := [.int 0, .int p1]) (rest := [.ref (aM 14), .int (ma 5 0)]) ⟨hx, hb, hml, hown, hw⟩ hK hN hP hD (k_X12_at l D C _    0 p1 h) (va_cwS 2 hw (goodS mw_7_148 mw_7_149 mw_1_13 mw_7_150) rfl rfl rfl (by decide +kernel) ⟨Nat.le_of_ble_eq_true rfl, Nat.le_of_ble_eq_true rfl⟩) rfl hl.1 rfl (Nat.le_of_ble_eq_true rfl) dX12_lossOf_12 ⟨Nat.zero_le _, Nat.zero_le _⟩) hP hD hS hA (fun r1 u H locs h hP hD hS => ?_)
  have hP : va_P D vwCl (List.flatten (wM aM C ms mw ma ml)) H := hP
  have hD : va_D A (List.flatten (wM aM C ms mw ma ml)) := hD
  refine cIald hx hb hK hP 14 0 rfl rfl r1.toNatClampNeg rfl h.1 dX12_lossOf_15 ?_
  have h := h.2
  refine lv_imul hx hb dX12_lossOf_16 ?_
  refine lv_i2l hx hb dX12_lossOf_17 rfl ?_
  refine lv_aload_n hx hb dX12_lossOf_18 rfl (lv_at hl 0 rfl) ?_
  refine lv_iload_n hx hb dX12_lossOf_19 rfl (lv_at hl 1 rfl) ?_
  refine cGoAL (cRunAV (As := [.int p1]) (rest := [.long (((ma 5 0) * (ma 11 r1.toNatClampNeg)).toInt64)]) ⟨hx, hb, hml, hown, hw⟩ hK hN hP hD (k_X12_riskOf l D C _ aM  ms mw ma ml p1 h) (cwV 1 hw (goodV mw_7_229 mw_7_231 mw_s145 mw_1_13 mw_7_232) rfl rfl rfl (by decide +kernel) ⟨Nat.le_of_ble_eq_true rfl, Nat.le_of_ble_eq_true rfl⟩) rfl rfl rfl hl.1 rfl (Nat.le_of_ble_eq_true rfl) dX12_lossOf_20 ⟨Nat.zero_le _, Nat.zero_le _⟩) hP hD hS hA (fun r2 u H locs h hP hD hS => ?_)
  have hP : va_P D vwCl (List.flatten (wM aM C ms mw ma ml)) H := hP
  have hD : va_D A (List.flatten (wM aM C ms mw ma ml)) := hD
  refine lv_lmul hx hb dX12_lossOf_23 ?_
  refine lv_ldc2 (v := 1000000000) hx hb hown (hw _ mw_8_15) dX12_lossOf_24 ?_
  refine lv_ldiv hx hb dX12_lossOf_27 (by decide) ?_
  rw [← hQ]
  exact cRetL (v := ((((ma 5 0) * (ma 11 r1.toNatClampNeg)).toInt64 * r2) / 1000000000)) () hx hb hr hlocks hS hP hD h dX12_lossOf_28
abbrev vsX12_wages : List Cond := Cond.code yX12_wages cX12_wages 1 (some .long) :: WS
abbrev rmX12_wages : Room := { frames := 0, cells := 0, slots := 0, locals := 0 }
set_option maxHeartbeats 4000000 in
set_option maxRecDepth 100000 in
theorem k_X12_wages (l : Launch) (D : va_G) (C : Nat → ClassId) (sz : Nat) (aM : Nat → Nat)  (ms : Nat → Int32) (mw : Nat → Int64) (ma : Nat → Nat → Int32) (ml : Nat → Nat → Int64)  {post : Int64 → Prop} (h : P_X12_wages ma post) : Met l yX12_wages vsX12_wages rmX12_wages (cPre D C [.ref (aM 0)] sz (wM aM C ms mw ma ml)) (cQl D (fun (r : Int64) (u : Unit) => post r ) (fun u => wM aM C ms mw ma ml) (va_A (List.flatten (wM aM C ms mw ma ml)) sz)) 0 0 (va_A (List.flatten (wM aM C ms mw ma ml)) sz) := by
  refine cStart (QA := fun A => cQl D (fun (r : Int64) (u : Unit) => post r ) (fun u => wM aM C ms mw ma ml) A) (cc := cX12_wages) (maxL := 1) (ret := (some .long)) (by decide) (Nat.le_of_ble_eq_true rfl) ?_
  intro p e s m args below meth c A ls hx hb hr hml hown hw hlocks hname hK hN hA hP hD hS hl
  generalize hQ : MQ below _ args s 0 0 A = Q
  have hl : lv_has ls 1 [(0, .ref (aM 0))] := hl
  obtain ⟨H, hH⟩ : ∃ H, H = s.heap := ⟨_, rfl⟩
  obtain ⟨locs, hlo⟩ : ∃ z : List Loc, z = [] := ⟨_, rfl⟩
  have hP : va_P D vwCl (List.flatten (wM aM C ms mw ma ml)) H := by rw [hH]; exact hP
  have hS : va_S A s.heap H locs := by rw [hH, hlo]; exact hS
  rw [show W p l e rmX12_wages s m args below meth c s.heap [] 0 0 Q (F0 m 0 ls []) = W p l e rmX12_wages s m args below meth c H locs 0 0 Q (F0 m 0 ls []) from by rw [hH, hlo]]
  refine lv_ldc2 (v := 1000) hx hb hown (hw _ mw_8_10) dX12_wages_0 ?_
  refine lv_aload_n hx hb dX12_wages_3 rfl (lv_at hl 0 rfl) ?_
  refine va_get (D := D) (ci := 12) (v := .ref (aM 17)) (C := RX12) (T := TX12) (N := 51) hx hb hw inW_X12 hown hK hP 0 rfl rfl 27 (by decide) (hw _ mw_6_70) (fun _ h9 => h9) rfl dX12_wages_4 ?_
  refine lv_iconst (v := 4) hx hb dX12_wages_7 (by decide) ?_
  refine cIald hx hb hK hP 17 0 rfl rfl 4 (by decide +kernel) (cIn (by decide +kernel)) dX12_wages_8 ?_
  refine lv_i2l hx hb dX12_wages_9 rfl ?_
  refine lv_lmul hx hb dX12_wages_10 ?_
  refine lv_aload_n hx hb dX12_wages_11 rfl (lv_at hl 0 rfl) ?_
  refine va_get (D := D) (ci := 12) (v := .ref (aM 8)) (C := RX12) (T := TX12) (N := 51) hx hb hw inW_X12 hown hK hP 0 rfl rfl 18 (by decide) (hw _ mw_6_61) (fun _ h9 => h9) rfl dX12_wages_12 ?_
  refine lv_iconst (v := 0) hx hb dX12_wages_15 (by decide) ?_
  refine cIald hx hb hK hP 8 0 rfl rfl 0 (by decide +kernel) (cIn (by decide +kernel)) dX12_wages_16 ?_
  refine lv_i2l hx hb dX12_wages_17 rfl ?_
  refine lv_lmul hx hb dX12_wages_18 ?_
  rw [← hQ]
  exact cRetL (v := ((1000 * (ma 14 4).toInt64) * (ma 5 0).toInt64)) () hx hb hr hlocks hS hP hD h dX12_wages_19
