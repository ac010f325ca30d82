abbrev vsX12_gainOf : List Cond := Cond.code yX12_gainOf cX12_gainOf 5 (some .int) :: WS
abbrev rmX12_gainOf : Room := { frames := 2, cells := 0, slots := 0, locals := 44 }
set_option maxHeartbeats 4000000 in
set_option maxRecDepth 100000 in
theorem k_X12_gainOf (l : Launch) (D : va_G) (C : Nat → ClassId) (sz : Nat) (aM : Nat → Nat)  (ms : Nat → Int32) (mw : Nat → Int64) (ma : Nat → Nat → Int32) (ml : Nat → Nat → Int64) (p1 : Int32) (p2 : Int32) {post : Int32 → Prop} (h : P_X12_gainOf ma p1 p2 post) : Met l yX12_gainOf vsX12_gainOf rmX12_gainOf (cPre D C [.ref (aM 0), .int p1, .int p2] sz (wM aM C ms mw ma ml)) (cQi D (fun (r : Int32) (u : Unit) => post r ) (fun u => wM aM C ms mw ma ml) (va_A (List.flatten (wM aM C ms mw ma ml)) sz)) 0 0 (va_A (List.flatten (wM aM C ms mw ma ml)) sz) := by
  refine cStart (QA := fun A => cQi D (fun (r : Int32) (u : Unit) => post r ) (fun u => wM aM C ms mw ma ml) A) (cc := cX12_gainOf) (maxL := 5) (ret := (some .int)) (by decide) (Nat.le_of_ble_eq_true rfl) ?_
  intro p e s m args below meth c A ls hx hb hr hml hown hw hlocks hname hK hN hA hP hD hS hl
  generalize hQ : MQ below _ args s 0 0 A = Q
  have hl : lv_has ls 5 [(0, .ref (aM 0)), (1, .int p1), (2, .int p2)] := hl
  obtain ⟨H, hH⟩ : ∃ H, H = s.heap := ⟨_, rfl⟩
  obtain ⟨locs, hlo⟩ : ∃ z : List Loc, z = [] := ⟨_, rfl⟩
  have hP : va_P D vwCl (List.flatten (wM aM C ms mw ma ml)) H := by rw [hH]; exact hP
  have hS : va_S A s.heap H locs := by rw [hH, hlo]; exact hS
  rw [show W p l e rmX12_gainOf s m args below meth c s.heap [] 0 0 Q (F0 m 0 ls []) = W p l e rmX12_gainOf s m args below meth c H locs 0 0 Q (F0 m 0 ls []) from by rw [hH, hlo]]
  refine lv_iload_n hx hb dX12_gainOf_0 rfl (lv_at hl 1 rfl) ?_
  refine lv_iload_n hx hb dX12_gainOf_1 rfl (lv_at hl 2 rfl) ?_
  refine cGoI (wo := fun u => wM aM C ms mw ma ml) (cRunS (As := [.int p1, .int p2]) (rest := []) ⟨hx, hb, hml, hown, hw⟩ hK hN hP hD [] rfl rfl (k_X12_at l D C _    p1 p2 h) (va_cwS 2 hw (goodS mw_7_148 mw_7_149 mw_1_13 mw_7_150) rfl rfl rfl (by decide +kernel) ⟨Nat.le_of_ble_eq_true rfl, Nat.le_of_ble_eq_true rfl⟩) rfl hl.1 rfl (Nat.le_of_ble_eq_true rfl) dX12_gainOf_2 ⟨Nat.zero_le _, Nat.zero_le _⟩) hP hD hS hA [] [0, 1, 2, 3, 4, 5, 6, 7, 8, 9, 10, 11, 12, 13, 14, 15, 16, 17, 18, 19, 20, 21, 22, 23, 24, 25, 26, 27, 28, 29, 30, 31, 32] [0, 1, 2, 3, 4, 5, 6, 7, 8, 9, 10, 11, 12, 13, 14, 15, 16, 17, 18, 19, 20, 21, 22, 23, 24, 25, 26, 27, 28, 29, 30, 31, 32] rfl rfl rfl (by decide) rfl (fun _ => rfl) (fun r1 u H locs h hP hD hS => ?_)
  have hP : va_P D vwCl (List.flatten (wM aM C ms mw ma ml)) H := hP
  have hD : va_D A (List.flatten (wM aM C ms mw ma ml)) := hD
  refine lv_istore_n (lv' := [(3, .int r1), (0, .ref (aM 0)), (1, .int p1), (2, .int p2)]) hx hb dX12_gainOf_5 rfl hl (by decide) rfl (fun ls hl => ?_)
  refine lv_aload_n hx hb dX12_gainOf_6 rfl (lv_at hl 1 rfl) ?_
  refine va_get (D := D) (ci := 12) (v := .ref (aM 17)) (C := RX12) (T := TX12) (N := 51) hx hb hw inW_X12 hown hK hP 0 rfl rfl 27 (by decide) (hw _ mw_6_70) (fun _ h9 => h9) rfl dX12_gainOf_7 ?_
  refine lv_bipush (v := 7) hx hb dX12_gainOf_10 (by decide) ?_
  refine lv_iload_n hx hb dX12_gainOf_12 rfl (lv_at hl 2 rfl) ?_
  refine lv_imul hx hb dX12_gainOf_13 ?_
  refine lv_iconst (v := 1) hx hb dX12_gainOf_14 (by decide) ?_
  refine lv_iadd hx hb dX12_gainOf_15 ?_
  refine cIald hx hb hK hP 17 0 rfl rfl (((7 * p1) + 1).toNatClampNeg) rfl h.1 dX12_gainOf_16 ?_
  have h := h.2
  refine lv_topi (fun x2 ex2 => ?_)
  have h := h x2 ex2
  refine lv_istore (lv' := [(4, .int x2), (3, .int r1), (0, .ref (aM 0)), (1, .int p1), (2, .int p2)]) hx hb dX12_gainOf_17 hl (by decide) rfl (fun ls hl => ?_)
  refine lv_aload_n hx hb dX12_gainOf_19 rfl (lv_at hl 2 rfl) ?_
  refine va_get (D := D) (ci := 12) (v := .ref (aM 17)) (C := RX12) (T := TX12) (N := 51) hx hb hw inW_X12 hown hK hP 0 rfl rfl 27 (by decide) (hw _ mw_6_70) (fun _ h9 => h9) rfl dX12_gainOf_20 ?_
  refine lv_bipush (v := 7) hx hb dX12_gainOf_23 (by decide) ?_
  refine lv_iload_n hx hb dX12_gainOf_25 rfl (lv_at hl 3 rfl) ?_
  refine lv_imul hx hb dX12_gainOf_26 ?_
  refine lv_iconst (v := 2) hx hb dX12_gainOf_27 (by decide) ?_
  refine lv_iadd hx hb dX12_gainOf_28 ?_
  refine cIald hx hb hK hP 17 0 rfl rfl (((7 * p1) + 2).toNatClampNeg) rfl h.1 dX12_gainOf_29 ?_
  have h := h.2
  refine lv_iconst (v := 1) hx hb dX12_gainOf_30 (by decide) ?_
  refine lv_icmp_ne (tgt := 76) hx hb dX12_gainOf_31 (by decide) (fun c3 => ?_) (fun c3 => ?_)
  · have h := h.1 c3
    refine lv_aload_n hx hb dX12_gainOf_76 rfl (lv_at hl 2 rfl) ?_
    refine va_get (D := D) (ci := 12) (v := .ref (aM 14)) (C := RX12) (T := TX12) (N := 51) hx hb hw inW_X12 hown hK hP 0 rfl rfl 24 (by decide) (hw _ mw_6_67) (fun _ h9 => h9) rfl dX12_gainOf_77 ?_
    refine lv_iload_n hx hb dX12_gainOf_80 rfl (lv_at hl 1 rfl) ?_
    refine lv_iconst (v := 4) hx hb dX12_gainOf_81 (by decide) ?_
    refine lv_iadd hx hb dX12_gainOf_82 ?_
    refine cIald hx hb hK hP 14 0 rfl rfl ((r1 + 4).toNatClampNeg) rfl h.1 dX12_gainOf_83 ?_
    have h := h.2
    refine lv_iconst (v := 1) hx hb dX12_gainOf_84 (by decide) ?_
    refine lv_icmp_ne (tgt := 108) hx hb dX12_gainOf_85 (by decide) (fun c4 => ?_) (fun c4 => ?_)
    · have h := h.1 c4
      refine lv_aload_n hx hb dX12_gainOf_108 rfl (lv_at hl 2 rfl) ?_
      refine va_get (D := D) (ci := 12) (v := .ref (aM 14)) (C := RX12) (T := TX12) (N := 51) hx hb hw inW_X12 hown hK hP 0 rfl rfl 24 (by decide) (hw _ mw_6_67) (fun _ h9 => h9) rfl dX12_gainOf_109 ?_
      refine lv_iload_n hx hb dX12_gainOf_112 rfl (lv_at hl 1 rfl) ?_
      refine lv_iconst (v := 1) hx hb dX12_gainOf_113 (by decide) ?_
      refine lv_iadd hx hb dX12_gainOf_114 ?_
      refine cIald hx hb hK hP 14 0 rfl rfl ((r1 + 1).toNatClampNeg) rfl h.1 dX12_gainOf_115 ?_
      have h := h.2
      rw [← hQ]
      exact cRetI (v := (ma 11 ((r1 + 1).toNatClampNeg))) () hx hb hr hlocks hS hP hD h dX12_gainOf_116
    · have h := h.2 c4
      refine lv_aload_n hx hb dX12_gainOf_88 rfl (lv_at hl 2 rfl) ?_
      refine va_get (D := D) (ci := 12) (v := .ref (aM 14)) (C := RX12) (T := TX12) (N := 51) hx hb hw inW_X12 hown hK hP 0 rfl rfl 24 (by decide) (hw _ mw_6_67) (fun _ h9 => h9) rfl dX12_gainOf_89 ?_
      refine lv_iload_n hx hb dX12_gainOf_92 rfl (lv_at hl 1 rfl) ?_
      refine lv_iconst (v := 1) hx hb dX12_gainOf_93 (by decide) ?_
      refine lv_iadd hx hb dX12_gainOf_94 ?_
      refine cIald hx hb hK hP 14 0 rfl rfl ((r1 + 1).toNatClampNeg) rfl h.1 dX12_gainOf_95 ?_
      have h := h.2
      refine lv_bipush (v := 100) hx hb dX12_gainOf_96 (by decide) ?_
      refine lv_iload hx hb dX12_gainOf_98 (lv_at hl 0 rfl) ?_
      refine lv_isub hx hb dX12_gainOf_100 ?_
      refine lv_imul hx hb dX12_gainOf_101 ?_
      refine lv_bipush (v := 100) hx hb dX12_gainOf_102 (by decide) ?_
      refine lv_idiv hx hb dX12_gainOf_104 (by decide) ?_
      refine lv_goto (tgt := 116) hx hb dX12_gainOf_105 (by decide) ?_
      rw [← hQ]
      exact cRetI (v := (((ma 11 ((r1 + 1).toNatClampNeg)) * (100 - x2)) / 100)) () hx hb hr hlocks hS hP hD h dX12_gainOf_116
  · have h := h.2 c3
    refine lv_aload_n hx hb dX12_gainOf_34 rfl (lv_at hl 2 rfl) ?_
    refine va_get (D := D) (ci := 12) (v := .ref (aM 14)) (C := RX12) (T := TX12) (N := 51) hx hb hw inW_X12 hown hK hP 0 rfl rfl 24 (by decide) (hw _ mw_6_67) (fun _ h9 => h9) rfl dX12_gainOf_35 ?_
    refine lv_iload_n hx hb dX12_gainOf_38 rfl (lv_at hl 1 rfl) ?_
    refine lv_iconst (v := 1) hx hb dX12_gainOf_39 (by decide) ?_
    refine lv_iadd hx hb dX12_gainOf_40 ?_
    refine cIald hx hb hK hP 14 0 rfl rfl ((r1 + 1).toNatClampNeg) rfl h.1 dX12_gainOf_41 ?_
    have h := h.2
    refine lv_i2l hx hb dX12_gainOf_42 rfl ?_
    refine lv_bipush (v := 100) hx hb dX12_gainOf_43 (by decide) ?_
    refine lv_aload_n hx hb dX12_gainOf_45 rfl (lv_at hl 2 rfl) ?_
    refine va_get (D := D) (ci := 12) (v := .ref (aM 13)) (C := RX12) (T := TX12) (N := 51) hx hb hw inW_X12 hown hK hP 0 rfl rfl 23 (by decide) (hw _ mw_6_66) (fun _ h9 => h9) rfl dX12_gainOf_46 ?_
    refine lv_iload_n hx hb dX12_gainOf_49 rfl (lv_at hl 3 rfl) ?_
    refine cIald hx hb hK hP 13 0 rfl rfl p1.toNatClampNeg rfl h.1 dX12_gainOf_50 ?_
    have h := h.2
    refine lv_imul hx hb dX12_gainOf_51 ?_
    refine lv_iload hx hb dX12_gainOf_52 (lv_at hl 0 rfl) ?_
    refine lv_aload_n hx hb dX12_gainOf_54 rfl (lv_at hl 2 rfl) ?_
    refine lv_iload_n hx hb dX12_gainOf_55 rfl (lv_at hl 3 rfl) ?_
    refine cGoI (wo := fun u => wM aM C ms mw ma ml) (cRunV (As := [.int p1]) (rest := [.int x2, .int (100 * (ma 10 p1.toNatClampNeg)), .long ((ma 11 ((r1 + 1).toNatClampNeg)).toInt64)]) ⟨hx, hb, hml, hown, hw⟩ hK hN hP hD [0, 1, 2, 3, 4, 5, 6, 7, 8, 9, 10, 11, 12, 13, 14, 15, 16, 17, 18, 19, 20, 21, 22, 23, 24, 25, 26, 27, 28, 29, 30, 31, 32] rfl rfl (k_X12_markedOn l D C _ aM  ms mw ma ml p1 h) (cwV 1 hw (goodV mw_7_172 mw_7_174 mw_s137 mw_1_13 mw_7_175) rfl rfl rfl (by decide +kernel) ⟨Nat.le_of_ble_eq_true rfl, Nat.le_of_ble_eq_true rfl⟩) rfl rfl rfl hl.1 rfl (Nat.le_of_ble_eq_true rfl) dX12_gainOf_56 ⟨Nat.zero_le _, Nat.zero_le _⟩) hP hD hS hA [0, 1, 2, 3, 4, 5, 6, 7, 8, 9, 10, 11, 12, 13, 14, 15, 16, 17, 18, 19, 20, 21, 22, 23, 24, 25, 26, 27, 28, 29, 30, 31, 32] [] [0, 1, 2, 3, 4, 5, 6, 7, 8, 9, 10, 11, 12, 13, 14, 15, 16, 17, 18, 19, 20, 21, 22, 23, 24, 25, 26, 27, 28, 29, 30, 31, 32] rfl rfl rfl (by decide) rfl (fun _ => rfl) (fun r5 u H locs h hP hD hS => ?_)
    have hP : va_P D vwCl (List.flatten (wM aM C ms mw ma ml)) H := hP
    have hD : va_D A (List.flatten (wM aM C ms mw ma ml)) := hD
    refine lv_imul hx hb dX12_gainOf_59 ?_
    refine lv_isub hx hb dX12_gainOf_60 ?_
    refine lv_i2l hx hb dX12_gainOf_61 rfl ?_
    refine lv_lmul hx hb dX12_gainOf_62 ?_
    refine lv_bipush (v := 100) hx hb dX12_gainOf_63 (by decide) ?_
    refine lv_aload_n hx hb dX12_gainOf_65 rfl (lv_at hl 2 rfl) ?_
    refine va_get (D := D) (ci := 12) (v := .ref (aM 13)) (C := RX12) (T := TX12) (N := 51) hx hb hw inW_X12 hown hK hP 0 rfl rfl 23 (by decide) (hw _ mw_6_66) (fun _ h9 => h9) rfl dX12_gainOf_66 ?_
    refine lv_iload_n hx hb dX12_gainOf_69 rfl (lv_at hl 3 rfl) ?_
    refine cIald hx hb hK hP 13 0 rfl rfl p1.toNatClampNeg rfl h.1 dX12_gainOf_70 ?_
    have h := h.2
    refine lv_imul hx hb dX12_gainOf_71 ?_
    refine lv_i2l hx hb dX12_gainOf_72 rfl ?_
    refine lv_ldiv hx hb dX12_gainOf_73 h.1 ?_
    have h := h.2
    refine lv_l2i hx hb dX12_gainOf_74 rfl ?_
    rw [← hQ]
    exact cRetI (v := (((ma 11 ((r1 + 1).toNatClampNeg)).toInt64 * ((100 * (ma 10 p1.toNatClampNeg)) - (x2 * r5)).toInt64) / (100 * (ma 10 p1.toNatClampNeg)).toInt64).toInt32) () hx hb hr hlocks hS hP hD h dX12_gainOf_75
abbrev vsX12_trouble : List Cond := Cond.code yX12_trouble cX12_trouble 3 (some .int) :: WS
abbrev rmX12_trouble : Room := { frames := 3, cells := 0, slots := 0, locals := 72 }
set_option maxHeartbeats 4000000 in
set_option maxRecDepth 100000 in
theorem k_X12_trouble (l : Launch) (D : va_G) (C : Nat → ClassId) (sz : Nat) (aM : Nat → Nat)  (ms : Nat → Int32) (mw : Nat → Int64) (ma : Nat → Nat → Int32) (ml : Nat → Nat → Int64) (p1 : Int32) (p2 : Int32) {post : Int32 → (Nat → Int32) → Prop} (h : P_X12_trouble ms ma p1 p2 post) : Met l yX12_trouble vsX12_trouble rmX12_trouble (cPre D C [.ref (aM 0), .int p1, .int p2] sz (wM aM C ms mw ma ml)) (cQi D (fun (r : Int32) (u : (Nat → Int32)) => post r u) (fun u => wM aM C u mw ma ml) (va_A (List.flatten (wM aM C ms mw ma ml)) sz)) 0 0 (va_A (List.flatten (wM aM C ms mw ma ml)) sz) := by
  refine cStart (QA := fun A => cQi D (fun (r : Int32) (u : (Nat → Int32)) => post r u) (fun u => wM aM C u mw ma ml) A) (cc := cX12_trouble) (maxL := 3) (ret := (some .int)) (by decide) (Nat.le_of_ble_eq_true rfl) ?_
  intro p e s m args below meth c A ls hx hb hr hml hown hw hlocks hname hK hN hA hP hD hS hl
  generalize hQ : MQ below _ args s 0 0 A = Q
  have hl : lv_has ls 3 [(0, .ref (aM 0)), (1, .int p1), (2, .int p2)] := hl
  obtain ⟨H, hH⟩ : ∃ H, H = s.heap := ⟨_, rfl⟩
  obtain ⟨locs, hlo⟩ : ∃ z : List Loc, z = [] := ⟨_, rfl⟩
  have hP : va_P D vwCl (List.flatten (wM aM C ms mw ma ml)) H := by rw [hH]; exact hP
  have hS : va_S A s.heap H locs := by rw [hH, hlo]; exact hS
  rw [show W p l e rmX12_trouble s m args below meth c s.heap [] 0 0 Q (F0 m 0 ls []) = W p l e rmX12_trouble s m args below meth c H locs 0 0 Q (F0 m 0 ls []) from by rw [hH, hlo]]
  refine lv_aload_n hx hb dX12_trouble_0 rfl (lv_at hl 0 rfl) ?_
  refine lv_iconst (v := 0) hx hb dX12_trouble_1 (by decide) ?_
  refine va_put (D := D) (ci := 12) (v := .int 0) (ty := .int) (C := RX12) (T := TX12) (N := 51) hx hb hw inW_X12 tyX12 tyX12_ok nmX12 hown hK hP hD hS 0 rfl rfl 0 (by decide) (hw _ mw_6_43) (fun _ h9 => h9) rfl (by decide +kernel) rfl rfl (Nat.le_of_ble_eq_true rfl) dX12_trouble_2 (fun H locs hP hD hS => ?_)
  refine lv_aload_n hx hb dX12_trouble_5 rfl (lv_at hl 0 rfl) ?_
  refine lv_iload_n hx hb dX12_trouble_6 rfl (lv_at hl 1 rfl) ?_
  have hP : va_P D vwCl (List.flatten (wM aM C (va_up ms 0 0) mw ma ml)) H := hP
  have hD : va_D A (List.flatten (wM aM C (va_up ms 0 0) mw ma ml)) := hD
  refine cGoI (wo := fun u => wM aM C (va_up ms 0 0) mw ma ml) (cRunV (As := [.int p1]) (rest := []) ⟨hx, hb, hml, hown, hw⟩ hK hN hP hD [0, 1, 2, 3, 4, 5, 6, 7, 8, 9, 10, 11, 12, 13, 14, 15, 16, 17, 18, 19, 20, 21, 22, 23, 24, 25, 26, 27, 28, 29, 30, 31, 32] rfl rfl (k_X12_isThief l D C _ aM  (va_up ms 0 0) mw ma ml p1 h) (cwV 1 hw (goodV mw_7_155 mw_7_157 mw_s134 mw_1_13 mw_7_158) rfl rfl rfl (by decide +kernel) ⟨Nat.le_of_ble_eq_true rfl, Nat.le_of_ble_eq_true rfl⟩) rfl rfl rfl hl.1 rfl (Nat.le_of_ble_eq_true rfl) dX12_trouble_7 ⟨Nat.zero_le _, Nat.zero_le _⟩) hP hD hS hA [0, 1, 2, 3, 4, 5, 6, 7, 8, 9, 10, 11, 12, 13, 14, 15, 16, 17, 18, 19, 20, 21, 22, 23, 24, 25, 26, 27, 28, 29, 30, 31, 32] [] [0, 1, 2, 3, 4, 5, 6, 7, 8, 9, 10, 11, 12, 13, 14, 15, 16, 17, 18, 19, 20, 21, 22, 23, 24, 25, 26, 27, 28, 29, 30, 31, 32] rfl rfl rfl (by decide) rfl (fun _ => rfl) (fun r1 u H locs h hP hD hS => ?_)
  have hP : va_P D vwCl (List.flatten (wM aM C (va_up ms 0 0) mw ma ml)) H := hP
  have hD : va_D A (List.flatten (wM aM C (va_up ms 0 0) mw ma ml)) := hD
  refine lv_if_eq (tgt := 31) hx hb dX12_trouble_10 (by decide) (fun c2 => ?_) (fun c2 => ?_)
  · have h := h.1 c2
    refine lv_bipush (v := (-2)) hx hb dX12_trouble_31 (by decide) ?_
    rw [← hQ]
    exact cRetI (v := (-2)) ((va_up ms 0 0)) hx hb hr hlocks hS hP hD h dX12_trouble_33
  · have h := h.2 c2
    refine lv_aload_n hx hb dX12_trouble_13 rfl (lv_at hl 0 rfl) ?_
    refine lv_iload_n hx hb dX12_trouble_14 rfl (lv_at hl 2 rfl) ?_
    refine cGoI (wo := fun u => wM aM C (va_up ms 0 0) mw ma ml) (cRunV (As := [.int p2]) (rest := []) ⟨hx, hb, hml, hown, hw⟩ hK hN hP hD [0, 1, 2, 3, 4, 5, 6, 7, 8, 9, 10, 11, 12, 13, 14, 15, 16, 17, 18, 19, 20, 21, 22, 23, 24, 25, 26, 27, 28, 29, 30, 31, 32] rfl rfl (k_X12_isBike l D C _ aM  (va_up ms 0 0) mw ma ml p2 h) (cwV 1 hw (goodV mw_7_143 mw_7_145 mw_s133 mw_1_13 mw_7_146) rfl rfl rfl (by decide +kernel) ⟨Nat.le_of_ble_eq_true rfl, Nat.le_of_ble_eq_true rfl⟩) rfl rfl rfl hl.1 rfl (Nat.le_of_ble_eq_true rfl) dX12_trouble_15 ⟨Nat.zero_le _, Nat.zero_le _⟩) hP hD hS hA [0, 1, 2, 3, 4, 5, 6, 7, 8, 9, 10, 11, 12, 13, 14, 15, 16, 17, 18, 19, 20, 21, 22, 23, 24, 25, 26, 27, 28, 29, 30, 31, 32] [] [0, 1, 2, 3, 4, 5, 6, 7, 8, 9, 10, 11, 12, 13, 14, 15, 16, 17, 18, 19, 20, 21, 22, 23, 24, 25, 26, 27, 28, 29, 30, 31, 32] rfl rfl rfl (by decide) rfl (fun _ => rfl) (fun r3 u H locs h hP hD hS => ?_)
    have hP : va_P D vwCl (List.flatten (wM aM C (va_up ms 0 0) mw ma ml)) H := hP
    have hD : va_D A (List.flatten (wM aM C (va_up ms 0 0) mw ma ml)) := hD
    refine lv_if_eq (tgt := 31) hx hb dX12_trouble_18 (by decide) (fun c4 => ?_) (fun c4 => ?_)
    · have h := h.1 c4
      refine lv_bipush (v := (-2)) hx hb dX12_trouble_31 (by decide) ?_
      rw [← hQ]
      exact cRetI (v := (-2)) ((va_up ms 0 0)) hx hb hr hlocks hS hP hD h dX12_trouble_33
    · have h := h.2 c4
      refine lv_aload_n hx hb dX12_trouble_21 rfl (lv_at hl 0 rfl) ?_
      refine lv_iload_n hx hb dX12_trouble_22 rfl (lv_at hl 1 rfl) ?_
      refine lv_iconst (v := 0) hx hb dX12_trouble_23 (by decide) ?_
      refine lv_iload_n hx hb dX12_trouble_24 rfl (lv_at hl 2 rfl) ?_
      refine cGoI (wo := fun u => wM aM C (va_up ms 0 0) mw ma ml) (cRunV (As := [.int p1, .int 0, .int p2]) (rest := []) ⟨hx, hb, hml, hown, hw⟩ hK hN hP hD [0, 1, 2, 3, 4, 5, 6, 7, 8, 9, 10, 11, 12, 13, 14, 15, 16, 17, 18, 19, 20, 21, 22, 23, 24, 25, 26, 27, 28, 29, 30, 31, 32] rfl rfl (k_X12_troubleOf l D C _ aM  (va_up ms 0 0) mw ma ml p1 0 p2 h) (cwV 3 hw (goodV mw_7_159 mw_7_161 mw_s135 mw_1_13 mw_7_162) rfl rfl rfl (by decide +kernel) ⟨Nat.le_of_ble_eq_true rfl, Nat.le_of_ble_eq_true rfl⟩) rfl rfl rfl hl.1 rfl (Nat.le_of_ble_eq_true rfl) dX12_trouble_25 ⟨Nat.zero_le _, Nat.zero_le _⟩) hP hD hS hA [0, 1, 2, 3, 4, 5, 6, 7, 8, 9, 10, 11, 12, 13, 14, 15, 16, 17, 18, 19, 20, 21, 22, 23, 24, 25, 26, 27, 28, 29, 30, 31, 32] [] [0, 1, 2, 3, 4, 5, 6, 7, 8, 9, 10, 11, 12, 13, 14, 15, 16, 17, 18, 19, 20, 21, 22, 23, 24, 25, 26, 27, 28, 29, 30, 31, 32] rfl rfl rfl (by decide) rfl (fun _ => rfl) (fun r5 u H locs h hP hD hS => ?_)
      have hP : va_P D vwCl (List.flatten (wM aM C (va_up ms 0 0) mw ma ml)) H := hP
      have hD : va_D A (List.flatten (wM aM C (va_up ms 0 0) mw ma ml)) := hD
      refine lv_goto (tgt := 33) hx hb dX12_trouble_28 (by decide) ?_
      rw [← hQ]
      exact cRetI (v := r5) ((va_up ms 0 0)) hx hb hr hlocks hS hP hD h dX12_trouble_33
abbrev vsX12_gain : List Cond := Cond.code yX12_gain cX12_gain 2 (some .int) :: WS
abbrev rmX12_gain : Room := { frames := 3, cells := 0, slots := 0, locals := 68 }
set_option maxHeartbeats 4000000 in
set_option maxRecDepth 100000 in
theorem k_X12_gain (l : Launch) (D : va_G) (C : Nat → ClassId) (sz : Nat) (aM : Nat → Nat)  (ms : Nat → Int32) (mw : Nat → Int64) (ma : Nat → Nat → Int32) (ml : Nat → Nat → Int64) (p1 : Int32) {post : Int32 → (Nat → Int32) → Prop} (h : P_X12_gain ms ma p1 post) : Met l yX12_gain vsX12_gain rmX12_gain (cPre D C [.ref (aM 0), .int p1] sz (wM aM C ms mw ma ml)) (cQi D (fun (r : Int32) (u : (Nat → Int32)) => post r u) (fun u => wM aM C u mw ma ml) (va_A (List.flatten (wM aM C ms mw ma ml)) sz)) 0 0 (va_A (List.flatten (wM aM C ms mw ma ml)) sz) := by
  refine cStart (QA := fun A => cQi D (fun (r : Int32) (u : (Nat → Int32)) => post r u) (fun u => wM aM C u mw ma ml) A) (cc := cX12_gain) (maxL := 2) (ret := (some .int)) (by decide) (Nat.le_of_ble_eq_true rfl) ?_
  intro p e s m args below meth c A ls hx hb hr hml hown hw hlocks hname hK hN hA hP hD hS hl
  generalize hQ : MQ below _ args s 0 0 A = Q
  have hl : lv_has ls 2 [(0, .ref (aM 0)), (1, .int p1)] := hl
  obtain ⟨H, hH⟩ : ∃ H, H = s.heap := ⟨_, rfl⟩
  obtain ⟨locs, hlo⟩ : ∃ z : List Loc, z = [] := ⟨_, rfl⟩
  have hP : va_P D vwCl (List.flatten (wM aM C ms mw ma ml)) H := by rw [hH]; exact hP
  have hS : va_S A s.heap H locs := by rw [hH, hlo]; exact hS
  rw [show W p l e rmX12_gain s m args below meth c s.heap [] 0 0 Q (F0 m 0 ls []) = W p l e rmX12_gain s m args below meth c H locs 0 0 Q (F0 m 0 ls []) from by rw [hH, hlo]]
  refine lv_aload_n hx hb dX12_gain_0 rfl (lv_at hl 0 rfl) ?_
  refine lv_iconst (v := 0) hx hb dX12_gain_1 (by decide) ?_
  refine va_put (D := D) (ci := 12) (v := .int 0) (ty := .int) (C := RX12) (T := TX12) (N := 51) hx hb hw inW_X12 tyX12 tyX12_ok nmX12 hown hK hP hD hS 0 rfl rfl 0 (by decide) (hw _ mw_6_43) (fun _ h9 => h9) rfl (by decide +kernel) rfl rfl (Nat.le_of_ble_eq_true rfl) dX12_gain_2 (fun H locs hP hD hS => ?_)
  refine lv_aload_n hx hb dX12_gain_5 rfl (lv_at hl 0 rfl) ?_
  refine lv_iload_n hx hb dX12_gain_6 rfl (lv_at hl 1 rfl) ?_
  have hP : va_P D vwCl (List.flatten (wM aM C (va_up ms 0 0) mw ma ml)) H := hP
  have hD : va_D A (List.flatten (wM aM C (va_up ms 0 0) mw ma ml)) := hD
  refine cGoI (wo := fun u => wM aM C (va_up ms 0 0) mw ma ml) (cRunV (As := [.int p1]) (rest := []) ⟨hx, hb, hml, hown, hw⟩ hK hN hP hD [0, 1, 2, 3, 4, 5, 6, 7, 8, 9, 10, 11, 12, 13, 14, 15, 16, 17, 18, 19, 20, 21, 22, 23, 24, 25, 26, 27, 28, 29, 30, 31, 32] rfl rfl (k_X12_isBike l D C _ aM  (va_up ms 0 0) mw ma ml p1 h) (cwV 1 hw (goodV mw_7_143 mw_7_145 mw_s133 mw_1_13 mw_7_146) rfl rfl rfl (by decide +kernel) ⟨Nat.le_of_ble_eq_true rfl, Nat.le_of_ble_eq_true rfl⟩) rfl rfl rfl hl.1 rfl (Nat.le_of_ble_eq_true rfl) dX12_gain_7 ⟨Nat.zero_le _, Nat.zero_le _⟩) hP hD hS hA [0, 1, 2, 3, 4, 5, 6, 7, 8, 9, 10, 11, 12, 13, 14, 15, 16, 17, 18, 19, 20, 21, 22, 23, 24, 25, 26, 27, 28, 29, 30, 31, 32] [] [0, 1, 2, 3, 4, 5, 6, 7, 8, 9, 10, 11, 12, 13, 14, 15, 16, 17, 18, 19, 20, 21, 22, 23, 24, 25, 26, 27, 28, 29, 30, 31, 32] rfl rfl rfl (by decide) rfl (fun _ => rfl) (fun r1 u H locs h hP hD hS => ?_)
  have hP : va_P D vwCl (List.flatten (wM aM C (va_up ms 0 0) mw ma ml)) H := hP
  have hD : va_D A (List.flatten (wM aM C (va_up ms 0 0) mw ma ml)) := hD
  refine lv_if_eq (tgt := 22) hx hb dX12_gain_10 (by decide) (fun c2 => ?_) (fun c2 => ?_)
  · have h := h.1 c2
    refine lv_bipush (v := (-2)) hx hb dX12_gain_22 (by decide) ?_
    rw [← hQ]
    exact cRetI (v := (-2)) ((va_up ms 0 0)) hx hb hr hlocks hS hP hD h dX12_gain_24
  · have h := h.2 c2
    refine lv_aload_n hx hb dX12_gain_13 rfl (lv_at hl 0 rfl) ?_
    refine lv_iconst (v := 0) hx hb dX12_gain_14 (by decide) ?_
    refine lv_iload_n hx hb dX12_gain_15 rfl (lv_at hl 1 rfl) ?_
    refine cGoI (wo := fun u => wM aM C (va_up ms 0 0) mw ma ml) (cRunV (As := [.int 0, .int p1]) (rest := []) ⟨hx, hb, hml, hown, hw⟩ hK hN hP hD [0, 1, 2, 3, 4, 5, 6, 7, 8, 9, 10, 11, 12, 13, 14, 15, 16, 17, 18, 19, 20, 21, 22, 23, 24, 25, 26, 27, 28, 29, 30, 31, 32] rfl rfl (k_X12_gainOf l D C _ aM  (va_up ms 0 0) mw ma ml 0 p1 h) (cwV 2 hw (goodV mw_7_168 mw_7_170 mw_s136 mw_1_13 mw_7_171) rfl rfl rfl (by decide +kernel) ⟨Nat.le_of_ble_eq_true rfl, Nat.le_of_ble_eq_true rfl⟩) rfl rfl rfl hl.1 rfl (Nat.le_of_ble_eq_true rfl) dX12_gain_16 ⟨Nat.zero_le _, Nat.zero_le _⟩) hP hD hS hA [0, 1, 2, 3, 4, 5, 6, 7, 8, 9, 10, 11, 12, 13, 14, 15, 16, 17, 18, 19, 20, 21, 22, 23, 24, 25, 26, 27, 28, 29, 30, 31, 32] [] [0, 1, 2, 3, 4, 5, 6, 7, 8, 9, 10, 11, 12, 13, 14, 15, 16, 17, 18, 19, 20, 21, 22, 23, 24, 25, 26, 27, 28, 29, 30, 31, 32] rfl rfl rfl (by decide) rfl (fun _ => rfl) (fun r3 u H locs h hP hD hS => ?_)
    have hP : va_P D vwCl (List.flatten (wM aM C (va_up ms 0 0) mw ma ml)) H := hP
    have hD : va_D A (List.flatten (wM aM C (va_up ms 0 0) mw ma ml)) := hD
    refine lv_goto (tgt := 24) hx hb dX12_gain_19 (by decide) ?_
    rw [← hQ]
    exact cRetI (v := r3) ((va_up ms 0 0)) hx hb hr hlocks hS hP hD h dX12_gain_24
abbrev vsX12_lays : List Cond := Cond.code yX12_lays cX12_lays 4 none :: WS
abbrev rmX12_lays : Room := { frames := 3, cells := 0, slots := 0, locals := 72 }
set_option maxHeartbeats 4000000 in
set_option maxRecDepth 100000 in
theorem k_X12_lays (l : Launch) (D : va_G) (C : Nat → ClassId) (sz : Nat) (aM : Nat → Nat)  (ms : Nat → Int32) (mw : Nat → Int64) (ma : Nat → Nat → Int32) (ml : Nat → Nat → Int64) (p1 : Int32) {post : (Nat → Int32) → (Nat → Nat → Int32) → Prop} (h : P_X12_lays ms ma p1 post) : Met l yX12_lays vsX12_lays rmX12_lays (cPre D C [.ref (aM 0), .int p1] sz (wM aM C ms mw ma ml)) (cQv D (fun (u : (Nat → Int32) × (Nat → Nat → Int32)) => post u.1 u.2) (fun u => wM aM C u.1 mw u.2 ml) (va_A (List.flatten (wM aM C ms mw ma ml)) sz)) 0 0 (va_A (List.flatten (wM aM C ms mw ma ml)) sz) := by
  refine cStart (QA := fun A => cQv D (fun (u : (Nat → Int32) × (Nat → Nat → Int32)) => post u.1 u.2) (fun u => wM aM C u.1 mw u.2 ml) A) (cc := cX12_lays) (maxL := 4) (ret := none) (by decide) (Nat.le_of_ble_eq_true rfl) ?_
  intro p e s m args below meth c A ls hx hb hr hml hown hw hlocks hname hK hN hA hP hD hS hl
  generalize hQ : MQ below _ args s 0 0 A = Q
  have hl : lv_has ls 4 [(0, .ref (aM 0)), (1, .int p1)] := hl
  obtain ⟨H, hH⟩ : ∃ H, H = s.heap := ⟨_, rfl⟩
  obtain ⟨locs, hlo⟩ : ∃ z : List Loc, z = [] := ⟨_, rfl⟩
  have hP : va_P D vwCl (List.flatten (wM aM C ms mw ma ml)) H := by rw [hH]; exact hP
  have hS : va_S A s.heap H locs := by rw [hH, hlo]; exact hS
  rw [show W p l e rmX12_lays s m args below meth c s.heap [] 0 0 Q (F0 m 0 ls []) = W p l e rmX12_lays s m args below meth c H locs 0 0 Q (F0 m 0 ls []) from by rw [hH, hlo]]
  have N22 : ∀ (ms : Nat → Int32) (n22 : Nat) (x2_ : Int32) (ma : Nat → Nat → Int32) (H : Heap) (locs : List Loc) (ls : Array Slot), P_X12_lays_22 p1 post  ms n22 x2_ ma → va_P D vwCl (List.flatten (wM aM C ms mw ma ml)) H → va_D A (List.flatten (wM aM C ms mw ma ml)) → va_S A s.heap H locs → lv_has ls 4 [(0, .ref (aM 0)), (1, .int p1), (2, .int x2_)] → W p l e rmX12_lays s m args below meth c H locs 0 0 Q (F0 m 22 ls []) := by
    intro ms
    intro n22
    induction n22 with
    | zero => intro x2_ ma H locs ls h hP hD hS hl; exact False.elim h
    | succ n22 ih22 =>
      have N97 : ∀ (x2_ : Int32) (ma : Nat → Nat → Int32) (H : Heap) (locs : List Loc) (ls : Array Slot), P_X12_lays_97 p1 ms post (P_X12_lays_22 p1 post  ms n22) x2_ ma → va_P D vwCl (List.flatten (wM aM C ms mw ma ml)) H → va_D A (List.flatten (wM aM C ms mw ma ml)) → va_S A s.heap H locs → lv_has ls 4 [(0, .ref (aM 0)), (1, .int p1), (2, .int x2_)] → W p l e rmX12_lays s m args below meth c H locs 0 0 Q (F0 m 97 ls []) := by
        intro x2_ ma H locs ls h hP hD hS hl
        refine lv_iload_n hx hb dX12_lays_97 rfl (lv_at hl 1 rfl) ?_
        refine lv_if_ge (tgt := 104) hx hb dX12_lays_98 (by decide) (fun c1 => ?_) (fun c1 => ?_)
        · have h := h.1 c1
          refine lv_aload_n hx hb dX12_lays_104 rfl (lv_at hl 0 rfl) ?_
          refine va_get (D := D) (ci := 12) (v := .ref (aM 21)) (C := RX12) (T := TX12) (N := 51) hx hb hw inW_X12 hown hK hP 0 rfl rfl 33 (by decide) (hw _ mw_6_76) (fun _ h9 => h9) rfl dX12_lays_105 ?_
          refine lv_bipush (v := 11) hx hb dX12_lays_108 (by decide) ?_
          refine lv_iload_n hx hb dX12_lays_110 rfl (lv_at hl 2 rfl) ?_
          refine lv_imul hx hb dX12_lays_111 ?_
          refine lv_aload_n hx hb dX12_lays_112 rfl (lv_at hl 0 rfl) ?_
          refine va_get (D := D) (ci := 12) (v := .ref (aM 13)) (C := RX12) (T := TX12) (N := 51) hx hb hw inW_X12 hown hK hP 0 rfl rfl 23 (by decide) (hw _ mw_6_66) (fun _ h9 => h9) rfl dX12_lays_113 ?_
          refine lv_iconst (v := 0) hx hb dX12_lays_116 (by decide) ?_
          refine cIald hx hb hK hP 13 0 rfl rfl 0 (by decide +kernel) (cIn (by decide +kernel)) dX12_lays_117 ?_
          refine lv_iadd hx hb dX12_lays_118 ?_
          refine lv_iconst (v := 0) hx hb dX12_lays_119 (by decide) ?_
          refine cIast hx hb hK hP hD hS 21 0 rfl rfl (((11 * x2_) + (ma 10 0)).toNatClampNeg) rfl h.1 dX12_lays_120 (fun H locs hP hD hS => ?_)
          have h := h.2
          refine lv_aload_n hx hb dX12_lays_121 rfl (lv_at hl 0 rfl) ?_
          refine va_get (D := D) (ci := 12) (v := .ref (aM 22)) (C := RX12) (T := TX12) (N := 51) hx hb hw inW_X12 hown hK hP 0 rfl rfl 34 (by decide) (hw _ mw_6_77) (fun _ h9 => h9) rfl dX12_lays_122 ?_
          refine lv_bipush (v := 11) hx hb dX12_lays_125 (by decide) ?_
          refine lv_iload_n hx hb dX12_lays_127 rfl (lv_at hl 2 rfl) ?_
          refine lv_imul hx hb dX12_lays_128 ?_
          refine lv_aload_n hx hb dX12_lays_129 rfl (lv_at hl 0 rfl) ?_
          refine va_get (D := D) (ci := 12) (v := .ref (aM 13)) (C := RX12) (T := TX12) (N := 51) hx hb hw inW_X12 hown hK hP 0 rfl rfl 23 (by decide) (hw _ mw_6_66) (fun _ h9 => h9) rfl dX12_lays_130 ?_
          refine lv_iconst (v := 0) hx hb dX12_lays_133 (by decide) ?_
          refine cIald hx hb hK hP 13 0 rfl rfl 0 (by decide +kernel) (cIn (by decide +kernel)) dX12_lays_134 ?_
          refine lv_iadd hx hb dX12_lays_135 ?_
          refine lv_iload_n hx hb dX12_lays_136 rfl (lv_at hl 1 rfl) ?_
          refine cIast hx hb hK hP hD hS 22 0 rfl rfl (((11 * x2_) + (ma 10 0)).toNatClampNeg) rfl h.1 dX12_lays_137 (fun H locs hP hD hS => ?_)
          have h := h.2
          refine lv_iinc (v := (x2_ + 1)) (lv' := [(2, .int (x2_ + 1)), (0, .ref (aM 0)), (1, .int p1)]) hx hb dX12_lays_138 hl (k := 2) rfl rfl (by decide) rfl (fun ls hl => ?_)
          refine lv_goto (tgt := 22) hx hb dX12_lays_141 (by decide) ?_
          have hP : va_P D vwCl (List.flatten (wM aM C ms mw (va_up (va_up ma 18 (upd (ma 18) (((11 * x2_) + (ma 10 0)).toNatClampNeg) 0)) 19 (upd (ma 19) (((11 * x2_) + (ma 10 0)).toNatClampNeg) p1)) ml)) H := hP
          have hD : va_D A (List.flatten (wM aM C ms mw (va_up (va_up ma 18 (upd (ma 18) (((11 * x2_) + (ma 10 0)).toNatClampNeg) 0)) 19 (upd (ma 19) (((11 * x2_) + (ma 10 0)).toNatClampNeg) p1)) ml)) := hD
          exact ih22 (x2_ + 1) (va_up (va_up ma 18 (upd (ma 18) (((11 * x2_) + (ma 10 0)).toNatClampNeg) 0)) 19 (upd (ma 19) (((11 * x2_) + (ma 10 0)).toNatClampNeg) p1)) _ _ _ h hP hD hS (lv_sub hl [1, 2, 0] rfl)
        · have h := h.2 c1
          refine lv_goto (tgt := 138) hx hb dX12_lays_101 (by decide) ?_
          refine lv_iinc (v := (x2_ + 1)) (lv' := [(2, .int (x2_ + 1)), (0, .ref (aM 0)), (1, .int p1)]) hx hb dX12_lays_138 hl (k := 2) rfl rfl (by decide) rfl (fun ls hl => ?_)
          refine lv_goto (tgt := 22) hx hb dX12_lays_141 (by decide) ?_
          exact ih22 (x2_ + 1) ma _ _ _ h hP hD hS (lv_sub hl [1, 2, 0] rfl)
      have N34 : ∀ (x2_ : Int32) (n34 : Nat) (x3_ : Int32) (ma : Nat → Nat → Int32) (H : Heap) (locs : List Loc) (ls : Array Slot), P_X12_lays_34 p1 ms post (fun (x2_ : Int32) (ma : Nat → Nat → Int32) => P_X12_lays_97 p1 ms post (P_X12_lays_22 p1 post  ms n22) x2_ ma) x2_ n34 x3_ ma → va_P D vwCl (List.flatten (wM aM C ms mw ma ml)) H → va_D A (List.flatten (wM aM C ms mw ma ml)) → va_S A s.heap H locs → lv_has ls 4 [(0, .ref (aM 0)), (1, .int p1), (2, .int x2_), (3, .int x3_)] → W p l e rmX12_lays s m args below meth c H locs 0 0 Q (F0 m 34 ls []) := by
        intro x2_
        intro n34
        induction n34 with
        | zero => intro x3_ ma H locs ls h hP hD hS hl; exact False.elim h
        | succ n34 ih34 =>
          intro x3_ ma H locs ls h hP hD hS hl
          refine lv_iload_n hx hb dX12_lays_34 rfl (lv_at hl 3 rfl) ?_
          refine lv_aload_n hx hb dX12_lays_35 rfl (lv_at hl 0 rfl) ?_
          refine va_get (D := D) (ci := 12) (v := .ref (aM 13)) (C := RX12) (T := TX12) (N := 51) hx hb hw inW_X12 hown hK hP 0 rfl rfl 23 (by decide) (hw _ mw_6_66) (fun _ h9 => h9) rfl dX12_lays_36 ?_
          refine lv_iconst (v := 0) hx hb dX12_lays_39 (by decide) ?_
          refine cIald hx hb hK hP 13 0 rfl rfl 0 (by decide +kernel) (cIn (by decide +kernel)) dX12_lays_40 ?_
          refine lv_icmp_ge (tgt := 97) hx hb dX12_lays_41 (by decide) (fun c2 => ?_) (fun c2 => ?_)
          · have h := h.1 c2
            exact N97 x2_ ma _ _ _ h hP hD hS (lv_sub hl [0, 1, 2] rfl)
          · have h := h.2 c2
            refine lv_aload_n hx hb dX12_lays_44 rfl (lv_at hl 0 rfl) ?_
            refine va_get (D := D) (ci := 12) (v := .ref (aM 21)) (C := RX12) (T := TX12) (N := 51) hx hb hw inW_X12 hown hK hP 0 rfl rfl 33 (by decide) (hw _ mw_6_76) (fun _ h9 => h9) rfl dX12_lays_45 ?_
            refine lv_bipush (v := 11) hx hb dX12_lays_48 (by decide) ?_
            refine lv_iload_n hx hb dX12_lays_50 rfl (lv_at hl 2 rfl) ?_
            refine lv_imul hx hb dX12_lays_51 ?_
            refine lv_iload_n hx hb dX12_lays_52 rfl (lv_at hl 3 rfl) ?_
            refine lv_iadd hx hb dX12_lays_53 ?_
            refine lv_aload_n hx hb dX12_lays_54 rfl (lv_at hl 0 rfl) ?_
            refine lv_iload_n hx hb dX12_lays_55 rfl (lv_at hl 2 rfl) ?_
            refine lv_iconst (v := 0) hx hb dX12_lays_56 (by decide) ?_
            refine lv_iload_n hx hb dX12_lays_57 rfl (lv_at hl 3 rfl) ?_
            refine cGoI (wo := fun u => wM aM C ms mw ma ml) (cRunV (As := [.int x2_, .int 0, .int x3_]) (rest := [.int ((11 * x2_) + x3_), .ref (aM 21)]) ⟨hx, hb, hml, hown, hw⟩ hK hN hP hD [0, 1, 2, 3, 4, 5, 6, 7, 8, 9, 10, 11, 12, 13, 14, 15, 16, 17, 18, 19, 20, 21, 22, 23, 24, 25, 26, 27, 28, 29, 30, 31, 32] rfl rfl (k_X12_troubleOf l D C _ aM  ms mw ma ml x2_ 0 x3_ h) (cwV 3 hw (goodV mw_7_159 mw_7_161 mw_s135 mw_1_13 mw_7_162) rfl rfl rfl (by decide +kernel) ⟨Nat.le_of_ble_eq_true rfl, Nat.le_of_ble_eq_true rfl⟩) rfl rfl rfl hl.1 rfl (Nat.le_of_ble_eq_true rfl) dX12_lays_58 ⟨Nat.zero_le _, Nat.zero_le _⟩) hP hD hS hA [0, 1, 2, 3, 4, 5, 6, 7, 8, 9, 10, 11, 12, 13, 14, 15, 16, 17, 18, 19, 20, 21, 22, 23, 24, 25, 26, 27, 28, 29, 30, 31, 32] [] [0, 1, 2, 3, 4, 5, 6, 7, 8, 9, 10, 11, 12, 13, 14, 15, 16, 17, 18, 19, 20, 21, 22, 23, 24, 25, 26, 27, 28, 29, 30, 31, 32] rfl rfl rfl (by decide) rfl (fun _ => rfl) (fun r3 u H locs h hP hD hS => ?_)
            have hP : va_P D vwCl (List.flatten (wM aM C ms mw ma ml)) H := hP
            have hD : va_D A (List.flatten (wM aM C ms mw ma ml)) := hD
            refine cIast hx hb hK hP hD hS 21 0 rfl rfl (((11 * x2_) + x3_).toNatClampNeg) rfl h.1 dX12_lays_61 (fun H locs hP hD hS => ?_)
            have h := h.2
            refine lv_aload_n hx hb dX12_lays_62 rfl (lv_at hl 0 rfl) ?_
            refine va_get (D := D) (ci := 12) (v := .ref (aM 22)) (C := RX12) (T := TX12) (N := 51) hx hb hw inW_X12 hown hK hP 0 rfl rfl 34 (by decide) (hw _ mw_6_77) (fun _ h9 => h9) rfl dX12_lays_63 ?_
            refine lv_bipush (v := 11) hx hb dX12_lays_66 (by decide) ?_
            refine lv_iload_n hx hb dX12_lays_68 rfl (lv_at hl 2 rfl) ?_
            refine lv_imul hx hb dX12_lays_69 ?_
            refine lv_iload_n hx hb dX12_lays_70 rfl (lv_at hl 3 rfl) ?_
            refine lv_iadd hx hb dX12_lays_71 ?_
            refine lv_aload_n hx hb dX12_lays_72 rfl (lv_at hl 0 rfl) ?_
            refine lv_iconst (v := 0) hx hb dX12_lays_73 (by decide) ?_
            refine lv_iload_n hx hb dX12_lays_74 rfl (lv_at hl 3 rfl) ?_
            have hP : va_P D vwCl (List.flatten (wM aM C ms mw (va_up ma 18 (upd (ma 18) (((11 * x2_) + x3_).toNatClampNeg) r3)) ml)) H := hP
            have hD : va_D A (List.flatten (wM aM C ms mw (va_up ma 18 (upd (ma 18) (((11 * x2_) + x3_).toNatClampNeg) r3)) ml)) := hD
            refine cGoI (wo := fun u => wM aM C ms mw (va_up ma 18 (upd (ma 18) (((11 * x2_) + x3_).toNatClampNeg) r3)) ml) (cRunV (As := [.int 0, .int x3_]) (rest := [.int ((11 * x2_) + x3_), .ref (aM 22)]) ⟨hx, hb, hml, hown, hw⟩ hK hN hP hD [0, 1, 2, 3, 4, 5, 6, 7, 8, 9, 10, 11, 12, 13, 14, 15, 16, 17, 18, 19, 20, 21, 22, 23, 24, 25, 26, 27, 28, 29, 30, 31, 32] rfl rfl (k_X12_gainOf l D C _ aM  ms mw (va_up ma 18 (upd (ma 18) (((11 * x2_) + x3_).toNatClampNeg) r3)) ml 0 x3_ h) (cwV 2 hw (goodV mw_7_168 mw_7_170 mw_s136 mw_1_13 mw_7_171) rfl rfl rfl (by decide +kernel) ⟨Nat.le_of_ble_eq_true rfl, Nat.le_of_ble_eq_true rfl⟩) rfl rfl rfl hl.1 rfl (Nat.le_of_ble_eq_true rfl) dX12_lays_75 ⟨Nat.zero_le _, Nat.zero_le _⟩) hP hD hS hA [0, 1, 2, 3, 4, 5, 6, 7, 8, 9, 10, 11, 12, 13, 14, 15, 16, 17, 18, 19, 20, 21, 22, 23, 24, 25, 26, 27, 28, 29, 30, 31, 32] [] [0, 1, 2, 3, 4, 5, 6, 7, 8, 9, 10, 11, 12, 13, 14, 15, 16, 17, 18, 19, 20, 21, 22, 23, 24, 25, 26, 27, 28, 29, 30, 31, 32] rfl rfl rfl (by decide) rfl (fun _ => rfl) (fun r4 u H locs h hP hD hS => ?_)
            have hP : va_P D vwCl (List.flatten (wM aM C ms mw (va_up ma 18 (upd (ma 18) (((11 * x2_) + x3_).toNatClampNeg) r3)) ml)) H := hP
            have hD : va_D A (List.flatten (wM aM C ms mw (va_up ma 18 (upd (ma 18) (((11 * x2_) + x3_).toNatClampNeg) r3)) ml)) := hD
            refine lv_aload_n hx hb dX12_lays_78 rfl (lv_at hl 0 rfl) ?_
            refine va_get (D := D) (ci := 12) (v := .ref (aM 21)) (C := RX12) (T := TX12) (N := 51) hx hb hw inW_X12 hown hK hP 0 rfl rfl 33 (by decide) (hw _ mw_6_76) (fun _ h9 => h9) rfl dX12_lays_79 ?_
            refine lv_bipush (v := 11) hx hb dX12_lays_82 (by decide) ?_
            refine lv_iload_n hx hb dX12_lays_84 rfl (lv_at hl 2 rfl) ?_
            refine lv_imul hx hb dX12_lays_85 ?_
            refine lv_iload_n hx hb dX12_lays_86 rfl (lv_at hl 3 rfl) ?_
            refine lv_iadd hx hb dX12_lays_87 ?_
            refine cIald hx hb hK hP 21 0 rfl rfl (((11 * x2_) + x3_).toNatClampNeg) rfl h.1 dX12_lays_88 ?_
            have h := h.2
            refine lv_isub hx hb dX12_lays_89 ?_
            refine cIast hx hb hK hP hD hS 22 0 rfl rfl (((11 * x2_) + x3_).toNatClampNeg) rfl h.1 dX12_lays_90 (fun H locs hP hD hS => ?_)
            have h := h.2
            refine lv_iinc (v := (x3_ + 1)) (lv' := [(3, .int (x3_ + 1)), (0, .ref (aM 0)), (1, .int p1), (2, .int x2_)]) hx hb dX12_lays_91 hl (k := 3) rfl rfl (by decide) rfl (fun ls hl => ?_)
            refine lv_goto (tgt := 34) hx hb dX12_lays_94 (by decide) ?_
            have hP : va_P D vwCl (List.flatten (wM aM C ms mw (va_up (va_up ma 18 (upd (ma 18) (((11 * x2_) + x3_).toNatClampNeg) r3)) 19 (upd (ma 19) (((11 * x2_) + x3_).toNatClampNeg) (r4 - ((upd (ma 18) (((11 * x2_) + x3_).toNatClampNeg) r3) (((11 * x2_) + x3_).toNatClampNeg))))) ml)) H := hP
            have hD : va_D A (List.flatten (wM aM C ms mw (va_up (va_up ma 18 (upd (ma 18) (((11 * x2_) + x3_).toNatClampNeg) r3)) 19 (upd (ma 19) (((11 * x2_) + x3_).toNatClampNeg) (r4 - ((upd (ma 18) (((11 * x2_) + x3_).toNatClampNeg) r3) (((11 * x2_) + x3_).toNatClampNeg))))) ml)) := hD
            exact ih34 (x3_ + 1) (va_up (va_up ma 18 (upd (ma 18) (((11 * x2_) + x3_).toNatClampNeg) r3)) 19 (upd (ma 19) (((11 * x2_) + x3_).toNatClampNeg) (r4 - ((upd (ma 18) (((11 * x2_) + x3_).toNatClampNeg) r3) (((11 * x2_) + x3_).toNatClampNeg))))) _ _ _ h hP hD hS (lv_sub hl [1, 2, 3, 0] rfl)
      intro x2_ ma H locs ls h hP hD hS hl
      refine lv_iload_n hx hb dX12_lays_22 rfl (lv_at hl 2 rfl) ?_
      refine lv_aload_n hx hb dX12_lays_23 rfl (lv_at hl 0 rfl) ?_
      refine va_get (D := D) (ci := 12) (v := .ref (aM 15)) (C := RX12) (T := TX12) (N := 51) hx hb hw inW_X12 hown hK hP 0 rfl rfl 25 (by decide) (hw _ mw_6_68) (fun _ h9 => h9) rfl dX12_lays_24 ?_
      refine lv_iconst (v := 0) hx hb dX12_lays_27 (by decide) ?_
      refine cIald hx hb hK hP 15 0 rfl rfl 0 (by decide +kernel) (cIn (by decide +kernel)) dX12_lays_28 ?_
      refine lv_icmp_ge (tgt := 144) hx hb dX12_lays_29 (by decide) (fun c5 => ?_) (fun c5 => ?_)
      · have h := h.1 c5
        rw [← hQ]
        exact cRetV (ms, ma) hx hb hr hlocks hS hP hD h dX12_lays_144
      · have h := h.2 c5
        refine lv_iconst (v := 0) hx hb dX12_lays_32 (by decide) ?_
        refine lv_istore_n (lv' := [(3, .int 0), (0, .ref (aM 0)), (1, .int p1), (2, .int x2_)]) hx hb dX12_lays_33 rfl hl (by decide) rfl (fun ls hl => ?_)
        obtain ⟨n, h⟩ := h
        exact N34 x2_ n 0 ma _ _ _ h hP hD hS (lv_sub hl [1, 2, 3, 0] rfl)
  refine lv_aload_n hx hb dX12_lays_0 rfl (lv_at hl 0 rfl) ?_
  refine lv_aload_n hx hb dX12_lays_1 rfl (lv_at hl 0 rfl) ?_
  refine va_get (D := D) (ci := 12) (v := .ref (aM 13)) (C := RX12) (T := TX12) (N := 51) hx hb hw inW_X12 hown hK hP 0 rfl rfl 23 (by decide) (hw _ mw_6_66) (fun _ h9 => h9) rfl dX12_lays_2 ?_
  refine lv_iconst (v := 0) hx hb dX12_lays_5 (by decide) ?_
  refine cIald hx hb hK hP 13 0 rfl rfl 0 (by decide +kernel) (cIn (by decide +kernel)) dX12_lays_6 ?_
  refine lv_iload_n hx hb dX12_lays_7 rfl (lv_at hl 1 rfl) ?_
  refine lv_if_ge (tgt := 15) hx hb dX12_lays_8 (by decide) (fun c6 => ?_) (fun c6 => ?_)
  · have h := h.1 c6
    refine lv_iconst (v := 1) hx hb dX12_lays_15 (by decide) ?_
    refine lv_iadd hx hb dX12_lays_16 ?_
    refine lv_topi (fun x7 ex7 => ?_)
    have h := h x7 ex7
    refine va_put (D := D) (ci := 12) (v := .int x7) (ty := .int) (C := RX12) (T := TX12) (N := 51) hx hb hw inW_X12 tyX12 tyX12_ok nmX12 hown hK hP hD hS 0 rfl rfl 35 (by decide) (hw _ mw_6_78) (fun _ h9 => h9) rfl (by decide +kernel) rfl rfl (Nat.le_of_ble_eq_true rfl) dX12_lays_17 (fun H locs hP hD hS => ?_)
    refine lv_iconst (v := 0) hx hb dX12_lays_20 (by decide) ?_
    refine lv_istore_n (lv' := [(2, .int 0), (0, .ref (aM 0)), (1, .int p1)]) hx hb dX12_lays_21 rfl hl (by decide) rfl (fun ls hl => ?_)
    have hP : va_P D vwCl (List.flatten (wM aM C (va_up ms 12 x7) mw ma ml)) H := hP
    have hD : va_D A (List.flatten (wM aM C (va_up ms 12 x7) mw ma ml)) := hD
    obtain ⟨n, h⟩ := h
    exact N22 (va_up ms 12 x7) n 0 ma _ _ _ h hP hD hS (lv_sub hl [1, 2, 0] rfl)
  · have h := h.2 c6
    refine lv_iconst (v := 0) hx hb dX12_lays_11 (by decide) ?_
    refine lv_goto (tgt := 16) hx hb dX12_lays_12 (by decide) ?_
    refine lv_iadd hx hb dX12_lays_16 ?_
    refine lv_topi (fun x8 ex8 => ?_)
    have h := h x8 ex8
    refine va_put (D := D) (ci := 12) (v := .int x8) (ty := .int) (C := RX12) (T := TX12) (N := 51) hx hb hw inW_X12 tyX12 tyX12_ok nmX12 hown hK hP hD hS 0 rfl rfl 35 (by decide) (hw _ mw_6_78) (fun _ h9 => h9) rfl (by decide +kernel) rfl rfl (Nat.le_of_ble_eq_true rfl) dX12_lays_17 (fun H locs hP hD hS => ?_)
    refine lv_iconst (v := 0) hx hb dX12_lays_20 (by decide) ?_
    refine lv_istore_n (lv' := [(2, .int 0), (0, .ref (aM 0)), (1, .int p1)]) hx hb dX12_lays_21 rfl hl (by decide) rfl (fun ls hl => ?_)
    have hP : va_P D vwCl (List.flatten (wM aM C (va_up ms 12 x8) mw ma ml)) H := hP
    have hD : va_D A (List.flatten (wM aM C (va_up ms 12 x8) mw ma ml)) := hD
    obtain ⟨n, h⟩ := h
    exact N22 (va_up ms 12 x8) n 0 ma _ _ _ h hP hD hS (lv_sub hl [1, 2, 0] rfl)
abbrev vsX12_takesOf : List Cond := Cond.code yX12_takesOf cX12_takesOf 7 (some .int) :: WS
abbrev rmX12_takesOf : Room := { frames := 0, cells := 0, slots := 0, locals := 0 }
set_option maxHeartbeats 4000000 in
set_option maxRecDepth 100000 in
theorem k_X12_takesOf (l : Launch) (D : va_G) (C : Nat → ClassId) (sz : Nat) (aM : Nat → Nat)  (ms : Nat → Int32) (mw : Nat → Int64) (ma : Nat → Nat → Int32) (ml : Nat → Nat → Int64) (p1 : Int32) (p2 : Int32) {post : Int32 → Prop} (h : P_X12_takesOf ms ma p1 p2 post) : Met l yX12_takesOf vsX12_takesOf rmX12_takesOf (cPre D C [.ref (aM 0), .int p1, .int p2] sz (wM aM C ms mw ma ml)) (cQi D (fun (r : Int32) (u : Unit) => post r ) (fun u => wM aM C ms mw ma ml) (va_A (List.flatten (wM aM C ms mw ma ml)) sz)) 0 0 (va_A (List.flatten (wM aM C ms mw ma ml)) sz) := by
  refine cStart (QA := fun A => cQi D (fun (r : Int32) (u : Unit) => post r ) (fun u => wM aM C ms mw ma ml) A) (cc := cX12_takesOf) (maxL := 7) (ret := (some .int)) (by decide) (Nat.le_of_ble_eq_true rfl) ?_
  intro p e s m args below meth c A ls hx hb hr hml hown hw hlocks hname hK hN hA hP hD hS hl
  generalize hQ : MQ below _ args s 0 0 A = Q
  have hl : lv_has ls 7 [(0, .ref (aM 0)), (1, .int p1), (2, .int p2)] := hl
  obtain ⟨H, hH⟩ : ∃ H, H = s.heap := ⟨_, rfl⟩
  obtain ⟨locs, hlo⟩ : ∃ z : List Loc, z = [] := ⟨_, rfl⟩
  have hP : va_P D vwCl (List.flatten (wM aM C ms mw ma ml)) H := by rw [hH]; exact hP
  have hS : va_S A s.heap H locs := by rw [hH, hlo]; exact hS
  rw [show W p l e rmX12_takesOf s m args below meth c s.heap [] 0 0 Q (F0 m 0 ls []) = W p l e rmX12_takesOf s m args below meth c H locs 0 0 Q (F0 m 0 ls []) from by rw [hH, hlo]]
  have N17 : ∀ (x3_ : Int32) (n17 : Nat) (x4_ : Int32) (x5_ : Int32) (H : Heap) (locs : List Loc) (ls : Array Slot), P_X12_takesOf_17 ms ma p1 p2 post  x3_ n17 x4_ x5_ → va_P D vwCl (List.flatten (wM aM C ms mw ma ml)) H → va_D A (List.flatten (wM aM C ms mw ma ml)) → va_S A s.heap H locs → lv_has ls 7 [(0, .ref (aM 0)), (1, .int p1), (2, .int p2), (3, .int x3_), (4, .int x4_), (5, .int x5_)] → W p l e rmX12_takesOf s m args below meth c H locs 0 0 Q (F0 m 17 ls []) := by
    intro x3_
    intro n17
    induction n17 with
    | zero => intro x4_ x5_ H locs ls h hP hD hS hl; exact False.elim h
    | succ n17 ih17 =>
      intro x4_ x5_ H locs ls h hP hD hS hl
      refine lv_iload hx hb dX12_takesOf_17 (lv_at hl 5 rfl) ?_
      refine lv_aload_n hx hb dX12_takesOf_19 rfl (lv_at hl 0 rfl) ?_
      refine va_get (D := D) (ci := 12) (v := .int (ms 12)) (C := RX12) (T := TX12) (N := 51) hx hb hw inW_X12 hown hK hP 0 rfl rfl 35 (by decide) (hw _ mw_6_78) (fun _ h9 => h9) rfl dX12_takesOf_20 ?_
      refine lv_icmp_ge (tgt := 148) hx hb dX12_takesOf_23 (by decide) (fun c1 => ?_) (fun c1 => ?_)
      · have h := h.1 c1
        refine lv_iload hx hb dX12_takesOf_148 (lv_at hl 4 rfl) ?_
        rw [← hQ]
        exact cRetI (v := x4_) () hx hb hr hlocks hS hP hD h dX12_takesOf_150
      · have h := h.2 c1
        refine lv_bipush (v := 11) hx hb dX12_takesOf_26 (by decide) ?_
        refine lv_iload_n hx hb dX12_takesOf_28 rfl (lv_at hl 1 rfl) ?_
        refine lv_imul hx hb dX12_takesOf_29 ?_
        refine lv_iload hx hb dX12_takesOf_30 (lv_at hl 5 rfl) ?_
        refine lv_iadd hx hb dX12_takesOf_32 ?_
        refine lv_topi (fun x2 ex2 => ?_)
        have h := h x2 ex2
        refine lv_istore (lv' := [(6, .int x2), (0, .ref (aM 0)), (1, .int p1), (2, .int p2), (3, .int x3_), (4, .int x4_), (5, .int x5_)]) hx hb dX12_takesOf_33 hl (by decide) rfl (fun ls hl => ?_)
        refine lv_iload_n hx hb dX12_takesOf_35 rfl (lv_at hl 3 rfl) ?_
        refine lv_iload hx hb dX12_takesOf_36 (lv_at hl 6 rfl) ?_
        refine lv_ishr hx hb dX12_takesOf_38 ?_
        refine lv_iconst (v := 1) hx hb dX12_takesOf_39 (by decide) ?_
        refine lv_iand hx hb dX12_takesOf_40 ?_
        refine lv_iconst (v := 1) hx hb dX12_takesOf_41 (by decide) ?_
        refine lv_icmp_eq (tgt := 142) hx hb dX12_takesOf_42 (by decide) (fun c3 => ?_) (fun c3 => ?_)
        · have h := h.1 c3
          refine lv_iinc (v := (x5_ + 1)) (lv' := [(5, .int (x5_ + 1)), (6, .int x2), (0, .ref (aM 0)), (1, .int p1), (2, .int p2), (3, .int x3_), (4, .int x4_)]) hx hb dX12_takesOf_142 hl (k := 6) rfl rfl (by decide) rfl (fun ls hl => ?_)
          refine lv_goto (tgt := 17) hx hb dX12_takesOf_145 (by decide) ?_
          exact ih17 x4_ (x5_ + 1) _ _ _ h hP hD hS (lv_sub hl [2, 3, 4, 5, 6, 0] rfl)
        · have h := h.2 c3
          refine lv_aload_n hx hb dX12_takesOf_45 rfl (lv_at hl 1 rfl) ?_
          refine va_get (D := D) (ci := 12) (v := .ref (aM 22)) (C := RX12) (T := TX12) (N := 51) hx hb hw inW_X12 hown hK hP 0 rfl rfl 34 (by decide) (hw _ mw_6_77) (fun _ h9 => h9) rfl dX12_takesOf_46 ?_
          refine lv_iload hx hb dX12_takesOf_49 (lv_at hl 0 rfl) ?_
          refine cIald hx hb hK hP 22 0 rfl rfl x2.toNatClampNeg rfl h.1 dX12_takesOf_51 ?_
          have h := h.2
          refine lv_if_gt (tgt := 58) hx hb dX12_takesOf_52 (by decide) (fun c4 => ?_) (fun c4 => ?_)
          · have h := h.1 c4
            refine lv_iload_n hx hb dX12_takesOf_58 rfl (lv_at hl 4 rfl) ?_
            refine lv_iconst (v := 2) hx hb dX12_takesOf_59 (by decide) ?_
            refine lv_icmp_ne (tgt := 81) hx hb dX12_takesOf_60 (by decide) (fun c5 => ?_) (fun c5 => ?_)
            · have h := h.1 c5
              refine lv_iload hx hb dX12_takesOf_81 (lv_at hl 5 rfl) ?_
              refine lv_iconst (v := (-1)) hx hb dX12_takesOf_83 (by decide) ?_
              refine lv_icmp_eq (tgt := 138) hx hb dX12_takesOf_84 (by decide) (fun c6 => ?_) (fun c6 => ?_)
              · have h := h.1 c6
                refine lv_iload hx hb dX12_takesOf_138 (lv_at hl 6 rfl) ?_
                refine lv_istore (lv' := [(4, .int x5_), (6, .int x2), (0, .ref (aM 0)), (1, .int p1), (2, .int p2), (3, .int x3_), (5, .int x5_)]) hx hb dX12_takesOf_140 hl (by decide) rfl (fun ls hl => ?_)
                refine lv_iinc (v := (x5_ + 1)) (lv' := [(5, .int (x5_ + 1)), (4, .int x5_), (6, .int x2), (0, .ref (aM 0)), (1, .int p1), (2, .int p2), (3, .int x3_)]) hx hb dX12_takesOf_142 hl (k := 6) rfl rfl (by decide) rfl (fun ls hl => ?_)
                refine lv_goto (tgt := 17) hx hb dX12_takesOf_145 (by decide) ?_
                exact ih17 x5_ (x5_ + 1) _ _ _ h hP hD hS (lv_sub hl [3, 4, 5, 6, 1, 0] rfl)
              · have h := h.2 c6
                refine lv_iload_n hx hb dX12_takesOf_87 rfl (lv_at hl 4 rfl) ?_
                refine lv_if_ne (tgt := 116) hx hb dX12_takesOf_88 (by decide) (fun c7 => ?_) (fun c7 => ?_)
                · have h := h.1 c7
                  refine lv_aload_n hx hb dX12_takesOf_116 rfl (lv_at hl 1 rfl) ?_
                  refine va_get (D := D) (ci := 12) (v := .ref (aM 21)) (C := RX12) (T := TX12) (N := 51) hx hb hw inW_X12 hown hK hP 0 rfl rfl 33 (by decide) (hw _ mw_6_76) (fun _ h9 => h9) rfl dX12_takesOf_117 ?_
                  refine lv_iload hx hb dX12_takesOf_120 (lv_at hl 0 rfl) ?_
                  refine cIald hx hb hK hP 21 0 rfl rfl x2.toNatClampNeg rfl h.1 dX12_takesOf_122 ?_
                  have h := h.2
                  refine lv_aload_n hx hb dX12_takesOf_123 rfl (lv_at hl 1 rfl) ?_
                  refine va_get (D := D) (ci := 12) (v := .ref (aM 21)) (C := RX12) (T := TX12) (N := 51) hx hb hw inW_X12 hown hK hP 0 rfl rfl 33 (by decide) (hw _ mw_6_76) (fun _ h9 => h9) rfl dX12_takesOf_124 ?_
                  refine lv_bipush (v := 11) hx hb dX12_takesOf_127 (by decide) ?_
                  refine lv_iload_n hx hb dX12_takesOf_129 rfl (lv_at hl 2 rfl) ?_
                  refine lv_imul hx hb dX12_takesOf_130 ?_
                  refine lv_iload hx hb dX12_takesOf_131 (lv_at hl 5 rfl) ?_
                  refine lv_iadd hx hb dX12_takesOf_133 ?_
                  refine cIald hx hb hK hP 21 0 rfl rfl (((11 * p1) + x4_).toNatClampNeg) rfl h.1 dX12_takesOf_134 ?_
                  have h := h.2
                  refine lv_icmp_ge (tgt := 142) hx hb dX12_takesOf_135 (by decide) (fun c8 => ?_) (fun c8 => ?_)
                  · have h := h.1 c8
                    refine lv_iinc (v := (x5_ + 1)) (lv' := [(5, .int (x5_ + 1)), (6, .int x2), (0, .ref (aM 0)), (1, .int p1), (2, .int p2), (3, .int x3_), (4, .int x4_)]) hx hb dX12_takesOf_142 hl (k := 6) rfl rfl (by decide) rfl (fun ls hl => ?_)
                    refine lv_goto (tgt := 17) hx hb dX12_takesOf_145 (by decide) ?_
                    exact ih17 x4_ (x5_ + 1) _ _ _ h hP hD hS (lv_sub hl [2, 3, 4, 5, 6, 0] rfl)
                  · have h := h.2 c8
                    refine lv_iload hx hb dX12_takesOf_138 (lv_at hl 6 rfl) ?_
                    refine lv_istore (lv' := [(4, .int x5_), (6, .int x2), (0, .ref (aM 0)), (1, .int p1), (2, .int p2), (3, .int x3_), (5, .int x5_)]) hx hb dX12_takesOf_140 hl (by decide) rfl (fun ls hl => ?_)
                    refine lv_iinc (v := (x5_ + 1)) (lv' := [(5, .int (x5_ + 1)), (4, .int x5_), (6, .int x2), (0, .ref (aM 0)), (1, .int p1), (2, .int p2), (3, .int x3_)]) hx hb dX12_takesOf_142 hl (k := 6) rfl rfl (by decide) rfl (fun ls hl => ?_)
                    refine lv_goto (tgt := 17) hx hb dX12_takesOf_145 (by decide) ?_
                    exact ih17 x5_ (x5_ + 1) _ _ _ h hP hD hS (lv_sub hl [3, 4, 5, 6, 1, 0] rfl)
                · have h := h.2 c7
                  refine lv_aload_n hx hb dX12_takesOf_91 rfl (lv_at hl 1 rfl) ?_
                  refine va_get (D := D) (ci := 12) (v := .ref (aM 22)) (C := RX12) (T := TX12) (N := 51) hx hb hw inW_X12 hown hK hP 0 rfl rfl 34 (by decide) (hw _ mw_6_77) (fun _ h9 => h9) rfl dX12_takesOf_92 ?_
                  refine lv_iload hx hb dX12_takesOf_95 (lv_at hl 0 rfl) ?_
                  refine cIald hx hb hK hP 22 0 rfl rfl x2.toNatClampNeg rfl h.1 dX12_takesOf_97 ?_
                  have h := h.2
                  refine lv_aload_n hx hb dX12_takesOf_98 rfl (lv_at hl 1 rfl) ?_
                  refine va_get (D := D) (ci := 12) (v := .ref (aM 22)) (C := RX12) (T := TX12) (N := 51) hx hb hw inW_X12 hown hK hP 0 rfl rfl 34 (by decide) (hw _ mw_6_77) (fun _ h9 => h9) rfl dX12_takesOf_99 ?_
                  refine lv_bipush (v := 11) hx hb dX12_takesOf_102 (by decide) ?_
                  refine lv_iload_n hx hb dX12_takesOf_104 rfl (lv_at hl 2 rfl) ?_
                  refine lv_imul hx hb dX12_takesOf_105 ?_
                  refine lv_iload hx hb dX12_takesOf_106 (lv_at hl 5 rfl) ?_
                  refine lv_iadd hx hb dX12_takesOf_108 ?_
                  refine cIald hx hb hK hP 22 0 rfl rfl (((11 * p1) + x4_).toNatClampNeg) rfl h.1 dX12_takesOf_109 ?_
                  have h := h.2
                  refine lv_icmp_le (tgt := 142) hx hb dX12_takesOf_110 (by decide) (fun c9 => ?_) (fun c9 => ?_)
                  · have h := h.1 c9
                    refine lv_iinc (v := (x5_ + 1)) (lv' := [(5, .int (x5_ + 1)), (6, .int x2), (0, .ref (aM 0)), (1, .int p1), (2, .int p2), (3, .int x3_), (4, .int x4_)]) hx hb dX12_takesOf_142 hl (k := 6) rfl rfl (by decide) rfl (fun ls hl => ?_)
                    refine lv_goto (tgt := 17) hx hb dX12_takesOf_145 (by decide) ?_
                    exact ih17 x4_ (x5_ + 1) _ _ _ h hP hD hS (lv_sub hl [2, 3, 4, 5, 6, 0] rfl)
                  · have h := h.2 c9
                    refine lv_goto (tgt := 138) hx hb dX12_takesOf_113 (by decide) ?_
                    refine lv_iload hx hb dX12_takesOf_138 (lv_at hl 6 rfl) ?_
                    refine lv_istore (lv' := [(4, .int x5_), (6, .int x2), (0, .ref (aM 0)), (1, .int p1), (2, .int p2), (3, .int x3_), (5, .int x5_)]) hx hb dX12_takesOf_140 hl (by decide) rfl (fun ls hl => ?_)
                    refine lv_iinc (v := (x5_ + 1)) (lv' := [(5, .int (x5_ + 1)), (4, .int x5_), (6, .int x2), (0, .ref (aM 0)), (1, .int p1), (2, .int p2), (3, .int x3_)]) hx hb dX12_takesOf_142 hl (k := 6) rfl rfl (by decide) rfl (fun ls hl => ?_)
                    refine lv_goto (tgt := 17) hx hb dX12_takesOf_145 (by decide) ?_
                    exact ih17 x5_ (x5_ + 1) _ _ _ h hP hD hS (lv_sub hl [3, 4, 5, 6, 1, 0] rfl)
            · have h := h.2 c5
              refine lv_iload hx hb dX12_takesOf_63 (lv_at hl 6 rfl) ?_
              refine lv_aload_n hx hb dX12_takesOf_65 rfl (lv_at hl 1 rfl) ?_
              refine va_get (D := D) (ci := 12) (v := .ref (aM 16)) (C := RX12) (T := TX12) (N := 51) hx hb hw inW_X12 hown hK hP 0 rfl rfl 26 (by decide) (hw _ mw_6_69) (fun _ h9 => h9) rfl dX12_takesOf_66 ?_
              refine lv_iconst (v := 5) hx hb dX12_takesOf_69 (by decide) ?_
              refine lv_iload_n hx hb dX12_takesOf_70 rfl (lv_at hl 2 rfl) ?_
              refine lv_imul hx hb dX12_takesOf_71 ?_
              refine lv_iconst (v := 4) hx hb dX12_takesOf_72 (by decide) ?_
              refine lv_iadd hx hb dX12_takesOf_73 ?_
              refine cIald hx hb hK hP 16 0 rfl rfl (((5 * p1) + 4).toNatClampNeg) rfl h.1 dX12_takesOf_74 ?_
              have h := h.2
              refine lv_icmp_ne (tgt := 142) hx hb dX12_takesOf_75 (by decide) (fun c10 => ?_) (fun c10 => ?_)
              · have h := h.1 c10
                refine lv_iinc (v := (x5_ + 1)) (lv' := [(5, .int (x5_ + 1)), (6, .int x2), (0, .ref (aM 0)), (1, .int p1), (2, .int p2), (3, .int x3_), (4, .int x4_)]) hx hb dX12_takesOf_142 hl (k := 6) rfl rfl (by decide) rfl (fun ls hl => ?_)
                refine lv_goto (tgt := 17) hx hb dX12_takesOf_145 (by decide) ?_
                exact ih17 x4_ (x5_ + 1) _ _ _ h hP hD hS (lv_sub hl [2, 3, 4, 5, 6, 0] rfl)
              · have h := h.2 c10
                refine lv_iload hx hb dX12_takesOf_78 (lv_at hl 6 rfl) ?_
                rw [← hQ]
                exact cRetI (v := x5_) () hx hb hr hlocks hS hP hD h dX12_takesOf_80
          · have h := h.2 c4
            refine lv_goto (tgt := 142) hx hb dX12_takesOf_55 (by decide) ?_
            refine lv_iinc (v := (x5_ + 1)) (lv' := [(5, .int (x5_ + 1)), (6, .int x2), (0, .ref (aM 0)), (1, .int p1), (2, .int p2), (3, .int x3_), (4, .int x4_)]) hx hb dX12_takesOf_142 hl (k := 6) rfl rfl (by decide) rfl (fun ls hl => ?_)
            refine lv_goto (tgt := 17) hx hb dX12_takesOf_145 (by decide) ?_
            exact ih17 x4_ (x5_ + 1) _ _ _ h hP hD hS (lv_sub hl [2, 3, 4, 5, 6, 0] rfl)
  refine lv_aload_n hx hb dX12_takesOf_0 rfl (lv_at hl 0 rfl) ?_
  refine va_get (D := D) (ci := 12) (v := .ref (aM 16)) (C := RX12) (T := TX12) (N := 51) hx hb hw inW_X12 hown hK hP 0 rfl rfl 26 (by decide) (hw _ mw_6_69) (fun _ h9 => h9) rfl dX12_takesOf_1 ?_
  refine lv_iconst (v := 5) hx hb dX12_takesOf_4 (by decide) ?_
  refine lv_iload_n hx hb dX12_takesOf_5 rfl (lv_at hl 1 rfl) ?_
  refine lv_imul hx hb dX12_takesOf_6 ?_
  refine lv_iconst (v := 3) hx hb dX12_takesOf_7 (by decide) ?_
  refine lv_iadd hx hb dX12_takesOf_8 ?_
  refine cIald hx hb hK hP 16 0 rfl rfl (((5 * p1) + 3).toNatClampNeg) rfl h.1 dX12_takesOf_9 ?_
  have h := h.2
  refine lv_topi (fun x11 ex11 => ?_)
  have h := h x11 ex11
  refine lv_istore_n (lv' := [(3, .int x11), (0, .ref (aM 0)), (1, .int p1), (2, .int p2)]) hx hb dX12_takesOf_10 rfl hl (by decide) rfl (fun ls hl => ?_)
  refine lv_iconst (v := (-1)) hx hb dX12_takesOf_11 (by decide) ?_
  refine lv_istore (lv' := [(4, .int (-1)), (3, .int x11), (0, .ref (aM 0)), (1, .int p1), (2, .int p2)]) hx hb dX12_takesOf_12 hl (by decide) rfl (fun ls hl => ?_)
  refine lv_iconst (v := 0) hx hb dX12_takesOf_14 (by decide) ?_
  refine lv_istore (lv' := [(5, .int 0), (4, .int (-1)), (3, .int x11), (0, .ref (aM 0)), (1, .int p1), (2, .int p2)]) hx hb dX12_takesOf_15 hl (by decide) rfl (fun ls hl => ?_)
  obtain ⟨n, h⟩ := h
  exact N17 x11 n (-1) 0 _ _ _ h hP hD hS (lv_sub hl [3, 4, 5, 2, 1, 0] rfl)
