abbrev vsX4_paidFor : List Cond := Cond.code yX4_paidFor cX4_paidFor 4 (some .long) :: WS
abbrev rmX4_paidFor : Room := { frames := 0, cells := 0, slots := 0, locals := 0 }
set_option maxHeartbeats 4000000 in
set_option maxRecDepth 100000 in
theorem k_X4_paidFor (l : Launch) (D : va_G) (C : Nat → ClassId) (sz : Nat) (aR : Nat → Nat)  (rs : Nat → Int32) (ra : Nat → Nat → Int32) (p1 : Int32) {post : Int64 → Prop} (h : P_X4_paidFor rs ra p1 post) : Met l yX4_paidFor vsX4_paidFor rmX4_paidFor (cPre D C [.ref (aR 0), .int p1] sz (wRail aR C rs ra)) (cQl D (fun (r : Int64) (u : Unit) => post r ) (fun u => wRail aR C rs ra) (va_A (List.flatten (wRail aR C rs ra)) sz)) 0 0 (va_A (List.flatten (wRail aR C rs ra)) sz) := by
  refine cStart (QA := fun A => cQl D (fun (r : Int64) (u : Unit) => post r ) (fun u => wRail aR C rs ra) A) (cc := cX4_paidFor) (maxL := 4) (ret := (some .long)) (by decide) (Nat.le_of_ble_eq_true rfl) ?_
  intro p e s m args below meth c A ls hx hb hr hml hown hw hlocks hname hK hN hA hP hD hS hl
  generalize hQ : MQ below _ args s 0 0 A = Q
  have hl : lv_has ls 4 [(0, .ref (aR 0)), (1, .int p1)] := hl
  have hn146 : (Cond.fieldLinkNest "LockRail$Rail" 146 "LockRail$Bikes" "marked" "[Z" "LockRail").before args s = true := hN.f 31 rfl
  have hn131 : (Cond.fieldLinkNest "LockRail$Rail" 131 "LockRail$Bikes" "lock" "[I" "LockRail").before args s = true := hN.f 29 rfl
  have hn150 : (Cond.fieldLinkNest "LockRail$Rail" 150 "LockRail$Locks" "price" "[I" "LockRail").before args s = true := hN.f 15 rfl
  obtain ⟨H, hH⟩ : ∃ H, H = s.heap := ⟨_, rfl⟩
  obtain ⟨locs, hlo⟩ : ∃ z : List Loc, z = [] := ⟨_, rfl⟩
  have hP : va_P D vwCl (List.flatten (wRail aR C rs ra)) H := by rw [hH]; exact hP
  have hS : va_S A s.heap H locs := by rw [hH, hlo]; exact hS
  rw [show W p l e rmX4_paidFor s m args below meth c s.heap [] 0 0 Q (F0 m 0 ls []) = W p l e rmX4_paidFor s m args below meth c H locs 0 0 Q (F0 m 0 ls []) from by rw [hH, hlo]]
  have N28 : ∀ (k0_ : Int32) (H : Heap) (locs : List Loc) (ls : Array Slot), P_X4_paidFor_28 rs ra p1 post  k0_ → va_P D vwCl (List.flatten (wRail aR C rs ra)) H → va_D A (List.flatten (wRail aR C rs ra)) → va_S A s.heap H locs → lv_has ls 4 [(0, .ref (aR 0)), (1, .int p1)] → W p l e rmX4_paidFor s m args below meth c H locs 0 0 Q (F0 m 28 ls [.int k0_]) := by
    intro k0_ H locs ls h hP hD hS hl
    refine lv_istore_n (lv' := [(3, .int k0_), (0, .ref (aR 0)), (1, .int p1)]) hx hb dX4_paidFor_28 rfl hl (by decide) rfl (fun ls hl => ?_)
    refine lv_ldc2 (v := 1000) hx hb hown (hw _ mw_4_109) dX4_paidFor_29 ?_
    refine lv_iload_n hx hb dX4_paidFor_32 rfl (lv_at hl 0 rfl) ?_
    refine lv_aload_n hx hb dX4_paidFor_33 rfl (lv_at hl 1 rfl) ?_
    refine va_get (D := D) (ci := 4) (v := .ref (aR 7)) (C := RX4) (T := TX4) (N := 16) hx hb hw inW_X4 hown hK hP 0 rfl rfl 5 (by decide) (hw _ mw_2_1) (fun _ h9 => h9) rfl dX4_paidFor_34 ?_
    refine va_getN (D := D) (ci := 0) (v := .ref (aR 12)) (C := RX0) (T := TX0) (N := 6) hx hb hw inW_X0 hown hK hP 7 rfl rfl 5 (by decide) hn146 (fun _ h9 => h9) rfl dX4_paidFor_37 ?_
    refine lv_iload_n hx hb dX4_paidFor_40 rfl (lv_at hl 2 rfl) ?_
    refine cZald hx hb hK hP 12 3 rfl rfl p1.toNatClampNeg rfl h.1 dX4_paidFor_41 ?_
    have h := h.2
    refine lv_if_eq (tgt := 52) hx hb dX4_paidFor_42 (by decide) (fun c1 => ?_) (fun c1 => ?_)
    · have h := h.1 c1
      refine lv_iconst (v := 0) hx hb dX4_paidFor_52 (by decide) ?_
      refine lv_iadd hx hb dX4_paidFor_53 ?_
      refine lv_i2l hx hb dX4_paidFor_54 rfl ?_
      refine lv_lmul hx hb dX4_paidFor_55 ?_
      rw [← hQ]
      exact cRetL (v := (1000 * (k0_ + 0).toInt64)) () hx hb hr hlocks hS hP hD h dX4_paidFor_56
    · have h := h.2 c1
      refine lv_aload_n hx hb dX4_paidFor_45 rfl (lv_at hl 1 rfl) ?_
      refine va_get (D := D) (ci := 4) (v := .int (rs 4)) (C := RX4) (T := TX4) (N := 16) hx hb hw inW_X4 hown hK hP 0 rfl rfl 8 (by decide) (hw _ mw_2_11) (fun _ h9 => h9) rfl dX4_paidFor_46 ?_
      refine lv_goto (tgt := 53) hx hb dX4_paidFor_49 (by decide) ?_
      refine lv_iadd hx hb dX4_paidFor_53 ?_
      refine lv_i2l hx hb dX4_paidFor_54 rfl ?_
      refine lv_lmul hx hb dX4_paidFor_55 ?_
      rw [← hQ]
      exact cRetL (v := (1000 * (k0_ + (rs 4)).toInt64)) () hx hb hr hlocks hS hP hD h dX4_paidFor_56
  refine lv_aload_n hx hb dX4_paidFor_0 rfl (lv_at hl 0 rfl) ?_
  refine va_get (D := D) (ci := 4) (v := .ref (aR 7)) (C := RX4) (T := TX4) (N := 16) hx hb hw inW_X4 hown hK hP 0 rfl rfl 5 (by decide) (hw _ mw_2_1) (fun _ h9 => h9) rfl dX4_paidFor_1 ?_
  refine va_getN (D := D) (ci := 0) (v := .ref (aR 11)) (C := RX0) (T := TX0) (N := 6) hx hb hw inW_X0 hown hK hP 7 rfl rfl 4 (by decide) hn131 (fun _ h9 => h9) rfl dX4_paidFor_4 ?_
  refine lv_iload_n hx hb dX4_paidFor_7 rfl (lv_at hl 1 rfl) ?_
  refine cIald hx hb hK hP 11 0 rfl rfl p1.toNatClampNeg rfl h.1 dX4_paidFor_8 ?_
  have h := h.2
  refine lv_topi (fun x2 ex2 => ?_)
  have h := h x2 ex2
  refine lv_istore_n (lv' := [(2, .int x2), (0, .ref (aR 0)), (1, .int p1)]) hx hb dX4_paidFor_9 rfl hl (by decide) rfl (fun ls hl => ?_)
  refine lv_iload_n hx hb dX4_paidFor_10 rfl (lv_at hl 0 rfl) ?_
  refine lv_iconst (v := (-1)) hx hb dX4_paidFor_11 (by decide) ?_
  refine lv_icmp_ne (tgt := 19) hx hb dX4_paidFor_12 (by decide) (fun c3 => ?_) (fun c3 => ?_)
  · have h := h.1 c3
    refine lv_aload_n hx hb dX4_paidFor_19 rfl (lv_at hl 1 rfl) ?_
    refine va_get (D := D) (ci := 4) (v := .ref (aR 4)) (C := RX4) (T := TX4) (N := 16) hx hb hw inW_X4 hown hK hP 0 rfl rfl 4 (by decide) (hw _ mw_1_238) (fun _ h9 => h9) rfl dX4_paidFor_20 ?_
    refine va_getN (D := D) (ci := 2) (v := .ref (aR 5)) (C := RX2) (T := TX2) (N := 3) hx hb hw inW_X2 hown hK hP 4 rfl rfl 1 (by decide) hn150 (fun _ h9 => h9) rfl dX4_paidFor_23 ?_
    refine lv_iload_n hx hb dX4_paidFor_26 rfl (lv_at hl 0 rfl) ?_
    refine cIald hx hb hK hP 5 0 rfl rfl x2.toNatClampNeg rfl h.1 dX4_paidFor_27 ?_
    have h := h.2
    exact N28 (ra 2 x2.toNatClampNeg) _ _ _ h hP hD hS (lv_sub hl [1, 2] rfl)
  · have h := h.2 c3
    refine lv_iconst (v := 0) hx hb dX4_paidFor_15 (by decide) ?_
    refine lv_goto (tgt := 28) hx hb dX4_paidFor_16 (by decide) ?_
    exact N28 0 _ _ _ h hP hD hS (lv_sub hl [1, 2] rfl)
abbrev vsX4_wages : List Cond := Cond.code yX4_wages cX4_wages 1 (some .long) :: WS
abbrev rmX4_wages : Room := { frames := 0, cells := 0, slots := 0, locals := 0 }
set_option maxHeartbeats 4000000 in
set_option maxRecDepth 100000 in
theorem k_X4_wages (l : Launch) (D : va_G) (C : Nat → ClassId) (sz : Nat) (aR : Nat → Nat)  (rs : Nat → Int32) (ra : Nat → Nat → Int32)  {post : Int64 → Prop} (h : P_X4_wages rs post) : Met l yX4_wages vsX4_wages rmX4_wages (cPre D C [.ref (aR 0)] sz (wRail aR C rs ra)) (cQl D (fun (r : Int64) (u : Unit) => post r ) (fun u => wRail aR C rs ra) (va_A (List.flatten (wRail aR C rs ra)) sz)) 0 0 (va_A (List.flatten (wRail aR C rs ra)) sz) := by
  refine cStart (QA := fun A => cQl D (fun (r : Int64) (u : Unit) => post r ) (fun u => wRail aR C rs ra) A) (cc := cX4_wages) (maxL := 1) (ret := (some .long)) (by decide) (Nat.le_of_ble_eq_true rfl) ?_
  intro p e s m args below meth c A ls hx hb hr hml hown hw hlocks hname hK hN hA hP hD hS hl
  generalize hQ : MQ below _ args s 0 0 A = Q
  have hl : lv_has ls 1 [(0, .ref (aR 0))] := hl
  obtain ⟨H, hH⟩ : ∃ H, H = s.heap := ⟨_, rfl⟩
  obtain ⟨locs, hlo⟩ : ∃ z : List Loc, z = [] := ⟨_, rfl⟩
  have hP : va_P D vwCl (List.flatten (wRail aR C rs ra)) H := by rw [hH]; exact hP
  have hS : va_S A s.heap H locs := by rw [hH, hlo]; exact hS
  rw [show W p l e rmX4_wages s m args below meth c s.heap [] 0 0 Q (F0 m 0 ls []) = W p l e rmX4_wages s m args below meth c H locs 0 0 Q (F0 m 0 ls []) from by rw [hH, hlo]]
  refine lv_ldc2 (v := 1000) hx hb hown (hw _ mw_4_109) dX4_wages_0 ?_
  refine lv_aload_n hx hb dX4_wages_3 rfl (lv_at hl 0 rfl) ?_
  refine va_get (D := D) (ci := 4) (v := .int (rs 8)) (C := RX4) (T := TX4) (N := 16) hx hb hw inW_X4 hown hK hP 0 rfl rfl 12 (by decide) (hw _ mw_2_20) (fun _ h9 => h9) rfl dX4_wages_4 ?_
  refine lv_i2l hx hb dX4_wages_7 rfl ?_
  refine lv_lmul hx hb dX4_wages_8 ?_
  refine lv_aload_n hx hb dX4_wages_9 rfl (lv_at hl 0 rfl) ?_
  refine va_get (D := D) (ci := 4) (v := .int (rs 1)) (C := RX4) (T := TX4) (N := 16) hx hb hw inW_X4 hown hK hP 0 rfl rfl 1 (by decide) (hw _ mw_1_228) (fun _ h9 => h9) rfl dX4_wages_10 ?_
  refine lv_i2l hx hb dX4_wages_13 rfl ?_
  refine lv_lmul hx hb dX4_wages_14 ?_
  rw [← hQ]
  exact cRetL (v := ((1000 * (rs 8).toInt64) * (rs 1).toInt64)) () hx hb hr hlocks hS hP hD h dX4_wages_15
abbrev vsX4_wageShare : List Cond := Cond.code yX4_wageShare cX4_wageShare 1 (some .long) :: WS
abbrev rmX4_wageShare : Room := { frames := 1, cells := 0, slots := 0, locals := 20 }
set_option maxHeartbeats 4000000 in
set_option maxRecDepth 100000 in
theorem k_X4_wageShare (l : Launch) (D : va_G) (C : Nat → ClassId) (sz : Nat) (aR : Nat → Nat)  (rs : Nat → Int32) (ra : Nat → Nat → Int32)  {post : Int64 → Prop} (h : P_X4_wageShare rs post) : Met l yX4_wageShare vsX4_wageShare rmX4_wageShare (cPre D C [.ref (aR 0)] sz (wRail aR C rs ra)) (cQl D (fun (r : Int64) (u : Unit) => post r ) (fun u => wRail aR C rs ra) (va_A (List.flatten (wRail aR C rs ra)) sz)) 0 0 (va_A (List.flatten (wRail aR C rs ra)) sz) := by
  refine cStart (QA := fun A => cQl D (fun (r : Int64) (u : Unit) => post r ) (fun u => wRail aR C rs ra) A) (cc := cX4_wageShare) (maxL := 1) (ret := (some .long)) (by decide) (Nat.le_of_ble_eq_true rfl) ?_
  intro p e s m args below meth c A ls hx hb hr hml hown hw hlocks hname hK hN hA hP hD hS hl
  generalize hQ : MQ below _ args s 0 0 A = Q
  have hl : lv_has ls 1 [(0, .ref (aR 0))] := hl
  have hn60 : (Cond.fieldLinkNest "LockRail$Rail" 60 "LockRail$Bikes" "count" "I" "LockRail").before args s = true := hN.f 17 rfl
  obtain ⟨H, hH⟩ : ∃ H, H = s.heap := ⟨_, rfl⟩
  obtain ⟨locs, hlo⟩ : ∃ z : List Loc, z = [] := ⟨_, rfl⟩
  have hP : va_P D vwCl (List.flatten (wRail aR C rs ra)) H := by rw [hH]; exact hP
  have hS : va_S A s.heap H locs := by rw [hH, hlo]; exact hS
  rw [show W p l e rmX4_wageShare s m args below meth c s.heap [] 0 0 Q (F0 m 0 ls []) = W p l e rmX4_wageShare s m args below meth c H locs 0 0 Q (F0 m 0 ls []) from by rw [hH, hlo]]
  refine lv_aload_n hx hb dX4_wageShare_0 rfl (lv_at hl 0 rfl) ?_
  refine va_get (D := D) (ci := 4) (v := .int (rs 10)) (C := RX4) (T := TX4) (N := 16) hx hb hw inW_X4 hown hK hP 0 rfl rfl 14 (by decide) (hw _ mw_2_24) (fun _ h9 => h9) rfl dX4_wageShare_1 ?_
  refine lv_if_eq (tgt := 33) hx hb dX4_wageShare_4 (by decide) (fun c1 => ?_) (fun c1 => ?_)
  · have h := h.1 c1
    refine lv_lconst (v := 0) hx hb dX4_wageShare_33 (by decide) ?_
    rw [← hQ]
    exact cRetL (v := 0) () hx hb hr hlocks hS hP hD h dX4_wageShare_34
  · have h := h.2 c1
    refine lv_aload_n hx hb dX4_wageShare_7 rfl (lv_at hl 0 rfl) ?_
    refine va_get (D := D) (ci := 4) (v := .ref (aR 7)) (C := RX4) (T := TX4) (N := 16) hx hb hw inW_X4 hown hK hP 0 rfl rfl 5 (by decide) (hw _ mw_2_1) (fun _ h9 => h9) rfl dX4_wageShare_8 ?_
    refine va_getN (D := D) (ci := 0) (v := .int (rs 13)) (C := RX0) (T := TX0) (N := 6) hx hb hw inW_X0 hown hK hP 7 rfl rfl 0 (by decide) hn60 (fun _ h9 => h9) rfl dX4_wageShare_11 ?_
    refine lv_if_le (tgt := 33) hx hb dX4_wageShare_14 (by decide) (fun c2 => ?_) (fun c2 => ?_)
    · have h := h.1 c2
      refine lv_lconst (v := 0) hx hb dX4_wageShare_33 (by decide) ?_
      rw [← hQ]
      exact cRetL (v := 0) () hx hb hr hlocks hS hP hD h dX4_wageShare_34
    · have h := h.2 c2
      refine lv_aload_n hx hb dX4_wageShare_17 rfl (lv_at hl 0 rfl) ?_
      refine cGoL (wo := fun u => wRail aR C rs ra) (cRunV (As := []) (rest := []) ⟨hx, hb, hml, hown, hw⟩ hK hN hP hD [0, 1, 2, 3, 4, 5] rfl rfl (k_X4_wages l D C _ aR  rs ra  h) (cwV 0 hw (goodV mw_4_116 mw_4_118 mw_s62 mw_1_4 mw_4_119) rfl rfl rfl (by decide +kernel) ⟨Nat.le_of_ble_eq_true rfl, Nat.le_of_ble_eq_true rfl⟩) rfl rfl rfl hl.1 rfl (Nat.le_of_ble_eq_true rfl) dX4_wageShare_18 ⟨Nat.zero_le _, Nat.zero_le _⟩) hP hD hS hA [0, 1, 2, 3, 4, 5] [] [0, 1, 2, 3, 4, 5] rfl rfl rfl (by decide) rfl (fun _ => rfl) (fun r3 u H locs h hP hD hS => ?_)
      have hP : va_P D vwCl (List.flatten (wRail aR C rs ra)) H := hP
      have hD : va_D A (List.flatten (wRail aR C rs ra)) := hD
      refine lv_aload_n hx hb dX4_wageShare_21 rfl (lv_at hl 0 rfl) ?_
      refine va_get (D := D) (ci := 4) (v := .ref (aR 7)) (C := RX4) (T := TX4) (N := 16) hx hb hw inW_X4 hown hK hP 0 rfl rfl 5 (by decide) (hw _ mw_2_1) (fun _ h9 => h9) rfl dX4_wageShare_22 ?_
      refine va_getN (D := D) (ci := 0) (v := .int (rs 13)) (C := RX0) (T := TX0) (N := 6) hx hb hw inW_X0 hown hK hP 7 rfl rfl 0 (by decide) hn60 (fun _ h9 => h9) rfl dX4_wageShare_25 ?_
      refine lv_i2l hx hb dX4_wageShare_28 rfl ?_
      refine lv_ldiv hx hb dX4_wageShare_29 h.1 ?_
      have h := h.2
      refine lv_goto (tgt := 34) hx hb dX4_wageShare_30 (by decide) ?_
      rw [← hQ]
      exact cRetL (v := (r3 / (rs 13).toInt64)) () hx hb hr hlocks hS hP hD h dX4_wageShare_34
abbrev vsX4_options : List Cond := Cond.code yX4_options cX4_options 1 (some .int) :: WS
abbrev rmX4_options : Room := { frames := 1, cells := 0, slots := 0, locals := 20 }
set_option maxHeartbeats 4000000 in
set_option maxRecDepth 100000 in
theorem k_X4_options (l : Launch) (D : va_G) (C : Nat → ClassId) (sz : Nat) (aR : Nat → Nat)  (rs : Nat → Int32) (ra : Nat → Nat → Int32)  {post : Int32 → Prop} (h : P_X4_options rs post) : Met l yX4_options vsX4_options rmX4_options (cPre D C [.ref (aR 0)] sz (wRail aR C rs ra)) (cQi D (fun (r : Int32) (u : Unit) => post r ) (fun u => wRail aR C rs ra) (va_A (List.flatten (wRail aR C rs ra)) sz)) 0 0 (va_A (List.flatten (wRail aR C rs ra)) sz) := by
  refine cStart (QA := fun A => cQi D (fun (r : Int32) (u : Unit) => post r ) (fun u => wRail aR C rs ra) A) (cc := cX4_options) (maxL := 1) (ret := (some .int)) (by decide) (Nat.le_of_ble_eq_true rfl) ?_
  intro p e s m args below meth c A ls hx hb hr hml hown hw hlocks hname hK hN hA hP hD hS hl
  generalize hQ : MQ below _ args s 0 0 A = Q
  have hl : lv_has ls 1 [(0, .ref (aR 0))] := hl
  have hn59 : (Cond.fieldLinkNest "LockRail$Rail" 59 "LockRail$Locks" "count" "I" "LockRail").before args s = true := hN.f 12 rfl
  obtain ⟨H, hH⟩ : ∃ H, H = s.heap := ⟨_, rfl⟩
  obtain ⟨locs, hlo⟩ : ∃ z : List Loc, z = [] := ⟨_, rfl⟩
  have hP : va_P D vwCl (List.flatten (wRail aR C rs ra)) H := by rw [hH]; exact hP
  have hS : va_S A s.heap H locs := by rw [hH, hlo]; exact hS
  rw [show W p l e rmX4_options s m args below meth c s.heap [] 0 0 Q (F0 m 0 ls []) = W p l e rmX4_options s m args below meth c H locs 0 0 Q (F0 m 0 ls []) from by rw [hH, hlo]]
  refine lv_aload_n hx hb dX4_options_0 rfl (lv_at hl 0 rfl) ?_
  refine cGoI (wo := fun u => wRail aR C rs ra) (cRunV (As := []) (rest := []) ⟨hx, hb, hml, hown, hw⟩ hK hN hP hD [0, 1, 2, 3, 4, 5] rfl rfl (k_X4_isTold l D C _ aR  rs ra  h) (cwV 0 hw (goodV mw_4_145 mw_4_18 mw_s47 mw_1_4 mw_4_19) rfl rfl rfl (by decide +kernel) ⟨Nat.le_of_ble_eq_true rfl, Nat.le_of_ble_eq_true rfl⟩) rfl rfl rfl hl.1 rfl (Nat.le_of_ble_eq_true rfl) dX4_options_1 ⟨Nat.zero_le _, Nat.zero_le _⟩) hP hD hS hA [0, 1, 2, 3, 4, 5] [] [0, 1, 2, 3, 4, 5] rfl rfl rfl (by decide) rfl (fun _ => rfl) (fun r1 u H locs h hP hD hS => ?_)
  have hP : va_P D vwCl (List.flatten (wRail aR C rs ra)) H := hP
  have hD : va_D A (List.flatten (wRail aR C rs ra)) := hD
  refine lv_if_eq (tgt := 21) hx hb dX4_options_4 (by decide) (fun c2 => ?_) (fun c2 => ?_)
  · have h := h.1 c2
    refine lv_iconst (v := 0) hx hb dX4_options_21 (by decide) ?_
    rw [← hQ]
    exact cRetI (v := 0) () hx hb hr hlocks hS hP hD h dX4_options_22
  · have h := h.2 c2
    refine lv_iconst (v := 2) hx hb dX4_options_7 (by decide) ?_
    refine lv_aload_n hx hb dX4_options_8 rfl (lv_at hl 0 rfl) ?_
    refine va_get (D := D) (ci := 4) (v := .ref (aR 4)) (C := RX4) (T := TX4) (N := 16) hx hb hw inW_X4 hown hK hP 0 rfl rfl 4 (by decide) (hw _ mw_1_238) (fun _ h9 => h9) rfl dX4_options_9 ?_
    refine va_getN (D := D) (ci := 2) (v := .int (rs 12)) (C := RX2) (T := TX2) (N := 3) hx hb hw inW_X2 hown hK hP 4 rfl rfl 0 (by decide) hn59 (fun _ h9 => h9) rfl dX4_options_12 ?_
    refine lv_iconst (v := 1) hx hb dX4_options_15 (by decide) ?_
    refine lv_iadd hx hb dX4_options_16 ?_
    refine lv_imul hx hb dX4_options_17 ?_
    refine lv_goto (tgt := 22) hx hb dX4_options_18 (by decide) ?_
    rw [← hQ]
    exact cRetI (v := (2 * ((rs 12) + 1))) () hx hb hr hlocks hS hP hD h dX4_options_22
abbrev vsX4_hasOption : List Cond := Cond.code yX4_hasOption cX4_hasOption 2 (some .boolean) :: WS
abbrev rmX4_hasOption : Room := { frames := 2, cells := 0, slots := 0, locals := 40 }
set_option maxHeartbeats 4000000 in
set_option maxRecDepth 100000 in
theorem k_X4_hasOption (l : Launch) (D : va_G) (C : Nat → ClassId) (sz : Nat) (aR : Nat → Nat)  (rs : Nat → Int32) (ra : Nat → Nat → Int32) (p1 : Int32) {post : Int32 → Prop} (h : P_X4_hasOption rs p1 post) : Met l yX4_hasOption vsX4_hasOption rmX4_hasOption (cPre D C [.ref (aR 0), .int p1] sz (wRail aR C rs ra)) (cQi D (fun (r : Int32) (u : Unit) => post r ) (fun u => wRail aR C rs ra) (va_A (List.flatten (wRail aR C rs ra)) sz)) 0 0 (va_A (List.flatten (wRail aR C rs ra)) sz) := by
  refine cStart (QA := fun A => cQi D (fun (r : Int32) (u : Unit) => post r ) (fun u => wRail aR C rs ra) A) (cc := cX4_hasOption) (maxL := 2) (ret := (some .boolean)) (by decide) (Nat.le_of_ble_eq_true rfl) ?_
  intro p e s m args below meth c A ls hx hb hr hml hown hw hlocks hname hK hN hA hP hD hS hl
  generalize hQ : MQ below _ args s 0 0 A = Q
  have hl : lv_has ls 2 [(0, .ref (aR 0)), (1, .int p1)] := hl
  obtain ⟨H, hH⟩ : ∃ H, H = s.heap := ⟨_, rfl⟩
  obtain ⟨locs, hlo⟩ : ∃ z : List Loc, z = [] := ⟨_, rfl⟩
  have hP : va_P D vwCl (List.flatten (wRail aR C rs ra)) H := by rw [hH]; exact hP
  have hS : va_S A s.heap H locs := by rw [hH, hlo]; exact hS
  rw [show W p l e rmX4_hasOption s m args below meth c s.heap [] 0 0 Q (F0 m 0 ls []) = W p l e rmX4_hasOption s m args below meth c H locs 0 0 Q (F0 m 0 ls []) from by rw [hH, hlo]]
  refine lv_iload_n hx hb dX4_hasOption_0 rfl (lv_at hl 1 rfl) ?_
  refine lv_if_lt (tgt := 16) hx hb dX4_hasOption_1 (by decide) (fun c1 => ?_) (fun c1 => ?_)
  · have h := h.1 c1
    refine lv_iconst (v := 0) hx hb dX4_hasOption_16 (by decide) ?_
    rw [← hQ]
    exact cRetZ (v := 0) () hx hb hr hlocks hS hP hD (Or.inl rfl) h dX4_hasOption_17
  · have h := h.2 c1
    refine lv_iload_n hx hb dX4_hasOption_4 rfl (lv_at hl 1 rfl) ?_
    refine lv_aload_n hx hb dX4_hasOption_5 rfl (lv_at hl 0 rfl) ?_
    refine cGoI (wo := fun u => wRail aR C rs ra) (cRunV (As := []) (rest := [.int p1]) ⟨hx, hb, hml, hown, hw⟩ hK hN hP hD [0, 1, 2, 3, 4, 5] rfl rfl (k_X4_options l D C _ aR  rs ra  h) (cwV 0 hw (goodV mw_4_141 mw_4_143 mw_s66 mw_1_4 mw_4_144) rfl rfl rfl (by decide +kernel) ⟨Nat.le_of_ble_eq_true rfl, Nat.le_of_ble_eq_true rfl⟩) rfl rfl rfl hl.1 rfl (Nat.le_of_ble_eq_true rfl) dX4_hasOption_6 ⟨Nat.zero_le _, Nat.zero_le _⟩) hP hD hS hA [0, 1, 2, 3, 4, 5] [] [0, 1, 2, 3, 4, 5] rfl rfl rfl (by decide) rfl (fun _ => rfl) (fun r2 u H locs h hP hD hS => ?_)
    have hP : va_P D vwCl (List.flatten (wRail aR C rs ra)) H := hP
    have hD : va_D A (List.flatten (wRail aR C rs ra)) := hD
    refine lv_icmp_ge (tgt := 16) hx hb dX4_hasOption_9 (by decide) (fun c3 => ?_) (fun c3 => ?_)
    · have h := h.1 c3
      refine lv_iconst (v := 0) hx hb dX4_hasOption_16 (by decide) ?_
      rw [← hQ]
      exact cRetZ (v := 0) () hx hb hr hlocks hS hP hD (Or.inl rfl) h dX4_hasOption_17
    · have h := h.2 c3
      refine lv_iconst (v := 1) hx hb dX4_hasOption_12 (by decide) ?_
      refine lv_goto (tgt := 17) hx hb dX4_hasOption_13 (by decide) ?_
      rw [← hQ]
      exact cRetZ (v := 1) () hx hb hr hlocks hS hP hD (Or.inr rfl) h dX4_hasOption_17
