abbrev vsX12_isOver : List Cond := Cond.code yX12_isOver cX12_isOver 1 none :: WS
abbrev rmX12_isOver : Room := { frames := 0, cells := 0, slots := 0, locals := 0 }
set_option maxHeartbeats 4000000 in
set_option maxRecDepth 100000 in
theorem k_X12_isOver (l : Launch) (D : va_G) (C : Nat → ClassId) (sz : Nat) (aM : Nat → Nat)  (ms : Nat → Int32) (mw : Nat → Int64) (ma : Nat → Nat → Int32) (ml : Nat → Nat → Int64)  {post : (Nat → Int32) → Prop} (h : P_X12_isOver ms post) : Met l yX12_isOver vsX12_isOver rmX12_isOver (cPre D C [.ref (aM 0)] sz (wM aM C ms mw ma ml)) (cQv D (fun (u : (Nat → Int32)) => post u) (fun u => wM aM C u mw ma ml) (va_A (List.flatten (wM aM C ms mw ma ml)) sz)) 0 0 (va_A (List.flatten (wM aM C ms mw ma ml)) sz) := by
  refine cStart (QA := fun A => cQv D (fun (u : (Nat → Int32)) => post u) (fun u => wM aM C u mw ma ml) A) (cc := cX12_isOver) (maxL := 1) (ret := none) (by decide) (Nat.le_of_ble_eq_true rfl) ?_
  intro p e s m args below meth c A ls hx hb hr hml hown hw hlocks hname hK hN hA hP hD hS hl
  generalize hQ : MQ below _ args s 0 0 A = Q
  have hl : lv_has ls 1 [(0, .ref (aM 0))] := hl
  obtain ⟨H, hH⟩ : ∃ H, H = s.heap := ⟨_, rfl⟩
  obtain ⟨locs, hlo⟩ : ∃ z : List Loc, z = [] := ⟨_, rfl⟩
  have hP : va_P D vwCl (List.flatten (wM aM C ms mw ma ml)) H := by rw [hH]; exact hP
  have hS : va_S A s.heap H locs := by rw [hH, hlo]; exact hS
  rw [show W p l e rmX12_isOver s m args below meth c s.heap [] 0 0 Q (F0 m 0 ls []) = W p l e rmX12_isOver s m args below meth c H locs 0 0 Q (F0 m 0 ls []) from by rw [hH, hlo]]
  refine lv_aload_n hx hb dX12_isOver_0 rfl (lv_at hl 0 rfl) ?_
  refine lv_iconst (v := 0) hx hb dX12_isOver_1 (by decide) ?_
  refine va_put (D := D) (ci := 12) (v := .int 0) (ty := .int) (C := RX12) (T := TX12) (N := 51) hx hb hw inW_X12 tyX12 tyX12_ok nmX12 hown hK hP hD hS 0 rfl rfl 6 (by decide) (hw _ mw_6_49) (fun _ h9 => h9) rfl (by decide +kernel) rfl rfl (Nat.le_of_ble_eq_true rfl) dX12_isOver_2 (fun H locs hP hD hS => ?_)
  refine lv_aload_n hx hb dX12_isOver_5 rfl (lv_at hl 0 rfl) ?_
  refine lv_aload_n hx hb dX12_isOver_6 rfl (lv_at hl 0 rfl) ?_
  refine va_get (D := D) (ci := 12) (v := .int (ms 6)) (C := RX12) (T := TX12) (N := 51) hx hb hw inW_X12 hown hK hP 0 rfl rfl 12 (by decide) (hw _ mw_6_55) (fun _ h9 => h9) rfl dX12_isOver_7 ?_
  refine lv_topi (fun x1 ex1 => ?_)
  have h := h x1 ex1
  refine va_put (D := D) (ci := 12) (v := .int x1) (ty := .int) (C := RX12) (T := TX12) (N := 51) hx hb hw inW_X12 tyX12 tyX12_ok nmX12 hown hK hP hD hS 0 rfl rfl 14 (by decide) (hw _ mw_6_57) (fun _ h9 => h9) rfl (by decide +kernel) rfl rfl (Nat.le_of_ble_eq_true rfl) dX12_isOver_10 (fun H locs hP hD hS => ?_)
  refine lv_aload_n hx hb dX12_isOver_13 rfl (lv_at hl 0 rfl) ?_
  refine lv_aload_n hx hb dX12_isOver_14 rfl (lv_at hl 0 rfl) ?_
  refine va_get (D := D) (ci := 12) (v := .int (ms 6)) (C := RX12) (T := TX12) (N := 51) hx hb hw inW_X12 hown hK hP 0 rfl rfl 12 (by decide) (hw _ mw_6_55) (fun _ h9 => h9) rfl dX12_isOver_15 ?_
  refine lv_if_ne (tgt := 25) hx hb dX12_isOver_18 (by decide) (fun c2 => ?_) (fun c2 => ?_)
  · have h := h.1 c2
    refine lv_aload_n hx hb dX12_isOver_25 rfl (lv_at hl 0 rfl) ?_
    refine va_get (D := D) (ci := 12) (v := .int (ms 7)) (C := RX12) (T := TX12) (N := 51) hx hb hw inW_X12 hown hK hP 0 rfl rfl 13 (by decide) (hw _ mw_6_56) (fun _ h9 => h9) rfl dX12_isOver_26 ?_
    refine lv_topi (fun x3 ex3 => ?_)
    have h := h x3 ex3
    refine va_put (D := D) (ci := 12) (v := .int x3) (ty := .int) (C := RX12) (T := TX12) (N := 51) hx hb hw inW_X12 tyX12 tyX12_ok nmX12 hown hK hP hD hS 0 rfl rfl 15 (by decide) (hw _ mw_6_58) (fun _ h9 => h9) rfl (by decide +kernel) rfl rfl (Nat.le_of_ble_eq_true rfl) dX12_isOver_29 (fun H locs hP hD hS => ?_)
    have hP : va_P D vwCl (List.flatten (wM aM C (va_up (va_up (va_up ms 1 0) 8 x1) 9 x3) mw ma ml)) H := hP
    have hD : va_D A (List.flatten (wM aM C (va_up (va_up (va_up ms 1 0) 8 x1) 9 x3) mw ma ml)) := hD
    rw [← hQ]
    exact cRetV ((va_up (va_up (va_up ms 1 0) 8 x1) 9 x3)) hx hb hr hlocks hS hP hD h dX12_isOver_32
  · have h := h.2 c2
    refine lv_iconst (v := (-1)) hx hb dX12_isOver_21 (by decide) ?_
    refine lv_goto (tgt := 29) hx hb dX12_isOver_22 (by decide) ?_
    refine va_put (D := D) (ci := 12) (v := .int (-1)) (ty := .int) (C := RX12) (T := TX12) (N := 51) hx hb hw inW_X12 tyX12 tyX12_ok nmX12 hown hK hP hD hS 0 rfl rfl 15 (by decide) (hw _ mw_6_58) (fun _ h9 => h9) rfl (by decide +kernel) rfl rfl (Nat.le_of_ble_eq_true rfl) dX12_isOver_29 (fun H locs hP hD hS => ?_)
    have hP : va_P D vwCl (List.flatten (wM aM C (va_up (va_up (va_up ms 1 0) 8 x1) 9 (-1)) mw ma ml)) H := hP
    have hD : va_D A (List.flatten (wM aM C (va_up (va_up (va_up ms 1 0) 8 x1) 9 (-1)) mw ma ml)) := hD
    rw [← hQ]
    exact cRetV ((va_up (va_up (va_up ms 1 0) 8 x1) 9 (-1))) hx hb hr hlocks hS hP hD h dX12_isOver_32
abbrev vsX12_fault : List Cond := Cond.code yX12_fault cX12_fault 2 (some .int) :: WS
abbrev rmX12_fault : Room := { frames := 0, cells := 0, slots := 0, locals := 0 }
set_option maxHeartbeats 4000000 in
set_option maxRecDepth 100000 in
theorem k_X12_fault (l : Launch) (D : va_G) (C : Nat → ClassId) (sz : Nat) (aM : Nat → Nat)  (ms : Nat → Int32) (mw : Nat → Int64) (ma : Nat → Nat → Int32) (ml : Nat → Nat → Int64) (p1 : Int32) {post : Int32 → (Nat → Int32) → Prop} (h : P_X12_fault ms p1 post) : Met l yX12_fault vsX12_fault rmX12_fault (cPre D C [.ref (aM 0), .int p1] sz (wM aM C ms mw ma ml)) (cQi D (fun (r : Int32) (u : (Nat → Int32)) => post r u) (fun u => wM aM C u mw ma ml) (va_A (List.flatten (wM aM C ms mw ma ml)) sz)) 0 0 (va_A (List.flatten (wM aM C ms mw ma ml)) sz) := by
  refine cStart (QA := fun A => cQi D (fun (r : Int32) (u : (Nat → Int32)) => post r u) (fun u => wM aM C u mw ma ml) A) (cc := cX12_fault) (maxL := 2) (ret := (some .int)) (by decide) (Nat.le_of_ble_eq_true rfl) ?_
  intro p e s m args below meth c A ls hx hb hr hml hown hw hlocks hname hK hN hA hP hD hS hl
  generalize hQ : MQ below _ args s 0 0 A = Q
  have hl : lv_has ls 2 [(0, .ref (aM 0)), (1, .int p1)] := hl
  obtain ⟨H, hH⟩ : ∃ H, H = s.heap := ⟨_, rfl⟩
  obtain ⟨locs, hlo⟩ : ∃ z : List Loc, z = [] := ⟨_, rfl⟩
  have hP : va_P D vwCl (List.flatten (wM aM C ms mw ma ml)) H := by rw [hH]; exact hP
  have hS : va_S A s.heap H locs := by rw [hH, hlo]; exact hS
  rw [show W p l e rmX12_fault s m args below meth c s.heap [] 0 0 Q (F0 m 0 ls []) = W p l e rmX12_fault s m args below meth c H locs 0 0 Q (F0 m 0 ls []) from by rw [hH, hlo]]
  refine lv_aload_n hx hb dX12_fault_0 rfl (lv_at hl 0 rfl) ?_
  refine lv_iconst (v := 0) hx hb dX12_fault_1 (by decide) ?_
  refine va_put (D := D) (ci := 12) (v := .int 0) (ty := .int) (C := RX12) (T := TX12) (N := 51) hx hb hw inW_X12 tyX12 tyX12_ok nmX12 hown hK hP hD hS 0 rfl rfl 0 (by decide) (hw _ mw_6_43) (fun _ h9 => h9) rfl (by decide +kernel) rfl rfl (Nat.le_of_ble_eq_true rfl) dX12_fault_2 (fun H locs hP hD hS => ?_)
  refine lv_iload_n hx hb dX12_fault_5 rfl (lv_at hl 1 rfl) ?_
  refine lv_if_ne (tgt := 16) hx hb dX12_fault_6 (by decide) (fun c1 => ?_) (fun c1 => ?_)
  · have h := h.1 c1
    refine lv_iload_n hx hb dX12_fault_16 rfl (lv_at hl 1 rfl) ?_
    refine lv_iconst (v := 1) hx hb dX12_fault_17 (by decide) ?_
    refine lv_icmp_ne (tgt := 28) hx hb dX12_fault_18 (by decide) (fun c2 => ?_) (fun c2 => ?_)
    · have h := h.1 c2
      refine lv_iconst (v := (-1)) hx hb dX12_fault_28 (by decide) ?_
      have hP : va_P D vwCl (List.flatten (wM aM C (va_up ms 0 0) mw ma ml)) H := hP
      have hD : va_D A (List.flatten (wM aM C (va_up ms 0 0) mw ma ml)) := hD
      rw [← hQ]
      exact cRetI (v := (-1)) ((va_up ms 0 0)) hx hb hr hlocks hS hP hD h dX12_fault_29
    · have h := h.2 c2
      refine lv_aload_n hx hb dX12_fault_21 rfl (lv_at hl 0 rfl) ?_
      refine va_get (D := D) (ci := 12) (v := .int (ms 9)) (C := RX12) (T := TX12) (N := 51) hx hb hw inW_X12 hown hK hP 0 rfl rfl 15 (by decide) (hw _ mw_6_58) (fun _ h9 => h9) rfl dX12_fault_22 ?_
      refine lv_goto (tgt := 29) hx hb dX12_fault_25 (by decide) ?_
      have hP : va_P D vwCl (List.flatten (wM aM C (va_up ms 0 0) mw ma ml)) H := hP
      have hD : va_D A (List.flatten (wM aM C (va_up ms 0 0) mw ma ml)) := hD
      rw [← hQ]
      exact cRetI (v := (ms 9)) ((va_up ms 0 0)) hx hb hr hlocks hS hP hD h dX12_fault_29
  · have h := h.2 c1
    refine lv_aload_n hx hb dX12_fault_9 rfl (lv_at hl 0 rfl) ?_
    refine va_get (D := D) (ci := 12) (v := .int (ms 8)) (C := RX12) (T := TX12) (N := 51) hx hb hw inW_X12 hown hK hP 0 rfl rfl 14 (by decide) (hw _ mw_6_57) (fun _ h9 => h9) rfl dX12_fault_10 ?_
    refine lv_goto (tgt := 29) hx hb dX12_fault_13 (by decide) ?_
    have hP : va_P D vwCl (List.flatten (wM aM C (va_up ms 0 0) mw ma ml)) H := hP
    have hD : va_D A (List.flatten (wM aM C (va_up ms 0 0) mw ma ml)) := hD
    rw [← hQ]
    exact cRetI (v := (ms 8)) ((va_up ms 0 0)) hx hb hr hlocks hS hP hD h dX12_fault_29
abbrev vsX12_onceLine : List Cond := Cond.code yX12_onceLine cX12_onceLine 3 none :: WS
abbrev rmX12_onceLine : Room := { frames := 5, cells := 0, slots := 0, locals := 112 }
set_option maxHeartbeats 4000000 in
set_option maxRecDepth 100000 in
theorem k_X12_onceLine (l : Launch) (D : va_G) (C : Nat → ClassId) (sz : Nat) (aM : Nat → Nat)  (ms : Nat → Int32) (mw : Nat → Int64) (ma : Nat → Nat → Int32) (ml : Nat → Nat → Int64) (p1 : Int32) {post : (Nat → Int32) → (Nat → Int64) → (Nat → Nat → Int32) → Prop} (h : P_X12_onceLine ms mw ma p1 post) : Met l yX12_onceLine vsX12_onceLine rmX12_onceLine (cPre D C [.ref (aM 0), .int p1] sz (wM aM C ms mw ma ml)) (cQv D (fun (u : (Nat → Int32) × (Nat → Int64) × (Nat → Nat → Int32)) => post u.1 u.2.1 u.2.2) (fun u => wM aM C u.1 u.2.1 u.2.2 ml) (va_A (List.flatten (wM aM C ms mw ma ml)) sz)) 0 0 (va_A (List.flatten (wM aM C ms mw ma ml)) sz) := by
  refine cStart (QA := fun A => cQv D (fun (u : (Nat → Int32) × (Nat → Int64) × (Nat → Nat → Int32)) => post u.1 u.2.1 u.2.2) (fun u => wM aM C u.1 u.2.1 u.2.2 ml) A) (cc := cX12_onceLine) (maxL := 3) (ret := none) (by decide) (Nat.le_of_ble_eq_true rfl) ?_
  intro p e s m args below meth c A ls hx hb hr hml hown hw hlocks hname hK hN hA hP hD hS hl
  generalize hQ : MQ below _ args s 0 0 A = Q
  have hl : lv_has ls 3 [(0, .ref (aM 0)), (1, .int p1)] := hl
  obtain ⟨H, hH⟩ : ∃ H, H = s.heap := ⟨_, rfl⟩
  obtain ⟨locs, hlo⟩ : ∃ z : List Loc, z = [] := ⟨_, rfl⟩
  have hP : va_P D vwCl (List.flatten (wM aM C ms mw ma ml)) H := by rw [hH]; exact hP
  have hS : va_S A s.heap H locs := by rw [hH, hlo]; exact hS
  rw [show W p l e rmX12_onceLine s m args below meth c s.heap [] 0 0 Q (F0 m 0 ls []) = W p l e rmX12_onceLine s m args below meth c H locs 0 0 Q (F0 m 0 ls []) from by rw [hH, hlo]]
  have N17 : ∀ (ms : Nat → Int32) (mw : Nat → Int64) (ma : Nat → Nat → Int32) (H : Heap) (locs : List Loc) (ls : Array Slot), P_X12_onceLine_17 p1 post  ms mw ma → va_P D vwCl (List.flatten (wM aM C ms mw ma ml)) H → va_D A (List.flatten (wM aM C ms mw ma ml)) → va_S A s.heap H locs → lv_has ls 3 [(0, .ref (aM 0)), (1, .int p1)] → W p l e rmX12_onceLine s m args below meth c H locs 0 0 Q (F0 m 17 ls []) := by
    intro ms mw ma H locs ls h hP hD hS hl
    refine lv_aload_n hx hb dX12_onceLine_17 rfl (lv_at hl 0 rfl) ?_
    refine va_get (D := D) (ci := 12) (v := .int (ms 6)) (C := RX12) (T := TX12) (N := 51) hx hb hw inW_X12 hown hK hP 0 rfl rfl 12 (by decide) (hw _ mw_6_55) (fun _ h9 => h9) rfl dX12_onceLine_18 ?_
    refine lv_if_eq (tgt := 25) hx hb dX12_onceLine_21 (by decide) (fun c1 => ?_) (fun c1 => ?_)
    · have h := h.1 c1
      refine lv_aload_n hx hb dX12_onceLine_25 rfl (lv_at hl 0 rfl) ?_
      refine cGoV (wo := fun u => wM aM C u.1 u.2 ma ml) (cRunV (As := []) (rest := []) ⟨hx, hb, hml, hown, hw⟩ hK hN hP hD [0, 1, 2, 3, 4, 5, 6, 7, 8, 9, 10, 11, 12, 13, 14, 15, 16, 17, 18, 19, 20, 21, 22, 23, 24, 25, 26, 27, 28, 29, 30, 31, 32] rfl rfl (k_X12_next l D C _ aM  ms mw ma ml  h) (cwV 0 hw (goodV mw_7_7 mw_7_9 mw_s111 mw_1_13 mw_7_10) rfl rfl rfl (by decide +kernel) ⟨Nat.le_of_ble_eq_true rfl, Nat.le_of_ble_eq_true rfl⟩) rfl rfl rfl hl.1 rfl (Nat.le_of_ble_eq_true rfl) dX12_onceLine_26 ⟨Nat.zero_le _, Nat.zero_le _⟩) hP hD hS hA [0, 1, 2, 3, 4, 5, 6, 7, 8, 9, 10, 11, 12, 13, 14, 15, 16, 17, 18, 19, 20, 21, 22, 23, 24, 25, 26, 27, 28, 29, 30, 31, 32] [] [0, 1, 2, 3, 4, 5, 6, 7, 8, 9, 10, 11, 12, 13, 14, 15, 16, 17, 18, 19, 20, 21, 22, 23, 24, 25, 26, 27, 28, 29, 30, 31, 32] rfl rfl rfl (by decide) rfl (fun _ => rfl) (fun u H locs h hP hD hS => ?_)
      obtain ⟨ms_2, mw_3⟩ := u
      have hP : va_P D vwCl (List.flatten (wM aM C ms_2 mw_3 ma ml)) H := hP
      have hD : va_D A (List.flatten (wM aM C ms_2 mw_3 ma ml)) := hD
      refine lv_aload_n hx hb dX12_onceLine_29 rfl (lv_at hl 0 rfl) ?_
      refine va_get (D := D) (ci := 12) (v := .ref (aM 18)) (C := RX12) (T := TX12) (N := 51) hx hb hw inW_X12 hown hK hP 0 rfl rfl 28 (by decide) (hw _ mw_6_71) (fun _ h9 => h9) rfl dX12_onceLine_30 ?_
      refine lv_bipush (v := 8) hx hb dX12_onceLine_33 (by decide) ?_
      refine lv_iload_n hx hb dX12_onceLine_35 rfl (lv_at hl 1 rfl) ?_
      refine lv_iadd hx hb dX12_onceLine_36 ?_
      refine lv_iconst (v := 1) hx hb dX12_onceLine_37 (by decide) ?_
      refine cZast hx hb hK hP hD hS 18 3 rfl rfl ((8 + p1).toNatClampNeg) rfl h.1 (Or.inr rfl) dX12_onceLine_38 (fun H locs hP hD hS => ?_)
      have h := h.2
      refine lv_bipush (v := 28) hx hb dX12_onceLine_39 (by decide) ?_
      refine lv_istore_n (lv' := [(2, .int 28), (0, .ref (aM 0)), (1, .int p1)]) hx hb dX12_onceLine_41 rfl hl (by decide) rfl (fun ls hl => ?_)
      refine lv_iload_n hx hb dX12_onceLine_42 rfl (lv_at hl 2 rfl) ?_
      refine lv_if_ne (tgt := 109) hx hb dX12_onceLine_43 (by decide) (fun c4 => ?_) (fun c4 => ?_)
      · have h := h.1 c4
        refine lv_aload_n hx hb dX12_onceLine_109 rfl (lv_at hl 1 rfl) ?_
        refine va_get (D := D) (ci := 12) (v := .ref (aM 17)) (C := RX12) (T := TX12) (N := 51) hx hb hw inW_X12 hown hK hP 0 rfl rfl 27 (by decide) (hw _ mw_6_70) (fun _ h9 => h9) rfl dX12_onceLine_110 ?_
        refine lv_iload_n hx hb dX12_onceLine_113 rfl (lv_at hl 0 rfl) ?_
        refine lv_iconst (v := 4) hx hb dX12_onceLine_114 (by decide) ?_
        refine lv_iadd hx hb dX12_onceLine_115 ?_
        refine cLitI (y := 32) (by decide) ?_
        refine lv_aload_n hx hb dX12_onceLine_116 rfl (lv_at hl 1 rfl) ?_
        refine lv_ldc2 (v := 453632) hx hb hown (hw _ mw_7_68) dX12_onceLine_117 ?_
        refine lv_iconst (v := 0) hx hb dX12_onceLine_120 (by decide) ?_
        refine lv_sipush (v := 999) hx hb dX12_onceLine_121 (by decide) ?_
        have hP : va_P D vwCl (List.flatten (wM aM C ms_2 mw_3 (va_up ma 15 (upd (ma 15) ((8 + p1).toNatClampNeg) 1)) ml)) H := hP
        have hD : va_D A (List.flatten (wM aM C ms_2 mw_3 (va_up ma 15 (upd (ma 15) ((8 + p1).toNatClampNeg) 1)) ml)) := hD
        refine cGoI (wo := fun u => wM aM C u.1 u.2 (va_up ma 15 (upd (ma 15) ((8 + p1).toNatClampNeg) 1)) ml) (cRunV (As := [.long 453632, .int 0, .int 999]) (rest := [.int 32, .ref (aM 17)]) ⟨hx, hb, hml, hown, hw⟩ hK hN hP hD [0, 1, 2, 3, 4, 5, 6, 7, 8, 9, 10, 11, 12, 13, 14, 15, 16, 17, 18, 19, 20, 21, 22, 23, 24, 25, 26, 27, 28, 29, 30, 31, 32] rfl rfl (k_X12_number_ l D C _ aM  ms_2 mw_3 (va_up ma 15 (upd (ma 15) ((8 + p1).toNatClampNeg) 1)) ml 453632 0 999 h) (cwV 3 hw (goodV mw_7_46 mw_7_48 mw_s119 mw_1_13 mw_7_49) rfl rfl rfl (by decide +kernel) ⟨Nat.le_of_ble_eq_true rfl, Nat.le_of_ble_eq_true rfl⟩) rfl rfl rfl hl.1 rfl (Nat.le_of_ble_eq_true rfl) dX12_onceLine_124 ⟨Nat.zero_le _, Nat.zero_le _⟩) hP hD hS hA [0, 1, 2, 3, 4, 5, 6, 7, 8, 9, 10, 11, 12, 13, 14, 15, 16, 17, 18, 19, 20, 21, 22, 23, 24, 25, 26, 27, 28, 29, 30, 31, 32] [] [0, 1, 2, 3, 4, 5, 6, 7, 8, 9, 10, 11, 12, 13, 14, 15, 16, 17, 18, 19, 20, 21, 22, 23, 24, 25, 26, 27, 28, 29, 30, 31, 32] rfl rfl rfl (by decide) rfl (fun _ => rfl) (fun r7 u H locs h hP hD hS => ?_)
        obtain ⟨ms_5, mw_6⟩ := u
        have hP : va_P D vwCl (List.flatten (wM aM C ms_5 mw_6 (va_up ma 15 (upd (ma 15) ((8 + p1).toNatClampNeg) 1)) ml)) H := hP
        have hD : va_D A (List.flatten (wM aM C ms_5 mw_6 (va_up ma 15 (upd (ma 15) ((8 + p1).toNatClampNeg) 1)) ml)) := hD
        refine cIast hx hb hK hP hD hS 17 0 rfl rfl 32 (by decide +kernel) (cIn (by decide +kernel)) dX12_onceLine_127 (fun H locs hP hD hS => ?_)
        refine lv_aload_n hx hb dX12_onceLine_128 rfl (lv_at hl 1 rfl) ?_
        refine va_get (D := D) (ci := 12) (v := .ref (aM 17)) (C := RX12) (T := TX12) (N := 51) hx hb hw inW_X12 hown hK hP 0 rfl rfl 27 (by decide) (hw _ mw_6_70) (fun _ h9 => h9) rfl dX12_onceLine_129 ?_
        refine lv_iload_n hx hb dX12_onceLine_132 rfl (lv_at hl 0 rfl) ?_
        refine lv_iconst (v := 5) hx hb dX12_onceLine_133 (by decide) ?_
        refine lv_iadd hx hb dX12_onceLine_134 ?_
        refine cLitI (y := 33) (by decide) ?_
        refine lv_aload_n hx hb dX12_onceLine_135 rfl (lv_at hl 1 rfl) ?_
        refine lv_ldc2 (v := 22726) hx hb hown (hw _ mw_7_69) dX12_onceLine_136 ?_
        refine lv_iconst (v := 0) hx hb dX12_onceLine_139 (by decide) ?_
        refine lv_bipush (v := 99) hx hb dX12_onceLine_140 (by decide) ?_
        have hP : va_P D vwCl (List.flatten (wM aM C ms_5 mw_6 (va_up (va_up ma 14 (upd (ma 14) 32 r7)) 15 (upd (ma 15) ((8 + p1).toNatClampNeg) 1)) ml)) H := hP
        have hD : va_D A (List.flatten (wM aM C ms_5 mw_6 (va_up (va_up ma 14 (upd (ma 14) 32 r7)) 15 (upd (ma 15) ((8 + p1).toNatClampNeg) 1)) ml)) := hD
        refine cGoI (wo := fun u => wM aM C u.1 u.2 (va_up (va_up ma 14 (upd (ma 14) 32 r7)) 15 (upd (ma 15) ((8 + p1).toNatClampNeg) 1)) ml) (cRunV (As := [.long 22726, .int 0, .int 99]) (rest := [.int 33, .ref (aM 17)]) ⟨hx, hb, hml, hown, hw⟩ hK hN hP hD [0, 1, 2, 3, 4, 5, 6, 7, 8, 9, 10, 11, 12, 13, 14, 15, 16, 17, 18, 19, 20, 21, 22, 23, 24, 25, 26, 27, 28, 29, 30, 31, 32] rfl rfl (k_X12_number_ l D C _ aM  ms_5 mw_6 (va_up (va_up ma 14 (upd (ma 14) 32 r7)) 15 (upd (ma 15) ((8 + p1).toNatClampNeg) 1)) ml 22726 0 99 h) (cwV 3 hw (goodV mw_7_46 mw_7_48 mw_s119 mw_1_13 mw_7_49) rfl rfl rfl (by decide +kernel) ⟨Nat.le_of_ble_eq_true rfl, Nat.le_of_ble_eq_true rfl⟩) rfl rfl rfl hl.1 rfl (Nat.le_of_ble_eq_true rfl) dX12_onceLine_142 ⟨Nat.zero_le _, Nat.zero_le _⟩) hP hD hS hA [0, 1, 2, 3, 4, 5, 6, 7, 8, 9, 10, 11, 12, 13, 14, 15, 16, 17, 18, 19, 20, 21, 22, 23, 24, 25, 26, 27, 28, 29, 30, 31, 32] [] [0, 1, 2, 3, 4, 5, 6, 7, 8, 9, 10, 11, 12, 13, 14, 15, 16, 17, 18, 19, 20, 21, 22, 23, 24, 25, 26, 27, 28, 29, 30, 31, 32] rfl rfl rfl (by decide) rfl (fun _ => rfl) (fun r10 u H locs h hP hD hS => ?_)
        obtain ⟨ms_8, mw_9⟩ := u
        have hP : va_P D vwCl (List.flatten (wM aM C ms_8 mw_9 (va_up (va_up ma 14 (upd (ma 14) 32 r7)) 15 (upd (ma 15) ((8 + p1).toNatClampNeg) 1)) ml)) H := hP
        have hD : va_D A (List.flatten (wM aM C ms_8 mw_9 (va_up (va_up ma 14 (upd (ma 14) 32 r7)) 15 (upd (ma 15) ((8 + p1).toNatClampNeg) 1)) ml)) := hD
        refine cIast hx hb hK hP hD hS 17 0 rfl rfl 33 (by decide +kernel) (cIn (by decide +kernel)) dX12_onceLine_145 (fun H locs hP hD hS => ?_)
        refine lv_aload_n hx hb dX12_onceLine_146 rfl (lv_at hl 1 rfl) ?_
        refine va_get (D := D) (ci := 12) (v := .ref (aM 17)) (C := RX12) (T := TX12) (N := 51) hx hb hw inW_X12 hown hK hP 0 rfl rfl 27 (by decide) (hw _ mw_6_70) (fun _ h9 => h9) rfl dX12_onceLine_147 ?_
        refine lv_iload_n hx hb dX12_onceLine_150 rfl (lv_at hl 0 rfl) ?_
        refine lv_iconst (v := 3) hx hb dX12_onceLine_151 (by decide) ?_
        refine lv_iadd hx hb dX12_onceLine_152 ?_
        refine cLitI (y := 31) (by decide) ?_
        refine lv_iconst (v := 1) hx hb dX12_onceLine_153 (by decide) ?_
        refine cIast hx hb hK hP hD hS 17 0 rfl rfl 31 (by decide +kernel) (cIn (by decide +kernel)) dX12_onceLine_154 (fun H locs hP hD hS => ?_)
        have hP : va_P D vwCl (List.flatten (wM aM C ms_8 mw_9 (va_up (va_up ma 14 (upd (upd (upd (ma 14) 32 r7) 33 r10) 31 1)) 15 (upd (ma 15) ((8 + p1).toNatClampNeg) 1)) ml)) H := hP
        have hD : va_D A (List.flatten (wM aM C ms_8 mw_9 (va_up (va_up ma 14 (upd (upd (upd (ma 14) 32 r7) 33 r10) 31 1)) 15 (upd (ma 15) ((8 + p1).toNatClampNeg) 1)) ml)) := hD
        rw [← hQ]
        exact cRetV (ms_8, mw_9, (va_up (va_up ma 14 (upd (upd (upd (ma 14) 32 r7) 33 r10) 31 1)) 15 (upd (ma 15) ((8 + p1).toNatClampNeg) 1))) hx hb hr hlocks hS hP hD h dX12_onceLine_155
      · have h := h.2 c4
        refine lv_aload_n hx hb dX12_onceLine_46 rfl (lv_at hl 1 rfl) ?_
        refine va_get (D := D) (ci := 12) (v := .ref (aM 17)) (C := RX12) (T := TX12) (N := 51) hx hb hw inW_X12 hown hK hP 0 rfl rfl 27 (by decide) (hw _ mw_6_70) (fun _ h9 => h9) rfl dX12_onceLine_47 ?_
        refine lv_iload_n hx hb dX12_onceLine_50 rfl (lv_at hl 0 rfl) ?_
        refine lv_iconst (v := 0) hx hb dX12_onceLine_51 (by decide) ?_
        refine lv_iadd hx hb dX12_onceLine_52 ?_
        refine cLitI (y := 28) (by decide) ?_
        refine lv_aload_n hx hb dX12_onceLine_53 rfl (lv_at hl 1 rfl) ?_
        refine lv_ldc2 (v := 8863997) hx hb hown (hw _ mw_7_65) dX12_onceLine_54 ?_
        refine lv_iconst (v := 0) hx hb dX12_onceLine_57 (by decide) ?_
        refine lv_sipush (v := 999) hx hb dX12_onceLine_58 (by decide) ?_
        have hP : va_P D vwCl (List.flatten (wM aM C ms_2 mw_3 (va_up ma 15 (upd (ma 15) ((8 + p1).toNatClampNeg) 1)) ml)) H := hP
        have hD : va_D A (List.flatten (wM aM C ms_2 mw_3 (va_up ma 15 (upd (ma 15) ((8 + p1).toNatClampNeg) 1)) ml)) := hD
        refine cGoI (wo := fun u => wM aM C u.1 u.2 (va_up ma 15 (upd (ma 15) ((8 + p1).toNatClampNeg) 1)) ml) (cRunV (As := [.long 8863997, .int 0, .int 999]) (rest := [.int 28, .ref (aM 17)]) ⟨hx, hb, hml, hown, hw⟩ hK hN hP hD [0, 1, 2, 3, 4, 5, 6, 7, 8, 9, 10, 11, 12, 13, 14, 15, 16, 17, 18, 19, 20, 21, 22, 23, 24, 25, 26, 27, 28, 29, 30, 31, 32] rfl rfl (k_X12_number_ l D C _ aM  ms_2 mw_3 (va_up ma 15 (upd (ma 15) ((8 + p1).toNatClampNeg) 1)) ml 8863997 0 999 h) (cwV 3 hw (goodV mw_7_46 mw_7_48 mw_s119 mw_1_13 mw_7_49) rfl rfl rfl (by decide +kernel) ⟨Nat.le_of_ble_eq_true rfl, Nat.le_of_ble_eq_true rfl⟩) rfl rfl rfl hl.1 rfl (Nat.le_of_ble_eq_true rfl) dX12_onceLine_61 ⟨Nat.zero_le _, Nat.zero_le _⟩) hP hD hS hA [0, 1, 2, 3, 4, 5, 6, 7, 8, 9, 10, 11, 12, 13, 14, 15, 16, 17, 18, 19, 20, 21, 22, 23, 24, 25, 26, 27, 28, 29, 30, 31, 32] [] [0, 1, 2, 3, 4, 5, 6, 7, 8, 9, 10, 11, 12, 13, 14, 15, 16, 17, 18, 19, 20, 21, 22, 23, 24, 25, 26, 27, 28, 29, 30, 31, 32] rfl rfl rfl (by decide) rfl (fun _ => rfl) (fun r13 u H locs h hP hD hS => ?_)
        obtain ⟨ms_11, mw_12⟩ := u
        have hP : va_P D vwCl (List.flatten (wM aM C ms_11 mw_12 (va_up ma 15 (upd (ma 15) ((8 + p1).toNatClampNeg) 1)) ml)) H := hP
        have hD : va_D A (List.flatten (wM aM C ms_11 mw_12 (va_up ma 15 (upd (ma 15) ((8 + p1).toNatClampNeg) 1)) ml)) := hD
        refine cIast hx hb hK hP hD hS 17 0 rfl rfl 28 (by decide +kernel) (cIn (by decide +kernel)) dX12_onceLine_64 (fun H locs hP hD hS => ?_)
        refine lv_aload_n hx hb dX12_onceLine_65 rfl (lv_at hl 1 rfl) ?_
        refine va_get (D := D) (ci := 12) (v := .ref (aM 17)) (C := RX12) (T := TX12) (N := 51) hx hb hw inW_X12 hown hK hP 0 rfl rfl 27 (by decide) (hw _ mw_6_70) (fun _ h9 => h9) rfl dX12_onceLine_66 ?_
        refine lv_iload_n hx hb dX12_onceLine_69 rfl (lv_at hl 0 rfl) ?_
        refine lv_iconst (v := 1) hx hb dX12_onceLine_70 (by decide) ?_
        refine lv_iadd hx hb dX12_onceLine_71 ?_
        refine cLitI (y := 29) (by decide) ?_
        refine lv_aload_n hx hb dX12_onceLine_72 rfl (lv_at hl 1 rfl) ?_
        refine lv_ldc2 (v := 6132983) hx hb hown (hw _ mw_7_66) dX12_onceLine_73 ?_
        refine lv_iconst (v := 0) hx hb dX12_onceLine_76 (by decide) ?_
        refine lv_bipush (v := 100) hx hb dX12_onceLine_77 (by decide) ?_
        have hP : va_P D vwCl (List.flatten (wM aM C ms_11 mw_12 (va_up (va_up ma 14 (upd (ma 14) 28 r13)) 15 (upd (ma 15) ((8 + p1).toNatClampNeg) 1)) ml)) H := hP
        have hD : va_D A (List.flatten (wM aM C ms_11 mw_12 (va_up (va_up ma 14 (upd (ma 14) 28 r13)) 15 (upd (ma 15) ((8 + p1).toNatClampNeg) 1)) ml)) := hD
        refine cGoI (wo := fun u => wM aM C u.1 u.2 (va_up (va_up ma 14 (upd (ma 14) 28 r13)) 15 (upd (ma 15) ((8 + p1).toNatClampNeg) 1)) ml) (cRunV (As := [.long 6132983, .int 0, .int 100]) (rest := [.int 29, .ref (aM 17)]) ⟨hx, hb, hml, hown, hw⟩ hK hN hP hD [0, 1, 2, 3, 4, 5, 6, 7, 8, 9, 10, 11, 12, 13, 14, 15, 16, 17, 18, 19, 20, 21, 22, 23, 24, 25, 26, 27, 28, 29, 30, 31, 32] rfl rfl (k_X12_number_ l D C _ aM  ms_11 mw_12 (va_up (va_up ma 14 (upd (ma 14) 28 r13)) 15 (upd (ma 15) ((8 + p1).toNatClampNeg) 1)) ml 6132983 0 100 h) (cwV 3 hw (goodV mw_7_46 mw_7_48 mw_s119 mw_1_13 mw_7_49) rfl rfl rfl (by decide +kernel) ⟨Nat.le_of_ble_eq_true rfl, Nat.le_of_ble_eq_true rfl⟩) rfl rfl rfl hl.1 rfl (Nat.le_of_ble_eq_true rfl) dX12_onceLine_79 ⟨Nat.zero_le _, Nat.zero_le _⟩) hP hD hS hA [0, 1, 2, 3, 4, 5, 6, 7, 8, 9, 10, 11, 12, 13, 14, 15, 16, 17, 18, 19, 20, 21, 22, 23, 24, 25, 26, 27, 28, 29, 30, 31, 32] [] [0, 1, 2, 3, 4, 5, 6, 7, 8, 9, 10, 11, 12, 13, 14, 15, 16, 17, 18, 19, 20, 21, 22, 23, 24, 25, 26, 27, 28, 29, 30, 31, 32] rfl rfl rfl (by decide) rfl (fun _ => rfl) (fun r16 u H locs h hP hD hS => ?_)
        obtain ⟨ms_14, mw_15⟩ := u
        have hP : va_P D vwCl (List.flatten (wM aM C ms_14 mw_15 (va_up (va_up ma 14 (upd (ma 14) 28 r13)) 15 (upd (ma 15) ((8 + p1).toNatClampNeg) 1)) ml)) H := hP
        have hD : va_D A (List.flatten (wM aM C ms_14 mw_15 (va_up (va_up ma 14 (upd (ma 14) 28 r13)) 15 (upd (ma 15) ((8 + p1).toNatClampNeg) 1)) ml)) := hD
        refine cIast hx hb hK hP hD hS 17 0 rfl rfl 29 (by decide +kernel) (cIn (by decide +kernel)) dX12_onceLine_82 (fun H locs hP hD hS => ?_)
        refine lv_aload_n hx hb dX12_onceLine_83 rfl (lv_at hl 1 rfl) ?_
        refine va_get (D := D) (ci := 12) (v := .ref (aM 17)) (C := RX12) (T := TX12) (N := 51) hx hb hw inW_X12 hown hK hP 0 rfl rfl 27 (by decide) (hw _ mw_6_70) (fun _ h9 => h9) rfl dX12_onceLine_84 ?_
        refine lv_iload_n hx hb dX12_onceLine_87 rfl (lv_at hl 0 rfl) ?_
        refine lv_iconst (v := 2) hx hb dX12_onceLine_88 (by decide) ?_
        refine lv_iadd hx hb dX12_onceLine_89 ?_
        refine cLitI (y := 30) (by decide) ?_
        refine lv_aload_n hx hb dX12_onceLine_90 rfl (lv_at hl 1 rfl) ?_
        refine lv_ldc2 (v := 119656022) hx hb hown (hw _ mw_7_67) dX12_onceLine_91 ?_
        have hP : va_P D vwCl (List.flatten (wM aM C ms_14 mw_15 (va_up (va_up ma 14 (upd (upd (ma 14) 28 r13) 29 r16)) 15 (upd (ma 15) ((8 + p1).toNatClampNeg) 1)) ml)) H := hP
        have hD : va_D A (List.flatten (wM aM C ms_14 mw_15 (va_up (va_up ma 14 (upd (upd (ma 14) 28 r13) 29 r16)) 15 (upd (ma 15) ((8 + p1).toNatClampNeg) 1)) ml)) := hD
        refine cGoI (wo := fun u => wM aM C u.1 u.2 (va_up (va_up ma 14 (upd (upd (ma 14) 28 r13) 29 r16)) 15 (upd (ma 15) ((8 + p1).toNatClampNeg) 1)) ml) (cRunV (As := [.long 119656022]) (rest := [.int 30, .ref (aM 17)]) ⟨hx, hb, hml, hown, hw⟩ hK hN hP hD [0, 1, 2, 3, 4, 5, 6, 7, 8, 9, 10, 11, 12, 13, 14, 15, 16, 17, 18, 19, 20, 21, 22, 23, 24, 25, 26, 27, 28, 29, 30, 31, 32] rfl rfl (k_X12_takes l D C _ aM  ms_14 mw_15 (va_up (va_up ma 14 (upd (upd (ma 14) 28 r13) 29 r16)) 15 (upd (ma 15) ((8 + p1).toNatClampNeg) 1)) ml 119656022 h) (cwV 1 hw (goodV mw_7_33 mw_7_35 mw_s116 mw_1_13 mw_7_36) rfl rfl rfl (by decide +kernel) ⟨Nat.le_of_ble_eq_true rfl, Nat.le_of_ble_eq_true rfl⟩) rfl rfl rfl hl.1 rfl (Nat.le_of_ble_eq_true rfl) dX12_onceLine_94 ⟨Nat.zero_le _, Nat.zero_le _⟩) hP hD hS hA [0, 1, 2, 3, 4, 5, 6, 7, 8, 9, 10, 11, 12, 13, 14, 15, 16, 17, 18, 19, 20, 21, 22, 23, 24, 25, 26, 27, 28, 29, 30, 31, 32] [] [0, 1, 2, 3, 4, 5, 6, 7, 8, 9, 10, 11, 12, 13, 14, 15, 16, 17, 18, 19, 20, 21, 22, 23, 24, 25, 26, 27, 28, 29, 30, 31, 32] rfl rfl rfl (by decide) rfl (fun _ => rfl) (fun r19 u H locs h hP hD hS => ?_)
        obtain ⟨ms_17, mw_18⟩ := u
        have hP : va_P D vwCl (List.flatten (wM aM C ms_17 mw_18 (va_up (va_up ma 14 (upd (upd (ma 14) 28 r13) 29 r16)) 15 (upd (ma 15) ((8 + p1).toNatClampNeg) 1)) ml)) H := hP
        have hD : va_D A (List.flatten (wM aM C ms_17 mw_18 (va_up (va_up ma 14 (upd (upd (ma 14) 28 r13) 29 r16)) 15 (upd (ma 15) ((8 + p1).toNatClampNeg) 1)) ml)) := hD
        refine lv_if_eq (tgt := 104) hx hb dX12_onceLine_97 (by decide) (fun c20 => ?_) (fun c20 => ?_)
        · have h := h.1 c20
          refine lv_iconst (v := 0) hx hb dX12_onceLine_104 (by decide) ?_
          refine cIast hx hb hK hP hD hS 17 0 rfl rfl 30 (by decide +kernel) (cIn (by decide +kernel)) dX12_onceLine_105 (fun H locs hP hD hS => ?_)
          refine lv_goto (tgt := 155) hx hb dX12_onceLine_106 (by decide) ?_
          have hP : va_P D vwCl (List.flatten (wM aM C ms_17 mw_18 (va_up (va_up ma 14 (upd (upd (upd (ma 14) 28 r13) 29 r16) 30 0)) 15 (upd (ma 15) ((8 + p1).toNatClampNeg) 1)) ml)) H := hP
          have hD : va_D A (List.flatten (wM aM C ms_17 mw_18 (va_up (va_up ma 14 (upd (upd (upd (ma 14) 28 r13) 29 r16) 30 0)) 15 (upd (ma 15) ((8 + p1).toNatClampNeg) 1)) ml)) := hD
          rw [← hQ]
          exact cRetV (ms_17, mw_18, (va_up (va_up ma 14 (upd (upd (upd (ma 14) 28 r13) 29 r16) 30 0)) 15 (upd (ma 15) ((8 + p1).toNatClampNeg) 1))) hx hb hr hlocks hS hP hD h dX12_onceLine_155
        · have h := h.2 c20
          refine lv_iconst (v := 1) hx hb dX12_onceLine_100 (by decide) ?_
          refine lv_goto (tgt := 105) hx hb dX12_onceLine_101 (by decide) ?_
          refine cIast hx hb hK hP hD hS 17 0 rfl rfl 30 (by decide +kernel) (cIn (by decide +kernel)) dX12_onceLine_105 (fun H locs hP hD hS => ?_)
          refine lv_goto (tgt := 155) hx hb dX12_onceLine_106 (by decide) ?_
          have hP : va_P D vwCl (List.flatten (wM aM C ms_17 mw_18 (va_up (va_up ma 14 (upd (upd (upd (ma 14) 28 r13) 29 r16) 30 1)) 15 (upd (ma 15) ((8 + p1).toNatClampNeg) 1)) ml)) H := hP
          have hD : va_D A (List.flatten (wM aM C ms_17 mw_18 (va_up (va_up ma 14 (upd (upd (upd (ma 14) 28 r13) 29 r16) 30 1)) 15 (upd (ma 15) ((8 + p1).toNatClampNeg) 1)) ml)) := hD
          rw [← hQ]
          exact cRetV (ms_17, mw_18, (va_up (va_up ma 14 (upd (upd (upd (ma 14) 28 r13) 29 r16) 30 1)) 15 (upd (ma 15) ((8 + p1).toNatClampNeg) 1))) hx hb hr hlocks hS hP hD h dX12_onceLine_155
    · have h := h.2 c1
      rw [← hQ]
      exact cRetV (ms, mw, ma) hx hb hr hlocks hS hP hD h dX12_onceLine_24
  refine lv_aload_n hx hb dX12_onceLine_0 rfl (lv_at hl 0 rfl) ?_
  refine va_get (D := D) (ci := 12) (v := .ref (aM 18)) (C := RX12) (T := TX12) (N := 51) hx hb hw inW_X12 hown hK hP 0 rfl rfl 28 (by decide) (hw _ mw_6_71) (fun _ h9 => h9) rfl dX12_onceLine_1 ?_
  refine lv_bipush (v := 8) hx hb dX12_onceLine_4 (by decide) ?_
  refine lv_iload_n hx hb dX12_onceLine_6 rfl (lv_at hl 1 rfl) ?_
  refine lv_iadd hx hb dX12_onceLine_7 ?_
  refine cZald hx hb hK hP 18 3 rfl rfl ((8 + p1).toNatClampNeg) rfl h.1 dX12_onceLine_8 ?_
  have h := h.2
  refine lv_if_eq (tgt := 17) hx hb dX12_onceLine_9 (by decide) (fun c21 => ?_) (fun c21 => ?_)
  · have h := h.1 c21
    exact N17 ms mw ma _ _ _ h hP hD hS (lv_sub hl [0, 1] rfl)
  · have h := h.2 c21
    refine lv_aload_n hx hb dX12_onceLine_12 rfl (lv_at hl 0 rfl) ?_
    refine lv_iconst (v := 2) hx hb dX12_onceLine_13 (by decide) ?_
    refine cGoV (wo := fun u => wM aM C u mw ma ml) (cRunV (As := [.int 2]) (rest := []) ⟨hx, hb, hml, hown, hw⟩ hK hN hP hD [0, 1, 2, 3, 4, 5, 6, 7, 8, 9, 10, 11, 12, 13, 14, 15, 16, 17, 18, 19, 20, 21, 22, 23, 24, 25, 26, 27, 28, 29, 30, 31, 32] rfl rfl (k_X12_fails l D C _ aM  ms mw ma ml 2 h) (cwV 1 hw (goodV mw_7_41 mw_7_43 mw_s118 mw_1_13 mw_7_44) rfl rfl rfl (by decide +kernel) ⟨Nat.le_of_ble_eq_true rfl, Nat.le_of_ble_eq_true rfl⟩) rfl rfl rfl hl.1 rfl (Nat.le_of_ble_eq_true rfl) dX12_onceLine_14 ⟨Nat.zero_le _, Nat.zero_le _⟩) hP hD hS hA [0, 1, 2, 3, 4, 5, 6, 7, 8, 9, 10, 11, 12, 13, 14, 15, 16, 17, 18, 19, 20, 21, 22, 23, 24, 25, 26, 27, 28, 29, 30, 31, 32] [] [0, 1, 2, 3, 4, 5, 6, 7, 8, 9, 10, 11, 12, 13, 14, 15, 16, 17, 18, 19, 20, 21, 22, 23, 24, 25, 26, 27, 28, 29, 30, 31, 32] rfl rfl rfl (by decide) rfl (fun _ => rfl) (fun ms_22 H locs h hP hD hS => ?_)
    have hP : va_P D vwCl (List.flatten (wM aM C ms_22 mw ma ml)) H := hP
    have hD : va_D A (List.flatten (wM aM C ms_22 mw ma ml)) := hD
    exact N17 ms_22 mw ma _ _ _ h hP hD hS (lv_sub hl [0, 1] rfl)
abbrev vsX12_isFull : List Cond := Cond.code yX12_isFull cX12_isFull 2 (some .boolean) :: WS
abbrev rmX12_isFull : Room := { frames := 0, cells := 0, slots := 0, locals := 0 }
set_option maxHeartbeats 4000000 in
set_option maxRecDepth 100000 in
theorem k_X12_isFull (l : Launch) (D : va_G) (C : Nat → ClassId) (sz : Nat) (aM : Nat → Nat)  (ms : Nat → Int32) (mw : Nat → Int64) (ma : Nat → Nat → Int32) (ml : Nat → Nat → Int64) (p1 : Int32) {post : Int32 → Prop} (h : P_X12_isFull ma p1 post) : Met l yX12_isFull vsX12_isFull rmX12_isFull (cPre D C [.ref (aM 0), .int p1] sz (wM aM C ms mw ma ml)) (cQi D (fun (r : Int32) (u : Unit) => post r ) (fun u => wM aM C ms mw ma ml) (va_A (List.flatten (wM aM C ms mw ma ml)) sz)) 0 0 (va_A (List.flatten (wM aM C ms mw ma ml)) sz) := by
  refine cStart (QA := fun A => cQi D (fun (r : Int32) (u : Unit) => post r ) (fun u => wM aM C ms mw ma ml) A) (cc := cX12_isFull) (maxL := 2) (ret := (some .boolean)) (by decide) (Nat.le_of_ble_eq_true rfl) ?_
  intro p e s m args below meth c A ls hx hb hr hml hown hw hlocks hname hK hN hA hP hD hS hl
  generalize hQ : MQ below _ args s 0 0 A = Q
  have hl : lv_has ls 2 [(0, .ref (aM 0)), (1, .int p1)] := hl
  obtain ⟨H, hH⟩ : ∃ H, H = s.heap := ⟨_, rfl⟩
  obtain ⟨locs, hlo⟩ : ∃ z : List Loc, z = [] := ⟨_, rfl⟩
  have hP : va_P D vwCl (List.flatten (wM aM C ms mw ma ml)) H := by rw [hH]; exact hP
  have hS : va_S A s.heap H locs := by rw [hH, hlo]; exact hS
  rw [show W p l e rmX12_isFull s m args below meth c s.heap [] 0 0 Q (F0 m 0 ls []) = W p l e rmX12_isFull s m args below meth c H locs 0 0 Q (F0 m 0 ls []) from by rw [hH, hlo]]
  refine lv_iload_n hx hb dX12_isFull_0 rfl (lv_at hl 1 rfl) ?_
  by_cases c1_0 : p1 = 0
  · refine lv_tableIn (tgt := 28) hx hb dX12_isFull_1 (by rw [c1_0] <;> decide) (by rw [c1_0] <;> decide) (by rw [c1_0] <;> rfl) (by decide) ?_
    have h := h.1 c1_0
    refine lv_aload_n hx hb dX12_isFull_28 rfl (lv_at hl 0 rfl) ?_
    refine va_get (D := D) (ci := 12) (v := .ref (aM 9)) (C := RX12) (T := TX12) (N := 51) hx hb hw inW_X12 hown hK hP 0 rfl rfl 19 (by decide) (hw _ mw_6_62) (fun _ h9 => h9) rfl dX12_isFull_29 ?_
    refine lv_iconst (v := 4) hx hb dX12_isFull_32 (by decide) ?_
    refine cIald hx hb hK hP 9 0 rfl rfl 4 (by decide +kernel) (cIn (by decide +kernel)) dX12_isFull_33 ?_
    refine lv_iconst (v := 4) hx hb dX12_isFull_34 (by decide) ?_
    refine lv_icmp_ne (tgt := 42) hx hb dX12_isFull_35 (by decide) (fun c2 => ?_) (fun c2 => ?_)
    · have h := h.1 c2
      refine lv_iconst (v := 0) hx hb dX12_isFull_42 (by decide) ?_
      rw [← hQ]
      exact cRetZ (v := 0) () hx hb hr hlocks hS hP hD (Or.inl rfl) h dX12_isFull_43
    · have h := h.2 c2
      refine lv_iconst (v := 1) hx hb dX12_isFull_38 (by decide) ?_
      refine lv_goto (tgt := 43) hx hb dX12_isFull_39 (by decide) ?_
      rw [← hQ]
      exact cRetZ (v := 1) () hx hb hr hlocks hS hP hD (Or.inr rfl) h dX12_isFull_43
  by_cases c1_1 : p1 = 1
  · refine lv_tableIn (tgt := 44) hx hb dX12_isFull_1 (by rw [c1_1] <;> decide) (by rw [c1_1] <;> decide) (by rw [c1_1] <;> rfl) (by decide) ?_
    have h := h.2.1 c1_1
    refine lv_aload_n hx hb dX12_isFull_44 rfl (lv_at hl 0 rfl) ?_
    refine va_get (D := D) (ci := 12) (v := .ref (aM 11)) (C := RX12) (T := TX12) (N := 51) hx hb hw inW_X12 hown hK hP 0 rfl rfl 21 (by decide) (hw _ mw_6_64) (fun _ h9 => h9) rfl dX12_isFull_45 ?_
    refine lv_iconst (v := 4) hx hb dX12_isFull_48 (by decide) ?_
    refine cIald hx hb hK hP 11 0 rfl rfl 4 (by decide +kernel) (cIn (by decide +kernel)) dX12_isFull_49 ?_
    refine lv_iconst (v := 5) hx hb dX12_isFull_50 (by decide) ?_
    refine lv_icmp_ne (tgt := 58) hx hb dX12_isFull_51 (by decide) (fun c3 => ?_) (fun c3 => ?_)
    · have h := h.1 c3
      refine lv_iconst (v := 0) hx hb dX12_isFull_58 (by decide) ?_
      rw [← hQ]
      exact cRetZ (v := 0) () hx hb hr hlocks hS hP hD (Or.inl rfl) h dX12_isFull_59
    · have h := h.2 c3
      refine lv_iconst (v := 1) hx hb dX12_isFull_54 (by decide) ?_
      refine lv_goto (tgt := 59) hx hb dX12_isFull_55 (by decide) ?_
      rw [← hQ]
      exact cRetZ (v := 1) () hx hb hr hlocks hS hP hD (Or.inr rfl) h dX12_isFull_59
  by_cases c1_2 : p1 = 2
  · refine lv_tableIn (tgt := 60) hx hb dX12_isFull_1 (by rw [c1_2] <;> decide) (by rw [c1_2] <;> decide) (by rw [c1_2] <;> rfl) (by decide) ?_
    have h := h.2.2.1 c1_2
    refine lv_aload_n hx hb dX12_isFull_60 rfl (lv_at hl 0 rfl) ?_
    refine va_get (D := D) (ci := 12) (v := .ref (aM 13)) (C := RX12) (T := TX12) (N := 51) hx hb hw inW_X12 hown hK hP 0 rfl rfl 23 (by decide) (hw _ mw_6_66) (fun _ h9 => h9) rfl dX12_isFull_61 ?_
    refine lv_iconst (v := 4) hx hb dX12_isFull_64 (by decide) ?_
    refine cIald hx hb hK hP 13 0 rfl rfl 4 (by decide +kernel) (cIn (by decide +kernel)) dX12_isFull_65 ?_
    refine lv_bipush (v := 10) hx hb dX12_isFull_66 (by decide) ?_
    refine lv_icmp_ne (tgt := 75) hx hb dX12_isFull_68 (by decide) (fun c4 => ?_) (fun c4 => ?_)
    · have h := h.1 c4
      refine lv_iconst (v := 0) hx hb dX12_isFull_75 (by decide) ?_
      rw [← hQ]
      exact cRetZ (v := 0) () hx hb hr hlocks hS hP hD (Or.inl rfl) h dX12_isFull_76
    · have h := h.2 c4
      refine lv_iconst (v := 1) hx hb dX12_isFull_71 (by decide) ?_
      refine lv_goto (tgt := 76) hx hb dX12_isFull_72 (by decide) ?_
      rw [← hQ]
      exact cRetZ (v := 1) () hx hb hr hlocks hS hP hD (Or.inr rfl) h dX12_isFull_76
  refine lv_tableOut (tgt := 77) hx hb dX12_isFull_1 (sw_out3 c1_0 c1_1 c1_2) (by decide) ?_
  have h := h.2.2.2 c1_0 c1_1 c1_2
  refine lv_aload_n hx hb dX12_isFull_77 rfl (lv_at hl 0 rfl) ?_
  refine va_get (D := D) (ci := 12) (v := .ref (aM 15)) (C := RX12) (T := TX12) (N := 51) hx hb hw inW_X12 hown hK hP 0 rfl rfl 25 (by decide) (hw _ mw_6_68) (fun _ h9 => h9) rfl dX12_isFull_78 ?_
  refine lv_iconst (v := 4) hx hb dX12_isFull_81 (by decide) ?_
  refine cIald hx hb hK hP 15 0 rfl rfl 4 (by decide +kernel) (cIn (by decide +kernel)) dX12_isFull_82 ?_
  refine lv_bipush (v := 6) hx hb dX12_isFull_83 (by decide) ?_
  refine lv_icmp_ne (tgt := 92) hx hb dX12_isFull_85 (by decide) (fun c5 => ?_) (fun c5 => ?_)
  · have h := h.1 c5
    refine lv_iconst (v := 0) hx hb dX12_isFull_92 (by decide) ?_
    rw [← hQ]
    exact cRetZ (v := 0) () hx hb hr hlocks hS hP hD (Or.inl rfl) h dX12_isFull_93
  · have h := h.2 c5
    refine lv_iconst (v := 1) hx hb dX12_isFull_88 (by decide) ?_
    refine lv_goto (tgt := 93) hx hb dX12_isFull_89 (by decide) ?_
    rw [← hQ]
    exact cRetZ (v := 1) () hx hb hr hlocks hS hP hD (Or.inr rfl) h dX12_isFull_93
abbrev vsX12_railLine : List Cond := Cond.code yX12_railLine cX12_railLine 1 none :: WS
abbrev rmX12_railLine : Room := { frames := 5, cells := 0, slots := 0, locals := 112 }
set_option maxHeartbeats 4000000 in
set_option maxRecDepth 100000 in
theorem k_X12_railLine (l : Launch) (D : va_G) (C : Nat → ClassId) (sz : Nat) (aM : Nat → Nat)  (ms : Nat → Int32) (mw : Nat → Int64) (ma : Nat → Nat → Int32) (ml : Nat → Nat → Int64)  {post : (Nat → Int32) → (Nat → Int64) → (Nat → Nat → Int32) → Prop} (h : P_X12_railLine ms mw ma post) : Met l yX12_railLine vsX12_railLine rmX12_railLine (cPre D C [.ref (aM 0)] sz (wM aM C ms mw ma ml)) (cQv D (fun (u : (Nat → Int32) × (Nat → Int64) × (Nat → Nat → Int32)) => post u.1 u.2.1 u.2.2) (fun u => wM aM C u.1 u.2.1 u.2.2 ml) (va_A (List.flatten (wM aM C ms mw ma ml)) sz)) 0 0 (va_A (List.flatten (wM aM C ms mw ma ml)) sz) := by
  refine cStart (QA := fun A => cQv D (fun (u : (Nat → Int32) × (Nat → Int64) × (Nat → Nat → Int32)) => post u.1 u.2.1 u.2.2) (fun u => wM aM C u.1 u.2.1 u.2.2 ml) A) (cc := cX12_railLine) (maxL := 1) (ret := none) (by decide) (Nat.le_of_ble_eq_true rfl) ?_
  intro p e s m args below meth c A ls hx hb hr hml hown hw hlocks hname hK hN hA hP hD hS hl
  generalize hQ : MQ below _ args s 0 0 A = Q
  have hl : lv_has ls 1 [(0, .ref (aM 0))] := hl
  obtain ⟨H, hH⟩ : ∃ H, H = s.heap := ⟨_, rfl⟩
  obtain ⟨locs, hlo⟩ : ∃ z : List Loc, z = [] := ⟨_, rfl⟩
  have hP : va_P D vwCl (List.flatten (wM aM C ms mw ma ml)) H := by rw [hH]; exact hP
  have hS : va_S A s.heap H locs := by rw [hH, hlo]; exact hS
  rw [show W p l e rmX12_railLine s m args below meth c s.heap [] 0 0 Q (F0 m 0 ls []) = W p l e rmX12_railLine s m args below meth c H locs 0 0 Q (F0 m 0 ls []) from by rw [hH, hlo]]
  refine lv_aload_n hx hb dX12_railLine_0 rfl (lv_at hl 0 rfl) ?_
  refine lv_ldc2 (v := 355278) hx hb hown (hw _ mw_7_28) dX12_railLine_1 ?_
  refine cGoV (wo := fun u => wM aM C u.1 u.2 ma ml) (cRunV (As := [.long 355278]) (rest := []) ⟨hx, hb, hml, hown, hw⟩ hK hN hP hD [0, 1, 2, 3, 4, 5, 6, 7, 8, 9, 10, 11, 12, 13, 14, 15, 16, 17, 18, 19, 20, 21, 22, 23, 24, 25, 26, 27, 28, 29, 30, 31, 32] rfl rfl (k_X12_asks l D C _ aM  ms mw ma ml 355278 h) (cwV 1 hw (goodV mw_7_29 mw_7_31 mw_s115 mw_1_13 mw_7_32) rfl rfl rfl (by decide +kernel) ⟨Nat.le_of_ble_eq_true rfl, Nat.le_of_ble_eq_true rfl⟩) rfl rfl rfl hl.1 rfl (Nat.le_of_ble_eq_true rfl) dX12_railLine_4 ⟨Nat.zero_le _, Nat.zero_le _⟩) hP hD hS hA [0, 1, 2, 3, 4, 5, 6, 7, 8, 9, 10, 11, 12, 13, 14, 15, 16, 17, 18, 19, 20, 21, 22, 23, 24, 25, 26, 27, 28, 29, 30, 31, 32] [] [0, 1, 2, 3, 4, 5, 6, 7, 8, 9, 10, 11, 12, 13, 14, 15, 16, 17, 18, 19, 20, 21, 22, 23, 24, 25, 26, 27, 28, 29, 30, 31, 32] rfl rfl rfl (by decide) rfl (fun _ => rfl) (fun u H locs h hP hD hS => ?_)
  obtain ⟨ms_1, mw_2⟩ := u
  have hP : va_P D vwCl (List.flatten (wM aM C ms_1 mw_2 ma ml)) H := hP
  have hD : va_D A (List.flatten (wM aM C ms_1 mw_2 ma ml)) := hD
  refine lv_aload_n hx hb dX12_railLine_7 rfl (lv_at hl 0 rfl) ?_
  refine va_get (D := D) (ci := 12) (v := .ref (aM 7)) (C := RX12) (T := TX12) (N := 51) hx hb hw inW_X12 hown hK hP 0 rfl rfl 17 (by decide) (hw _ mw_6_60) (fun _ h9 => h9) rfl dX12_railLine_8 ?_
  refine lv_iconst (v := 4) hx hb dX12_railLine_11 (by decide) ?_
  refine lv_aload_n hx hb dX12_railLine_12 rfl (lv_at hl 0 rfl) ?_
  refine lv_ldc2 (v := 235981828) hx hb hown (hw _ mw_7_45) dX12_railLine_13 ?_
  refine lv_iconst (v := 1) hx hb dX12_railLine_16 (by decide) ?_
  refine lv_bipush (v := 20) hx hb dX12_railLine_17 (by decide) ?_
  refine cGoI (wo := fun u => wM aM C u.1 u.2 ma ml) (cRunV (As := [.long 235981828, .int 1, .int 20]) (rest := [.int 4, .ref (aM 7)]) ⟨hx, hb, hml, hown, hw⟩ hK hN hP hD [0, 1, 2, 3, 4, 5, 6, 7, 8, 9, 10, 11, 12, 13, 14, 15, 16, 17, 18, 19, 20, 21, 22, 23, 24, 25, 26, 27, 28, 29, 30, 31, 32] rfl rfl (k_X12_number_ l D C _ aM  ms_1 mw_2 ma ml 235981828 1 20 h) (cwV 3 hw (goodV mw_7_46 mw_7_48 mw_s119 mw_1_13 mw_7_49) rfl rfl rfl (by decide +kernel) ⟨Nat.le_of_ble_eq_true rfl, Nat.le_of_ble_eq_true rfl⟩) rfl rfl rfl hl.1 rfl (Nat.le_of_ble_eq_true rfl) dX12_railLine_19 ⟨Nat.zero_le _, Nat.zero_le _⟩) hP hD hS hA [0, 1, 2, 3, 4, 5, 6, 7, 8, 9, 10, 11, 12, 13, 14, 15, 16, 17, 18, 19, 20, 21, 22, 23, 24, 25, 26, 27, 28, 29, 30, 31, 32] [] [0, 1, 2, 3, 4, 5, 6, 7, 8, 9, 10, 11, 12, 13, 14, 15, 16, 17, 18, 19, 20, 21, 22, 23, 24, 25, 26, 27, 28, 29, 30, 31, 32] rfl rfl rfl (by decide) rfl (fun _ => rfl) (fun r5 u H locs h hP hD hS => ?_)
  obtain ⟨ms_3, mw_4⟩ := u
  have hP : va_P D vwCl (List.flatten (wM aM C ms_3 mw_4 ma ml)) H := hP
  have hD : va_D A (List.flatten (wM aM C ms_3 mw_4 ma ml)) := hD
  refine cIast hx hb hK hP hD hS 7 0 rfl rfl 4 (by decide +kernel) (cIn (by decide +kernel)) dX12_railLine_22 (fun H locs hP hD hS => ?_)
  refine lv_aload_n hx hb dX12_railLine_23 rfl (lv_at hl 0 rfl) ?_
  refine va_get (D := D) (ci := 12) (v := .ref (aM 8)) (C := RX12) (T := TX12) (N := 51) hx hb hw inW_X12 hown hK hP 0 rfl rfl 18 (by decide) (hw _ mw_6_61) (fun _ h9 => h9) rfl dX12_railLine_24 ?_
  refine lv_iconst (v := 4) hx hb dX12_railLine_27 (by decide) ?_
  refine lv_aload_n hx hb dX12_railLine_28 rfl (lv_at hl 0 rfl) ?_
  refine lv_ldc2 (v := 205811839) hx hb hown (hw _ mw_7_54) dX12_railLine_29 ?_
  refine lv_iconst (v := 1) hx hb dX12_railLine_32 (by decide) ?_
  refine lv_bipush (v := 60) hx hb dX12_railLine_33 (by decide) ?_
  have hP : va_P D vwCl (List.flatten (wM aM C ms_3 mw_4 (va_up ma 4 (upd (ma 4) 4 r5)) ml)) H := hP
  have hD : va_D A (List.flatten (wM aM C ms_3 mw_4 (va_up ma 4 (upd (ma 4) 4 r5)) ml)) := hD
  refine cGoI (wo := fun u => wM aM C u.1 u.2 (va_up ma 4 (upd (ma 4) 4 r5)) ml) (cRunV (As := [.long 205811839, .int 1, .int 60]) (rest := [.int 4, .ref (aM 8)]) ⟨hx, hb, hml, hown, hw⟩ hK hN hP hD [0, 1, 2, 3, 4, 5, 6, 7, 8, 9, 10, 11, 12, 13, 14, 15, 16, 17, 18, 19, 20, 21, 22, 23, 24, 25, 26, 27, 28, 29, 30, 31, 32] rfl rfl (k_X12_number_ l D C _ aM  ms_3 mw_4 (va_up ma 4 (upd (ma 4) 4 r5)) ml 205811839 1 60 h) (cwV 3 hw (goodV mw_7_46 mw_7_48 mw_s119 mw_1_13 mw_7_49) rfl rfl rfl (by decide +kernel) ⟨Nat.le_of_ble_eq_true rfl, Nat.le_of_ble_eq_true rfl⟩) rfl rfl rfl hl.1 rfl (Nat.le_of_ble_eq_true rfl) dX12_railLine_35 ⟨Nat.zero_le _, Nat.zero_le _⟩) hP hD hS hA [0, 1, 2, 3, 4, 5, 6, 7, 8, 9, 10, 11, 12, 13, 14, 15, 16, 17, 18, 19, 20, 21, 22, 23, 24, 25, 26, 27, 28, 29, 30, 31, 32] [] [0, 1, 2, 3, 4, 5, 6, 7, 8, 9, 10, 11, 12, 13, 14, 15, 16, 17, 18, 19, 20, 21, 22, 23, 24, 25, 26, 27, 28, 29, 30, 31, 32] rfl rfl rfl (by decide) rfl (fun _ => rfl) (fun r8 u H locs h hP hD hS => ?_)
  obtain ⟨ms_6, mw_7⟩ := u
  have hP : va_P D vwCl (List.flatten (wM aM C ms_6 mw_7 (va_up ma 4 (upd (ma 4) 4 r5)) ml)) H := hP
  have hD : va_D A (List.flatten (wM aM C ms_6 mw_7 (va_up ma 4 (upd (ma 4) 4 r5)) ml)) := hD
  refine cIast hx hb hK hP hD hS 8 0 rfl rfl 4 (by decide +kernel) (cIn (by decide +kernel)) dX12_railLine_38 (fun H locs hP hD hS => ?_)
  have hP : va_P D vwCl (List.flatten (wM aM C ms_6 mw_7 (va_up (va_up ma 4 (upd (ma 4) 4 r5)) 5 (upd (ma 5) 4 r8)) ml)) H := hP
  have hD : va_D A (List.flatten (wM aM C ms_6 mw_7 (va_up (va_up ma 4 (upd (ma 4) 4 r5)) 5 (upd (ma 5) 4 r8)) ml)) := hD
  rw [← hQ]
  exact cRetV (ms_6, mw_7, (va_up (va_up ma 4 (upd (ma 4) 4 r5)) 5 (upd (ma 5) 4 r8))) hx hb hr hlocks hS hP hD h dX12_railLine_39
