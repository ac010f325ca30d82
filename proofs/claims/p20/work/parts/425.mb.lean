abbrev vsX12_isOver : List Cond := Cond.code yX12_isOver cX12_isOver 1 none :: WS
abbrev rmX12_isOver : Room := { frames := 0, cells := 0, slots := 0, locals := 0 }
set_option maxHeartbeats 4000000 in
set_option maxRecDepth 100000 in
theorem k_X12_isOver (l : Launch) (D : va_G) (C : Nat → ClassId) (sz : Nat) (aM : Nat → Nat)  (ms : Nat → Int32) (mw : Nat → Int64) (ma : Nat → Nat → Int32) (ml : Nat → Nat → Int64)  {post : (Nat → Int32) → Prop} (h : P_X12_isOver ms post) : Met l yX12_isOver vsX12_isOver rmX12_isOver (cPre D C [.ref (aM 0)] sz (wM aM C ms mw ma ml)) (cQv D (fun (u : (Nat → Int32)) => post u) (fun u => wM aM C u mw ma ml) (va_A (List.flatten (wM aM C ms mw ma ml)) sz)) 0 0 (va_A (List.flatten (wM aM C ms mw ma ml)) sz) := by
  refine cStart (QA := fun A => cQv D (fun (u : (Nat → Int32)) => post u) (fun u => wM aM C u mw ma ml) A) (cc := cX12_isOver) (maxL := 1) (ret := none) (by decide) (Nat.le_of_ble_eq_true rfl) ?_
  intro p e s m args below meth c A ls hx hb hr hml hown hw hlocks hname hK hN hA hP hD hS hl
  generalize hQ : MQ below _ args s 0 0 A = Q
  have hl : lv_has ls 1 [(0, .ref (aM 0))] := hl
  obtain ⟨H, hH⟩ : ∃ H, H = s.heap := ⟨_, rfl⟩
  obtain ⟨locs, hlo⟩ : ∃ z : List Loc, z = [] := ⟨_, rfl⟩
  have hP : va_P D vwCl (List.flatten (wM aM C ms mw ma ml)) H := by rw [hH]; exact hP
  have hS : va_S A s.heap H locs := by rw [hH, hlo]; exact hS
  rw [show W p l e rmX12_isOver s m args below meth c s.heap [] 0 0 Q (F0 m 0 ls []) = W p l e rmX12_isOver s m args below meth c H locs 0 0 Q (F0 m 0 ls []) from by rw [hH, hlo]]
  refine lv_aload_n hx hb dX12_isOver_0 rfl (lv_at hl 0 rfl) ?_
  refine lv_iconst (v := 0) hx hb dX12_isOver_1 (by decide) ?_
  refine va_put (D := D) (ci := 12) (v := .int 0) (ty := .int) (C := RX12) (T := TX12) (N := 51) hx hb hw inW_X12 tyX12 tyX12_ok nmX12 hown hK hP hD hS 0 rfl rfl 6 (by decide) (hw _ mw_6_49) (fun _ h9 => h9) rfl (by decide +kernel) rfl rfl (Nat.le_of_ble_eq_true rfl) dX12_isOver_2 (fun H locs hP hD hS => ?_)
  refine lv_aload_n hx hb dX12_isOver_5 rfl (lv_at hl 0 rfl) ?_
  refine lv_aload_n hx hb dX12_isOver_6 rfl (lv_at hl 0 rfl) ?_
  refine va_get (D := D) (ci := 12) (v := .int (ms 6)) (C := RX12) (T := TX12) (N := 51) hx hb hw inW_X12 hown hK hP 0 rfl rfl 12 (by decide) (hw _ mw_6_55) (fun _ h9 => h9) rfl dX12_isOver_7 ?_
  refine lv_topi (fun x1 ex1 => ?_)
  have h := h x1 ex1
  refine va_put (D := D) (ci := 12) (v := .int x1) (ty := .int) (C := RX12) (T := TX12) (N := 51) hx hb hw inW_X12 tyX12 tyX12_ok nmX12 hown hK hP hD hS 0 rfl rfl 14 (by decide) (hw _ mw_6_57) (fun _ h9 => h9) rfl (by decide +kernel) rfl rfl (Nat.le_of_ble_eq_true rfl) dX12_isOver_10 (fun H locs hP hD hS => ?_)
  refine lv_aload_n hx hb dX12_isOver_13 rfl (lv_at hl 0 rfl) ?_
  refine lv_aload_n hx hb dX12_isOver_14 rfl (lv_at hl 0 rfl) ?_
  refine va_get (D := D) (ci := 12) (v := .int (ms 6)) (C := RX12) (T := TX12) (N := 51) hx hb hw inW_X12 hown hK hP 0 rfl rfl 12 (by decide) (hw _ mw_6_55) (fun _ h9 => h9) rfl dX12_isOver_15 ?_
  refine lv_if_ne (tgt := 25) hx hb dX12_isOver_18 (by decide) (fun c2 => ?_) (fun c2 => ?_)
  · have h := h.1 c2
    refine lv_aload_n hx hb dX12_isOver_25 rfl (lv_at hl 0 rfl) ?_
    refine va_get (D := D) (ci := 12) (v := .int (ms 7)) (C := RX12) (T := TX12) (N := 51) hx hb hw inW_X12 hown hK hP 0 rfl rfl 13 (by decide) (hw _ mw_6_56) (fun _ h9 => h9) rfl dX12_isOver_26 ?_
    refine lv_topi (fun x3 ex3 => ?_)
    have h := h x3 ex3
    refine va_put (D := D) (ci := 12) (v := .int x3) (ty := .int) (C := RX12) (T := TX12) (N := 51) hx hb hw inW_X12 tyX12 tyX12_ok nmX12 hown hK hP hD hS 0 rfl rfl 15 (by decide) (hw _ mw_6_58) (fun _ h9 => h9) rfl (by decide +kernel) rfl rfl (Nat.le_of_ble_eq_true rfl) dX12_isOver_29 (fun H locs hP hD hS => ?_)
    have hP : va_P D vwCl (List.flatten (wM aM C (va_up (va_up (va_up ms 1 0) 8 x1) 9 x3) mw ma ml)) H := hP
    have hD : va_D A (List.flatten (wM aM C (va_up (va_up (va_up ms 1 0) 8 x1) 9 x3) mw ma ml)) := hD
    rw [← hQ]
    exact cRetV ((va_up (va_up (va_up ms 1 0) 8 x1) 9 x3)) hx hb hr hlocks hS hP hD h dX12_isOver_32
  · have h := h.2 c2
    refine lv_iconst (v := (-1)) hx hb dX12_isOver_21 (by decide) ?_
    refine lv_goto (tgt := 29) hx hb dX12_isOver_22 (by decide) ?_
    refine va_put (D := D) (ci := 12) (v := .int (-1)) (ty := .int) (C := RX12) (T := TX12) (N := 51) hx hb hw inW_X12 tyX12 tyX12_ok nmX12 hown hK hP hD hS 0 rfl rfl 15 (by decide) (hw _ mw_6_58) (fun _ h9 => h9) rfl (by decide +kernel) rfl rfl (Nat.le_of_ble_eq_true rfl) dX12_isOver_29 (fun H locs hP hD hS => ?_)
    have hP : va_P D vwCl (List.flatten (wM aM C (va_up (va_up (va_up ms 1 0) 8 x1) 9 (-1)) mw ma ml)) H := hP
    have hD : va_D A (List.flatten (wM aM C (va_up (va_up (va_up ms 1 0) 8 x1) 9 (-1)) mw ma ml)) := hD
    rw [← hQ]
    exact cRetV ((va_up (va_up (va_up ms 1 0) 8 x1) 9 (-1))) hx hb hr hlocks hS hP hD h dX12_isOver_32
abbrev vsX12_fault : List Cond := Cond.code yX12_fault cX12_fault 2 (some .int) :: WS
abbrev rmX12_fault : Room := { frames := 0, cells := 0, slots := 0, locals := 0 }
set_option maxHeartbeats 4000000 in
set_option maxRecDepth 100000 in
theorem k_X12_fault (l : Launch) (D : va_G) (C : Nat → ClassId) (sz : Nat) (aM : Nat → Nat)  (ms : Nat → Int32) (mw : Nat → Int64) (ma : Nat → Nat → Int32) (ml : Nat → Nat → Int64) (p1 : Int32) {post : Int32 → (Nat → Int32) → Prop} (h : P_X12_fault ms p1 post) : Met l yX12_fault vsX12_fault rmX12_fault (cPre D C [.ref (aM 0), .int p1] sz (wM aM C ms mw ma ml)) (cQi D (fun (r : Int32) (u : (Nat → Int32)) => post r u) (fun u => wM aM C u mw ma ml) (va_A (List.flatten (wM aM C ms mw ma ml)) sz)) 0 0 (va_A (List.flatten (wM aM C ms mw ma ml)) sz) := by
  refine cStart (QA := fun A => cQi D (fun (r : Int32) (u : (Nat → Int32)) => post r u) (fun u => wM aM C u mw ma ml) A) (cc := cX12_fault) (maxL := 2) (ret := (some .int)) (by decide) (Nat.le_of_ble_eq_true rfl) ?_
  intro p e s m args below meth c A ls hx hb hr hml hown hw hlocks hname hK hN hA hP hD hS hl
  generalize hQ : MQ below _ args s 0 0 A = Q
  have hl : lv_has ls 2 [(0, .ref (aM 0)), (1, .int p1)] := hl
  obtain ⟨H, hH⟩ : ∃ H, H = s.heap := ⟨_, rfl⟩
  obtain ⟨locs, hlo⟩ : ∃ z : List Loc, z = [] := ⟨_, rfl⟩
  have hP : va_P D vwCl (List.flatten (wM aM C ms mw ma ml)) H := by rw [hH]; exact hP
  have hS : va_S A s.heap H locs := by rw [hH, hlo]; exact hS
  rw [show W p l e rmX12_fault s m args below meth c s.heap [] 0 0 Q (F0 m 0 ls []) = W p l e rmX12_fault s m args below meth c H locs 0 0 Q (F0 m 0 ls []) from by rw [hH, hlo]]
  refine lv_aload_n hx hb dX12_fault_0 rfl (lv_at hl 0 rfl) ?_
  refine lv_iconst (v := 0) hx hb dX12_fault_1 (by decide) ?_
  refine va_put (D := D) (ci := 12) (v := .int 0) (ty := .int) (C := RX12) (T := TX12) (N := 51) hx hb hw inW_X12 tyX12 tyX12_ok nmX12 hown hK hP hD hS 0 rfl rfl 0 (by decide) (hw _ mw_6_43) (fun _ h9 => h9) rfl (by decide +kernel) rfl rfl (Nat.le_of_ble_eq_true rfl) dX12_fault_2 (fun H locs hP hD hS => ?_)
  refine lv_iload_n hx hb dX12_fault_5 rfl (lv_at hl 1 rfl) ?_
  refine lv_if_ne (tgt := 16) hx hb dX12_fault_6 (by decide) (fun c1 => ?_) (fun c1 => ?_)
  · have h := h.1 c1
    refine lv_iload_n hx hb dX12_fault_16 rfl (lv_at hl 1 rfl) ?_
    refine lv_iconst (v := 1) hx hb dX12_fault_17 (by decide) ?_
    refine lv_icmp_ne (tgt := 28) hx hb dX12_fault_18 (by decide) (fun c2 => ?_) (fun c2 => ?_)
    · have h := h.1 c2
      refine lv_iconst (v := (-1)) hx hb dX12_fault_28 (by decide) ?_
      have hP : va_P D vwCl (List.flatten (wM aM C (va_up ms 0 0) mw ma ml)) H := hP
      have hD : va_D A (List.flatten (wM aM C (va_up ms 0 0) mw ma ml)) := hD
      rw [← hQ]
      exact cRetI (v := (-1)) ((va_up ms 0 0)) hx hb hr hlocks hS hP hD h dX12_fault_29
    · have h := h.2 c2
      refine lv_aload_n hx hb dX12_fault_21 rfl (lv_at hl 0 rfl) ?_
      refine va_get (D := D) (ci := 12) (v := .int (ms 9)) (C := RX12) (T := TX12) (N := 51) hx hb hw inW_X12 hown hK hP 0 rfl rfl 15 (by decide) (hw _ mw_6_58) (fun _ h9 => h9) rfl dX12_fault_22 ?_
      refine lv_goto (tgt := 29) hx hb dX12_fault_25 (by decide) ?_
      have hP : va_P D vwCl (List.flatten (wM aM C (va_up ms 0 0) mw ma ml)) H := hP
      have hD : va_D A (List.flatten (wM aM C (va_up ms 0 0) mw ma ml)) := hD
      rw [← hQ]
      exact cRetI (v := (ms 9)) ((va_up ms 0 0)) hx hb hr hlocks hS hP hD h dX12_fault_29
  · have h := h.2 c1
    refine lv_aload_n hx hb dX12_fault_9 rfl (lv_at hl 0 rfl) ?_
    refine va_get (D := D) (ci := 12) (v := .int (ms 8)) (C := RX12) (T := TX12) (N := 51) hx hb hw inW_X12 hown hK hP 0 rfl rfl 14 (by decide) (hw _ mw_6_57) (fun _ h9 => h9) rfl dX12_fault_10 ?_
    refine lv_goto (tgt := 29) hx hb dX12_fault_13 (by decide) ?_
    have hP : va_P D vwCl (List.flatten (wM aM C (va_up ms 0 0) mw ma ml)) H := hP
    have hD : va_D A (List.flatten (wM aM C (va_up ms 0 0) mw ma ml)) := hD
    rw [← hQ]
    exact cRetI (v := (ms 8)) ((va_up ms 0 0)) hx hb hr hlocks hS hP hD h dX12_fault_29
abbrev vsX12_onceLine : List Cond := Cond.code yX12_onceLine cX12_onceLine 3 none :: WS
abbrev rmX12_onceLine : Room := { frames := 5, cells := 0, slots := 0, locals := 112 }
set_option maxHeartbeats 4000000 in
set_option maxRecDepth 100000 in
theorem k_X12_onceLine (l : Launch) (D : va_G) (C : Nat → ClassId) (sz : Nat) (aM : Nat → Nat)  (ms : Nat → Int32) (mw : Nat → Int64) (ma : Nat → Nat → Int32) (ml : Nat → Nat → Int64) (p1 : Int32) {post : (Nat → Int32) → (Nat → Int64) → (Nat → Nat → Int32) → Prop} (h : P_X12_onceLine ms mw ma p1 post) : Met l yX12_onceLine vsX12_onceLine rmX12_onceLine (cPre D C [.ref (aM 0), .int p1] sz (wM aM C ms mw ma ml)) (cQv D (fun (u : (Nat → Int32) × (Nat → Int64) × (Nat → Nat → Int32)) => post u.1 u.2.1 u.2.2) (fun u => wM aM C u.1 u.2.1 u.2.2 ml) (va_A (List.flatten (wM aM C ms mw ma ml)) sz)) 0 0 (va_A (List.flatten (wM aM C ms mw ma ml)) sz) := by
  refine cStart (QA := fun A => cQv D (fun (u : (Nat → Int32) × (Nat → Int64) × (Nat → Nat → Int32)) => post u.1 u.2.1 u.2.2) (fun u => wM aM C u.1 u.2.1 u.2.2 ml) A) (cc := cX12_onceLine) (maxL := 3) (ret := none) (by decide) (Nat.le_of_ble_eq_true rfl) ?_
  intro p e s m args below meth c A ls hx hb hr hml hown hw hlocks hname hK hN hA hP hD hS hl
  generalize hQ : MQ below _ args s 0 0 A = Q
  have hl : lv_has ls 3 [(0, .ref (aM 0)), (1, .int p1)] := hl
  obtain ⟨H, hH⟩ : ∃ H, H = s.heap := ⟨_, rfl⟩
  obtain ⟨locs, hlo⟩ : ∃ z : List Loc, z = [] := ⟨_, rfl⟩
  have hP : va_P D vwCl (List.flatten (wM aM C ms mw ma ml)) H := by rw [hH]; exact hP
  have hS : va_S A s.heap H locs := by rw [hH, hlo]; exact hS
  rw [show W p l e rmX12_onceLine s m args below meth c s.heap [] 0 0 Q (F0 m 0 ls []) = W p l e rmX12_onceLine s m args below meth c H locs 0 0 Q (F0 m 0 ls []) from by rw [hH, hlo]]
  have N17 : ∀ (ms : Nat → Int32) (mw : Nat → Int64) (ma : Nat → Nat → Int32) (H : Heap) (locs : List Loc) (ls : Array Slot), P_X12_onceLine_17 p1 post  ms mw ma → va_P D vwCl (List.flatten (wM aM C ms mw ma ml)) H → va_D A (List.flatten (wM aM C ms mw ma ml)) → va_S A s.heap H locs → lv_has ls 3 [(0, .ref (aM 0)), (1, .int p1)] → W p l e rmX12_onceLine s m args below meth c H locs 0 0 Q (F0 m 17 ls []) := by
    intro ms mw ma H locs ls h hP hD hS hl
    refine lv_aload_n hx hb dX12_onceLine_17 rfl (lv_at hl 0 rfl) ?_
    refine va_get (D := D) (ci := 12) (v := .int (ms 6)) (C := RX12) (T := TX12) (N := 51) hx hb hw inW_X12 hown hK hP 0 rfl rfl 12 (by decide) (hw _ mw_6_55) (fun _ h9 => h9) rfl dX12_onceLine_18 ?_
    refine lv_if_eq (tgt := 25) hx hb dX12_onceLine_21 (by decide) (fun c1 => ?_) (fun c1 => ?_)
    · have h := h.1 c1
      refine lv_aload_n hx hb dX12_onceLine_25 rfl (lv_at hl 0 rfl) ?_
      refine cGoAV (cRunAV (As := []) (rest := []) ⟨hx, hb, hml, hown, hw⟩ hK hN hP hD (k_X12_next l D C _ aM  ms mw ma ml  h) (cwV 0 hw (goodV mw_7_7 mw_7_9 mw_s111 mw_1_13 mw_7_10) rfl rfl rfl (by decide +kernel) ⟨Nat.le_of_ble_eq_true rfl, Nat.le_of_ble_eq_true rfl⟩) rfl rfl rfl hl.1 rfl (Nat.le_of_ble_eq_true rfl) dX12_onceLine_26 ⟨Nat.zero_le _, Nat.zero_le _⟩) hP hD hS hA (fun u H locs h hP hD hS => ?_)
      obtain ⟨ms_2, mw_3⟩ := u
      have hP : va_P D vwCl (List.flatten (wM aM C ms_2 mw_3 ma ml)) H := hP
      have hD : va_D A (List.flatten (wM aM C ms_2 mw_3 ma ml)) := hD
      refine lv_aload_n hx hb dX12_onceLine_29 rfl (lv_at hl 0 rfl) ?_
      refine va_get (D := D) (ci := 12) (v := .ref (aM 18)) (C := RX12) (T := TX12) (N := 51) hx hb hw inW_X12 hown hK hP 0 rfl rfl 28 (by decide) (hw _ mw_6_71) (fun _ h9 => h9) rfl dX12_onceLine_30 ?_
      refine lv_bipush (v := 8) hx hb dX12_onceLine_33 (by decide) ?_
      refine lv_iload_n hx hb dX12_onceLine_35 rfl (lv_at hl 1 rfl) ?_
      refine lv_iadd hx hb dX12_onceLine_36 ?_
      refine lv_iconst (v := 1) hx hb dX12_onceLine_37 (by decide) ?_
      refine cZast hx hb hK hP hD hS 18 3 rfl rfl ((8 + p1).toNatClampNeg) rfl h.1 (Or.inr rfl) dX12_onceLine_38 (fun H locs hP hD hS => ?_)
      have h := h.2
      refine lv_bipush (v := 28) hx hb dX12_onceLine_39 (by decide) ?_
      refine lv_istore_n (lv' := [(2, .int 28), (0, .ref (aM 0)), (1, .int p1)]) hx hb dX12_onceLine_41 rfl hl (by decide) rfl (fun ls hl => ?_)
      refine lv_iload_n hx hb dX12_onceLine_42 rfl (lv_at hl 2 rfl) ?_
      refine lv_if_ne (tgt := 109) hx hb dX12_onceLine_43 (by decide) (fun c4 => ?_) (fun c4 => ?_)
      · have h := h.1 c4
        refine lv_aload_n hx hb dX12_onceLine_109 rfl (lv_at hl 1 rfl) ?_
        refine va_get (D := D) (ci := 12) (v := .ref (aM 17)) (C := RX12) (T := TX12) (N := 51) hx hb hw inW_X12 hown hK hP 0 rfl rfl 27 (by decide) (hw _ mw_6_70) (fun _ h9 => h9) rfl dX12_onceLine_110 ?_
        refine lv_iload_n hx hb dX12_onceLine_113 rfl (lv_at hl 0 rfl) ?_
        refine lv_iconst (v := 4) hx hb dX12_onceLine_114 (by decide) ?_
        refine lv_iadd hx hb dX12_onceLine_115 ?_
        refine cLitI (y := 32) (by decide) ?_
        refine lv_aload_n hx hb dX12_onceLine_116 rfl (lv_at hl 1 rfl) ?_
        refine lv_ldc2 (v := 453632) hx hb hown (hw _ mw_7_68) dX12_onceLine_117 ?_
        refine lv_iconst (v := 0) hx hb dX12_onceLine_120 (by decide) ?_
        refine lv_sipush (v := 999) hx hb dX12_onceLine_121 (by decide) ?_
        have hP : va_P D vwCl (List.flatten (wM aM C ms_2 mw_3 (va_up ma 15 (upd (ma 15) ((8 + p1).toNatClampNeg) 1)) ml)) H := hP
        have hD : va_D A (List.flatten (wM aM C ms_2 mw_3 (va_up ma 15 (upd (ma 15) ((8 + p1).toNatClampNeg) 1)) ml)) := hD
        refine cGoAI (cRunAV (As := [.long 453632, .int 0, .int 999]) (rest := [.int 32, .ref (aM 17)]) ⟨hx, hb, hml, hown, hw⟩ hK hN hP hD (k_X12_number_ l D C _ aM  ms_2 mw_3 (va_up ma 15 (upd (ma 15) ((8 + p1).toNatClampNeg) 1)) ml 453632 0 999 h) (cwV 3 hw (goodV mw_7_46 mw_7_48 mw_s119 mw_1_13 mw_7_49) rfl rfl rfl (by decide +kernel) ⟨Nat.le_of_ble_eq_true rfl, Nat.le_of_ble_eq_true rfl⟩) rfl rfl rfl hl.1 rfl (Nat.le_of_ble_eq_true rfl) dX12_onceLine_124 ⟨Nat.zero_le _, Nat.zero_le _⟩) hP hD hS hA (fun r7 u H locs h hP hD hS => ?_)
        obtain ⟨ms_5, mw_6⟩ := u
        have hP : va_P D vwCl (List.flatten (wM aM C ms_5 mw_6 (va_up ma 15 (upd (ma 15) ((8 + p1).toNatClampNeg) 1)) ml)) H := hP
        have hD : va_D A (List.flatten (wM aM C ms_5 mw_6 (va_up ma 15 (upd (ma 15) ((8 + p1).toNatClampNeg) 1)) ml)) := hD
        refine cIast hx hb hK hP hD hS 17 0 rfl rfl 32 (by decide +kernel) (cIn (by decide +kernel)) dX12_onceLine_127 (fun H locs hP hD hS => ?_)
        refine lv_aload_n hx hb dX12_onceLine_128 rfl (lv_at hl 1 rfl) ?_
        refine va_get (D := D) (ci := 12) (v := .ref (aM 17)) (C := RX12) (T := TX12) (N := 51) hx hb hw inW_X12 hown hK hP 0 rfl rfl 27 (by decide) (hw _ mw_6_70) (fun _ h9 => h9) rfl dX12_onceLine_129 ?_
        refine lv_iload_n hx hb dX12_onceLine_132 rfl (lv_at hl 0 rfl) ?_
        refine lv_iconst (v := 5) hx hb dX12_onceLine_133 (by decide) ?_
        refine lv_iadd hx hb dX12_onceLine_134 ?_
        refine cLitI (y := 33) (by decide) ?_
        refine lv_aload_n hx hb dX12_onceLine_135 rfl (lv_at hl 1 rfl) ?_
        refine lv_ldc2 (v := 22726) hx hb hown (hw _ mw_7_69) dX12_onceLine_136 ?_
        refine lv_iconst (v := 0) hx hb dX12_onceLine_139 (by decide) ?_
        refine lv_bipush (v := 99) hx hb dX12_onceLine_140 (by decide) ?_
        have hP : va_P D vwCl (List.flatten (wM aM C ms_5 mw_6 (va_up (va_up ma 14 (upd (ma 14) 32 r7)) 15 (upd (ma 15) ((8 + p1).toNatClampNeg) 1)) ml)) H := hP
        have hD : va_D A (List.flatten (wM aM C ms_5 mw_6 (va_up (va_up ma 14 (upd (ma 14) 32 r7)) 15 (upd (ma 15) ((8 + p1).toNatClampNeg) 1)) ml)) := hD
        refine cGoAI (cRunAV (As := [.long 22726, .int 0, .int 99]) (rest := [.int 33, .ref (aM 17)]) ⟨hx, hb, hml, hown, hw⟩ hK hN hP hD (k_X12_number_ l D C _ aM  ms_5 mw_6 (va_up (va_up ma 14 (upd (ma 14) 32 r7)) 15 (upd (ma 15) ((8 + p1).toNatClampNeg) 1)) ml 22726 0 99 h) (cwV 3 hw (goodV mw_7_46 mw_7_48 mw_s119 mw_1_13 mw_7_49) rfl rfl rfl (by decide +kernel) ⟨Nat.le_of_ble_eq_true rfl, Nat.le_of_ble_eq_true rfl⟩) rfl rfl rfl hl.1 rfl (Nat.le_of_ble_eq_true rfl) dX12_onceLine_142 ⟨Nat.zero_le _, Nat.zero_le _⟩) hP hD hS hA (fun r10 u H locs h hP hD hS => ?_)
        obtain ⟨ms_8, mw_9⟩ := u
        have hP : va_P D vwCl (List.flatten (wM aM C ms_8 mw_9 (va_up (va_up ma 14 (upd (ma 14) 32 r7)) 15 (upd (ma 15) ((8 + p1).toNatClampNeg) 1)) ml)) H := hP
        have hD : va_D A (List.flatten (wM aM C ms_8 mw_9 (va_up (va_up ma 14 (upd (ma 14) 32 r7)) 15 (upd (ma 15) ((8 + p1).toNatClampNeg) 1)) ml)) := hD
        refine cIast hx hb hK hP hD hS 17 0 rfl rfl 33 (by decide +kernel) (cIn (by decide +kernel)) dX12_onceLine_145 (fun H locs hP hD hS => ?_)
        refine lv_aload_n hx hb dX12_onceLine_146 rfl (lv_at hl 1 rfl) ?_
        refine va_get (D := D) (ci := 12) (v := .ref (aM 17)) (C := RX12) (T := TX12) (N := 51) hx hb hw inW_X12 hown hK hP 0 rfl rfl 27 (by decide) (hw _ mw_6_70) (fun _ h9 => h9) rfl dX12_onceLine_147 ?_
        refine lv_iload_n hx hb dX12_onceLine_150 rfl (lv_at hl 0 rfl) ?_
        refine lv_iconst (v := 3) hx hb dX12_onceLine_151 (by decide) ?_
        refine lv_iadd hx hb dX12_onceLine_152 ?_
        refine cLitI (y := 31) (by decide) ?_
        refine lv_iconst (v := 1) hx hb dX12_onceLine_153 (by decide) ?_
        refine cIast hx hb hK hP hD hS 17 0 rfl rfl 31 (by decide +kernel) (cIn (by decide +kernel)) dX12_onceLine_154 (fun H locs hP hD hS => ?_)
        have hP : va_P D vwCl (List.flatten (wM aM C ms_8 mw_9 (va_up (va_up ma 14 (upd (upd (upd (ma 14) 32 r7) 33 r10) 31 1)) 15 (upd (ma 15) ((8 + p1).toNatClampNeg) 1)) ml)) H := hP
        have hD : va_D A (List.flatten (wM aM C ms_8 mw_9 (va_up (va_up ma 14 (upd (upd (upd (ma 14) 32 r7) 33 r10) 31 1)) 15 (upd (ma 15) ((8 + p1).toNatClampNeg) 1)) ml)) := hD
        rw [← hQ]
        exact cRetV (ms_8, mw_9, (va_up (va_up ma 14 (upd (upd (upd (ma 14) 32 r7) 33 r10) 31 1)) 15 (upd (ma 15) ((8 + p1).toNatClampNeg) 1))) hx hb hr hlocks hS hP hD h dX12_onceLine_155
      · have h := h.2 c4
        refine lv_aload_n hx hb dX12_onceLine_46 rfl (lv_at hl 1 rfl) ?_
        refine va_get (D := D) (ci := 12) (v := .ref (aM 17)) (C := RX12) (T := TX12) (N := 51) hx hb hw inW_X12 hown hK hP 0 rfl rfl 27 (by decide) (hw _ mw_6_70) (fun _ h9 => h9) rfl dX12_onceLine_47 ?_
        refine lv_iload_n hx hb dX12_onceLine_50 rfl (lv_at hl 0 rfl) ?_
        refine lv_iconst (v := 0) hx hb dX12_onceLine_51 (by decide) ?_
        refine lv_iadd hx hb dX12_onceLine_52 ?_
        refine cLitI (y := 28) (by decide) ?_
        refine lv_aload_n hx hb dX12_onceLine_53 rfl (lv_at hl 1 rfl) ?_
        refine lv_ldc2 (v := 8863997) hx hb hown (hw _ mw_7_65) dX12_onceLine_54 ?_
        refine lv_iconst (v := 0) hx hb dX12_onceLine_57 (by decide) ?_
        refine lv_sipush (v := 999) hx hb dX12_onceLine_58 (by decide) ?_
        have hP : va_P D vwCl (List.flatten (wM aM C ms_2 mw_3 (va_up ma 15 (upd (ma 15) ((8 + p1).toNatClampNeg) 1)) ml)) H := hP
        have hD : va_D A (List.flatten (wM aM C ms_2 mw_3 (va_up ma 15 (upd (ma 15) ((8 + p1).toNatClampNeg) 1)) ml)) := hD
        refine cGoAI (cRunAV (As := [.long 8863997, .int 0, .int 999]) (rest := [.int 28, .ref (aM 17)]) ⟨hx, hb, hml, hown, hw⟩ hK hN hP hD (k_X12_number_ l D C _ aM  ms_2 mw_3 (va_up ma 15 (upd (ma 15) ((8 + p1).toNatClampNeg) 1)) ml 8863997 0 999 h) (cwV 3 hw (goodV mw_7_46 mw_7_48 mw_s119 mw_1_13 mw_7_49) rfl rfl rfl (by decide +kernel) ⟨Nat.le_of_ble_eq_true rfl, Nat.le_of_ble_eq_true rfl⟩) rfl rfl rfl hl.1 rfl (Nat.le_of_ble_eq_true rfl) dX12_onceLine_61 ⟨Nat.zero_le _, Nat.zero_le _⟩) hP hD hS hA (fun r13 u H locs h hP hD hS => ?_)
        obtain ⟨ms_11, mw_12⟩ := u
        have hP : va_P D vwCl (List.flatten (wM aM C ms_11 mw_12 (va_up ma 15 (upd (ma 15) ((8 + p1).toNatClampNeg) 1)) ml)) H := hP
        have hD : va_D A (List.flatten (wM aM C ms_11 mw_12 (va_up ma 15 (upd (ma 15) ((8 + p1).toNatClampNeg) 1)) ml)) := hD
        refine cIast hx hb hK hP hD hS 17 0 rfl rfl 28 (by decide +kernel) (cIn (by decide +kernel)) dX12_onceLine_64 (fun H locs hP hD hS => ?_)
        refine lv_aload_n hx hb dX12_onceLine_65 rfl (lv_at hl 1 rfl) ?_
        refine va_get (D := D) (ci := 12) (v := .ref (aM 17)) (C := RX12) (T := TX12) (N := 51) hx hb hw inW_X12 hown hK hP 0 rfl rfl 27 (by decide) (hw _ mw_6_70) (fun _ h9 => h9) rfl dX12_onceLine_66 ?_
        refine lv_iload_n hx hb dX12_onceLine_69 rfl (lv_at hl 0 rfl) ?_
        refine lv_iconst (v := 1) hx hb dX12_onceLine_70 (by decide) ?_
        refine lv_iadd hx hb dX12_onceLine_71 ?_
        refine cLitI (y := 29) (by decide) ?_
        refine lv_aload_n hx hb dX12_onceLine_72 rfl (lv_at hl 1 rfl) ?_
        refine lv_ldc2 (v := 6132983) hx hb hown (hw _ mw_7_66) dX12_onceLine_73 ?_
        refine lv_iconst (v := 0) hx hb dX12_onceLine_76 (by decide) ?_
        refine lv_bipush (v := 100) hx hb dX12_onceLine_77 (by decide) ?_
        have hP : va_P D vwCl (List.flatten (wM aM C ms_11 mw_12 (va_up (va_up ma 14 (upd (ma 14) 28 r13)) 15 (upd (ma 15) ((8 + p1).toNatClampNeg) 1)) ml)) H := hP
        have hD : va_D A (List.flatten (wM aM C ms_11 mw_12 (va_up (va_up ma 14 (upd (ma 14) 28 r13)) 15 (upd (ma 15) ((8 + p1).toNatClampNeg) 1)) ml)) := hD
        refine cGoAI (cRunAV (As := [.long 6132983, .int 0, .int 100]) (rest := [.int 29, .ref (aM 17)]) ⟨hx, hb, hml, hown, hw⟩ hK hN hP hD (k_X12_number_ l D C _ aM  ms_11 mw_12 (va_up (va_up ma 14 (upd (ma 14) 28 r13)) 15 (upd (ma 15) ((8 + p1).toNatClampNeg) 1)) ml 6132983 0 100 h) (cwV 3 hw (goodV mw_7_46 mw_7_48 mw_s119 mw_1_13 mw_7_49) rfl rfl rfl (by decide +kernel) ⟨Nat.le_of_ble_eq_true rfl, Nat.le_of_ble_eq_true rfl⟩) rfl rfl rfl hl.1 rfl (Nat.le_of_ble_eq_true rfl) dX12_onceLine_79 ⟨Nat.zero_le _, Nat.zero_le _⟩) hP hD hS hA (fun r16 u H locs h hP hD hS => ?_)
        obtain ⟨ms_14, mw_15⟩ := u
        have hP : va_P D vwCl (List.flatten (wM aM C ms_14 mw_15 (va_up (va_up ma 14 (upd (ma 14) 28 r13)) 15 (upd (ma 15) ((8 + p1).toNatClampNeg) 1)) ml)) H := hP
        have hD : va_D A (List.flatten (wM aM C ms_14 mw_15 (va_up (va_up ma 14 (upd (ma 14) 28 r13)) 15 (upd (ma 15) ((8 + p1).toNatClampNeg) 1)) ml)) := hD
        refine cIast hx hb hK hP hD hS 17 0 rfl rfl 29 (by decide +kernel) (cIn (by decide +kernel)) dX12_onceLine_82 (fun H locs hP hD hS => ?_)
        refine lv_aload_n hx hb dX12_onceLine_83 rfl (lv_at hl 1 rfl) ?_
        refine va_get (D := D) (ci := 12) (v := .ref (aM 17)) (C := RX12) (T := TX12) (N := 51) hx hb hw inW_X12 hown hK hP 0 rfl rfl 27 (by decide) (hw _ mw_6_70) (fun _ h9 => h9) rfl dX12_onceLine_84 ?_
        refine lv_iload_n hx hb dX12_onceLine_87 rfl (lv_at hl 0 rfl) ?_
        refine lv_iconst (v := 2) hx hb dX12_onceLine_88 (by decide) ?_
        refine lv_iadd hx hb dX12_onceLine_89 ?_
        refine cLitI (y := 30) (by decide) ?_
        refine lv_aload_n hx hb dX12_onceLine_90 rfl (lv_at hl 1 rfl) ?_
        refine lv_ldc2 (v := 119656022) hx hb hown (hw _ mw_7_67) dX12_onceLine_91 ?_
        have hP : va_P D vwCl (List.flatten (wM aM C ms_14 mw_15 (va_up (va_up ma 14 (upd (upd (ma 14) 28 r13) 29 r16)) 15 (upd (ma 15) ((8 + p1).toNatClampNeg) 1)) ml)) H := hP
        have hD : va_D A (List.flatten (wM aM C ms_14 mw_15 (va_up (va_up ma 14 (upd (upd (ma 14) 28 r13) 29 r16)) 15 (upd (ma 15) ((8 + p1).toNatClampNeg) 1)) ml)) := hD
        refine cGoAI (cRunAV (As := [.long 119656022]) (rest := [.int 30, .ref (aM 17)]) ⟨hx, hb, hml, hown, hw⟩ hK hN hP hD (k_X12_takes l D C _ aM  ms_14 mw_15 (va_up (va_up ma 14 (upd (upd (ma 14) 28 r13) 29 r16)) 15 (upd (ma 15) ((8 + p1).toNatClampNeg) 1)) ml 119656022 h) (cwV 1 hw (goodV mw_7_33 mw_7_35 mw_s116 mw_1_13 mw_7_36) rfl rfl rfl (by decide +kernel) ⟨Nat.le_of_ble_eq_true rfl, Nat.le_of_ble_eq_true rfl⟩) rfl rfl rfl hl.1 rfl (Nat.le_of_ble_eq_true rfl) dX12_onceLine_94 ⟨Nat.zero_le _, Nat.zero_le _⟩) hP hD hS hA (fun r19 u H locs h hP hD hS => ?_)
        obtain ⟨ms_17, mw_18⟩ := u
        have hP : va_P D vwCl (List.flatten (wM aM C ms_17 mw_18 (va_up (va_up ma 14 (upd (upd (ma 14) 28 r13) 29 r16)) 15 (upd (ma 15) ((8 + p1).toNatClampNeg) 1)) ml)) H := hP
        have hD : va_D A (List.flatten (wM aM C ms_17 mw_18 (va_up (va_up ma 14 (upd (upd (ma 14) 28 r13) 29 r16)) 15 (upd (ma 15) ((8 + p1).toNatClampNeg) 1)) ml)) := hD
        refine lv_if_eq (tgt := 104) hx hb dX12_onceLine_97 (by decide) (fun c20 => ?_) (fun c20 => ?_)
        · have h := h.1 c20
          refine lv_iconst (v := 0) hx hb dX12_onceLine_104 (by decide) ?_
          refine cIast hx hb hK hP hD hS 17 0 rfl rfl 30 (by decide +kernel) (cIn (by decide +kernel)) dX12_onceLine_105 (fun H locs hP hD hS => ?_)
          refine lv_goto (tgt := 155) hx hb dX12_onceLine_106 (by decide) ?_
          have hP : va_P D vwCl (List.flatten (wM aM C ms_17 mw_18 (va_up (va_up ma 14 (upd (upd (upd (ma 14) 28 r13) 29 r16) 30 0)) 15 (upd (ma 15) ((8 + p1).toNatClampNeg) 1)) ml)) H := hP
          have hD : va_D A (List.flatten (wM aM C ms_17 mw_18 (va_up (va_up ma 14 (upd (upd (upd (ma 14) 28 r13) 29 r16) 30 0)) 15 (upd (ma 15) ((8 + p1).toNatClampNeg) 1)) ml)) := hD
          rw [← hQ]
          exact cRetV (ms_17, mw_18, (va_up (va_up ma 14 (upd (upd (upd (ma 14) 28 r13) 29 r16) 30 0)) 15 (upd (ma 15) ((8 + p1).toNatClampNeg) 1))) hx hb hr hlocks hS hP hD h dX12_onceLine_155
        · have h := h.2 c20
          refine lv_iconst (v := 1) hx hb dX12_onceLine_100 (by decide) ?_
          refine lv_goto (tgt := 105) hx hb dX12_onceLine_101 (by decide) ?_
          refine cIast hx hb hK hP hD hS 17 0 rfl rfl 30 (by decide +kernel) (cIn (by decide +kernel)) dX12_onceLine_105 (fun H locs hP hD hS => ?_)
          refine lv_goto (tgt := 155) hx hb dX12_onceLine_106 (by decide) ?_
          have hP : va_P D vwCl (List.flatten (wM aM C ms_17 mw_18 (va_up (va_up ma 14 (upd (upd (upd (ma 14) 28 r13) 29 r16) 30 1)) 15 (upd (ma 15) ((8 + p1).toNatClampNeg) 1)) ml)) H := hP
          have hD : va_D A (List.flatten (wM aM C ms_17 mw_18 (va_up (va_up ma 14 (upd (upd (upd (ma 14) 28 r13) 29 r16) 30 1)) 15 (upd (ma 15) ((8 + p1).toNatClampNeg) 1)) ml)) := hD
          rw [← hQ]
          exact cRetV (ms_17, mw_18, (va_up (va_up ma 14 (upd (upd (upd (ma 14) 28 r13) 29 r16) 30 1)) 15 (upd (ma 15) ((8 + p1).toNatClampNeg) 1))) hx hb hr hlocks hS hP hD h dX12_onceLine_155
    · have h := h.2 c1
      rw [← hQ]
      exact cRetV (ms, mw, ma) hx hb hr hlocks hS hP hD h dX12_onceLine_24
  refine lv_aload_n hx hb dX12_onceLine_0 rfl (lv_at hl 0 rfl) ?_
  refine va_get (D := D) (ci := 12) (v := .ref (aM 18)) (C := RX12) (T := TX12) (N := 51) hx hb hw inW_X12 hown hK hP 0 rfl rfl 28 (by decide) (hw _ mw_6_71) (fun _ h9 => h9) rfl dX12_onceLine_1 ?_
  refine lv_bipush (v := 8) hx hb dX12_onceLine_4 (by decide) ?_
  refine lv_iload_n hx hb dX12_onceLine_6 rfl (lv_at hl 1 rfl) ?_
  refine lv_iadd hx hb dX12_onceLine_7 ?_
  refine cZald hx hb hK hP 18 3 rfl rfl ((8 + p1).toNatClampNeg) rfl h.1 dX12_onceLine_8 ?_
  have h := h.2
  refine lv_if_eq (tgt := 17) hx hb dX12_onceLine_9 (by decide) (fun c21 => ?_) (fun c21 => ?_)
  · have h := h.1 c21
    exact N17 ms mw ma _ _ _ h hP hD hS (lv_sub hl [0, 1] rfl)
  · have h := h.2 c21
    refine lv_aload_n hx hb dX12_onceLine_12 rfl (lv_at hl 0 rfl) ?_
    refine lv_iconst (v := 2) hx hb dX12_onceLine_13 (by decide) ?_
    refine cGoAV (cRunAV (As := [.int 2]) (rest := []) ⟨hx, hb, hml, hown, hw⟩ hK hN hP hD (k_X12_fails l D C _ aM  ms mw ma ml 2 h) (cwV 1 hw (goodV mw_7_41 mw_7_43 mw_s118 mw_1_13 mw_7_44) rfl rfl rfl (by decide +kernel) ⟨Nat.le_of_ble_eq_true rfl, Nat.le_of_ble_eq_true rfl⟩) rfl rfl rfl hl.1 rfl (Nat.le_of_ble_eq_true rfl) dX12_onceLine_14 ⟨Nat.zero_le _, Nat.zero_le _⟩) hP hD hS hA (fun ms_22 H locs h hP hD hS => ?_)
    have hP : va_P D vwCl (List.flatten (wM aM C ms_22 mw ma ml)) H := hP
    have hD : va_D A (List.flatten (wM aM C ms_22 mw ma ml)) := hD
    exact N17 ms_22 mw ma _ _ _ h hP hD hS (lv_sub hl [0, 1] rfl)
abbrev vsX12_isFull : List Cond := Cond.code yX12_isFull cX12_isFull 2 (some .boolean) :: WS
abbrev rmX12_isFull : Room := { frames := 0, cells := 0, slots := 0, locals := 0 }
set_option maxHeartbeats 4000000 in
set_option maxRecDepth 100000 in
theorem k_X12_isFull (l : Launch) (D : va_G) (C : Nat → ClassId) (sz : Nat) (aM : Nat → Nat)  (ms : Nat → Int32) (mw : Nat → Int64) (ma : Nat → Nat → Int32) (ml : Nat → Nat → Int64) (p1 : Int32) {post : Int32 → Prop} (h : P_X12_isFull ma p1 post) : Met l yX12_isFull vsX12_isFull rmX12_isFull (cPre D C [.ref (aM 0), .int p1] sz (wM aM C ms mw ma ml)) (cQi D (fun (r : Int32) (u : Unit) => post r ) (fun u => wM aM C ms mw ma ml) (va_A (List.flatten (wM aM C ms mw ma ml)) sz)) 0 0 (va_A (List.flatten (wM aM C ms mw ma ml)) sz) := by
  refine cStart (QA := fun A => cQi D (fun (r : Int32) (u : Unit) => post r ) (fun u => wM aM C ms mw ma ml) A) (cc := cX12_isFull) (maxL := 2) (ret := (some .boolean)) (by decide) (Nat.le_of_ble_eq_true rfl) ?_
  intro p e s m args below meth c A ls hx hb hr hml hown hw hlocks hname hK hN hA hP hD hS hl
  generalize hQ : MQ below _ args s 0 0 A = Q
  have hl : lv_has ls 2 [(0, .ref (aM 0)), (1, .int p1)] := hl
  obtain ⟨H, hH⟩ : ∃ H, H = s.heap := ⟨_, rfl⟩
  obtain ⟨locs, hlo⟩ : ∃ z : List Loc, z = [] := ⟨_, rfl⟩
  have hP : va_P D vwCl (List.flatten (wM aM C ms mw ma ml)) H := by rw [hH]; exact hP
  have hS : va_S A s.heap H locs := by rw [hH, hlo]; exact hS
  rw [show W p l e rmX12_isFull s m args below meth c s.heap [] 0 0 Q (F0 m 0 ls []) = W p l e rmX12_isFull s m args below meth c H locs 0 0 Q (F0 m 0 ls []) from by rw [hH, hlo]]
  refine lv_iload_n hx hb dX12_isFull_0 rfl (lv_at hl 1 rfl) ?_
  by_cases c1_0 : p1 = 0
  · refine lv_tableIn (tgt := 28) hx hb dX12_isFull_1 (by rw [c1_0] <;> decide) (by rw [c1_0] <;> decide) (by rw [c1_0] <;> rfl) (by decide) ?_
    have h := h.1 c1_0
    refine lv_aload_n hx hb dX12_isFull_28 rfl (lv_at hl 0 rfl) ?_
    refine va_get (D := D) (ci := 12) (v := .ref (aM 9)) (C := RX12) (T := TX12) (N := 51) hx hb hw inW_X12 hown hK hP 0 rfl rfl 19 (by decide) (hw _ mw_6_62) (fun _ h9 => h9) rfl dX12_isFull_29 ?_
    refine lv_iconst (v := 4) hx hb dX12_isFull_32 (by decide) ?_
    refine cIald hx hb hK hP 9 0 rfl rfl 4 (by decide +kernel) (cIn (by decide +kernel)) dX12_isFull_33 ?_
    refine lv_iconst (v := 4) hx hb dX12_isFull_34 (by decide) ?_
    refine lv_icmp_ne (tgt := 42) hx hb dX12_isFull_35 (by decide) (fun c2 => ?_) (fun c2 => ?_)
    · have h := h.1 c2
      refine lv_iconst (v := 0) hx hb dX12_isFull_42 (by decide) ?_
      rw [← hQ]
      exact cRetZ (v := 0) () hx hb hr hlocks hS hP hD (Or.inl rfl) h dX12_isFull_43
    · have h := h.2 c2
      refine lv_iconst (v := 1) hx hb dX12_isFull_38 (by decide) ?_
      refine lv_goto (tgt := 43) hx hb dX12_isFull_39 (by decide) ?_
      rw [← hQ]
      exact cRetZ (v := 1) () hx hb hr hlocks hS hP hD (Or.inr rfl) h dX12_isFull_43
  by_cases c1_1 : p1 = 1
  · refine lv_tableIn (tgt := 44) hx hb dX12_isFull_1 (by rw [c1_1] <;> decide) (by rw [c1_1] <;> decide) (by rw [c1_1] <;> rfl) (by decide) ?_
    have h := h.2.1 c1_1
    refine lv_aload_n hx hb dX12_isFull_44 rfl (lv_at hl 0 rfl) ?_
    refine va_get (D := D) (ci := 12) (v := .ref (aM 11)) (C := RX12) (T := TX12) (N := 51) hx hb hw inW_X12 hown hK hP 0 rfl rfl 21 (by decide) (hw _ mw_6_64) (fun _ h9 => h9) rfl dX12_isFull_45 ?_
    refine lv_iconst (v := 4) hx hb dX12_isFull_48 (by decide) ?_
    refine cIald hx hb hK hP 11 0 rfl rfl 4 (by decide +kernel) (cIn (by decide +kernel)) dX12_isFull_49 ?_
    refine lv_iconst (v := 5) hx hb dX12_isFull_50 (by decide) ?_
    refine lv_icmp_ne (tgt := 58) hx hb dX12_isFull_51 (by decide) (fun c3 => ?_) (fun c3 => ?_)
    · have h := h.1 c3
      refine lv_iconst (v := 0) hx hb dX12_isFull_58 (by decide) ?_
      rw [← hQ]
      exact cRetZ (v := 0) () hx hb hr hlocks hS hP hD (Or.inl rfl) h dX12_isFull_59
    · have h := h.2 c3
      refine lv_iconst (v := 1) hx hb dX12_isFull_54 (by decide) ?_
      refine lv_goto (tgt := 59) hx hb dX12_isFull_55 (by decide) ?_
      rw [← hQ]
      exact cRetZ (v := 1) () hx hb hr hlocks hS hP hD (Or.inr rfl) h dX12_isFull_59
  by_cases c1_2 : p1 = 2
  · refine lv_tableIn (tgt := 60) hx hb dX12_isFull_1 (by rw [c1_2] <;> decide) (by rw [c1_2] <;> decide) (by rw [c1_2] <;> rfl) (by decide) ?_
    have h := h.2.2.1 c1_2
    refine lv_aload_n hx hb dX12_isFull_60 rfl (lv_at hl 0 rfl) ?_
    refine va_get (D := D) (ci := 12) (v := .ref (aM 13)) (C := RX12) (T := TX12) (N := 51) hx hb hw inW_X12 hown hK hP 0 rfl rfl 23 (by decide) (hw _ mw_6_66) (fun _ h9 => h9) rfl dX12_isFull_61 ?_
    refine lv_iconst (v := 4) hx hb dX12_isFull_64 (by decide) ?_
    refine cIald hx hb hK hP 13 0 rfl rfl 4 (by decide +kernel) (cIn (by decide +kernel)) dX12_isFull_65 ?_
    refine lv_bipush (v := 10) hx hb dX12_isFull_66 (by decide) ?_
    refine lv_icmp_ne (tgt := 75) hx hb dX12_isFull_68 (by decide) (fun c4 => ?_) (fun c4 => ?_)
    · have h := h.1 c4
      refine lv_iconst (v := 0) hx hb dX12_isFull_75 (by decide) ?_
      rw [← hQ]
      exact cRetZ (v := 0) () hx hb hr hlocks hS hP hD (Or.inl rfl) h dX12_isFull_76
    · have h := h.2 c4
      refine lv_iconst (v := 1) hx hb dX12_isFull_71 (by decide) ?_
      refine lv_goto (tgt := 76) hx hb dX12_isFull_72 (by decide) ?_
      rw [← hQ]
      exact cRetZ (v := 1) () hx hb hr hlocks hS hP hD (Or.inr rfl) h dX12_isFull_76
  refine lv_tableOut (tgt := 77) hx hb dX12_isFull_1 (sw_out3 c1_0 c1_1 c1_2) (by decide) ?_
  have h := h.2.2.2 c1_0 c1_1 c1_2
  refine lv_aload_n hx hb dX12_isFull_77 rfl (lv_at hl 0 rfl) ?_
  refine va_get (D := D) (ci := 12) (v := .ref (aM 15)) (C := RX12) (T := TX12) (N := 51) hx hb hw inW_X12 hown hK hP 0 rfl rfl 25 (by decide) (hw _ mw_6_68) (fun _ h9 => h9) rfl dX12_isFull_78 ?_
  refine lv_iconst (v := 4) hx hb dX12_isFull_81 (by decide) ?_
  refine cIald hx hb hK hP 15 0 rfl rfl 4 (by decide +kernel) (cIn (by decide +kernel)) dX12_isFull_82 ?_
  refine lv_bipush (v := 6) hx hb dX12_isFull_83 (by decide) ?_
  refine lv_icmp_ne (tgt := 92) hx hb dX12_isFull_85 (by decide) (fun c5 => ?_) (fun c5 => ?_)
  · have h := h.1 c5
    refine lv_iconst (v := 0) hx hb dX12_isFull_92 (by decide) ?_
    rw [← hQ]
    exact cRetZ (v := 0) () hx hb hr hlocks hS hP hD (Or.inl rfl) h dX12_isFull_93
  · have h := h.2 c5
    refine lv_iconst (v := 1) hx hb dX12_isFull_88 (by decide) ?_
    refine lv_goto (tgt := 93) hx hb dX12_isFull_89 (by decide) ?_
    rw [← hQ]
    exact cRetZ (v := 1) () hx hb hr hlocks hS hP hD (Or.inr rfl) h dX12_isFull_93
abbrev vsX12_railLine : List Cond := Cond.code yX12_railLine cX12_railLine 1 none :: WS
abbrev rmX12_railLine : Room := { frames := 5, cells := 0, slots := 0, locals := 112 }
set_option maxHeartbeats 4000000 in
set_option maxRecDepth 100000 in
theorem k_X12_railLine (l : Launch) (D : va_G) (C : Nat → ClassId) (sz : Nat) (aM : Nat → Nat)  (ms : Nat → Int32) (mw : Nat → Int64) (ma : Nat → Nat → Int32) (ml : Nat → Nat → Int64)  {post : (Nat → Int32) → (Nat → Int64) → (Nat → Nat → Int32) → Prop} (h : P_X12_railLine ms mw ma post) : Met l yX12_railLine vsX12_railLine rmX12_railLine (cPre D C [.ref (aM 0)] sz (wM aM C ms mw ma ml)) (cQv D (fun (u : (Nat → Int32) × (Nat → Int64) × (Nat → Nat → Int32)) => post u.1 u.2.1 u.2.2) (fun u => wM aM C u.1 u.2.1 u.2.2 ml) (va_A (List.flatten (wM aM C ms mw ma ml)) sz)) 0 0 (va_A (List.flatten (wM aM C ms mw ma ml)) sz) := by
  refine cStart (QA := fun A => cQv D (fun (u : (Nat → Int32) × (Nat → Int64) × (Nat → Nat → Int32)) => post u.1 u.2.1 u.2.2) (fun u => wM aM C u.1 u.2.1 u.2.2 ml) A) (cc := cX12_railLine) (maxL := 1) (ret := none) (by decide) (Nat.le_of_ble_eq_true rfl) ?_
  intro p e s m args below meth c A ls hx hb hr hml hown hw hlocks hname hK hN hA hP hD hS hl
  generalize hQ : MQ below _ args s 0 0 A = Q
  have hl : lv_has ls 1 [(0, .ref (aM 0))] := hl
  obtain ⟨H, hH⟩ : ∃ H, H = s.heap := ⟨_, rfl⟩
  obtain ⟨locs, hlo⟩ : ∃ z : List Loc, z = [] := ⟨_, rfl⟩
  have hP : va_P D vwCl (List.flatten (wM aM C ms mw ma ml)) H := by rw [hH]; exact hP
  have hS : va_S A s.heap H locs := by rw [hH, hlo]; exact hS
  rw [show W p l e rmX12_railLine s m args below meth c s.heap [] 0 0 Q (F0 m 0 ls []) = W p l e rmX12_railLine s m args below meth c H locs 0 0 Q (F0 m 0 ls []) from by rw [hH, hlo]]
  refine lv_aload_n hx hb dX12_railLine_0 rfl (lv_at hl 0 rfl) ?_
  refine lv_ldc2 (v := 355278) hx hb hown (hw _ mw_7_28) dX12_railLine_1 ?_
  refine cGoAV (cRunAV (As := [.long 355278]) (rest := []) ⟨hx, hb, hml, hown, hw⟩ hK hN hP hD (k_X12_asks l D C _ aM  ms mw ma ml 355278 h) (cwV 1 hw (goodV mw_7_29 mw_7_31 mw_s115 mw_1_13 mw_7_32) rfl rfl rfl (by decide +kernel) ⟨Nat.le_of_ble_eq_true rfl, Nat.le_of_ble_eq_true rfl⟩) rfl rfl rfl hl.1 rfl (Nat.le_of_ble_eq_true rfl) dX12_railLine_4 ⟨Nat.zero_le _, Nat.zero_le _⟩) hP hD hS hA (fun u H locs h hP hD hS => ?_)
  obtain ⟨ms_1, mw_2⟩ := u
  have hP : va_P D vwCl (List.flatten (wM aM C ms_1 mw_2 ma ml)) H := hP
  have hD : va_D A (List.flatten (wM aM C ms_1 mw_2 ma ml)) := hD
  refine lv_aload_n hx hb dX12_railLine_7 rfl (lv_at hl 0 rfl) ?_
  refine va_get (D := D) (ci := 12) (v := .ref (aM 7)) (C := RX12) (T := TX12) (N := 51) hx hb hw inW_X12 hown hK hP 0 rfl rfl 17 (by decide) (hw _ mw_6_60) (fun _ h9 => h9) rfl dX12_railLine_8 ?_
  refine lv_iconst (v := 4) hx hb dX12_railLine_11 (by decide) ?_
  refine lv_aload_n hx hb dX12_railLine_12 rfl (lv_at hl 0 rfl) ?_
  refine lv_ldc2 (v := 235981828) hx hb hown (hw _ mw_7_45) dX12_railLine_13 ?_
  refine lv_iconst (v := 1) hx hb dX12_railLine_16 (by decide) ?_
  refine lv_bipush (v := 20) hx hb dX12_railLine_17 (by decide) ?_
  refine cGoAI (cRunAV (As := [.long 235981828, .int 1, .int 20]) (rest := [.int 4, .ref (aM 7)]) ⟨hx, hb, hml, hown, hw⟩ hK hN hP hD (k_X12_number_ l D C _ aM  ms_1 mw_2 ma ml 235981828 1 20 h) (cwV 3 hw (goodV mw_7_46 mw_7_48 mw_s119 mw_1_13 mw_7_49) rfl rfl rfl (by decide +kernel) ⟨Nat.le_of_ble_eq_true rfl, Nat.le_of_ble_eq_true rfl⟩) rfl rfl rfl hl.1 rfl (Nat.le_of_ble_eq_true rfl) dX12_railLine_19 ⟨Nat.zero_le _, Nat.zero_le _⟩) hP hD hS hA (fun r5 u H locs h hP hD hS => ?_)
  obtain ⟨ms_3, mw_4⟩ := u
  have hP : va_P D vwCl (List.flatten (wM aM C ms_3 mw_4 ma ml)) H := hP
  have hD : va_D A (List.flatten (wM aM C ms_3 mw_4 ma ml)) := hD
  refine cIast hx hb hK hP hD hS 7 0 rfl rfl 4 (by decide +kernel) (cIn (by decide +kernel)) dX12_railLine_22 (fun H locs hP hD hS => ?_)
  refine lv_aload_n hx hb dX12_railLine_23 rfl (lv_at hl 0 rfl) ?_
  refine va_get (D := D) (ci := 12) (v := .ref (aM 8)) (C := RX12) (T := TX12) (N := 51) hx hb hw inW_X12 hown hK hP 0 rfl rfl 18 (by decide) (hw _ mw_6_61) (fun _ h9 => h9) rfl dX12_railLine_24 ?_
  refine lv_iconst (v := 4) hx hb dX12_railLine_27 (by decide) ?_
  refine lv_aload_n hx hb dX12_railLine_28 rfl (lv_at hl 0 rfl) ?_
  refine lv_ldc2 (v := 205811839) hx hb hown (hw _ mw_7_54) dX12_railLine_29 ?_
  refine lv_iconst (v := 1) hx hb dX12_railLine_32 (by decide) ?_
  refine lv_bipush (v := 60) hx hb dX12_railLine_33 (by decide) ?_
  have hP : va_P D vwCl (List.flatten (wM aM C ms_3 mw_4 (va_up ma 4 (upd (ma 4) 4 r5)) ml)) H := hP
  have hD : va_D A (List.flatten (wM aM C ms_3 mw_4 (va_up ma 4 (upd (ma 4) 4 r5)) ml)) := hD
  refine cGoAI (cRunAV (As := [.long 205811839, .int 1, .int 60]) (rest := [.int 4, .ref (aM 8)]) ⟨hx, hb, hml, hown, hw⟩ hK hN hP hD (k_X12_number_ l D C _ aM  ms_3 mw_4 (va_up ma 4 (upd (ma 4) 4 r5)) ml 205811839 1 60 h) (cwV 3 hw (goodV mw_7_46 mw_7_48 mw_s119 mw_1_13 mw_7_49) rfl rfl rfl (by decide +kernel) ⟨Nat.le_of_ble_eq_true rfl, Nat.le_of_ble_eq_true rfl⟩) rfl rfl rfl hl.1 rfl (Nat.le_of_ble_eq_true rfl) dX12_railLine_35 ⟨Nat.zero_le _, Nat.zero_le _⟩) hP hD hS hA (fun r8 u H locs h hP hD hS => ?_)
  obtain ⟨ms_6, mw_7⟩ := u
  have hP : va_P D vwCl (List.flatten (wM aM C ms_6 mw_7 (va_up ma 4 (upd (ma 4) 4 r5)) ml)) H := hP
  have hD : va_D A (List.flatten (wM aM C ms_6 mw_7 (va_up ma 4 (upd (ma 4) 4 r5)) ml)) := hD
  refine cIast hx hb hK hP hD hS 8 0 rfl rfl 4 (by decide +kernel) (cIn (by decide +kernel)) dX12_railLine_38 (fun H locs hP hD hS => ?_)
  have hP : va_P D vwCl (List.flatten (wM aM C ms_6 mw_7 (va_up (va_up ma 4 (upd (ma 4) 4 r5)) 5 (upd (ma 5) 4 r8)) ml)) H := hP
  have hD : va_D A (List.flatten (wM aM C ms_6 mw_7 (va_up (va_up ma 4 (upd (ma 4) 4 r5)) 5 (upd (ma 5) 4 r8)) ml)) := hD
  rw [← hQ]
  exact cRetV (ms_6, mw_7, (va_up (va_up ma 4 (upd (ma 4) 4 r5)) 5 (upd (ma 5) 4 r8))) hx hb hr hlocks hS hP hD h dX12_railLine_39
abbrev vsX12_clears : List Cond := Cond.code yX12_clears cX12_clears 2 none :: WS
abbrev rmX12_clears : Room := { frames := 0, cells := 0, slots := 0, locals := 0 }
set_option maxHeartbeats 4000000 in
set_option maxRecDepth 100000 in
theorem k_X12_clears (l : Launch) (D : va_G) (C : Nat → ClassId) (sz : Nat) (aM : Nat → Nat)  (ms : Nat → Int32) (mw : Nat → Int64) (ma : Nat → Nat → Int32) (ml : Nat → Nat → Int64)  {post : (Nat → Nat → Int32) → Prop} (h : P_X12_clears ma post) : Met l yX12_clears vsX12_clears rmX12_clears (cPre D C [.ref (aM 0)] sz (wM aM C ms mw ma ml)) (cQv D (fun (u : (Nat → Nat → Int32)) => post u) (fun u => wM aM C ms mw u ml) (va_A (List.flatten (wM aM C ms mw ma ml)) sz)) 0 0 (va_A (List.flatten (wM aM C ms mw ma ml)) sz) := by
  refine cStart (QA := fun A => cQv D (fun (u : (Nat → Nat → Int32)) => post u) (fun u => wM aM C ms mw u ml) A) (cc := cX12_clears) (maxL := 2) (ret := none) (by decide) (Nat.le_of_ble_eq_true rfl) ?_
  intro p e s m args below meth c A ls hx hb hr hml hown hw hlocks hname hK hN hA hP hD hS hl
  generalize hQ : MQ below _ args s 0 0 A = Q
  have hl : lv_has ls 2 [(0, .ref (aM 0))] := hl
  obtain ⟨H, hH⟩ : ∃ H, H = s.heap := ⟨_, rfl⟩
  obtain ⟨locs, hlo⟩ : ∃ z : List Loc, z = [] := ⟨_, rfl⟩
  have hP : va_P D vwCl (List.flatten (wM aM C ms mw ma ml)) H := by rw [hH]; exact hP
  have hS : va_S A s.heap H locs := by rw [hH, hlo]; exact hS
  rw [show W p l e rmX12_clears s m args below meth c s.heap [] 0 0 Q (F0 m 0 ls []) = W p l e rmX12_clears s m args below meth c H locs 0 0 Q (F0 m 0 ls []) from by rw [hH, hlo]]
  have N98 : ∀  (n98 : Nat) (x1_ : Int32) (ma : Nat → Nat → Int32) (H : Heap) (locs : List Loc) (ls : Array Slot), P_X12_clears_98  post   n98 x1_ ma → va_P D vwCl (List.flatten (wM aM C ms mw ma ml)) H → va_D A (List.flatten (wM aM C ms mw ma ml)) → va_S A s.heap H locs → lv_has ls 2 [(0, .ref (aM 0)), (1, .int x1_)] → W p l e rmX12_clears s m args below meth c H locs 0 0 Q (F0 m 98 ls []) := by
    intro n98
    induction n98 with
    | zero => intro x1_ ma H locs ls h hP hD hS hl; exact False.elim h
    | succ n98 ih98 =>
      intro x1_ ma H locs ls h hP hD hS hl
      refine lv_iload_n hx hb dX12_clears_98 rfl (lv_at hl 1 rfl) ?_
      refine lv_bipush (v := 17) hx hb dX12_clears_99 (by decide) ?_
      refine lv_icmp_ge (tgt := 120) hx hb dX12_clears_101 (by decide) (fun c1 => ?_) (fun c1 => ?_)
      · have h := h.1 c1
        rw [← hQ]
        exact cRetV (ma) hx hb hr hlocks hS hP hD h dX12_clears_120
      · have h := h.2 c1
        refine lv_aload_n hx hb dX12_clears_104 rfl (lv_at hl 0 rfl) ?_
        refine va_get (D := D) (ci := 12) (v := .ref (aM 19)) (C := RX12) (T := TX12) (N := 51) hx hb hw inW_X12 hown hK hP 0 rfl rfl 29 (by decide) (hw _ mw_6_72) (fun _ h9 => h9) rfl dX12_clears_105 ?_
        refine lv_bipush (v := 68) hx hb dX12_clears_108 (by decide) ?_
        refine lv_iload_n hx hb dX12_clears_110 rfl (lv_at hl 1 rfl) ?_
        refine lv_iadd hx hb dX12_clears_111 ?_
        refine lv_iconst (v := 0) hx hb dX12_clears_112 (by decide) ?_
        refine cIast hx hb hK hP hD hS 19 0 rfl rfl ((68 + x1_).toNatClampNeg) rfl h.1 dX12_clears_113 (fun H locs hP hD hS => ?_)
        have h := h.2
        refine lv_iinc (v := (x1_ + 1)) (lv' := [(1, .int (x1_ + 1)), (0, .ref (aM 0))]) hx hb dX12_clears_114 hl (k := 1) rfl rfl (by decide) rfl (fun ls hl => ?_)
        refine lv_goto (tgt := 98) hx hb dX12_clears_117 (by decide) ?_
        have hP : va_P D vwCl (List.flatten (wM aM C ms mw (va_up ma 16 (upd (ma 16) ((68 + x1_).toNatClampNeg) 0)) ml)) H := hP
        have hD : va_D A (List.flatten (wM aM C ms mw (va_up ma 16 (upd (ma 16) ((68 + x1_).toNatClampNeg) 0)) ml)) := hD
        exact ih98 (x1_ + 1) (va_up ma 16 (upd (ma 16) ((68 + x1_).toNatClampNeg) 0)) _ _ _ h hP hD hS (lv_sub hl [1, 0] rfl)
  have N75 : ∀  (n75 : Nat) (x1_ : Int32) (ma : Nat → Nat → Int32) (H : Heap) (locs : List Loc) (ls : Array Slot), P_X12_clears_75  post (fun (x1_ : Int32) (ma : Nat → Nat → Int32) => ∃ n : Nat, P_X12_clears_98  post   n x1_ ma)  n75 x1_ ma → va_P D vwCl (List.flatten (wM aM C ms mw ma ml)) H → va_D A (List.flatten (wM aM C ms mw ma ml)) → va_S A s.heap H locs → lv_has ls 2 [(0, .ref (aM 0)), (1, .int x1_)] → W p l e rmX12_clears s m args below meth c H locs 0 0 Q (F0 m 75 ls []) := by
    intro n75
    induction n75 with
    | zero => intro x1_ ma H locs ls h hP hD hS hl; exact False.elim h
    | succ n75 ih75 =>
      intro x1_ ma H locs ls h hP hD hS hl
      refine lv_iload_n hx hb dX12_clears_75 rfl (lv_at hl 1 rfl) ?_
      refine lv_iconst (v := 2) hx hb dX12_clears_76 (by decide) ?_
      refine lv_icmp_ge (tgt := 96) hx hb dX12_clears_77 (by decide) (fun c2 => ?_) (fun c2 => ?_)
      · have h := h.1 c2
        refine lv_iconst (v := 0) hx hb dX12_clears_96 (by decide) ?_
        refine lv_istore_n (lv' := [(1, .int 0), (0, .ref (aM 0))]) hx hb dX12_clears_97 rfl hl (by decide) rfl (fun ls hl => ?_)
        obtain ⟨n, h⟩ := h
        exact N98  n 0 ma _ _ _ h hP hD hS (lv_sub hl [1, 0] rfl)
      · have h := h.2 c2
        refine lv_aload_n hx hb dX12_clears_80 rfl (lv_at hl 0 rfl) ?_
        refine va_get (D := D) (ci := 12) (v := .ref (aM 18)) (C := RX12) (T := TX12) (N := 51) hx hb hw inW_X12 hown hK hP 0 rfl rfl 28 (by decide) (hw _ mw_6_71) (fun _ h9 => h9) rfl dX12_clears_81 ?_
        refine lv_bipush (v := 8) hx hb dX12_clears_84 (by decide) ?_
        refine lv_iload_n hx hb dX12_clears_86 rfl (lv_at hl 1 rfl) ?_
        refine lv_iadd hx hb dX12_clears_87 ?_
        refine lv_iconst (v := 0) hx hb dX12_clears_88 (by decide) ?_
        refine cZast hx hb hK hP hD hS 18 3 rfl rfl ((8 + x1_).toNatClampNeg) rfl h.1 (Or.inl rfl) dX12_clears_89 (fun H locs hP hD hS => ?_)
        have h := h.2
        refine lv_iinc (v := (x1_ + 1)) (lv' := [(1, .int (x1_ + 1)), (0, .ref (aM 0))]) hx hb dX12_clears_90 hl (k := 1) rfl rfl (by decide) rfl (fun ls hl => ?_)
        refine lv_goto (tgt := 75) hx hb dX12_clears_93 (by decide) ?_
        have hP : va_P D vwCl (List.flatten (wM aM C ms mw (va_up ma 15 (upd (ma 15) ((8 + x1_).toNatClampNeg) 0)) ml)) H := hP
        have hD : va_D A (List.flatten (wM aM C ms mw (va_up ma 15 (upd (ma 15) ((8 + x1_).toNatClampNeg) 0)) ml)) := hD
        exact ih75 (x1_ + 1) (va_up ma 15 (upd (ma 15) ((8 + x1_).toNatClampNeg) 0)) _ _ _ h hP hD hS (lv_sub hl [1, 0] rfl)
  have N51 : ∀  (n51 : Nat) (x1_ : Int32) (ma : Nat → Nat → Int32) (H : Heap) (locs : List Loc) (ls : Array Slot), P_X12_clears_51  post (fun (x1_ : Int32) (ma : Nat → Nat → Int32) => ∃ n : Nat, P_X12_clears_75  post (fun (x1_ : Int32) (ma : Nat → Nat → Int32) => ∃ n : Nat, P_X12_clears_98  post   n x1_ ma)  n x1_ ma)  n51 x1_ ma → va_P D vwCl (List.flatten (wM aM C ms mw ma ml)) H → va_D A (List.flatten (wM aM C ms mw ma ml)) → va_S A s.heap H locs → lv_has ls 2 [(0, .ref (aM 0)), (1, .int x1_)] → W p l e rmX12_clears s m args below meth c H locs 0 0 Q (F0 m 51 ls []) := by
    intro n51
    induction n51 with
    | zero => intro x1_ ma H locs ls h hP hD hS hl; exact False.elim h
    | succ n51 ih51 =>
      intro x1_ ma H locs ls h hP hD hS hl
      refine lv_iload_n hx hb dX12_clears_51 rfl (lv_at hl 1 rfl) ?_
      refine lv_bipush (v := 7) hx hb dX12_clears_52 (by decide) ?_
      refine lv_icmp_ge (tgt := 73) hx hb dX12_clears_54 (by decide) (fun c3 => ?_) (fun c3 => ?_)
      · have h := h.1 c3
        refine lv_iconst (v := 0) hx hb dX12_clears_73 (by decide) ?_
        refine lv_istore_n (lv' := [(1, .int 0), (0, .ref (aM 0))]) hx hb dX12_clears_74 rfl hl (by decide) rfl (fun ls hl => ?_)
        obtain ⟨n, h⟩ := h
        exact N75  n 0 ma _ _ _ h hP hD hS (lv_sub hl [1, 0] rfl)
      · have h := h.2 c3
        refine lv_aload_n hx hb dX12_clears_57 rfl (lv_at hl 0 rfl) ?_
        refine va_get (D := D) (ci := 12) (v := .ref (aM 17)) (C := RX12) (T := TX12) (N := 51) hx hb hw inW_X12 hown hK hP 0 rfl rfl 27 (by decide) (hw _ mw_6_70) (fun _ h9 => h9) rfl dX12_clears_58 ?_
        refine lv_bipush (v := 28) hx hb dX12_clears_61 (by decide) ?_
        refine lv_iload_n hx hb dX12_clears_63 rfl (lv_at hl 1 rfl) ?_
        refine lv_iadd hx hb dX12_clears_64 ?_
        refine lv_iconst (v := 0) hx hb dX12_clears_65 (by decide) ?_
        refine cIast hx hb hK hP hD hS 17 0 rfl rfl ((28 + x1_).toNatClampNeg) rfl h.1 dX12_clears_66 (fun H locs hP hD hS => ?_)
        have h := h.2
        refine lv_iinc (v := (x1_ + 1)) (lv' := [(1, .int (x1_ + 1)), (0, .ref (aM 0))]) hx hb dX12_clears_67 hl (k := 1) rfl rfl (by decide) rfl (fun ls hl => ?_)
        refine lv_goto (tgt := 51) hx hb dX12_clears_70 (by decide) ?_
        have hP : va_P D vwCl (List.flatten (wM aM C ms mw (va_up ma 14 (upd (ma 14) ((28 + x1_).toNatClampNeg) 0)) ml)) H := hP
        have hD : va_D A (List.flatten (wM aM C ms mw (va_up ma 14 (upd (ma 14) ((28 + x1_).toNatClampNeg) 0)) ml)) := hD
        exact ih51 (x1_ + 1) (va_up ma 14 (upd (ma 14) ((28 + x1_).toNatClampNeg) 0)) _ _ _ h hP hD hS (lv_sub hl [1, 0] rfl)
  refine lv_aload_n hx hb dX12_clears_0 rfl (lv_at hl 0 rfl) ?_
  refine va_get (D := D) (ci := 12) (v := .ref (aM 6)) (C := RX12) (T := TX12) (N := 51) hx hb hw inW_X12 hown hK hP 0 rfl rfl 16 (by decide) (hw _ mw_6_59) (fun _ h9 => h9) rfl dX12_clears_1 ?_
  refine lv_iconst (v := 4) hx hb dX12_clears_4 (by decide) ?_
  refine lv_iconst (v := 0) hx hb dX12_clears_5 (by decide) ?_
  refine cIast hx hb hK hP hD hS 6 0 rfl rfl 4 (by decide +kernel) (cIn (by decide +kernel)) dX12_clears_6 (fun H locs hP hD hS => ?_)
  refine lv_aload_n hx hb dX12_clears_7 rfl (lv_at hl 0 rfl) ?_
  refine va_get (D := D) (ci := 12) (v := .ref (aM 7)) (C := RX12) (T := TX12) (N := 51) hx hb hw inW_X12 hown hK hP 0 rfl rfl 17 (by decide) (hw _ mw_6_60) (fun _ h9 => h9) rfl dX12_clears_8 ?_
  refine lv_iconst (v := 4) hx hb dX12_clears_11 (by decide) ?_
  refine lv_iconst (v := 0) hx hb dX12_clears_12 (by decide) ?_
  refine cIast hx hb hK hP hD hS 7 0 rfl rfl 4 (by decide +kernel) (cIn (by decide +kernel)) dX12_clears_13 (fun H locs hP hD hS => ?_)
  refine lv_aload_n hx hb dX12_clears_14 rfl (lv_at hl 0 rfl) ?_
  refine va_get (D := D) (ci := 12) (v := .ref (aM 8)) (C := RX12) (T := TX12) (N := 51) hx hb hw inW_X12 hown hK hP 0 rfl rfl 18 (by decide) (hw _ mw_6_61) (fun _ h9 => h9) rfl dX12_clears_15 ?_
  refine lv_iconst (v := 4) hx hb dX12_clears_18 (by decide) ?_
  refine lv_iconst (v := 0) hx hb dX12_clears_19 (by decide) ?_
  refine cIast hx hb hK hP hD hS 8 0 rfl rfl 4 (by decide +kernel) (cIn (by decide +kernel)) dX12_clears_20 (fun H locs hP hD hS => ?_)
  refine lv_aload_n hx hb dX12_clears_21 rfl (lv_at hl 0 rfl) ?_
  refine va_get (D := D) (ci := 12) (v := .ref (aM 9)) (C := RX12) (T := TX12) (N := 51) hx hb hw inW_X12 hown hK hP 0 rfl rfl 19 (by decide) (hw _ mw_6_62) (fun _ h9 => h9) rfl dX12_clears_22 ?_
  refine lv_iconst (v := 4) hx hb dX12_clears_25 (by decide) ?_
  refine lv_iconst (v := 0) hx hb dX12_clears_26 (by decide) ?_
  refine cIast hx hb hK hP hD hS 9 0 rfl rfl 4 (by decide +kernel) (cIn (by decide +kernel)) dX12_clears_27 (fun H locs hP hD hS => ?_)
  refine lv_aload_n hx hb dX12_clears_28 rfl (lv_at hl 0 rfl) ?_
  refine va_get (D := D) (ci := 12) (v := .ref (aM 11)) (C := RX12) (T := TX12) (N := 51) hx hb hw inW_X12 hown hK hP 0 rfl rfl 21 (by decide) (hw _ mw_6_64) (fun _ h9 => h9) rfl dX12_clears_29 ?_
  refine lv_iconst (v := 4) hx hb dX12_clears_32 (by decide) ?_
  refine lv_iconst (v := 0) hx hb dX12_clears_33 (by decide) ?_
  refine cIast hx hb hK hP hD hS 11 0 rfl rfl 4 (by decide +kernel) (cIn (by decide +kernel)) dX12_clears_34 (fun H locs hP hD hS => ?_)
  refine lv_aload_n hx hb dX12_clears_35 rfl (lv_at hl 0 rfl) ?_
  refine va_get (D := D) (ci := 12) (v := .ref (aM 13)) (C := RX12) (T := TX12) (N := 51) hx hb hw inW_X12 hown hK hP 0 rfl rfl 23 (by decide) (hw _ mw_6_66) (fun _ h9 => h9) rfl dX12_clears_36 ?_
  refine lv_iconst (v := 4) hx hb dX12_clears_39 (by decide) ?_
  refine lv_iconst (v := 0) hx hb dX12_clears_40 (by decide) ?_
  refine cIast hx hb hK hP hD hS 13 0 rfl rfl 4 (by decide +kernel) (cIn (by decide +kernel)) dX12_clears_41 (fun H locs hP hD hS => ?_)
  refine lv_aload_n hx hb dX12_clears_42 rfl (lv_at hl 0 rfl) ?_
  refine va_get (D := D) (ci := 12) (v := .ref (aM 15)) (C := RX12) (T := TX12) (N := 51) hx hb hw inW_X12 hown hK hP 0 rfl rfl 25 (by decide) (hw _ mw_6_68) (fun _ h9 => h9) rfl dX12_clears_43 ?_
  refine lv_iconst (v := 4) hx hb dX12_clears_46 (by decide) ?_
  refine lv_iconst (v := 0) hx hb dX12_clears_47 (by decide) ?_
  refine cIast hx hb hK hP hD hS 15 0 rfl rfl 4 (by decide +kernel) (cIn (by decide +kernel)) dX12_clears_48 (fun H locs hP hD hS => ?_)
  refine lv_iconst (v := 0) hx hb dX12_clears_49 (by decide) ?_
  refine lv_istore_n (lv' := [(1, .int 0), (0, .ref (aM 0))]) hx hb dX12_clears_50 rfl hl (by decide) rfl (fun ls hl => ?_)
  have hP : va_P D vwCl (List.flatten (wM aM C ms mw (va_up (va_up (va_up (va_up (va_up (va_up (va_up ma 3 (upd (ma 3) 4 0)) 4 (upd (ma 4) 4 0)) 5 (upd (ma 5) 4 0)) 6 (upd (ma 6) 4 0)) 8 (upd (ma 8) 4 0)) 10 (upd (ma 10) 4 0)) 12 (upd (ma 12) 4 0)) ml)) H := hP
  have hD : va_D A (List.flatten (wM aM C ms mw (va_up (va_up (va_up (va_up (va_up (va_up (va_up ma 3 (upd (ma 3) 4 0)) 4 (upd (ma 4) 4 0)) 5 (upd (ma 5) 4 0)) 6 (upd (ma 6) 4 0)) 8 (upd (ma 8) 4 0)) 10 (upd (ma 10) 4 0)) 12 (upd (ma 12) 4 0)) ml)) := hD
  obtain ⟨n, h⟩ := h
  exact N51  n 0 (va_up (va_up (va_up (va_up (va_up (va_up (va_up ma 3 (upd (ma 3) 4 0)) 4 (upd (ma 4) 4 0)) 5 (upd (ma 5) 4 0)) 6 (upd (ma 6) 4 0)) 8 (upd (ma 8) 4 0)) 10 (upd (ma 10) 4 0)) 12 (upd (ma 12) 4 0)) _ _ _ h hP hD hS (lv_sub hl [1, 0] rfl)
abbrev vsX12_copyRow : List Cond := Cond.code yX12_copyRow cX12_copyRow 5 none :: WS
abbrev rmX12_copyRow : Room := { frames := 0, cells := 0, slots := 0, locals := 0 }
set_option maxHeartbeats 4000000 in
set_option maxRecDepth 100000 in
theorem k_X12_copyRow (l : Launch) (D : va_G) (C : Nat → ClassId) (sz : Nat) (t0 : Nat)  (tN : Nat) (t_row : Nat → Int32) (p2 : Int32) (p3 : Int32) (p4 : Int32) {post : (Nat → Int32) → Prop} (h : P_X12_copyRow tN t_row p2 p3 p4 post) : Met l yX12_copyRow vsX12_copyRow rmX12_copyRow (cPre D C [.ref t0, .int p2, .int p3, .int p4] sz ([cRow t0 tN C t_row])) (cQv D (fun (u : (Nat → Int32)) => post u) (fun u => [cRow t0 tN C u]) (va_A (List.flatten ([cRow t0 tN C t_row])) sz)) 0 0 (va_A (List.flatten ([cRow t0 tN C t_row])) sz) := by
  refine cStart (QA := fun A => cQv D (fun (u : (Nat → Int32)) => post u) (fun u => [cRow t0 tN C u]) A) (cc := cX12_copyRow) (maxL := 5) (ret := none) (by decide) (Nat.le_of_ble_eq_true rfl) ?_
  intro p e s m args below meth c A ls hx hb hr hml hown hw hlocks hname hK hN hA hP hD hS hl
  generalize hQ : MQ below _ args s 0 0 A = Q
  have hl : lv_has ls 5 [(0, .ref t0), (1, .int p2), (2, .int p3), (3, .int p4)] := hl
  obtain ⟨H, hH⟩ : ∃ H, H = s.heap := ⟨_, rfl⟩
  obtain ⟨locs, hlo⟩ : ∃ z : List Loc, z = [] := ⟨_, rfl⟩
  have hP : va_P D vwCl (List.flatten ([cRow t0 tN C t_row])) H := by rw [hH]; exact hP
  have hS : va_S A s.heap H locs := by rw [hH, hlo]; exact hS
  rw [show W p l e rmX12_copyRow s m args below meth c s.heap [] 0 0 Q (F0 m 0 ls []) = W p l e rmX12_copyRow s m args below meth c H locs 0 0 Q (F0 m 0 ls []) from by rw [hH, hlo]]
  have N3 : ∀  (n3 : Nat) (x4_ : Int32) (t_row : Nat → Int32) (H : Heap) (locs : List Loc) (ls : Array Slot), P_X12_copyRow_3 tN p2 p3 p4 post   n3 x4_ t_row → va_P D vwCl (List.flatten ([cRow t0 tN C t_row])) H → va_D A (List.flatten ([cRow t0 tN C t_row])) → va_S A s.heap H locs → lv_has ls 5 [(0, .ref t0), (1, .int p2), (2, .int p3), (3, .int p4), (4, .int x4_)] → W p l e rmX12_copyRow s m args below meth c H locs 0 0 Q (F0 m 3 ls []) := by
    intro n3
    induction n3 with
    | zero => intro x4_ t_row H locs ls h hP hD hS hl; exact False.elim h
    | succ n3 ih3 =>
      intro x4_ t_row H locs ls h hP hD hS hl
      refine lv_iload hx hb dX12_copyRow_3 (lv_at hl 4 rfl) ?_
      refine lv_iload_n hx hb dX12_copyRow_5 rfl (lv_at hl 1 rfl) ?_
      refine lv_icmp_ge (tgt := 31) hx hb dX12_copyRow_6 (by decide) (fun c1 => ?_) (fun c1 => ?_)
      · have h := h.1 c1
        rw [← hQ]
        exact cRetV (t_row) hx hb hr hlocks hS hP hD h dX12_copyRow_31
      · have h := h.2 c1
        refine lv_aload_n hx hb dX12_copyRow_9 rfl (lv_at hl 0 rfl) ?_
        refine lv_iload_n hx hb dX12_copyRow_10 rfl (lv_at hl 1 rfl) ?_
        refine lv_iload_n hx hb dX12_copyRow_11 rfl (lv_at hl 3 rfl) ?_
        refine lv_imul hx hb dX12_copyRow_12 ?_
        refine lv_iload hx hb dX12_copyRow_13 (lv_at hl 4 rfl) ?_
        refine lv_iadd hx hb dX12_copyRow_15 ?_
        refine lv_aload_n hx hb dX12_copyRow_16 rfl (lv_at hl 0 rfl) ?_
        refine lv_iload_n hx hb dX12_copyRow_17 rfl (lv_at hl 1 rfl) ?_
        refine lv_iload_n hx hb dX12_copyRow_18 rfl (lv_at hl 2 rfl) ?_
        refine lv_imul hx hb dX12_copyRow_19 ?_
        refine lv_iload hx hb dX12_copyRow_20 (lv_at hl 4 rfl) ?_
        refine lv_iadd hx hb dX12_copyRow_22 ?_
        refine cIald hx hb hK hP 0 0 rfl rfl (((p2 * p3) + x4_).toNatClampNeg) rfl h.1 dX12_copyRow_23 ?_
        have h := h.2
        refine cIast hx hb hK hP hD hS 0 0 rfl rfl (((p2 * p4) + x4_).toNatClampNeg) rfl h.1 dX12_copyRow_24 (fun H locs hP hD hS => ?_)
        have h := h.2
        refine lv_iinc (v := (x4_ + 1)) (lv' := [(4, .int (x4_ + 1)), (0, .ref t0), (1, .int p2), (2, .int p3), (3, .int p4)]) hx hb dX12_copyRow_25 hl (k := 4) rfl rfl (by decide) rfl (fun ls hl => ?_)
        refine lv_goto (tgt := 3) hx hb dX12_copyRow_28 (by decide) ?_
        have hP : va_P D vwCl (List.flatten ([cRow t0 tN C (upd t_row (((p2 * p4) + x4_).toNatClampNeg) (t_row (((p2 * p3) + x4_).toNatClampNeg)))])) H := hP
        have hD : va_D A (List.flatten ([cRow t0 tN C (upd t_row (((p2 * p4) + x4_).toNatClampNeg) (t_row (((p2 * p3) + x4_).toNatClampNeg)))])) := hD
        exact ih3 (x4_ + 1) (upd t_row (((p2 * p4) + x4_).toNatClampNeg) (t_row (((p2 * p3) + x4_).toNatClampNeg))) _ _ _ h hP hD hS (lv_sub hl [1, 2, 3, 4, 0] rfl)
  refine lv_iconst (v := 0) hx hb dX12_copyRow_0 (by decide) ?_
  refine lv_istore (lv' := [(4, .int 0), (0, .ref t0), (1, .int p2), (2, .int p3), (3, .int p4)]) hx hb dX12_copyRow_1 hl (by decide) rfl (fun ls hl => ?_)
  obtain ⟨n, h⟩ := h
  exact N3  n 0 t_row _ _ _ h hP hD hS (lv_sub hl [1, 2, 3, 4, 0] rfl)
abbrev vsX12_copyRail : List Cond := Cond.code yX12_copyRail cX12_copyRail 3 none :: WS
abbrev rmX12_copyRail : Room := { frames := 1, cells := 0, slots := 0, locals := 24 }
set_option maxHeartbeats 4000000 in
set_option maxRecDepth 100000 in
theorem k_X12_copyRail (l : Launch) (D : va_G) (C : Nat → ClassId) (sz : Nat) (aM : Nat → Nat)  (ms : Nat → Int32) (mw : Nat → Int64) (ma : Nat → Nat → Int32) (ml : Nat → Nat → Int64) (p1 : Int32) (p2 : Int32) {post : (Nat → Nat → Int32) → Prop} (h : P_X12_copyRail ma p1 p2 post) : Met l yX12_copyRail vsX12_copyRail rmX12_copyRail (cPre D C [.ref (aM 0), .int p1, .int p2] sz (wM aM C ms mw ma ml)) (cQv D (fun (u : (Nat → Nat → Int32)) => post u) (fun u => wM aM C ms mw u ml) (va_A (List.flatten (wM aM C ms mw ma ml)) sz)) 0 0 (va_A (List.flatten (wM aM C ms mw ma ml)) sz) := by
  refine cStart (QA := fun A => cQv D (fun (u : (Nat → Nat → Int32)) => post u) (fun u => wM aM C ms mw u ml) A) (cc := cX12_copyRail) (maxL := 3) (ret := none) (by decide) (Nat.le_of_ble_eq_true rfl) ?_
  intro p e s m args below meth c A ls hx hb hr hml hown hw hlocks hname hK hN hA hP hD hS hl
  generalize hQ : MQ below _ args s 0 0 A = Q
  have hl : lv_has ls 3 [(0, .ref (aM 0)), (1, .int p1), (2, .int p2)] := hl
  obtain ⟨H, hH⟩ : ∃ H, H = s.heap := ⟨_, rfl⟩
  obtain ⟨locs, hlo⟩ : ∃ z : List Loc, z = [] := ⟨_, rfl⟩
  have hP : va_P D vwCl (List.flatten (wM aM C ms mw ma ml)) H := by rw [hH]; exact hP
  have hS : va_S A s.heap H locs := by rw [hH, hlo]; exact hS
  rw [show W p l e rmX12_copyRail s m args below meth c s.heap [] 0 0 Q (F0 m 0 ls []) = W p l e rmX12_copyRail s m args below meth c H locs 0 0 Q (F0 m 0 ls []) from by rw [hH, hlo]]
  refine lv_aload_n hx hb dX12_copyRail_0 rfl (lv_at hl 0 rfl) ?_
  refine va_get (D := D) (ci := 12) (v := .ref (aM 6)) (C := RX12) (T := TX12) (N := 51) hx hb hw inW_X12 hown hK hP 0 rfl rfl 16 (by decide) (hw _ mw_6_59) (fun _ h9 => h9) rfl dX12_copyRail_1 ?_
  refine lv_iconst (v := 1) hx hb dX12_copyRail_4 (by decide) ?_
  refine lv_iload_n hx hb dX12_copyRail_5 rfl (lv_at hl 1 rfl) ?_
  refine lv_iload_n hx hb dX12_copyRail_6 rfl (lv_at hl 2 rfl) ?_
  refine gs_V33_0 (rs_S33_0 (As := [.ref (aM 6), .int 1, .int p1, .int p2]) (rest := []) ⟨hx, hb, hml, hown, hw⟩ hK hN hP hD (k_X12_copyRow l D C _ (aM 6) 5 (ma 3) 1 p1 p2 h) (va_cwS 4 hw (goodS mw_7_118 mw_7_119 mw_1_13 mw_7_120) rfl rfl rfl (by decide +kernel) ⟨Nat.le_of_ble_eq_true rfl, Nat.le_of_ble_eq_true rfl⟩) rfl hl.1 rfl (Nat.le_of_ble_eq_true rfl) dX12_copyRail_7 ⟨Nat.zero_le _, Nat.zero_le _⟩) hP hD hS hA (fun row_1 H locs h hP hD hS => ?_)
  have hP : va_P D vwCl (List.flatten (wM aM C ms mw (va_up ma 3 row_1) ml)) H := hP
  have hD : va_D A (List.flatten (wM aM C ms mw (va_up ma 3 row_1) ml)) := hD
  refine lv_aload_n hx hb dX12_copyRail_10 rfl (lv_at hl 0 rfl) ?_
  refine va_get (D := D) (ci := 12) (v := .ref (aM 7)) (C := RX12) (T := TX12) (N := 51) hx hb hw inW_X12 hown hK hP 0 rfl rfl 17 (by decide) (hw _ mw_6_60) (fun _ h9 => h9) rfl dX12_copyRail_11 ?_
  refine lv_iconst (v := 1) hx hb dX12_copyRail_14 (by decide) ?_
  refine lv_iload_n hx hb dX12_copyRail_15 rfl (lv_at hl 1 rfl) ?_
  refine lv_iload_n hx hb dX12_copyRail_16 rfl (lv_at hl 2 rfl) ?_
  refine gs_V33_1 (rs_S33_1 (As := [.ref (aM 7), .int 1, .int p1, .int p2]) (rest := []) ⟨hx, hb, hml, hown, hw⟩ hK hN hP hD (k_X12_copyRow l D C _ (aM 7) 5 (ma 4) 1 p1 p2 h) (va_cwS 4 hw (goodS mw_7_118 mw_7_119 mw_1_13 mw_7_120) rfl rfl rfl (by decide +kernel) ⟨Nat.le_of_ble_eq_true rfl, Nat.le_of_ble_eq_true rfl⟩) rfl hl.1 rfl (Nat.le_of_ble_eq_true rfl) dX12_copyRail_17 ⟨Nat.zero_le _, Nat.zero_le _⟩) hP hD hS hA (fun row_2 H locs h hP hD hS => ?_)
  have hP : va_P D vwCl (List.flatten (wM aM C ms mw (va_up (va_up ma 3 row_1) 4 row_2) ml)) H := hP
  have hD : va_D A (List.flatten (wM aM C ms mw (va_up (va_up ma 3 row_1) 4 row_2) ml)) := hD
  refine lv_aload_n hx hb dX12_copyRail_20 rfl (lv_at hl 0 rfl) ?_
  refine va_get (D := D) (ci := 12) (v := .ref (aM 8)) (C := RX12) (T := TX12) (N := 51) hx hb hw inW_X12 hown hK hP 0 rfl rfl 18 (by decide) (hw _ mw_6_61) (fun _ h9 => h9) rfl dX12_copyRail_21 ?_
  refine lv_iconst (v := 1) hx hb dX12_copyRail_24 (by decide) ?_
  refine lv_iload_n hx hb dX12_copyRail_25 rfl (lv_at hl 1 rfl) ?_
  refine lv_iload_n hx hb dX12_copyRail_26 rfl (lv_at hl 2 rfl) ?_
  refine gs_V33_2 (rs_S33_2 (As := [.ref (aM 8), .int 1, .int p1, .int p2]) (rest := []) ⟨hx, hb, hml, hown, hw⟩ hK hN hP hD (k_X12_copyRow l D C _ (aM 8) 5 (ma 5) 1 p1 p2 h) (va_cwS 4 hw (goodS mw_7_118 mw_7_119 mw_1_13 mw_7_120) rfl rfl rfl (by decide +kernel) ⟨Nat.le_of_ble_eq_true rfl, Nat.le_of_ble_eq_true rfl⟩) rfl hl.1 rfl (Nat.le_of_ble_eq_true rfl) dX12_copyRail_27 ⟨Nat.zero_le _, Nat.zero_le _⟩) hP hD hS hA (fun row_3 H locs h hP hD hS => ?_)
  have hP : va_P D vwCl (List.flatten (wM aM C ms mw (va_up (va_up (va_up ma 3 row_1) 4 row_2) 5 row_3) ml)) H := hP
  have hD : va_D A (List.flatten (wM aM C ms mw (va_up (va_up (va_up ma 3 row_1) 4 row_2) 5 row_3) ml)) := hD
  refine lv_aload_n hx hb dX12_copyRail_30 rfl (lv_at hl 0 rfl) ?_
  refine va_get (D := D) (ci := 12) (v := .ref (aM 9)) (C := RX12) (T := TX12) (N := 51) hx hb hw inW_X12 hown hK hP 0 rfl rfl 19 (by decide) (hw _ mw_6_62) (fun _ h9 => h9) rfl dX12_copyRail_31 ?_
  refine lv_iconst (v := 1) hx hb dX12_copyRail_34 (by decide) ?_
  refine lv_iload_n hx hb dX12_copyRail_35 rfl (lv_at hl 1 rfl) ?_
  refine lv_iload_n hx hb dX12_copyRail_36 rfl (lv_at hl 2 rfl) ?_
  refine gs_V33_3 (rs_S33_3 (As := [.ref (aM 9), .int 1, .int p1, .int p2]) (rest := []) ⟨hx, hb, hml, hown, hw⟩ hK hN hP hD (k_X12_copyRow l D C _ (aM 9) 5 (ma 6) 1 p1 p2 h) (va_cwS 4 hw (goodS mw_7_118 mw_7_119 mw_1_13 mw_7_120) rfl rfl rfl (by decide +kernel) ⟨Nat.le_of_ble_eq_true rfl, Nat.le_of_ble_eq_true rfl⟩) rfl hl.1 rfl (Nat.le_of_ble_eq_true rfl) dX12_copyRail_37 ⟨Nat.zero_le _, Nat.zero_le _⟩) hP hD hS hA (fun row_4 H locs h hP hD hS => ?_)
  have hP : va_P D vwCl (List.flatten (wM aM C ms mw (va_up (va_up (va_up (va_up ma 3 row_1) 4 row_2) 5 row_3) 6 row_4) ml)) H := hP
  have hD : va_D A (List.flatten (wM aM C ms mw (va_up (va_up (va_up (va_up ma 3 row_1) 4 row_2) 5 row_3) 6 row_4) ml)) := hD
  refine lv_aload_n hx hb dX12_copyRail_40 rfl (lv_at hl 0 rfl) ?_
  refine va_get (D := D) (ci := 12) (v := .ref (aM 10)) (C := RX12) (T := TX12) (N := 51) hx hb hw inW_X12 hown hK hP 0 rfl rfl 20 (by decide) (hw _ mw_6_63) (fun _ h9 => h9) rfl dX12_copyRail_41 ?_
  refine lv_bipush (v := 8) hx hb dX12_copyRail_44 (by decide) ?_
  refine lv_iload_n hx hb dX12_copyRail_46 rfl (lv_at hl 1 rfl) ?_
  refine lv_iload_n hx hb dX12_copyRail_47 rfl (lv_at hl 2 rfl) ?_
  refine gs_V33_4 (rs_S33_4 (As := [.ref (aM 10), .int 8, .int p1, .int p2]) (rest := []) ⟨hx, hb, hml, hown, hw⟩ hK hN hP hD (k_X12_copyRow l D C _ (aM 10) 40 (ma 7) 8 p1 p2 h) (va_cwS 4 hw (goodS mw_7_118 mw_7_119 mw_1_13 mw_7_120) rfl rfl rfl (by decide +kernel) ⟨Nat.le_of_ble_eq_true rfl, Nat.le_of_ble_eq_true rfl⟩) rfl hl.1 rfl (Nat.le_of_ble_eq_true rfl) dX12_copyRail_48 ⟨Nat.zero_le _, Nat.zero_le _⟩) hP hD hS hA (fun row_5 H locs h hP hD hS => ?_)
  have hP : va_P D vwCl (List.flatten (wM aM C ms mw (va_up (va_up (va_up (va_up (va_up ma 3 row_1) 4 row_2) 5 row_3) 6 row_4) 7 row_5) ml)) H := hP
  have hD : va_D A (List.flatten (wM aM C ms mw (va_up (va_up (va_up (va_up (va_up ma 3 row_1) 4 row_2) 5 row_3) 6 row_4) 7 row_5) ml)) := hD
  refine lv_aload_n hx hb dX12_copyRail_51 rfl (lv_at hl 0 rfl) ?_
  refine va_get (D := D) (ci := 12) (v := .ref (aM 11)) (C := RX12) (T := TX12) (N := 51) hx hb hw inW_X12 hown hK hP 0 rfl rfl 21 (by decide) (hw _ mw_6_64) (fun _ h9 => h9) rfl dX12_copyRail_52 ?_
  refine lv_iconst (v := 1) hx hb dX12_copyRail_55 (by decide) ?_
  refine lv_iload_n hx hb dX12_copyRail_56 rfl (lv_at hl 1 rfl) ?_
  refine lv_iload_n hx hb dX12_copyRail_57 rfl (lv_at hl 2 rfl) ?_
  refine gs_V33_5 (rs_S33_5 (As := [.ref (aM 11), .int 1, .int p1, .int p2]) (rest := []) ⟨hx, hb, hml, hown, hw⟩ hK hN hP hD (k_X12_copyRow l D C _ (aM 11) 5 (ma 8) 1 p1 p2 h) (va_cwS 4 hw (goodS mw_7_118 mw_7_119 mw_1_13 mw_7_120) rfl rfl rfl (by decide +kernel) ⟨Nat.le_of_ble_eq_true rfl, Nat.le_of_ble_eq_true rfl⟩) rfl hl.1 rfl (Nat.le_of_ble_eq_true rfl) dX12_copyRail_58 ⟨Nat.zero_le _, Nat.zero_le _⟩) hP hD hS hA (fun row_6 H locs h hP hD hS => ?_)
  have hP : va_P D vwCl (List.flatten (wM aM C ms mw (va_up (va_up (va_up (va_up (va_up (va_up ma 3 row_1) 4 row_2) 5 row_3) 6 row_4) 7 row_5) 8 row_6) ml)) H := hP
  have hD : va_D A (List.flatten (wM aM C ms mw (va_up (va_up (va_up (va_up (va_up (va_up ma 3 row_1) 4 row_2) 5 row_3) 6 row_4) 7 row_5) 8 row_6) ml)) := hD
  refine lv_aload_n hx hb dX12_copyRail_61 rfl (lv_at hl 0 rfl) ?_
  refine va_get (D := D) (ci := 12) (v := .ref (aM 12)) (C := RX12) (T := TX12) (N := 51) hx hb hw inW_X12 hown hK hP 0 rfl rfl 22 (by decide) (hw _ mw_6_65) (fun _ h9 => h9) rfl dX12_copyRail_62 ?_
  refine lv_bipush (v := 20) hx hb dX12_copyRail_65 (by decide) ?_
  refine lv_iload_n hx hb dX12_copyRail_67 rfl (lv_at hl 1 rfl) ?_
  refine lv_iload_n hx hb dX12_copyRail_68 rfl (lv_at hl 2 rfl) ?_
  refine gs_V33_6 (rs_S33_6 (As := [.ref (aM 12), .int 20, .int p1, .int p2]) (rest := []) ⟨hx, hb, hml, hown, hw⟩ hK hN hP hD (k_X12_copyRow l D C _ (aM 12) 100 (ma 9) 20 p1 p2 h) (va_cwS 4 hw (goodS mw_7_118 mw_7_119 mw_1_13 mw_7_120) rfl rfl rfl (by decide +kernel) ⟨Nat.le_of_ble_eq_true rfl, Nat.le_of_ble_eq_true rfl⟩) rfl hl.1 rfl (Nat.le_of_ble_eq_true rfl) dX12_copyRail_69 ⟨Nat.zero_le _, Nat.zero_le _⟩) hP hD hS hA (fun row_7 H locs h hP hD hS => ?_)
  have hP : va_P D vwCl (List.flatten (wM aM C ms mw (va_up (va_up (va_up (va_up (va_up (va_up (va_up ma 3 row_1) 4 row_2) 5 row_3) 6 row_4) 7 row_5) 8 row_6) 9 row_7) ml)) H := hP
  have hD : va_D A (List.flatten (wM aM C ms mw (va_up (va_up (va_up (va_up (va_up (va_up (va_up ma 3 row_1) 4 row_2) 5 row_3) 6 row_4) 7 row_5) 8 row_6) 9 row_7) ml)) := hD
  refine lv_aload_n hx hb dX12_copyRail_72 rfl (lv_at hl 0 rfl) ?_
  refine va_get (D := D) (ci := 12) (v := .ref (aM 13)) (C := RX12) (T := TX12) (N := 51) hx hb hw inW_X12 hown hK hP 0 rfl rfl 23 (by decide) (hw _ mw_6_66) (fun _ h9 => h9) rfl dX12_copyRail_73 ?_
  refine lv_iconst (v := 1) hx hb dX12_copyRail_76 (by decide) ?_
  refine lv_iload_n hx hb dX12_copyRail_77 rfl (lv_at hl 1 rfl) ?_
  refine lv_iload_n hx hb dX12_copyRail_78 rfl (lv_at hl 2 rfl) ?_
  refine gs_V33_7 (rs_S33_7 (As := [.ref (aM 13), .int 1, .int p1, .int p2]) (rest := []) ⟨hx, hb, hml, hown, hw⟩ hK hN hP hD (k_X12_copyRow l D C _ (aM 13) 5 (ma 10) 1 p1 p2 h) (va_cwS 4 hw (goodS mw_7_118 mw_7_119 mw_1_13 mw_7_120) rfl rfl rfl (by decide +kernel) ⟨Nat.le_of_ble_eq_true rfl, Nat.le_of_ble_eq_true rfl⟩) rfl hl.1 rfl (Nat.le_of_ble_eq_true rfl) dX12_copyRail_79 ⟨Nat.zero_le _, Nat.zero_le _⟩) hP hD hS hA (fun row_8 H locs h hP hD hS => ?_)
  have hP : va_P D vwCl (List.flatten (wM aM C ms mw (va_up (va_up (va_up (va_up (va_up (va_up (va_up (va_up ma 3 row_1) 4 row_2) 5 row_3) 6 row_4) 7 row_5) 8 row_6) 9 row_7) 10 row_8) ml)) H := hP
  have hD : va_D A (List.flatten (wM aM C ms mw (va_up (va_up (va_up (va_up (va_up (va_up (va_up (va_up ma 3 row_1) 4 row_2) 5 row_3) 6 row_4) 7 row_5) 8 row_6) 9 row_7) 10 row_8) ml)) := hD
  refine lv_aload_n hx hb dX12_copyRail_82 rfl (lv_at hl 0 rfl) ?_
  refine va_get (D := D) (ci := 12) (v := .ref (aM 14)) (C := RX12) (T := TX12) (N := 51) hx hb hw inW_X12 hown hK hP 0 rfl rfl 24 (by decide) (hw _ mw_6_67) (fun _ h9 => h9) rfl dX12_copyRail_83 ?_
  refine lv_bipush (v := 50) hx hb dX12_copyRail_86 (by decide) ?_
  refine lv_iload_n hx hb dX12_copyRail_88 rfl (lv_at hl 1 rfl) ?_
  refine lv_iload_n hx hb dX12_copyRail_89 rfl (lv_at hl 2 rfl) ?_
  refine gs_V33_8 (rs_S33_8 (As := [.ref (aM 14), .int 50, .int p1, .int p2]) (rest := []) ⟨hx, hb, hml, hown, hw⟩ hK hN hP hD (k_X12_copyRow l D C _ (aM 14) 250 (ma 11) 50 p1 p2 h) (va_cwS 4 hw (goodS mw_7_118 mw_7_119 mw_1_13 mw_7_120) rfl rfl rfl (by decide +kernel) ⟨Nat.le_of_ble_eq_true rfl, Nat.le_of_ble_eq_true rfl⟩) rfl hl.1 rfl (Nat.le_of_ble_eq_true rfl) dX12_copyRail_90 ⟨Nat.zero_le _, Nat.zero_le _⟩) hP hD hS hA (fun row_9 H locs h hP hD hS => ?_)
  have hP : va_P D vwCl (List.flatten (wM aM C ms mw (va_up (va_up (va_up (va_up (va_up (va_up (va_up (va_up (va_up ma 3 row_1) 4 row_2) 5 row_3) 6 row_4) 7 row_5) 8 row_6) 9 row_7) 10 row_8) 11 row_9) ml)) H := hP
  have hD : va_D A (List.flatten (wM aM C ms mw (va_up (va_up (va_up (va_up (va_up (va_up (va_up (va_up (va_up ma 3 row_1) 4 row_2) 5 row_3) 6 row_4) 7 row_5) 8 row_6) 9 row_7) 10 row_8) 11 row_9) ml)) := hD
  refine lv_aload_n hx hb dX12_copyRail_93 rfl (lv_at hl 0 rfl) ?_
  refine va_get (D := D) (ci := 12) (v := .ref (aM 15)) (C := RX12) (T := TX12) (N := 51) hx hb hw inW_X12 hown hK hP 0 rfl rfl 25 (by decide) (hw _ mw_6_68) (fun _ h9 => h9) rfl dX12_copyRail_94 ?_
  refine lv_iconst (v := 1) hx hb dX12_copyRail_97 (by decide) ?_
  refine lv_iload_n hx hb dX12_copyRail_98 rfl (lv_at hl 1 rfl) ?_
  refine lv_iload_n hx hb dX12_copyRail_99 rfl (lv_at hl 2 rfl) ?_
  refine gs_V33_9 (rs_S33_9 (As := [.ref (aM 15), .int 1, .int p1, .int p2]) (rest := []) ⟨hx, hb, hml, hown, hw⟩ hK hN hP hD (k_X12_copyRow l D C _ (aM 15) 5 (ma 12) 1 p1 p2 h) (va_cwS 4 hw (goodS mw_7_118 mw_7_119 mw_1_13 mw_7_120) rfl rfl rfl (by decide +kernel) ⟨Nat.le_of_ble_eq_true rfl, Nat.le_of_ble_eq_true rfl⟩) rfl hl.1 rfl (Nat.le_of_ble_eq_true rfl) dX12_copyRail_100 ⟨Nat.zero_le _, Nat.zero_le _⟩) hP hD hS hA (fun row_10 H locs h hP hD hS => ?_)
  have hP : va_P D vwCl (List.flatten (wM aM C ms mw (va_up (va_up (va_up (va_up (va_up (va_up (va_up (va_up (va_up (va_up ma 3 row_1) 4 row_2) 5 row_3) 6 row_4) 7 row_5) 8 row_6) 9 row_7) 10 row_8) 11 row_9) 12 row_10) ml)) H := hP
  have hD : va_D A (List.flatten (wM aM C ms mw (va_up (va_up (va_up (va_up (va_up (va_up (va_up (va_up (va_up (va_up ma 3 row_1) 4 row_2) 5 row_3) 6 row_4) 7 row_5) 8 row_6) 9 row_7) 10 row_8) 11 row_9) 12 row_10) ml)) := hD
  refine lv_aload_n hx hb dX12_copyRail_103 rfl (lv_at hl 0 rfl) ?_
  refine va_get (D := D) (ci := 12) (v := .ref (aM 16)) (C := RX12) (T := TX12) (N := 51) hx hb hw inW_X12 hown hK hP 0 rfl rfl 26 (by decide) (hw _ mw_6_69) (fun _ h9 => h9) rfl dX12_copyRail_104 ?_
  refine lv_bipush (v := 30) hx hb dX12_copyRail_107 (by decide) ?_
  refine lv_iload_n hx hb dX12_copyRail_109 rfl (lv_at hl 1 rfl) ?_
  refine lv_iload_n hx hb dX12_copyRail_110 rfl (lv_at hl 2 rfl) ?_
  refine gs_V33_10 (rs_S33_10 (As := [.ref (aM 16), .int 30, .int p1, .int p2]) (rest := []) ⟨hx, hb, hml, hown, hw⟩ hK hN hP hD (k_X12_copyRow l D C _ (aM 16) 150 (ma 13) 30 p1 p2 h) (va_cwS 4 hw (goodS mw_7_118 mw_7_119 mw_1_13 mw_7_120) rfl rfl rfl (by decide +kernel) ⟨Nat.le_of_ble_eq_true rfl, Nat.le_of_ble_eq_true rfl⟩) rfl hl.1 rfl (Nat.le_of_ble_eq_true rfl) dX12_copyRail_111 ⟨Nat.zero_le _, Nat.zero_le _⟩) hP hD hS hA (fun row_11 H locs h hP hD hS => ?_)
  have hP : va_P D vwCl (List.flatten (wM aM C ms mw (va_up (va_up (va_up (va_up (va_up (va_up (va_up (va_up (va_up (va_up (va_up ma 3 row_1) 4 row_2) 5 row_3) 6 row_4) 7 row_5) 8 row_6) 9 row_7) 10 row_8) 11 row_9) 12 row_10) 13 row_11) ml)) H := hP
  have hD : va_D A (List.flatten (wM aM C ms mw (va_up (va_up (va_up (va_up (va_up (va_up (va_up (va_up (va_up (va_up (va_up ma 3 row_1) 4 row_2) 5 row_3) 6 row_4) 7 row_5) 8 row_6) 9 row_7) 10 row_8) 11 row_9) 12 row_10) 13 row_11) ml)) := hD
  refine lv_aload_n hx hb dX12_copyRail_114 rfl (lv_at hl 0 rfl) ?_
  refine va_get (D := D) (ci := 12) (v := .ref (aM 17)) (C := RX12) (T := TX12) (N := 51) hx hb hw inW_X12 hown hK hP 0 rfl rfl 27 (by decide) (hw _ mw_6_70) (fun _ h9 => h9) rfl dX12_copyRail_115 ?_
  refine lv_bipush (v := 7) hx hb dX12_copyRail_118 (by decide) ?_
  refine lv_iload_n hx hb dX12_copyRail_120 rfl (lv_at hl 1 rfl) ?_
  refine lv_iload_n hx hb dX12_copyRail_121 rfl (lv_at hl 2 rfl) ?_
  refine gs_V33_11 (rs_S33_11 (As := [.ref (aM 17), .int 7, .int p1, .int p2]) (rest := []) ⟨hx, hb, hml, hown, hw⟩ hK hN hP hD (k_X12_copyRow l D C _ (aM 17) 35 (ma 14) 7 p1 p2 h) (va_cwS 4 hw (goodS mw_7_118 mw_7_119 mw_1_13 mw_7_120) rfl rfl rfl (by decide +kernel) ⟨Nat.le_of_ble_eq_true rfl, Nat.le_of_ble_eq_true rfl⟩) rfl hl.1 rfl (Nat.le_of_ble_eq_true rfl) dX12_copyRail_122 ⟨Nat.zero_le _, Nat.zero_le _⟩) hP hD hS hA (fun row_12 H locs h hP hD hS => ?_)
  have hP : va_P D vwCl (List.flatten (wM aM C ms mw (va_up (va_up (va_up (va_up (va_up (va_up (va_up (va_up (va_up (va_up (va_up (va_up ma 3 row_1) 4 row_2) 5 row_3) 6 row_4) 7 row_5) 8 row_6) 9 row_7) 10 row_8) 11 row_9) 12 row_10) 13 row_11) 14 row_12) ml)) H := hP
  have hD : va_D A (List.flatten (wM aM C ms mw (va_up (va_up (va_up (va_up (va_up (va_up (va_up (va_up (va_up (va_up (va_up (va_up ma 3 row_1) 4 row_2) 5 row_3) 6 row_4) 7 row_5) 8 row_6) 9 row_7) 10 row_8) 11 row_9) 12 row_10) 13 row_11) 14 row_12) ml)) := hD
  refine lv_aload_n hx hb dX12_copyRail_125 rfl (lv_at hl 0 rfl) ?_
  refine va_get (D := D) (ci := 12) (v := .ref (aM 19)) (C := RX12) (T := TX12) (N := 51) hx hb hw inW_X12 hown hK hP 0 rfl rfl 29 (by decide) (hw _ mw_6_72) (fun _ h9 => h9) rfl dX12_copyRail_126 ?_
  refine lv_bipush (v := 17) hx hb dX12_copyRail_129 (by decide) ?_
  refine lv_iload_n hx hb dX12_copyRail_131 rfl (lv_at hl 1 rfl) ?_
  refine lv_iload_n hx hb dX12_copyRail_132 rfl (lv_at hl 2 rfl) ?_
  refine gs_V33_12 (rs_S33_12 (As := [.ref (aM 19), .int 17, .int p1, .int p2]) (rest := []) ⟨hx, hb, hml, hown, hw⟩ hK hN hP hD (k_X12_copyRow l D C _ (aM 19) 85 (ma 16) 17 p1 p2 h) (va_cwS 4 hw (goodS mw_7_118 mw_7_119 mw_1_13 mw_7_120) rfl rfl rfl (by decide +kernel) ⟨Nat.le_of_ble_eq_true rfl, Nat.le_of_ble_eq_true rfl⟩) rfl hl.1 rfl (Nat.le_of_ble_eq_true rfl) dX12_copyRail_133 ⟨Nat.zero_le _, Nat.zero_le _⟩) hP hD hS hA (fun row_13 H locs h hP hD hS => ?_)
  have hP : va_P D vwCl (List.flatten (wM aM C ms mw (va_up (va_up (va_up (va_up (va_up (va_up (va_up (va_up (va_up (va_up (va_up (va_up (va_up ma 3 row_1) 4 row_2) 5 row_3) 6 row_4) 7 row_5) 8 row_6) 9 row_7) 10 row_8) 11 row_9) 12 row_10) 13 row_11) 14 row_12) 16 row_13) ml)) H := hP
  have hD : va_D A (List.flatten (wM aM C ms mw (va_up (va_up (va_up (va_up (va_up (va_up (va_up (va_up (va_up (va_up (va_up (va_up (va_up ma 3 row_1) 4 row_2) 5 row_3) 6 row_4) 7 row_5) 8 row_6) 9 row_7) 10 row_8) 11 row_9) 12 row_10) 13 row_11) 14 row_12) 16 row_13) ml)) := hD
  rw [← hQ]
  exact cRetV ((va_up (va_up (va_up (va_up (va_up (va_up (va_up (va_up (va_up (va_up (va_up (va_up (va_up ma 3 row_1) 4 row_2) 5 row_3) 6 row_4) 7 row_5) 8 row_6) 9 row_7) 10 row_8) 11 row_9) 12 row_10) 13 row_11) 14 row_12) 16 row_13)) hx hb hr hlocks hS hP hD h dX12_copyRail_136
abbrev vsX12_apart : List Cond := Cond.code yX12_apart cX12_apart 2 (some .int) :: WS
abbrev rmX12_apart : Room := { frames := 0, cells := 0, slots := 0, locals := 0 }
set_option maxHeartbeats 4000000 in
set_option maxRecDepth 100000 in
theorem k_X12_apart (l : Launch) (D : va_G) (C : Nat → ClassId) (sz : Nat)    (p1 : Int32) (p2 : Int32) {post : Int32 → Prop} (h : P_X12_apart p1 p2 post) : Met l yX12_apart vsX12_apart rmX12_apart (cPre D C [.int p1, .int p2] sz (([] : List va_W))) (cQi D (fun (r : Int32) (u : Unit) => post r ) (fun u => ([] : List va_W)) (va_A (List.flatten (([] : List va_W))) sz)) 0 0 (va_A (List.flatten (([] : List va_W))) sz) := by
  refine cStart (QA := fun A => cQi D (fun (r : Int32) (u : Unit) => post r ) (fun u => ([] : List va_W)) A) (cc := cX12_apart) (maxL := 2) (ret := (some .int)) (by decide) (Nat.le_of_ble_eq_true rfl) ?_
  intro p e s m args below meth c A ls hx hb hr hml hown hw hlocks hname hK hN hA hP hD hS hl
  generalize hQ : MQ below _ args s 0 0 A = Q
  have hl : lv_has ls 2 [(0, .int p1), (1, .int p2)] := hl
  obtain ⟨H, hH⟩ : ∃ H, H = s.heap := ⟨_, rfl⟩
  obtain ⟨locs, hlo⟩ : ∃ z : List Loc, z = [] := ⟨_, rfl⟩
  have hP : va_P D vwCl (List.flatten (([] : List va_W))) H := by rw [hH]; exact hP
  have hS : va_S A s.heap H locs := by rw [hH, hlo]; exact hS
  rw [show W p l e rmX12_apart s m args below meth c s.heap [] 0 0 Q (F0 m 0 ls []) = W p l e rmX12_apart s m args below meth c H locs 0 0 Q (F0 m 0 ls []) from by rw [hH, hlo]]
  refine lv_iload_n hx hb dX12_apart_0 rfl (lv_at hl 0 rfl) ?_
  refine lv_iload_n hx hb dX12_apart_1 rfl (lv_at hl 1 rfl) ?_
  refine lv_icmp_ge (tgt := 11) hx hb dX12_apart_2 (by decide) (fun c1 => ?_) (fun c1 => ?_)
  · have h := h.1 c1
    refine lv_iload_n hx hb dX12_apart_11 rfl (lv_at hl 0 rfl) ?_
    refine lv_iload_n hx hb dX12_apart_12 rfl (lv_at hl 1 rfl) ?_
    refine lv_isub hx hb dX12_apart_13 ?_
    rw [← hQ]
    exact cRetI (v := (p1 - p2)) () hx hb hr hlocks hS hP hD h dX12_apart_14
  · have h := h.2 c1
    refine lv_iload_n hx hb dX12_apart_5 rfl (lv_at hl 1 rfl) ?_
    refine lv_iload_n hx hb dX12_apart_6 rfl (lv_at hl 0 rfl) ?_
    refine lv_isub hx hb dX12_apart_7 ?_
    refine lv_goto (tgt := 14) hx hb dX12_apart_8 (by decide) ?_
    rw [← hQ]
    exact cRetI (v := (p2 - p1)) () hx hb hr hlocks hS hP hD h dX12_apart_14
abbrev vsX12_above : List Cond := Cond.code yX12_above cX12_above 1 (some .int) :: WS
abbrev rmX12_above : Room := { frames := 0, cells := 0, slots := 0, locals := 0 }
set_option maxHeartbeats 4000000 in
set_option maxRecDepth 100000 in
theorem k_X12_above (l : Launch) (D : va_G) (C : Nat → ClassId) (sz : Nat)    (p1 : Int32) {post : Int32 → Prop} (h : P_X12_above p1 post) : Met l yX12_above vsX12_above rmX12_above (cPre D C [.int p1] sz (([] : List va_W))) (cQi D (fun (r : Int32) (u : Unit) => post r ) (fun u => ([] : List va_W)) (va_A (List.flatten (([] : List va_W))) sz)) 0 0 (va_A (List.flatten (([] : List va_W))) sz) := by
  refine cStart (QA := fun A => cQi D (fun (r : Int32) (u : Unit) => post r ) (fun u => ([] : List va_W)) A) (cc := cX12_above) (maxL := 1) (ret := (some .int)) (by decide) (Nat.le_of_ble_eq_true rfl) ?_
  intro p e s m args below meth c A ls hx hb hr hml hown hw hlocks hname hK hN hA hP hD hS hl
  generalize hQ : MQ below _ args s 0 0 A = Q
  have hl : lv_has ls 1 [(0, .int p1)] := hl
  obtain ⟨H, hH⟩ : ∃ H, H = s.heap := ⟨_, rfl⟩
  obtain ⟨locs, hlo⟩ : ∃ z : List Loc, z = [] := ⟨_, rfl⟩
  have hP : va_P D vwCl (List.flatten (([] : List va_W))) H := by rw [hH]; exact hP
  have hS : va_S A s.heap H locs := by rw [hH, hlo]; exact hS
  rw [show W p l e rmX12_above s m args below meth c s.heap [] 0 0 Q (F0 m 0 ls []) = W p l e rmX12_above s m args below meth c H locs 0 0 Q (F0 m 0 ls []) from by rw [hH, hlo]]
  refine lv_iload_n hx hb dX12_above_0 rfl (lv_at hl 0 rfl) ?_
  refine lv_if_le (tgt := 8) hx hb dX12_above_1 (by decide) (fun c1 => ?_) (fun c1 => ?_)
  · have h := h.1 c1
    refine lv_iconst (v := 0) hx hb dX12_above_8 (by decide) ?_
    rw [← hQ]
    exact cRetI (v := 0) () hx hb hr hlocks hS hP hD h dX12_above_9
  · have h := h.2 c1
    refine lv_iload_n hx hb dX12_above_4 rfl (lv_at hl 0 rfl) ?_
    refine lv_goto (tgt := 9) hx hb dX12_above_5 (by decide) ?_
    rw [← hQ]
    exact cRetI (v := p1) () hx hb hr hlocks hS hP hD h dX12_above_9
abbrev vsX12_lightOf : List Cond := Cond.code yX12_lightOf cX12_lightOf 6 (some .int) :: WS
abbrev rmX12_lightOf : Room := { frames := 1, cells := 0, slots := 0, locals := 21 }
set_option maxHeartbeats 4000000 in
set_option maxRecDepth 100000 in
theorem k_X12_lightOf (l : Launch) (D : va_G) (C : Nat → ClassId) (sz : Nat) (aM : Nat → Nat)  (ms : Nat → Int32) (mw : Nat → Int64) (ma : Nat → Nat → Int32) (ml : Nat → Nat → Int64) (p1 : Int32) (p2 : Int32) {post : Int32 → Prop} (h : P_X12_lightOf ms ma p1 p2 post) : Met l yX12_lightOf vsX12_lightOf rmX12_lightOf (cPre D C [.ref (aM 0), .int p1, .int p2] sz (wM aM C ms mw ma ml)) (cQi D (fun (r : Int32) (u : Unit) => post r ) (fun u => wM aM C ms mw ma ml) (va_A (List.flatten (wM aM C ms mw ma ml)) sz)) 0 0 (va_A (List.flatten (wM aM C ms mw ma ml)) sz) := by
  refine cStart (QA := fun A => cQi D (fun (r : Int32) (u : Unit) => post r ) (fun u => wM aM C ms mw ma ml) A) (cc := cX12_lightOf) (maxL := 6) (ret := (some .int)) (by decide) (Nat.le_of_ble_eq_true rfl) ?_
  intro p e s m args below meth c A ls hx hb hr hml hown hw hlocks hname hK hN hA hP hD hS hl
  generalize hQ : MQ below _ args s 0 0 A = Q
  have hl : lv_has ls 6 [(0, .ref (aM 0)), (1, .int p1), (2, .int p2)] := hl
  obtain ⟨H, hH⟩ : ∃ H, H = s.heap := ⟨_, rfl⟩
  obtain ⟨locs, hlo⟩ : ∃ z : List Loc, z = [] := ⟨_, rfl⟩
  have hP : va_P D vwCl (List.flatten (wM aM C ms mw ma ml)) H := by rw [hH]; exact hP
  have hS : va_S A s.heap H locs := by rw [hH, hlo]; exact hS
  rw [show W p l e rmX12_lightOf s m args below meth c s.heap [] 0 0 Q (F0 m 0 ls []) = W p l e rmX12_lightOf s m args below meth c H locs 0 0 Q (F0 m 0 ls []) from by rw [hH, hlo]]
  have N89 : ∀ (x3_ : Int32) (H : Heap) (locs : List Loc) (ls : Array Slot), P_X12_lightOf_89 ms ma p1 p2 post  x3_ → va_P D vwCl (List.flatten (wM aM C ms mw ma ml)) H → va_D A (List.flatten (wM aM C ms mw ma ml)) → va_S A s.heap H locs → lv_has ls 6 [(0, .ref (aM 0)), (2, .int p2), (3, .int x3_)] → W p l e rmX12_lightOf s m args below meth c H locs 0 0 Q (F0 m 89 ls []) := by
    intro x3_ H locs ls h hP hD hS hl
    refine lv_iload_n hx hb dX12_lightOf_89 rfl (lv_at hl 2 rfl) ?_
    refine lv_aload_n hx hb dX12_lightOf_90 rfl (lv_at hl 0 rfl) ?_
    refine va_get (D := D) (ci := 12) (v := .int (ms 11)) (C := RX12) (T := TX12) (N := 51) hx hb hw inW_X12 hown hK hP 0 rfl rfl 32 (by decide) (hw _ mw_6_75) (fun _ h9 => h9) rfl dX12_lightOf_91 ?_
    refine lv_aload_n hx hb dX12_lightOf_94 rfl (lv_at hl 0 rfl) ?_
    refine va_get (D := D) (ci := 12) (v := .int (ms 10)) (C := RX12) (T := TX12) (N := 51) hx hb hw inW_X12 hown hK hP 0 rfl rfl 31 (by decide) (hw _ mw_6_74) (fun _ h9 => h9) rfl dX12_lightOf_95 ?_
    refine lv_iload_n hx hb dX12_lightOf_98 rfl (lv_at hl 1 rfl) ?_
    refine cGoEI (cRunES (As := [.int (ms 10), .int p2]) (rest := [.int (ms 11), .int x3_]) ⟨hx, hb, hml, hown, hw⟩ hK hN hP hD (k_X12_apart l D C _    (ms 10) p2 h) (va_cwS 2 hw (goodS mw_7_133 mw_7_134 mw_1_13 mw_7_135) rfl rfl rfl (by decide +kernel) ⟨Nat.le_of_ble_eq_true rfl, Nat.le_of_ble_eq_true rfl⟩) rfl hl.1 rfl (Nat.le_of_ble_eq_true rfl) dX12_lightOf_99 ⟨Nat.zero_le _, Nat.zero_le _⟩) hP hD hS hA (fun r1 u H locs h hP hD hS => ?_)
    have hP : va_P D vwCl (List.flatten (wM aM C ms mw ma ml)) H := hP
    have hD : va_D A (List.flatten (wM aM C ms mw ma ml)) := hD
    refine lv_isub hx hb dX12_lightOf_102 ?_
    refine cGoEI (cRunES (As := [.int ((ms 11) - r1)]) (rest := [.int x3_]) ⟨hx, hb, hml, hown, hw⟩ hK hN hP hD (k_X12_above l D C _    ((ms 11) - r1) h) (va_cwS 1 hw (goodS mw_7_136 mw_7_137 mw_1_13 mw_7_138) rfl rfl rfl (by decide +kernel) ⟨Nat.le_of_ble_eq_true rfl, Nat.le_of_ble_eq_true rfl⟩) rfl hl.1 rfl (Nat.le_of_ble_eq_true rfl) dX12_lightOf_103 ⟨Nat.zero_le _, Nat.zero_le _⟩) hP hD hS hA (fun r2 u H locs h hP hD hS => ?_)
    have hP : va_P D vwCl (List.flatten (wM aM C ms mw ma ml)) H := hP
    have hD : va_D A (List.flatten (wM aM C ms mw ma ml)) := hD
    refine lv_iadd hx hb dX12_lightOf_106 ?_
    rw [← hQ]
    exact cRetI (v := (x3_ + r2)) () hx hb hr hlocks hS hP hD h dX12_lightOf_107
  have N35 : ∀  (n35 : Nat) (x3_ : Int32) (x4_ : Int32) (H : Heap) (locs : List Loc) (ls : Array Slot), P_X12_lightOf_35 ms ma p1 p2 post (fun (x3_ : Int32) => P_X12_lightOf_89 ms ma p1 p2 post  x3_)  n35 x3_ x4_ → va_P D vwCl (List.flatten (wM aM C ms mw ma ml)) H → va_D A (List.flatten (wM aM C ms mw ma ml)) → va_S A s.heap H locs → lv_has ls 6 [(0, .ref (aM 0)), (1, .int p1), (2, .int p2), (3, .int x3_), (4, .int x4_)] → W p l e rmX12_lightOf s m args below meth c H locs 0 0 Q (F0 m 35 ls []) := by
    intro n35
    induction n35 with
    | zero => intro x3_ x4_ H locs ls h hP hD hS hl; exact False.elim h
    | succ n35 ih35 =>
      intro x3_ x4_ H locs ls h hP hD hS hl
      refine lv_iload hx hb dX12_lightOf_35 (lv_at hl 4 rfl) ?_
      refine lv_aload_n hx hb dX12_lightOf_37 rfl (lv_at hl 0 rfl) ?_
      refine va_get (D := D) (ci := 12) (v := .ref (aM 9)) (C := RX12) (T := TX12) (N := 51) hx hb hw inW_X12 hown hK hP 0 rfl rfl 19 (by decide) (hw _ mw_6_62) (fun _ h9 => h9) rfl dX12_lightOf_38 ?_
      refine lv_iload_n hx hb dX12_lightOf_41 rfl (lv_at hl 1 rfl) ?_
      refine cIald hx hb hK hP 9 0 rfl rfl p1.toNatClampNeg rfl h.1 dX12_lightOf_42 ?_
      have h := h.2
      refine lv_icmp_ge (tgt := 89) hx hb dX12_lightOf_43 (by decide) (fun c3 => ?_) (fun c3 => ?_)
      · have h := h.1 c3
        exact N89 x3_ _ _ _ h hP hD hS (lv_sub hl [0, 2, 3] rfl)
      · have h := h.2 c3
        refine lv_iconst (v := 2) hx hb dX12_lightOf_46 (by decide) ?_
        refine lv_iconst (v := 4) hx hb dX12_lightOf_47 (by decide) ?_
        refine lv_iload_n hx hb dX12_lightOf_48 rfl (lv_at hl 1 rfl) ?_
        refine lv_imul hx hb dX12_lightOf_49 ?_
        refine lv_iload hx hb dX12_lightOf_50 (lv_at hl 4 rfl) ?_
        refine lv_iadd hx hb dX12_lightOf_52 ?_
        refine lv_imul hx hb dX12_lightOf_53 ?_
        refine lv_topi (fun x4 ex4 => ?_)
        have h := h x4 ex4
        refine lv_istore (lv' := [(5, .int x4), (0, .ref (aM 0)), (1, .int p1), (2, .int p2), (3, .int x3_), (4, .int x4_)]) hx hb dX12_lightOf_54 hl (by decide) rfl (fun ls hl => ?_)
        refine lv_iload_n hx hb dX12_lightOf_56 rfl (lv_at hl 4 rfl) ?_
        refine lv_aload_n hx hb dX12_lightOf_57 rfl (lv_at hl 1 rfl) ?_
        refine va_get (D := D) (ci := 12) (v := .ref (aM 10)) (C := RX12) (T := TX12) (N := 51) hx hb hw inW_X12 hown hK hP 0 rfl rfl 20 (by decide) (hw _ mw_6_63) (fun _ h9 => h9) rfl dX12_lightOf_58 ?_
        refine lv_iload hx hb dX12_lightOf_61 (lv_at hl 0 rfl) ?_
        refine lv_iconst (v := 1) hx hb dX12_lightOf_63 (by decide) ?_
        refine lv_iadd hx hb dX12_lightOf_64 ?_
        refine cIald hx hb hK hP 10 0 rfl rfl ((x4 + 1).toNatClampNeg) rfl h.1 dX12_lightOf_65 ?_
        have h := h.2
        refine lv_aload_n hx hb dX12_lightOf_66 rfl (lv_at hl 1 rfl) ?_
        refine va_get (D := D) (ci := 12) (v := .ref (aM 10)) (C := RX12) (T := TX12) (N := 51) hx hb hw inW_X12 hown hK hP 0 rfl rfl 20 (by decide) (hw _ mw_6_63) (fun _ h9 => h9) rfl dX12_lightOf_67 ?_
        refine lv_iload hx hb dX12_lightOf_70 (lv_at hl 0 rfl) ?_
        refine cIald hx hb hK hP 10 0 rfl rfl x4.toNatClampNeg rfl h.1 dX12_lightOf_72 ?_
        have h := h.2
        refine lv_iload_n hx hb dX12_lightOf_73 rfl (lv_at hl 3 rfl) ?_
        refine cGoEI (cRunES (As := [.int (ma 7 x4.toNatClampNeg), .int p2]) (rest := [.int (ma 7 ((x4 + 1).toNatClampNeg)), .int x3_]) ⟨hx, hb, hml, hown, hw⟩ hK hN hP hD (k_X12_apart l D C _    (ma 7 x4.toNatClampNeg) p2 h) (va_cwS 2 hw (goodS mw_7_133 mw_7_134 mw_1_13 mw_7_135) rfl rfl rfl (by decide +kernel) ⟨Nat.le_of_ble_eq_true rfl, Nat.le_of_ble_eq_true rfl⟩) rfl hl.1 rfl (Nat.le_of_ble_eq_true rfl) dX12_lightOf_74 ⟨Nat.zero_le _, Nat.zero_le _⟩) hP hD hS hA (fun r5 u H locs h hP hD hS => ?_)
        have hP : va_P D vwCl (List.flatten (wM aM C ms mw ma ml)) H := hP
        have hD : va_D A (List.flatten (wM aM C ms mw ma ml)) := hD
        refine lv_isub hx hb dX12_lightOf_77 ?_
        refine cGoEI (cRunES (As := [.int ((ma 7 ((x4 + 1).toNatClampNeg)) - r5)]) (rest := [.int x3_]) ⟨hx, hb, hml, hown, hw⟩ hK hN hP hD (k_X12_above l D C _    ((ma 7 ((x4 + 1).toNatClampNeg)) - r5) h) (va_cwS 1 hw (goodS mw_7_136 mw_7_137 mw_1_13 mw_7_138) rfl rfl rfl (by decide +kernel) ⟨Nat.le_of_ble_eq_true rfl, Nat.le_of_ble_eq_true rfl⟩) rfl hl.1 rfl (Nat.le_of_ble_eq_true rfl) dX12_lightOf_78 ⟨Nat.zero_le _, Nat.zero_le _⟩) hP hD hS hA (fun r6 u H locs h hP hD hS => ?_)
        have hP : va_P D vwCl (List.flatten (wM aM C ms mw ma ml)) H := hP
        have hD : va_D A (List.flatten (wM aM C ms mw ma ml)) := hD
        refine lv_iadd hx hb dX12_lightOf_81 ?_
        refine lv_topi (fun x7 ex7 => ?_)
        have h := h x7 ex7
        refine lv_istore_n (lv' := [(3, .int x7), (5, .int x4), (0, .ref (aM 0)), (1, .int p1), (2, .int p2), (4, .int x4_)]) hx hb dX12_lightOf_82 rfl hl (by decide) rfl (fun ls hl => ?_)
        refine lv_iinc (v := (x4_ + 1)) (lv' := [(4, .int (x4_ + 1)), (3, .int x7), (5, .int x4), (0, .ref (aM 0)), (1, .int p1), (2, .int p2)]) hx hb dX12_lightOf_83 hl (k := 5) rfl rfl (by decide) rfl (fun ls hl => ?_)
        refine lv_goto (tgt := 35) hx hb dX12_lightOf_86 (by decide) ?_
        exact ih35 x7 (x4_ + 1) _ _ _ h hP hD hS (lv_sub hl [3, 4, 5, 1, 0] rfl)
  refine lv_aload_n hx hb dX12_lightOf_0 rfl (lv_at hl 0 rfl) ?_
  refine va_get (D := D) (ci := 12) (v := .ref (aM 17)) (C := RX12) (T := TX12) (N := 51) hx hb hw inW_X12 hown hK hP 0 rfl rfl 27 (by decide) (hw _ mw_6_70) (fun _ h9 => h9) rfl dX12_lightOf_1 ?_
  refine lv_bipush (v := 7) hx hb dX12_lightOf_4 (by decide) ?_
  refine lv_iload_n hx hb dX12_lightOf_6 rfl (lv_at hl 1 rfl) ?_
  refine lv_imul hx hb dX12_lightOf_7 ?_
  refine lv_bipush (v := 6) hx hb dX12_lightOf_8 (by decide) ?_
  refine lv_iadd hx hb dX12_lightOf_10 ?_
  refine cIald hx hb hK hP 17 0 rfl rfl (((7 * p1) + 6).toNatClampNeg) rfl h.1 dX12_lightOf_11 ?_
  have h := h.2
  refine lv_iconst (v := 1) hx hb dX12_lightOf_12 (by decide) ?_
  refine lv_icmp_ne (tgt := 30) hx hb dX12_lightOf_13 (by decide) (fun c8 => ?_) (fun c8 => ?_)
  · have h := h.1 c8
    refine lv_iconst (v := 0) hx hb dX12_lightOf_30 (by decide) ?_
    refine lv_istore_n (lv' := [(3, .int 0), (0, .ref (aM 0)), (1, .int p1), (2, .int p2)]) hx hb dX12_lightOf_31 rfl hl (by decide) rfl (fun ls hl => ?_)
    refine lv_iconst (v := 0) hx hb dX12_lightOf_32 (by decide) ?_
    refine lv_istore (lv' := [(4, .int 0), (3, .int 0), (0, .ref (aM 0)), (1, .int p1), (2, .int p2)]) hx hb dX12_lightOf_33 hl (by decide) rfl (fun ls hl => ?_)
    obtain ⟨n, h⟩ := h
    exact N35  n 0 0 _ _ _ h hP hD hS (lv_sub hl [2, 3, 4, 1, 0] rfl)
  · have h := h.2 c8
    refine lv_aload_n hx hb dX12_lightOf_16 rfl (lv_at hl 0 rfl) ?_
    refine va_get (D := D) (ci := 12) (v := .ref (aM 17)) (C := RX12) (T := TX12) (N := 51) hx hb hw inW_X12 hown hK hP 0 rfl rfl 27 (by decide) (hw _ mw_6_70) (fun _ h9 => h9) rfl dX12_lightOf_17 ?_
    refine lv_bipush (v := 7) hx hb dX12_lightOf_20 (by decide) ?_
    refine lv_iload_n hx hb dX12_lightOf_22 rfl (lv_at hl 1 rfl) ?_
    refine lv_imul hx hb dX12_lightOf_23 ?_
    refine lv_iconst (v := 5) hx hb dX12_lightOf_24 (by decide) ?_
    refine lv_iadd hx hb dX12_lightOf_25 ?_
    refine cIald hx hb hK hP 17 0 rfl rfl (((7 * p1) + 5).toNatClampNeg) rfl h.1 dX12_lightOf_26 ?_
    have h := h.2
    refine lv_goto (tgt := 31) hx hb dX12_lightOf_27 (by decide) ?_
    refine lv_topi (fun x9 ex9 => ?_)
    have h := h x9 ex9
    refine lv_istore_n (lv' := [(3, .int x9), (0, .ref (aM 0)), (1, .int p1), (2, .int p2)]) hx hb dX12_lightOf_31 rfl hl (by decide) rfl (fun ls hl => ?_)
    refine lv_iconst (v := 0) hx hb dX12_lightOf_32 (by decide) ?_
    refine lv_istore (lv' := [(4, .int 0), (3, .int x9), (0, .ref (aM 0)), (1, .int p1), (2, .int p2)]) hx hb dX12_lightOf_33 hl (by decide) rfl (fun ls hl => ?_)
    obtain ⟨n, h⟩ := h
    exact N35  n x9 0 _ _ _ h hP hD hS (lv_sub hl [2, 3, 4, 1, 0] rfl)
abbrev vsX12_isRail : List Cond := Cond.code yX12_isRail cX12_isRail 1 (some .boolean) :: WS
abbrev rmX12_isRail : Room := { frames := 0, cells := 0, slots := 0, locals := 0 }
set_option maxHeartbeats 4000000 in
set_option maxRecDepth 100000 in
theorem k_X12_isRail (l : Launch) (D : va_G) (C : Nat → ClassId) (sz : Nat) (aM : Nat → Nat)  (ms : Nat → Int32) (mw : Nat → Int64) (ma : Nat → Nat → Int32) (ml : Nat → Nat → Int64)  {post : Int32 → Prop} (h : P_X12_isRail ma post) : Met l yX12_isRail vsX12_isRail rmX12_isRail (cPre D C [.ref (aM 0)] sz (wM aM C ms mw ma ml)) (cQi D (fun (r : Int32) (u : Unit) => post r ) (fun u => wM aM C ms mw ma ml) (va_A (List.flatten (wM aM C ms mw ma ml)) sz)) 0 0 (va_A (List.flatten (wM aM C ms mw ma ml)) sz) := by
  refine cStart (QA := fun A => cQi D (fun (r : Int32) (u : Unit) => post r ) (fun u => wM aM C ms mw ma ml) A) (cc := cX12_isRail) (maxL := 1) (ret := (some .boolean)) (by decide) (Nat.le_of_ble_eq_true rfl) ?_
  intro p e s m args below meth c A ls hx hb hr hml hown hw hlocks hname hK hN hA hP hD hS hl
  generalize hQ : MQ below _ args s 0 0 A = Q
  have hl : lv_has ls 1 [(0, .ref (aM 0))] := hl
  obtain ⟨H, hH⟩ : ∃ H, H = s.heap := ⟨_, rfl⟩
  obtain ⟨locs, hlo⟩ : ∃ z : List Loc, z = [] := ⟨_, rfl⟩
  have hP : va_P D vwCl (List.flatten (wM aM C ms mw ma ml)) H := by rw [hH]; exact hP
  have hS : va_S A s.heap H locs := by rw [hH, hlo]; exact hS
  rw [show W p l e rmX12_isRail s m args below meth c s.heap [] 0 0 Q (F0 m 0 ls []) = W p l e rmX12_isRail s m args below meth c H locs 0 0 Q (F0 m 0 ls []) from by rw [hH, hlo]]
  refine lv_aload_n hx hb dX12_isRail_0 rfl (lv_at hl 0 rfl) ?_
  refine va_get (D := D) (ci := 12) (v := .ref (aM 7)) (C := RX12) (T := TX12) (N := 51) hx hb hw inW_X12 hown hK hP 0 rfl rfl 17 (by decide) (hw _ mw_6_60) (fun _ h9 => h9) rfl dX12_isRail_1 ?_
  refine lv_iconst (v := 0) hx hb dX12_isRail_4 (by decide) ?_
  refine cIald hx hb hK hP 7 0 rfl rfl 0 (by decide +kernel) (cIn (by decide +kernel)) dX12_isRail_5 ?_
  refine lv_if_le (tgt := 13) hx hb dX12_isRail_6 (by decide) (fun c1 => ?_) (fun c1 => ?_)
  · have h := h.1 c1
    refine lv_iconst (v := 0) hx hb dX12_isRail_13 (by decide) ?_
    rw [← hQ]
    exact cRetZ (v := 0) () hx hb hr hlocks hS hP hD (Or.inl rfl) h dX12_isRail_14
  · have h := h.2 c1
    refine lv_iconst (v := 1) hx hb dX12_isRail_9 (by decide) ?_
    refine lv_goto (tgt := 14) hx hb dX12_isRail_10 (by decide) ?_
    rw [← hQ]
    exact cRetZ (v := 1) () hx hb hr hlocks hS hP hD (Or.inr rfl) h dX12_isRail_14
abbrev vsX12_isPlace : List Cond := Cond.code yX12_isPlace cX12_isPlace 2 (some .boolean) :: WS
abbrev rmX12_isPlace : Room := { frames := 1, cells := 0, slots := 0, locals := 25 }
set_option maxHeartbeats 4000000 in
set_option maxRecDepth 100000 in
theorem k_X12_isPlace (l : Launch) (D : va_G) (C : Nat → ClassId) (sz : Nat) (aM : Nat → Nat)  (ms : Nat → Int32) (mw : Nat → Int64) (ma : Nat → Nat → Int32) (ml : Nat → Nat → Int64) (p1 : Int32) {post : Int32 → Prop} (h : P_X12_isPlace ma p1 post) : Met l yX12_isPlace vsX12_isPlace rmX12_isPlace (cPre D C [.ref (aM 0), .int p1] sz (wM aM C ms mw ma ml)) (cQi D (fun (r : Int32) (u : Unit) => post r ) (fun u => wM aM C ms mw ma ml) (va_A (List.flatten (wM aM C ms mw ma ml)) sz)) 0 0 (va_A (List.flatten (wM aM C ms mw ma ml)) sz) := by
  refine cStart (QA := fun A => cQi D (fun (r : Int32) (u : Unit) => post r ) (fun u => wM aM C ms mw ma ml) A) (cc := cX12_isPlace) (maxL := 2) (ret := (some .boolean)) (by decide) (Nat.le_of_ble_eq_true rfl) ?_
  intro p e s m args below meth c A ls hx hb hr hml hown hw hlocks hname hK hN hA hP hD hS hl
  generalize hQ : MQ below _ args s 0 0 A = Q
  have hl : lv_has ls 2 [(0, .ref (aM 0)), (1, .int p1)] := hl
  obtain ⟨H, hH⟩ : ∃ H, H = s.heap := ⟨_, rfl⟩
  obtain ⟨locs, hlo⟩ : ∃ z : List Loc, z = [] := ⟨_, rfl⟩
  have hP : va_P D vwCl (List.flatten (wM aM C ms mw ma ml)) H := by rw [hH]; exact hP
  have hS : va_S A s.heap H locs := by rw [hH, hlo]; exact hS
  rw [show W p l e rmX12_isPlace s m args below meth c s.heap [] 0 0 Q (F0 m 0 ls []) = W p l e rmX12_isPlace s m args below meth c H locs 0 0 Q (F0 m 0 ls []) from by rw [hH, hlo]]
  refine lv_iload_n hx hb dX12_isPlace_0 rfl (lv_at hl 1 rfl) ?_
  refine lv_i2l hx hb dX12_isPlace_1 rfl ?_
  refine lv_lconst (v := 0) hx hb dX12_isPlace_2 (by decide) ?_
  refine lv_aload_n hx hb dX12_isPlace_3 rfl (lv_at hl 0 rfl) ?_
  refine va_get (D := D) (ci := 12) (v := .ref (aM 7)) (C := RX12) (T := TX12) (N := 51) hx hb hw inW_X12 hown hK hP 0 rfl rfl 17 (by decide) (hw _ mw_6_60) (fun _ h9 => h9) rfl dX12_isPlace_4 ?_
  refine lv_iconst (v := 0) hx hb dX12_isPlace_7 (by decide) ?_
  refine cIald hx hb hK hP 7 0 rfl rfl 0 (by decide +kernel) (cIn (by decide +kernel)) dX12_isPlace_8 ?_
  refine lv_iconst (v := 1) hx hb dX12_isPlace_9 (by decide) ?_
  refine lv_isub hx hb dX12_isPlace_10 ?_
  refine lv_i2l hx hb dX12_isPlace_11 rfl ?_
  refine cGoEI (cRunES (As := [.long p1.toInt64, .long 0, .long (((ma 4 0) - 1).toInt64)]) (rest := []) ⟨hx, hb, hml, hown, hw⟩ hK hN hP hD (k_X12_in l D C _    p1.toInt64 0 (((ma 4 0) - 1).toInt64) h) (va_cwS 3 hw (goodS mw_6_205 mw_6_206 mw_1_13 mw_6_207) rfl rfl rfl (by decide +kernel) ⟨Nat.le_of_ble_eq_true rfl, Nat.le_of_ble_eq_true rfl⟩) rfl hl.1 rfl (Nat.le_of_ble_eq_true rfl) dX12_isPlace_12 ⟨Nat.zero_le _, Nat.zero_le _⟩) hP hD hS hA (fun r1 u H locs h hP hD hS => ?_)
  have hP : va_P D vwCl (List.flatten (wM aM C ms mw ma ml)) H := hP
  have hD : va_D A (List.flatten (wM aM C ms mw ma ml)) := hD
  rw [← hQ]
  exact cRetZ (v := r1) () hx hb hr hlocks hS hP hD h.1 h.2 dX12_isPlace_15
abbrev vsX12_isBike : List Cond := Cond.code yX12_isBike cX12_isBike 2 (some .boolean) :: WS
abbrev rmX12_isBike : Room := { frames := 1, cells := 0, slots := 0, locals := 25 }
set_option maxHeartbeats 4000000 in
set_option maxRecDepth 100000 in
theorem k_X12_isBike (l : Launch) (D : va_G) (C : Nat → ClassId) (sz : Nat) (aM : Nat → Nat)  (ms : Nat → Int32) (mw : Nat → Int64) (ma : Nat → Nat → Int32) (ml : Nat → Nat → Int64) (p1 : Int32) {post : Int32 → Prop} (h : P_X12_isBike ma p1 post) : Met l yX12_isBike vsX12_isBike rmX12_isBike (cPre D C [.ref (aM 0), .int p1] sz (wM aM C ms mw ma ml)) (cQi D (fun (r : Int32) (u : Unit) => post r ) (fun u => wM aM C ms mw ma ml) (va_A (List.flatten (wM aM C ms mw ma ml)) sz)) 0 0 (va_A (List.flatten (wM aM C ms mw ma ml)) sz) := by
  refine cStart (QA := fun A => cQi D (fun (r : Int32) (u : Unit) => post r ) (fun u => wM aM C ms mw ma ml) A) (cc := cX12_isBike) (maxL := 2) (ret := (some .boolean)) (by decide) (Nat.le_of_ble_eq_true rfl) ?_
  intro p e s m args below meth c A ls hx hb hr hml hown hw hlocks hname hK hN hA hP hD hS hl
  generalize hQ : MQ below _ args s 0 0 A = Q
  have hl : lv_has ls 2 [(0, .ref (aM 0)), (1, .int p1)] := hl
  obtain ⟨H, hH⟩ : ∃ H, H = s.heap := ⟨_, rfl⟩
  obtain ⟨locs, hlo⟩ : ∃ z : List Loc, z = [] := ⟨_, rfl⟩
  have hP : va_P D vwCl (List.flatten (wM aM C ms mw ma ml)) H := by rw [hH]; exact hP
  have hS : va_S A s.heap H locs := by rw [hH, hlo]; exact hS
  rw [show W p l e rmX12_isBike s m args below meth c s.heap [] 0 0 Q (F0 m 0 ls []) = W p l e rmX12_isBike s m args below meth c H locs 0 0 Q (F0 m 0 ls []) from by rw [hH, hlo]]
  refine lv_iload_n hx hb dX12_isBike_0 rfl (lv_at hl 1 rfl) ?_
  refine lv_i2l hx hb dX12_isBike_1 rfl ?_
  refine lv_lconst (v := 0) hx hb dX12_isBike_2 (by decide) ?_
  refine lv_aload_n hx hb dX12_isBike_3 rfl (lv_at hl 0 rfl) ?_
  refine va_get (D := D) (ci := 12) (v := .ref (aM 13)) (C := RX12) (T := TX12) (N := 51) hx hb hw inW_X12 hown hK hP 0 rfl rfl 23 (by decide) (hw _ mw_6_66) (fun _ h9 => h9) rfl dX12_isBike_4 ?_
  refine lv_iconst (v := 0) hx hb dX12_isBike_7 (by decide) ?_
  refine cIald hx hb hK hP 13 0 rfl rfl 0 (by decide +kernel) (cIn (by decide +kernel)) dX12_isBike_8 ?_
  refine lv_iconst (v := 1) hx hb dX12_isBike_9 (by decide) ?_
  refine lv_isub hx hb dX12_isBike_10 ?_
  refine lv_i2l hx hb dX12_isBike_11 rfl ?_
  refine cGoEI (cRunES (As := [.long p1.toInt64, .long 0, .long (((ma 10 0) - 1).toInt64)]) (rest := []) ⟨hx, hb, hml, hown, hw⟩ hK hN hP hD (k_X12_in l D C _    p1.toInt64 0 (((ma 10 0) - 1).toInt64) h) (va_cwS 3 hw (goodS mw_6_205 mw_6_206 mw_1_13 mw_6_207) rfl rfl rfl (by decide +kernel) ⟨Nat.le_of_ble_eq_true rfl, Nat.le_of_ble_eq_true rfl⟩) rfl hl.1 rfl (Nat.le_of_ble_eq_true rfl) dX12_isBike_12 ⟨Nat.zero_le _, Nat.zero_le _⟩) hP hD hS hA (fun r1 u H locs h hP hD hS => ?_)
  have hP : va_P D vwCl (List.flatten (wM aM C ms mw ma ml)) H := hP
  have hD : va_D A (List.flatten (wM aM C ms mw ma ml)) := hD
  rw [← hQ]
  exact cRetZ (v := r1) () hx hb hr hlocks hS hP hD h.1 h.2 dX12_isBike_15
abbrev vsX12_isThief : List Cond := Cond.code yX12_isThief cX12_isThief 2 (some .boolean) :: WS
abbrev rmX12_isThief : Room := { frames := 1, cells := 0, slots := 0, locals := 25 }
set_option maxHeartbeats 4000000 in
set_option maxRecDepth 100000 in
theorem k_X12_isThief (l : Launch) (D : va_G) (C : Nat → ClassId) (sz : Nat) (aM : Nat → Nat)  (ms : Nat → Int32) (mw : Nat → Int64) (ma : Nat → Nat → Int32) (ml : Nat → Nat → Int64) (p1 : Int32) {post : Int32 → Prop} (h : P_X12_isThief ma p1 post) : Met l yX12_isThief vsX12_isThief rmX12_isThief (cPre D C [.ref (aM 0), .int p1] sz (wM aM C ms mw ma ml)) (cQi D (fun (r : Int32) (u : Unit) => post r ) (fun u => wM aM C ms mw ma ml) (va_A (List.flatten (wM aM C ms mw ma ml)) sz)) 0 0 (va_A (List.flatten (wM aM C ms mw ma ml)) sz) := by
  refine cStart (QA := fun A => cQi D (fun (r : Int32) (u : Unit) => post r ) (fun u => wM aM C ms mw ma ml) A) (cc := cX12_isThief) (maxL := 2) (ret := (some .boolean)) (by decide) (Nat.le_of_ble_eq_true rfl) ?_
  intro p e s m args below meth c A ls hx hb hr hml hown hw hlocks hname hK hN hA hP hD hS hl
  generalize hQ : MQ below _ args s 0 0 A = Q
  have hl : lv_has ls 2 [(0, .ref (aM 0)), (1, .int p1)] := hl
  obtain ⟨H, hH⟩ : ∃ H, H = s.heap := ⟨_, rfl⟩
  obtain ⟨locs, hlo⟩ : ∃ z : List Loc, z = [] := ⟨_, rfl⟩
  have hP : va_P D vwCl (List.flatten (wM aM C ms mw ma ml)) H := by rw [hH]; exact hP
  have hS : va_S A s.heap H locs := by rw [hH, hlo]; exact hS
  rw [show W p l e rmX12_isThief s m args below meth c s.heap [] 0 0 Q (F0 m 0 ls []) = W p l e rmX12_isThief s m args below meth c H locs 0 0 Q (F0 m 0 ls []) from by rw [hH, hlo]]
  refine lv_iload_n hx hb dX12_isThief_0 rfl (lv_at hl 1 rfl) ?_
  refine lv_i2l hx hb dX12_isThief_1 rfl ?_
  refine lv_lconst (v := 0) hx hb dX12_isThief_2 (by decide) ?_
  refine lv_aload_n hx hb dX12_isThief_3 rfl (lv_at hl 0 rfl) ?_
  refine va_get (D := D) (ci := 12) (v := .ref (aM 15)) (C := RX12) (T := TX12) (N := 51) hx hb hw inW_X12 hown hK hP 0 rfl rfl 25 (by decide) (hw _ mw_6_68) (fun _ h9 => h9) rfl dX12_isThief_4 ?_
  refine lv_iconst (v := 0) hx hb dX12_isThief_7 (by decide) ?_
  refine cIald hx hb hK hP 15 0 rfl rfl 0 (by decide +kernel) (cIn (by decide +kernel)) dX12_isThief_8 ?_
  refine lv_iconst (v := 1) hx hb dX12_isThief_9 (by decide) ?_
  refine lv_isub hx hb dX12_isThief_10 ?_
  refine lv_i2l hx hb dX12_isThief_11 rfl ?_
  refine cGoEI (cRunES (As := [.long p1.toInt64, .long 0, .long (((ma 12 0) - 1).toInt64)]) (rest := []) ⟨hx, hb, hml, hown, hw⟩ hK hN hP hD (k_X12_in l D C _    p1.toInt64 0 (((ma 12 0) - 1).toInt64) h) (va_cwS 3 hw (goodS mw_6_205 mw_6_206 mw_1_13 mw_6_207) rfl rfl rfl (by decide +kernel) ⟨Nat.le_of_ble_eq_true rfl, Nat.le_of_ble_eq_true rfl⟩) rfl hl.1 rfl (Nat.le_of_ble_eq_true rfl) dX12_isThief_12 ⟨Nat.zero_le _, Nat.zero_le _⟩) hP hD hS hA (fun r1 u H locs h hP hD hS => ?_)
  have hP : va_P D vwCl (List.flatten (wM aM C ms mw ma ml)) H := hP
  have hD : va_D A (List.flatten (wM aM C ms mw ma ml)) := hD
  rw [← hQ]
  exact cRetZ (v := r1) () hx hb hr hlocks hS hP hD h.1 h.2 dX12_isThief_15
abbrev vsX12_at : List Cond := Cond.code yX12_at cX12_at 2 (some .int) :: WS
abbrev rmX12_at : Room := { frames := 0, cells := 0, slots := 0, locals := 0 }
set_option maxHeartbeats 4000000 in
set_option maxRecDepth 100000 in
theorem k_X12_at (l : Launch) (D : va_G) (C : Nat → ClassId) (sz : Nat)    (p1 : Int32) (p2 : Int32) {post : Int32 → Prop} (h : P_X12_at p1 p2 post) : Met l yX12_at vsX12_at rmX12_at (cPre D C [.int p1, .int p2] sz (([] : List va_W))) (cQi D (fun (r : Int32) (u : Unit) => post r ) (fun u => ([] : List va_W)) (va_A (List.flatten (([] : List va_W))) sz)) 0 0 (va_A (List.flatten (([] : List va_W))) sz) := by
  refine cStart (QA := fun A => cQi D (fun (r : Int32) (u : Unit) => post r ) (fun u => ([] : List va_W)) A) (cc := cX12_at) (maxL := 2) (ret := (some .int)) (by decide) (Nat.le_of_ble_eq_true rfl) ?_
  intro p e s m args below meth c A ls hx hb hr hml hown hw hlocks hname hK hN hA hP hD hS hl
  generalize hQ : MQ below _ args s 0 0 A = Q
  have hl : lv_has ls 2 [(0, .int p1), (1, .int p2)] := hl
  obtain ⟨H, hH⟩ : ∃ H, H = s.heap := ⟨_, rfl⟩
  obtain ⟨locs, hlo⟩ : ∃ z : List Loc, z = [] := ⟨_, rfl⟩
  have hP : va_P D vwCl (List.flatten (([] : List va_W))) H := by rw [hH]; exact hP
  have hS : va_S A s.heap H locs := by rw [hH, hlo]; exact hS
  rw [show W p l e rmX12_at s m args below meth c s.heap [] 0 0 Q (F0 m 0 ls []) = W p l e rmX12_at s m args below meth c H locs 0 0 Q (F0 m 0 ls []) from by rw [hH, hlo]]
  refine lv_iconst (v := 5) hx hb dX12_at_0 (by decide) ?_
  refine lv_bipush (v := 10) hx hb dX12_at_1 (by decide) ?_
  refine lv_iload_n hx hb dX12_at_3 rfl (lv_at hl 0 rfl) ?_
  refine lv_imul hx hb dX12_at_4 ?_
  refine lv_iload_n hx hb dX12_at_5 rfl (lv_at hl 1 rfl) ?_
  refine lv_iadd hx hb dX12_at_6 ?_
  refine lv_imul hx hb dX12_at_7 ?_
  rw [← hQ]
  exact cRetI (v := (5 * ((10 * p1) + p2))) () hx hb hr hlocks hS hP hD h dX12_at_8
abbrev vsX12_light : List Cond := Cond.code yX12_light cX12_light 2 (some .int) :: WS
abbrev rmX12_light : Room := { frames := 2, cells := 0, slots := 0, locals := 46 }
set_option maxHeartbeats 4000000 in
set_option maxRecDepth 100000 in
theorem k_X12_light (l : Launch) (D : va_G) (C : Nat → ClassId) (sz : Nat) (aM : Nat → Nat)  (ms : Nat → Int32) (mw : Nat → Int64) (ma : Nat → Nat → Int32) (ml : Nat → Nat → Int64) (p1 : Int32) {post : Int32 → (Nat → Int32) → Prop} (h : P_X12_light ms ma p1 post) : Met l yX12_light vsX12_light rmX12_light (cPre D C [.ref (aM 0), .int p1] sz (wM aM C ms mw ma ml)) (cQi D (fun (r : Int32) (u : (Nat → Int32)) => post r u) (fun u => wM aM C u mw ma ml) (va_A (List.flatten (wM aM C ms mw ma ml)) sz)) 0 0 (va_A (List.flatten (wM aM C ms mw ma ml)) sz) := by
  refine cStart (QA := fun A => cQi D (fun (r : Int32) (u : (Nat → Int32)) => post r u) (fun u => wM aM C u mw ma ml) A) (cc := cX12_light) (maxL := 2) (ret := (some .int)) (by decide) (Nat.le_of_ble_eq_true rfl) ?_
  intro p e s m args below meth c A ls hx hb hr hml hown hw hlocks hname hK hN hA hP hD hS hl
  generalize hQ : MQ below _ args s 0 0 A = Q
  have hl : lv_has ls 2 [(0, .ref (aM 0)), (1, .int p1)] := hl
  obtain ⟨H, hH⟩ : ∃ H, H = s.heap := ⟨_, rfl⟩
  obtain ⟨locs, hlo⟩ : ∃ z : List Loc, z = [] := ⟨_, rfl⟩
  have hP : va_P D vwCl (List.flatten (wM aM C ms mw ma ml)) H := by rw [hH]; exact hP
  have hS : va_S A s.heap H locs := by rw [hH, hlo]; exact hS
  rw [show W p l e rmX12_light s m args below meth c s.heap [] 0 0 Q (F0 m 0 ls []) = W p l e rmX12_light s m args below meth c H locs 0 0 Q (F0 m 0 ls []) from by rw [hH, hlo]]
  refine lv_aload_n hx hb dX12_light_0 rfl (lv_at hl 0 rfl) ?_
  refine lv_iconst (v := 0) hx hb dX12_light_1 (by decide) ?_
  refine va_put (D := D) (ci := 12) (v := .int 0) (ty := .int) (C := RX12) (T := TX12) (N := 51) hx hb hw inW_X12 tyX12 tyX12_ok nmX12 hown hK hP hD hS 0 rfl rfl 0 (by decide) (hw _ mw_6_43) (fun _ h9 => h9) rfl (by decide +kernel) rfl rfl (Nat.le_of_ble_eq_true rfl) dX12_light_2 (fun H locs hP hD hS => ?_)
  refine lv_aload_n hx hb dX12_light_5 rfl (lv_at hl 0 rfl) ?_
  refine lv_iload_n hx hb dX12_light_6 rfl (lv_at hl 1 rfl) ?_
  have hP : va_P D vwCl (List.flatten (wM aM C (va_up ms 0 0) mw ma ml)) H := hP
  have hD : va_D A (List.flatten (wM aM C (va_up ms 0 0) mw ma ml)) := hD
  refine cGoAI (cRunAV (As := [.int p1]) (rest := []) ⟨hx, hb, hml, hown, hw⟩ hK hN hP hD (k_X12_isPlace l D C _ aM  (va_up ms 0 0) mw ma ml p1 h) (cwV 1 hw (goodV mw_7_125 mw_7_127 mw_s131 mw_1_13 mw_7_128) rfl rfl rfl (by decide +kernel) ⟨Nat.le_of_ble_eq_true rfl, Nat.le_of_ble_eq_true rfl⟩) rfl rfl rfl hl.1 rfl (Nat.le_of_ble_eq_true rfl) dX12_light_7 ⟨Nat.zero_le _, Nat.zero_le _⟩) hP hD hS hA (fun r1 u H locs h hP hD hS => ?_)
  have hP : va_P D vwCl (List.flatten (wM aM C (va_up ms 0 0) mw ma ml)) H := hP
  have hD : va_D A (List.flatten (wM aM C (va_up ms 0 0) mw ma ml)) := hD
  refine lv_if_eq (tgt := 22) hx hb dX12_light_10 (by decide) (fun c2 => ?_) (fun c2 => ?_)
  · have h := h.1 c2
    refine lv_bipush (v := (-2)) hx hb dX12_light_22 (by decide) ?_
    rw [← hQ]
    exact cRetI (v := (-2)) ((va_up ms 0 0)) hx hb hr hlocks hS hP hD h dX12_light_24
  · have h := h.2 c2
    refine lv_aload_n hx hb dX12_light_13 rfl (lv_at hl 0 rfl) ?_
    refine lv_iconst (v := 0) hx hb dX12_light_14 (by decide) ?_
    refine lv_iload_n hx hb dX12_light_15 rfl (lv_at hl 1 rfl) ?_
    refine cGoAI (cRunAV (As := [.int 0, .int p1]) (rest := []) ⟨hx, hb, hml, hown, hw⟩ hK hN hP hD (k_X12_lightOf l D C _ aM  (va_up ms 0 0) mw ma ml 0 p1 h) (cwV 2 hw (goodV mw_7_129 mw_7_131 mw_s132 mw_1_13 mw_7_132) rfl rfl rfl (by decide +kernel) ⟨Nat.le_of_ble_eq_true rfl, Nat.le_of_ble_eq_true rfl⟩) rfl rfl rfl hl.1 rfl (Nat.le_of_ble_eq_true rfl) dX12_light_16 ⟨Nat.zero_le _, Nat.zero_le _⟩) hP hD hS hA (fun r3 u H locs h hP hD hS => ?_)
    have hP : va_P D vwCl (List.flatten (wM aM C (va_up ms 0 0) mw ma ml)) H := hP
    have hD : va_D A (List.flatten (wM aM C (va_up ms 0 0) mw ma ml)) := hD
    refine lv_goto (tgt := 24) hx hb dX12_light_19 (by decide) ?_
    rw [← hQ]
    exact cRetI (v := r3) ((va_up ms 0 0)) hx hb hr hlocks hS hP hD h dX12_light_24
abbrev vsX12_bike : List Cond := Cond.code yX12_bike cX12_bike 3 (some .int) :: WS
abbrev rmX12_bike : Room := { frames := 2, cells := 0, slots := 0, locals := 46 }
set_option maxHeartbeats 4000000 in
set_option maxRecDepth 100000 in
theorem k_X12_bike (l : Launch) (D : va_G) (C : Nat → ClassId) (sz : Nat) (aM : Nat → Nat)  (ms : Nat → Int32) (mw : Nat → Int64) (ma : Nat → Nat → Int32) (ml : Nat → Nat → Int64) (p1 : Int32) (p2 : Int32) {post : Int32 → (Nat → Int32) → Prop} (h : P_X12_bike ms ma p1 p2 post) : Met l yX12_bike vsX12_bike rmX12_bike (cPre D C [.ref (aM 0), .int p1, .int p2] sz (wM aM C ms mw ma ml)) (cQi D (fun (r : Int32) (u : (Nat → Int32)) => post r u) (fun u => wM aM C u mw ma ml) (va_A (List.flatten (wM aM C ms mw ma ml)) sz)) 0 0 (va_A (List.flatten (wM aM C ms mw ma ml)) sz) := by
  refine cStart (QA := fun A => cQi D (fun (r : Int32) (u : (Nat → Int32)) => post r u) (fun u => wM aM C u mw ma ml) A) (cc := cX12_bike) (maxL := 3) (ret := (some .int)) (by decide) (Nat.le_of_ble_eq_true rfl) ?_
  intro p e s m args below meth c A ls hx hb hr hml hown hw hlocks hname hK hN hA hP hD hS hl
  generalize hQ : MQ below _ args s 0 0 A = Q
  have hl : lv_has ls 3 [(0, .ref (aM 0)), (1, .int p1), (2, .int p2)] := hl
  obtain ⟨H, hH⟩ : ∃ H, H = s.heap := ⟨_, rfl⟩
  obtain ⟨locs, hlo⟩ : ∃ z : List Loc, z = [] := ⟨_, rfl⟩
  have hP : va_P D vwCl (List.flatten (wM aM C ms mw ma ml)) H := by rw [hH]; exact hP
  have hS : va_S A s.heap H locs := by rw [hH, hlo]; exact hS
  rw [show W p l e rmX12_bike s m args below meth c s.heap [] 0 0 Q (F0 m 0 ls []) = W p l e rmX12_bike s m args below meth c H locs 0 0 Q (F0 m 0 ls []) from by rw [hH, hlo]]
  refine lv_aload_n hx hb dX12_bike_0 rfl (lv_at hl 0 rfl) ?_
  refine lv_iconst (v := 0) hx hb dX12_bike_1 (by decide) ?_
  refine va_put (D := D) (ci := 12) (v := .int 0) (ty := .int) (C := RX12) (T := TX12) (N := 51) hx hb hw inW_X12 tyX12 tyX12_ok nmX12 hown hK hP hD hS 0 rfl rfl 0 (by decide) (hw _ mw_6_43) (fun _ h9 => h9) rfl (by decide +kernel) rfl rfl (Nat.le_of_ble_eq_true rfl) dX12_bike_2 (fun H locs hP hD hS => ?_)
  refine lv_aload_n hx hb dX12_bike_5 rfl (lv_at hl 0 rfl) ?_
  refine lv_iload_n hx hb dX12_bike_6 rfl (lv_at hl 1 rfl) ?_
  have hP : va_P D vwCl (List.flatten (wM aM C (va_up ms 0 0) mw ma ml)) H := hP
  have hD : va_D A (List.flatten (wM aM C (va_up ms 0 0) mw ma ml)) := hD
  refine cGoAI (cRunAV (As := [.int p1]) (rest := []) ⟨hx, hb, hml, hown, hw⟩ hK hN hP hD (k_X12_isBike l D C _ aM  (va_up ms 0 0) mw ma ml p1 h) (cwV 1 hw (goodV mw_7_143 mw_7_145 mw_s133 mw_1_13 mw_7_146) rfl rfl rfl (by decide +kernel) ⟨Nat.le_of_ble_eq_true rfl, Nat.le_of_ble_eq_true rfl⟩) rfl rfl rfl hl.1 rfl (Nat.le_of_ble_eq_true rfl) dX12_bike_7 ⟨Nat.zero_le _, Nat.zero_le _⟩) hP hD hS hA (fun r1 u H locs h hP hD hS => ?_)
  have hP : va_P D vwCl (List.flatten (wM aM C (va_up ms 0 0) mw ma ml)) H := hP
  have hD : va_D A (List.flatten (wM aM C (va_up ms 0 0) mw ma ml)) := hD
  refine lv_if_eq (tgt := 40) hx hb dX12_bike_10 (by decide) (fun c2 => ?_) (fun c2 => ?_)
  · have h := h.1 c2
    refine lv_bipush (v := (-2)) hx hb dX12_bike_40 (by decide) ?_
    rw [← hQ]
    exact cRetI (v := (-2)) ((va_up ms 0 0)) hx hb hr hlocks hS hP hD h dX12_bike_42
  · have h := h.2 c2
    refine lv_iload_n hx hb dX12_bike_13 rfl (lv_at hl 2 rfl) ?_
    refine lv_i2l hx hb dX12_bike_14 rfl ?_
    refine lv_lconst (v := 0) hx hb dX12_bike_15 (by decide) ?_
    refine lv_ldc2 (v := 4) hx hb hown (hw _ mw_7_147) dX12_bike_16 ?_
    refine cGoEI (cRunES (As := [.long p2.toInt64, .long 0, .long 4]) (rest := []) ⟨hx, hb, hml, hown, hw⟩ hK hN hP hD (k_X12_in l D C _    p2.toInt64 0 4 h) (va_cwS 3 hw (goodS mw_6_205 mw_6_206 mw_1_13 mw_6_207) rfl rfl rfl (by decide +kernel) ⟨Nat.le_of_ble_eq_true rfl, Nat.le_of_ble_eq_true rfl⟩) rfl hl.1 rfl (Nat.le_of_ble_eq_true rfl) dX12_bike_19 ⟨Nat.zero_le _, Nat.zero_le _⟩) hP hD hS hA (fun r3 u H locs h hP hD hS => ?_)
    have hP : va_P D vwCl (List.flatten (wM aM C (va_up ms 0 0) mw ma ml)) H := hP
    have hD : va_D A (List.flatten (wM aM C (va_up ms 0 0) mw ma ml)) := hD
    refine lv_if_eq (tgt := 40) hx hb dX12_bike_22 (by decide) (fun c4 => ?_) (fun c4 => ?_)
    · have h := h.1 c4
      refine lv_bipush (v := (-2)) hx hb dX12_bike_40 (by decide) ?_
      rw [← hQ]
      exact cRetI (v := (-2)) ((va_up ms 0 0)) hx hb hr hlocks hS hP hD h dX12_bike_42
    · have h := h.2 c4
      refine lv_aload_n hx hb dX12_bike_25 rfl (lv_at hl 0 rfl) ?_
      refine va_get (D := D) (ci := 12) (v := .ref (aM 14)) (C := RX12) (T := TX12) (N := 51) hx hb hw inW_X12 hown hK hP 0 rfl rfl 24 (by decide) (hw _ mw_6_67) (fun _ h9 => h9) rfl dX12_bike_26 ?_
      refine lv_iconst (v := 0) hx hb dX12_bike_29 (by decide) ?_
      refine lv_iload_n hx hb dX12_bike_30 rfl (lv_at hl 1 rfl) ?_
      refine cGoEI (cRunES (As := [.int 0, .int p1]) (rest := [.ref (aM 14)]) ⟨hx, hb, hml, hown, hw⟩ hK hN hP hD (k_X12_at l D C _    0 p1 h) (va_cwS 2 hw (goodS mw_7_148 mw_7_149 mw_1_13 mw_7_150) rfl rfl rfl (by decide +kernel) ⟨Nat.le_of_ble_eq_true rfl, Nat.le_of_ble_eq_true rfl⟩) rfl hl.1 rfl (Nat.le_of_ble_eq_true rfl) dX12_bike_31 ⟨Nat.zero_le _, Nat.zero_le _⟩) hP hD hS hA (fun r5 u H locs h hP hD hS => ?_)
      have hP : va_P D vwCl (List.flatten (wM aM C (va_up ms 0 0) mw ma ml)) H := hP
      have hD : va_D A (List.flatten (wM aM C (va_up ms 0 0) mw ma ml)) := hD
      refine lv_iload_n hx hb dX12_bike_34 rfl (lv_at hl 2 rfl) ?_
      refine lv_iadd hx hb dX12_bike_35 ?_
      refine cIald hx hb hK hP 14 0 rfl rfl ((r5 + p2).toNatClampNeg) rfl h.1 dX12_bike_36 ?_
      have h := h.2
      refine lv_goto (tgt := 42) hx hb dX12_bike_37 (by decide) ?_
      rw [← hQ]
      exact cRetI (v := (ma 11 ((r5 + p2).toNatClampNeg))) ((va_up ms 0 0)) hx hb hr hlocks hS hP hD h dX12_bike_42
abbrev vsX12_troubleOf : List Cond := Cond.code yX12_troubleOf cX12_troubleOf 7 (some .int) :: WS
abbrev rmX12_troubleOf : Room := { frames := 2, cells := 0, slots := 0, locals := 46 }
set_option maxHeartbeats 4000000 in
set_option maxRecDepth 100000 in
theorem k_X12_troubleOf (l : Launch) (D : va_G) (C : Nat → ClassId) (sz : Nat) (aM : Nat → Nat)  (ms : Nat → Int32) (mw : Nat → Int64) (ma : Nat → Nat → Int32) (ml : Nat → Nat → Int64) (p1 : Int32) (p2 : Int32) (p3 : Int32) {post : Int32 → Prop} (h : P_X12_troubleOf ms ma p1 p2 p3 post) : Met l yX12_troubleOf vsX12_troubleOf rmX12_troubleOf (cPre D C [.ref (aM 0), .int p1, .int p2, .int p3] sz (wM aM C ms mw ma ml)) (cQi D (fun (r : Int32) (u : Unit) => post r ) (fun u => wM aM C ms mw ma ml) (va_A (List.flatten (wM aM C ms mw ma ml)) sz)) 0 0 (va_A (List.flatten (wM aM C ms mw ma ml)) sz) := by
  refine cStart (QA := fun A => cQi D (fun (r : Int32) (u : Unit) => post r ) (fun u => wM aM C ms mw ma ml) A) (cc := cX12_troubleOf) (maxL := 7) (ret := (some .int)) (by decide) (Nat.le_of_ble_eq_true rfl) ?_
  intro p e s m args below meth c A ls hx hb hr hml hown hw hlocks hname hK hN hA hP hD hS hl
  generalize hQ : MQ below _ args s 0 0 A = Q
  have hl : lv_has ls 7 [(0, .ref (aM 0)), (1, .int p1), (2, .int p2), (3, .int p3)] := hl
  obtain ⟨H, hH⟩ : ∃ H, H = s.heap := ⟨_, rfl⟩
  obtain ⟨locs, hlo⟩ : ∃ z : List Loc, z = [] := ⟨_, rfl⟩
  have hP : va_P D vwCl (List.flatten (wM aM C ms mw ma ml)) H := by rw [hH]; exact hP
  have hS : va_S A s.heap H locs := by rw [hH, hlo]; exact hS
  rw [show W p l e rmX12_troubleOf s m args below meth c s.heap [] 0 0 Q (F0 m 0 ls []) = W p l e rmX12_troubleOf s m args below meth c H locs 0 0 Q (F0 m 0 ls []) from by rw [hH, hlo]]
  refine lv_iload_n hx hb dX12_troubleOf_0 rfl (lv_at hl 2 rfl) ?_
  refine lv_iload_n hx hb dX12_troubleOf_1 rfl (lv_at hl 3 rfl) ?_
  refine cGoEI (cRunES (As := [.int p2, .int p3]) (rest := []) ⟨hx, hb, hml, hown, hw⟩ hK hN hP hD (k_X12_at l D C _    p2 p3 h) (va_cwS 2 hw (goodS mw_7_148 mw_7_149 mw_1_13 mw_7_150) rfl rfl rfl (by decide +kernel) ⟨Nat.le_of_ble_eq_true rfl, Nat.le_of_ble_eq_true rfl⟩) rfl hl.1 rfl (Nat.le_of_ble_eq_true rfl) dX12_troubleOf_2 ⟨Nat.zero_le _, Nat.zero_le _⟩) hP hD hS hA (fun r1 u H locs h hP hD hS => ?_)
  have hP : va_P D vwCl (List.flatten (wM aM C ms mw ma ml)) H := hP
  have hD : va_D A (List.flatten (wM aM C ms mw ma ml)) := hD
  refine lv_istore (lv' := [(4, .int r1), (0, .ref (aM 0)), (1, .int p1), (2, .int p2), (3, .int p3)]) hx hb dX12_troubleOf_5 hl (by decide) rfl (fun ls hl => ?_)
  refine lv_aload_n hx hb dX12_troubleOf_7 rfl (lv_at hl 1 rfl) ?_
  refine va_get (D := D) (ci := 12) (v := .ref (aM 14)) (C := RX12) (T := TX12) (N := 51) hx hb hw inW_X12 hown hK hP 0 rfl rfl 24 (by decide) (hw _ mw_6_67) (fun _ h9 => h9) rfl dX12_troubleOf_8 ?_
  refine lv_iload hx hb dX12_troubleOf_11 (lv_at hl 0 rfl) ?_
  refine lv_iconst (v := 3) hx hb dX12_troubleOf_13 (by decide) ?_
  refine lv_iadd hx hb dX12_troubleOf_14 ?_
  refine cIald hx hb hK hP 14 0 rfl rfl ((r1 + 3).toNatClampNeg) rfl h.1 dX12_troubleOf_15 ?_
  have h := h.2
  refine lv_iconst (v := (-1)) hx hb dX12_troubleOf_16 (by decide) ?_
  refine lv_icmp_ne (tgt := 22) hx hb dX12_troubleOf_17 (by decide) (fun c2 => ?_) (fun c2 => ?_)
  · have h := h.1 c2
    refine lv_aload_n hx hb dX12_troubleOf_22 rfl (lv_at hl 1 rfl) ?_
    refine va_get (D := D) (ci := 12) (v := .ref (aM 12)) (C := RX12) (T := TX12) (N := 51) hx hb hw inW_X12 hown hK hP 0 rfl rfl 22 (by decide) (hw _ mw_6_65) (fun _ h9 => h9) rfl dX12_troubleOf_23 ?_
    refine lv_iconst (v := 4) hx hb dX12_troubleOf_26 (by decide) ?_
    refine lv_iconst (v := 5) hx hb dX12_troubleOf_27 (by decide) ?_
    refine lv_iload_n hx hb dX12_troubleOf_28 rfl (lv_at hl 3 rfl) ?_
    refine lv_imul hx hb dX12_troubleOf_29 ?_
    refine lv_aload_n hx hb dX12_troubleOf_30 rfl (lv_at hl 1 rfl) ?_
    refine va_get (D := D) (ci := 12) (v := .ref (aM 14)) (C := RX12) (T := TX12) (N := 51) hx hb hw inW_X12 hown hK hP 0 rfl rfl 24 (by decide) (hw _ mw_6_67) (fun _ h9 => h9) rfl dX12_troubleOf_31 ?_
    refine lv_iload hx hb dX12_troubleOf_34 (lv_at hl 0 rfl) ?_
    refine lv_iconst (v := 3) hx hb dX12_troubleOf_36 (by decide) ?_
    refine lv_iadd hx hb dX12_troubleOf_37 ?_
    refine cIald hx hb hK hP 14 0 rfl rfl ((r1 + 3).toNatClampNeg) rfl h.1 dX12_troubleOf_38 ?_
    have h := h.2
    refine lv_iadd hx hb dX12_troubleOf_39 ?_
    refine lv_imul hx hb dX12_troubleOf_40 ?_
    refine lv_iconst (v := 1) hx hb dX12_troubleOf_41 (by decide) ?_
    refine lv_iadd hx hb dX12_troubleOf_42 ?_
    refine lv_aload_n hx hb dX12_troubleOf_43 rfl (lv_at hl 1 rfl) ?_
    refine va_get (D := D) (ci := 12) (v := .ref (aM 16)) (C := RX12) (T := TX12) (N := 51) hx hb hw inW_X12 hown hK hP 0 rfl rfl 26 (by decide) (hw _ mw_6_69) (fun _ h9 => h9) rfl dX12_troubleOf_44 ?_
    refine lv_iconst (v := 5) hx hb dX12_troubleOf_47 (by decide) ?_
    refine lv_iload_n hx hb dX12_troubleOf_48 rfl (lv_at hl 2 rfl) ?_
    refine lv_imul hx hb dX12_troubleOf_49 ?_
    refine cIald hx hb hK hP 16 0 rfl rfl ((5 * p1).toNatClampNeg) rfl h.1 dX12_troubleOf_50 ?_
    have h := h.2
    refine lv_iadd hx hb dX12_troubleOf_51 ?_
    refine cIald hx hb hK hP 12 0 rfl rfl ((((4 * ((5 * p2) + (ma 11 ((r1 + 3).toNatClampNeg)))) + 1) + (ma 13 ((5 * p1).toNatClampNeg))).toNatClampNeg) rfl h.1 dX12_troubleOf_52 ?_
    have h := h.2
    refine lv_i2l hx hb dX12_troubleOf_53 rfl ?_
    refine lv_aload_n hx hb dX12_troubleOf_54 rfl (lv_at hl 1 rfl) ?_
    refine va_get (D := D) (ci := 12) (v := .ref (aM 16)) (C := RX12) (T := TX12) (N := 51) hx hb hw inW_X12 hown hK hP 0 rfl rfl 26 (by decide) (hw _ mw_6_69) (fun _ h9 => h9) rfl dX12_troubleOf_55 ?_
    refine lv_iconst (v := 5) hx hb dX12_troubleOf_58 (by decide) ?_
    refine lv_iload_n hx hb dX12_troubleOf_59 rfl (lv_at hl 2 rfl) ?_
    refine lv_imul hx hb dX12_troubleOf_60 ?_
    refine lv_iconst (v := 2) hx hb dX12_troubleOf_61 (by decide) ?_
    refine lv_iadd hx hb dX12_troubleOf_62 ?_
    refine cIald hx hb hK hP 16 0 rfl rfl (((5 * p1) + 2).toNatClampNeg) rfl h.1 dX12_troubleOf_63 ?_
    have h := h.2
    refine lv_i2l hx hb dX12_troubleOf_64 rfl ?_
    refine lv_lmul hx hb dX12_troubleOf_65 ?_
    refine lv_iconst (v := 1) hx hb dX12_troubleOf_66 (by decide) ?_
    refine lv_aload_n hx hb dX12_troubleOf_67 rfl (lv_at hl 1 rfl) ?_
    refine lv_iload_n hx hb dX12_troubleOf_68 rfl (lv_at hl 3 rfl) ?_
    refine lv_aload_n hx hb dX12_troubleOf_69 rfl (lv_at hl 1 rfl) ?_
    refine va_get (D := D) (ci := 12) (v := .ref (aM 14)) (C := RX12) (T := TX12) (N := 51) hx hb hw inW_X12 hown hK hP 0 rfl rfl 24 (by decide) (hw _ mw_6_67) (fun _ h9 => h9) rfl dX12_troubleOf_70 ?_
    refine lv_iload hx hb dX12_troubleOf_73 (lv_at hl 0 rfl) ?_
    refine lv_iconst (v := 2) hx hb dX12_troubleOf_75 (by decide) ?_
    refine lv_iadd hx hb dX12_troubleOf_76 ?_
    refine cIald hx hb hK hP 14 0 rfl rfl ((r1 + 2).toNatClampNeg) rfl h.1 dX12_troubleOf_77 ?_
    have h := h.2
    refine cGoAI (cRunAV (As := [.int p2, .int (ma 11 ((r1 + 2).toNatClampNeg))]) (rest := [.int 1, .long ((ma 9 ((((4 * ((5 * p2) + (ma 11 ((r1 + 3).toNatClampNeg)))) + 1) + (ma 13 ((5 * p1).toNatClampNeg))).toNatClampNeg)).toInt64 * (ma 13 (((5 * p1) + 2).toNatClampNeg)).toInt64)]) ⟨hx, hb, hml, hown, hw⟩ hK hN hP hD (k_X12_lightOf l D C _ aM  ms mw ma ml p2 (ma 11 ((r1 + 2).toNatClampNeg)) h) (cwV 2 hw (goodV mw_7_129 mw_7_131 mw_s132 mw_1_13 mw_7_132) rfl rfl rfl (by decide +kernel) ⟨Nat.le_of_ble_eq_true rfl, Nat.le_of_ble_eq_true rfl⟩) rfl rfl rfl hl.1 rfl (Nat.le_of_ble_eq_true rfl) dX12_troubleOf_78 ⟨Nat.zero_le _, Nat.zero_le _⟩) hP hD hS hA (fun r3 u H locs h hP hD hS => ?_)
    have hP : va_P D vwCl (List.flatten (wM aM C ms mw ma ml)) H := hP
    have hD : va_D A (List.flatten (wM aM C ms mw ma ml)) := hD
    refine lv_iadd hx hb dX12_troubleOf_81 ?_
    refine lv_i2l hx hb dX12_troubleOf_82 rfl ?_
    refine lv_lmul hx hb dX12_troubleOf_83 ?_
    refine lv_topl (fun x4 ex4 => ?_)
    have h := h x4 ex4
    refine lv_lstore (lv' := [(5, .long x4), (4, .int r1), (0, .ref (aM 0)), (1, .int p1), (2, .int p2), (3, .int p3)]) hx hb dX12_troubleOf_84 hl (by decide) rfl (fun ls hl => ?_)
    refine lv_lload hx hb dX12_troubleOf_86 (lv_at hl 0 rfl) ?_
    refine lv_ldc2 (v := 100) hx hb hown (hw _ mw_7_163) dX12_troubleOf_88 ?_
    refine lv_ldiv hx hb dX12_troubleOf_91 (by decide) ?_
    refine lv_l2i hx hb dX12_troubleOf_92 rfl ?_
    rw [← hQ]
    exact cRetI (v := (x4 / 100).toInt32) () hx hb hr hlocks hS hP hD h dX12_troubleOf_93
  · have h := h.2 c2
    refine lv_iconst (v := 0) hx hb dX12_troubleOf_20 (by decide) ?_
    rw [← hQ]
    exact cRetI (v := 0) () hx hb hr hlocks hS hP hD h dX12_troubleOf_21
abbrev vsX12_markedOn : List Cond := Cond.code yX12_markedOn cX12_markedOn 4 (some .int) :: WS
abbrev rmX12_markedOn : Room := { frames := 1, cells := 0, slots := 0, locals := 21 }
set_option maxHeartbeats 4000000 in
set_option maxRecDepth 100000 in
theorem k_X12_markedOn (l : Launch) (D : va_G) (C : Nat → ClassId) (sz : Nat) (aM : Nat → Nat)  (ms : Nat → Int32) (mw : Nat → Int64) (ma : Nat → Nat → Int32) (ml : Nat → Nat → Int64) (p1 : Int32) {post : Int32 → Prop} (h : P_X12_markedOn ma p1 post) : Met l yX12_markedOn vsX12_markedOn rmX12_markedOn (cPre D C [.ref (aM 0), .int p1] sz (wM aM C ms mw ma ml)) (cQi D (fun (r : Int32) (u : Unit) => post r ) (fun u => wM aM C ms mw ma ml) (va_A (List.flatten (wM aM C ms mw ma ml)) sz)) 0 0 (va_A (List.flatten (wM aM C ms mw ma ml)) sz) := by
  refine cStart (QA := fun A => cQi D (fun (r : Int32) (u : Unit) => post r ) (fun u => wM aM C ms mw ma ml) A) (cc := cX12_markedOn) (maxL := 4) (ret := (some .int)) (by decide) (Nat.le_of_ble_eq_true rfl) ?_
  intro p e s m args below meth c A ls hx hb hr hml hown hw hlocks hname hK hN hA hP hD hS hl
  generalize hQ : MQ below _ args s 0 0 A = Q
  have hl : lv_has ls 4 [(0, .ref (aM 0)), (1, .int p1)] := hl
  obtain ⟨H, hH⟩ : ∃ H, H = s.heap := ⟨_, rfl⟩
  obtain ⟨locs, hlo⟩ : ∃ z : List Loc, z = [] := ⟨_, rfl⟩
  have hP : va_P D vwCl (List.flatten (wM aM C ms mw ma ml)) H := by rw [hH]; exact hP
  have hS : va_S A s.heap H locs := by rw [hH, hlo]; exact hS
  rw [show W p l e rmX12_markedOn s m args below meth c s.heap [] 0 0 Q (F0 m 0 ls []) = W p l e rmX12_markedOn s m args below meth c H locs 0 0 Q (F0 m 0 ls []) from by rw [hH, hlo]]
  have N4 : ∀  (n4 : Nat) (x2_ : Int32) (x3_ : Int32) (H : Heap) (locs : List Loc) (ls : Array Slot), P_X12_markedOn_4 ma p1 post   n4 x2_ x3_ → va_P D vwCl (List.flatten (wM aM C ms mw ma ml)) H → va_D A (List.flatten (wM aM C ms mw ma ml)) → va_S A s.heap H locs → lv_has ls 4 [(0, .ref (aM 0)), (1, .int p1), (2, .int x2_), (3, .int x3_)] → W p l e rmX12_markedOn s m args below meth c H locs 0 0 Q (F0 m 4 ls []) := by
    intro n4
    induction n4 with
    | zero => intro x2_ x3_ H locs ls h hP hD hS hl; exact False.elim h
    | succ n4 ih4 =>
      intro x2_ x3_ H locs ls h hP hD hS hl
      refine lv_iload_n hx hb dX12_markedOn_4 rfl (lv_at hl 3 rfl) ?_
      refine lv_aload_n hx hb dX12_markedOn_5 rfl (lv_at hl 0 rfl) ?_
      refine va_get (D := D) (ci := 12) (v := .ref (aM 13)) (C := RX12) (T := TX12) (N := 51) hx hb hw inW_X12 hown hK hP 0 rfl rfl 23 (by decide) (hw _ mw_6_66) (fun _ h9 => h9) rfl dX12_markedOn_6 ?_
      refine lv_iload_n hx hb dX12_markedOn_9 rfl (lv_at hl 1 rfl) ?_
      refine cIald hx hb hK hP 13 0 rfl rfl p1.toNatClampNeg rfl h.1 dX12_markedOn_10 ?_
      have h := h.2
      refine lv_icmp_ge (tgt := 35) hx hb dX12_markedOn_11 (by decide) (fun c1 => ?_) (fun c1 => ?_)
      · have h := h.1 c1
        refine lv_iload_n hx hb dX12_markedOn_35 rfl (lv_at hl 2 rfl) ?_
        rw [← hQ]
        exact cRetI (v := x2_) () hx hb hr hlocks hS hP hD h dX12_markedOn_36
      · have h := h.2 c1
        refine lv_iload_n hx hb dX12_markedOn_14 rfl (lv_at hl 2 rfl) ?_
        refine lv_aload_n hx hb dX12_markedOn_15 rfl (lv_at hl 0 rfl) ?_
        refine va_get (D := D) (ci := 12) (v := .ref (aM 14)) (C := RX12) (T := TX12) (N := 51) hx hb hw inW_X12 hown hK hP 0 rfl rfl 24 (by decide) (hw _ mw_6_67) (fun _ h9 => h9) rfl dX12_markedOn_16 ?_
        refine lv_iload_n hx hb dX12_markedOn_19 rfl (lv_at hl 1 rfl) ?_
        refine lv_iload_n hx hb dX12_markedOn_20 rfl (lv_at hl 3 rfl) ?_
        refine cGoEI (cRunES (As := [.int p1, .int x3_]) (rest := [.ref (aM 14), .int x2_]) ⟨hx, hb, hml, hown, hw⟩ hK hN hP hD (k_X12_at l D C _    p1 x3_ h) (va_cwS 2 hw (goodS mw_7_148 mw_7_149 mw_1_13 mw_7_150) rfl rfl rfl (by decide +kernel) ⟨Nat.le_of_ble_eq_true rfl, Nat.le_of_ble_eq_true rfl⟩) rfl hl.1 rfl (Nat.le_of_ble_eq_true rfl) dX12_markedOn_21 ⟨Nat.zero_le _, Nat.zero_le _⟩) hP hD hS hA (fun r2 u H locs h hP hD hS => ?_)
        have hP : va_P D vwCl (List.flatten (wM aM C ms mw ma ml)) H := hP
        have hD : va_D A (List.flatten (wM aM C ms mw ma ml)) := hD
        refine lv_iconst (v := 4) hx hb dX12_markedOn_24 (by decide) ?_
        refine lv_iadd hx hb dX12_markedOn_25 ?_
        refine cIald hx hb hK hP 14 0 rfl rfl ((r2 + 4).toNatClampNeg) rfl h.1 dX12_markedOn_26 ?_
        have h := h.2
        refine lv_iadd hx hb dX12_markedOn_27 ?_
        refine lv_topi (fun x3 ex3 => ?_)
        have h := h x3 ex3
        refine lv_istore_n (lv' := [(2, .int x3), (0, .ref (aM 0)), (1, .int p1), (3, .int x3_)]) hx hb dX12_markedOn_28 rfl hl (by decide) rfl (fun ls hl => ?_)
        refine lv_iinc (v := (x3_ + 1)) (lv' := [(3, .int (x3_ + 1)), (2, .int x3), (0, .ref (aM 0)), (1, .int p1)]) hx hb dX12_markedOn_29 hl (k := 3) rfl rfl (by decide) rfl (fun ls hl => ?_)
        refine lv_goto (tgt := 4) hx hb dX12_markedOn_32 (by decide) ?_
        exact ih4 x3 (x3_ + 1) _ _ _ h hP hD hS (lv_sub hl [2, 3, 1, 0] rfl)
  refine lv_iconst (v := 0) hx hb dX12_markedOn_0 (by decide) ?_
  refine lv_istore_n (lv' := [(2, .int 0), (0, .ref (aM 0)), (1, .int p1)]) hx hb dX12_markedOn_1 rfl hl (by decide) rfl (fun ls hl => ?_)
  refine lv_iconst (v := 0) hx hb dX12_markedOn_2 (by decide) ?_
  refine lv_istore_n (lv' := [(3, .int 0), (2, .int 0), (0, .ref (aM 0)), (1, .int p1)]) hx hb dX12_markedOn_3 rfl hl (by decide) rfl (fun ls hl => ?_)
  obtain ⟨n, h⟩ := h
  exact N4  n 0 0 _ _ _ h hP hD hS (lv_sub hl [2, 3, 1, 0] rfl)
