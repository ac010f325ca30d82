abbrev vsX12_costOf : List Cond := Cond.code yX12_costOf cX12_costOf 2 (some .long) :: WS
abbrev rmX12_costOf : Room := { frames := 2, cells := 0, slots := 0, locals := 45 }
set_option maxHeartbeats 4000000 in
set_option maxRecDepth 100000 in
theorem k_X12_costOf (l : Launch) (D : va_G) (C : Nat → ClassId) (sz : Nat) (aM : Nat → Nat)  (ms : Nat → Int32) (mw : Nat → Int64) (ma : Nat → Nat → Int32) (ml : Nat → Nat → Int64) (p1 : Int32) {post : Int64 → Prop} (h : P_X12_costOf ma ml p1 post) : Met l yX12_costOf vsX12_costOf rmX12_costOf (cPre D C [.ref (aM 0), .int p1] sz (wM aM C ms mw ma ml)) (cQl D (fun (r : Int64) (u : Unit) => post r ) (fun u => wM aM C ms mw ma ml) (va_A (List.flatten (wM aM C ms mw ma ml)) sz)) 0 0 (va_A (List.flatten (wM aM C ms mw ma ml)) sz) := by
  refine cStart (QA := fun A => cQl D (fun (r : Int64) (u : Unit) => post r ) (fun u => wM aM C ms mw ma ml) A) (cc := cX12_costOf) (maxL := 2) (ret := (some .long)) (by decide) (Nat.le_of_ble_eq_true rfl) ?_
  intro p e s m args below meth c A ls hx hb hr hml hown hw hlocks hname hK hN hA hP hD hS hl
  generalize hQ : MQ below _ args s 0 0 A = Q
  have hl : lv_has ls 2 [(0, .ref (aM 0)), (1, .int p1)] := hl
  obtain ⟨H, hH⟩ : ∃ H, H = s.heap := ⟨_, rfl⟩
  obtain ⟨locs, hlo⟩ : ∃ z : List Loc, z = [] := ⟨_, rfl⟩
  have hP : va_P D vwCl (List.flatten (wM aM C ms mw ma ml)) H := by rw [hH]; exact hP
  have hS : va_S A s.heap H locs := by rw [hH, hlo]; exact hS
  rw [show W p l e rmX12_costOf s m args below meth c s.heap [] 0 0 Q (F0 m 0 ls []) = W p l e rmX12_costOf s m args below meth c H locs 0 0 Q (F0 m 0 ls []) from by rw [hH, hlo]]
  refine lv_aload_n hx hb dX12_costOf_0 rfl (lv_at hl 0 rfl) ?_
  refine lv_iload_n hx hb dX12_costOf_1 rfl (lv_at hl 1 rfl) ?_
  refine cGoAL (cRunAV (As := [.int p1]) (rest := []) ⟨hx, hb, hml, hown, hw⟩ hK hN hP hD (k_X12_paidOf l D C _ aM  ms mw ma ml p1 h) (cwV 1 hw (goodV mw_8_6 mw_8_8 mw_s147 mw_1_13 mw_8_9) rfl rfl rfl (by decide +kernel) ⟨Nat.le_of_ble_eq_true rfl, Nat.le_of_ble_eq_true rfl⟩) rfl rfl rfl hl.1 rfl (Nat.le_of_ble_eq_true rfl) dX12_costOf_2 ⟨Nat.zero_le _, Nat.zero_le _⟩) hP hD hS hA (fun r1 u H locs h hP hD hS => ?_)
  have hP : va_P D vwCl (List.flatten (wM aM C ms mw ma ml)) H := hP
  have hD : va_D A (List.flatten (wM aM C ms mw ma ml)) := hD
  refine lv_aload_n hx hb dX12_costOf_5 rfl (lv_at hl 0 rfl) ?_
  refine lv_iload_n hx hb dX12_costOf_6 rfl (lv_at hl 1 rfl) ?_
  refine cGoAL (cRunAV (As := [.int p1]) (rest := [.long r1]) ⟨hx, hb, hml, hown, hw⟩ hK hN hP hD (k_X12_lossOf l D C _ aM  ms mw ma ml p1 h) (cwV 1 hw (goodV mw_8_11 mw_8_13 mw_s148 mw_1_13 mw_8_14) rfl rfl rfl (by decide +kernel) ⟨Nat.le_of_ble_eq_true rfl, Nat.le_of_ble_eq_true rfl⟩) rfl rfl rfl hl.1 rfl (Nat.le_of_ble_eq_true rfl) dX12_costOf_7 ⟨Nat.zero_le _, Nat.zero_le _⟩) hP hD hS hA (fun r2 u H locs h hP hD hS => ?_)
  have hP : va_P D vwCl (List.flatten (wM aM C ms mw ma ml)) H := hP
  have hD : va_D A (List.flatten (wM aM C ms mw ma ml)) := hD
  refine lv_ladd hx hb dX12_costOf_10 ?_
  refine lv_aload_n hx hb dX12_costOf_11 rfl (lv_at hl 0 rfl) ?_
  refine va_get (D := D) (ci := 12) (v := .ref (aM 17)) (C := RX12) (T := TX12) (N := 51) hx hb hw inW_X12 hown hK hP 0 rfl rfl 27 (by decide) (hw _ mw_6_70) (fun _ h9 => h9) rfl dX12_costOf_12 ?_
  refine lv_bipush (v := 6) hx hb dX12_costOf_15 (by decide) ?_
  refine cIald hx hb hK hP 17 0 rfl rfl 6 (by decide +kernel) (cIn (by decide +kernel)) dX12_costOf_17 ?_
  refine lv_iconst (v := 1) hx hb dX12_costOf_18 (by decide) ?_
  refine lv_icmp_ne (tgt := 37) hx hb dX12_costOf_19 (by decide) (fun c3 => ?_) (fun c3 => ?_)
  · have h := h.1 c3
    refine lv_lconst (v := 0) hx hb dX12_costOf_37 (by decide) ?_
    refine lv_ladd hx hb dX12_costOf_38 ?_
    rw [← hQ]
    exact cRetL (v := ((r1 + r2) + 0)) () hx hb hr hlocks hS hP hD h dX12_costOf_39
  · have h := h.2 c3
    refine lv_aload_n hx hb dX12_costOf_22 rfl (lv_at hl 0 rfl) ?_
    refine cGoAL (cRunAV (As := []) (rest := [.long (r1 + r2)]) ⟨hx, hb, hml, hown, hw⟩ hK hN hP hD (k_X12_wages l D C _ aM  ms mw ma ml  h) (cwV 0 hw (goodV mw_8_20 mw_8_22 mw_s150 mw_1_13 mw_8_23) rfl rfl rfl (by decide +kernel) ⟨Nat.le_of_ble_eq_true rfl, Nat.le_of_ble_eq_true rfl⟩) rfl rfl rfl hl.1 rfl (Nat.le_of_ble_eq_true rfl) dX12_costOf_23 ⟨Nat.zero_le _, Nat.zero_le _⟩) hP hD hS hA (fun r4 u H locs h hP hD hS => ?_)
    have hP : va_P D vwCl (List.flatten (wM aM C ms mw ma ml)) H := hP
    have hD : va_D A (List.flatten (wM aM C ms mw ma ml)) := hD
    refine lv_aload_n hx hb dX12_costOf_26 rfl (lv_at hl 0 rfl) ?_
    refine va_get (D := D) (ci := 12) (v := .ref (aM 13)) (C := RX12) (T := TX12) (N := 51) hx hb hw inW_X12 hown hK hP 0 rfl rfl 23 (by decide) (hw _ mw_6_66) (fun _ h9 => h9) rfl dX12_costOf_27 ?_
    refine lv_iconst (v := 0) hx hb dX12_costOf_30 (by decide) ?_
    refine cIald hx hb hK hP 13 0 rfl rfl 0 (by decide +kernel) (cIn (by decide +kernel)) dX12_costOf_31 ?_
    refine lv_i2l hx hb dX12_costOf_32 rfl ?_
    refine lv_ldiv hx hb dX12_costOf_33 h.1 ?_
    have h := h.2
    refine lv_goto (tgt := 38) hx hb dX12_costOf_34 (by decide) ?_
    refine lv_ladd hx hb dX12_costOf_38 ?_
    rw [← hQ]
    exact cRetL (v := ((r1 + r2) + (r4 / (ma 10 0).toInt64))) () hx hb hr hlocks hS hP hD h dX12_costOf_39
abbrev vsX12_whatOf : List Cond := Cond.code yX12_whatOf cX12_whatOf 3 (some .long) :: WS
abbrev rmX12_whatOf : Room := { frames := 3, cells := 0, slots := 0, locals := 66 }
set_option maxHeartbeats 4000000 in
set_option maxRecDepth 100000 in
theorem k_X12_whatOf (l : Launch) (D : va_G) (C : Nat → ClassId) (sz : Nat) (aM : Nat → Nat)  (ms : Nat → Int32) (mw : Nat → Int64) (ma : Nat → Nat → Int32) (ml : Nat → Nat → Int64) (p1 : Int32) (p2 : Int32) {post : Int64 → Prop} (h : P_X12_whatOf ma ml p1 p2 post) : Met l yX12_whatOf vsX12_whatOf rmX12_whatOf (cPre D C [.ref (aM 0), .int p1, .int p2] sz (wM aM C ms mw ma ml)) (cQl D (fun (r : Int64) (u : Unit) => post r ) (fun u => wM aM C ms mw ma ml) (va_A (List.flatten (wM aM C ms mw ma ml)) sz)) 0 0 (va_A (List.flatten (wM aM C ms mw ma ml)) sz) := by
  refine cStart (QA := fun A => cQl D (fun (r : Int64) (u : Unit) => post r ) (fun u => wM aM C ms mw ma ml) A) (cc := cX12_whatOf) (maxL := 3) (ret := (some .long)) (by decide) (Nat.le_of_ble_eq_true rfl) ?_
  intro p e s m args below meth c A ls hx hb hr hml hown hw hlocks hname hK hN hA hP hD hS hl
  generalize hQ : MQ below _ args s 0 0 A = Q
  have hl : lv_has ls 3 [(0, .ref (aM 0)), (1, .int p1), (2, .int p2)] := hl
  obtain ⟨H, hH⟩ : ∃ H, H = s.heap := ⟨_, rfl⟩
  obtain ⟨locs, hlo⟩ : ∃ z : List Loc, z = [] := ⟨_, rfl⟩
  have hP : va_P D vwCl (List.flatten (wM aM C ms mw ma ml)) H := by rw [hH]; exact hP
  have hS : va_S A s.heap H locs := by rw [hH, hlo]; exact hS
  rw [show W p l e rmX12_whatOf s m args below meth c s.heap [] 0 0 Q (F0 m 0 ls []) = W p l e rmX12_whatOf s m args below meth c H locs 0 0 Q (F0 m 0 ls []) from by rw [hH, hlo]]
  refine lv_iload_n hx hb dX12_whatOf_0 rfl (lv_at hl 2 rfl) ?_
  refine lv_if_ne (tgt := 12) hx hb dX12_whatOf_1 (by decide) (fun c1 => ?_) (fun c1 => ?_)
  · have h := h.1 c1
    refine lv_iload_n hx hb dX12_whatOf_12 rfl (lv_at hl 2 rfl) ?_
    refine lv_iconst (v := 1) hx hb dX12_whatOf_13 (by decide) ?_
    refine lv_icmp_ne (tgt := 25) hx hb dX12_whatOf_14 (by decide) (fun c2 => ?_) (fun c2 => ?_)
    · have h := h.1 c2
      refine lv_aload_n hx hb dX12_whatOf_25 rfl (lv_at hl 0 rfl) ?_
      refine lv_iload_n hx hb dX12_whatOf_26 rfl (lv_at hl 1 rfl) ?_
      refine cGoAL (cRunAV (As := [.int p1]) (rest := []) ⟨hx, hb, hml, hown, hw⟩ hK hN hP hD (k_X12_costOf l D C _ aM  ms mw ma ml p1 h) (cwV 1 hw (goodV mw_8_16 mw_8_18 mw_s149 mw_1_13 mw_8_19) rfl rfl rfl (by decide +kernel) ⟨Nat.le_of_ble_eq_true rfl, Nat.le_of_ble_eq_true rfl⟩) rfl rfl rfl hl.1 rfl (Nat.le_of_ble_eq_true rfl) dX12_whatOf_27 ⟨Nat.zero_le _, Nat.zero_le _⟩) hP hD hS hA (fun r3 u H locs h hP hD hS => ?_)
      have hP : va_P D vwCl (List.flatten (wM aM C ms mw ma ml)) H := hP
      have hD : va_D A (List.flatten (wM aM C ms mw ma ml)) := hD
      rw [← hQ]
      exact cRetL (v := r3) () hx hb hr hlocks hS hP hD h dX12_whatOf_30
    · have h := h.2 c2
      refine lv_aload_n hx hb dX12_whatOf_17 rfl (lv_at hl 0 rfl) ?_
      refine lv_iload_n hx hb dX12_whatOf_18 rfl (lv_at hl 1 rfl) ?_
      refine cGoAL (cRunAV (As := [.int p1]) (rest := []) ⟨hx, hb, hml, hown, hw⟩ hK hN hP hD (k_X12_lossOf l D C _ aM  ms mw ma ml p1 h) (cwV 1 hw (goodV mw_8_11 mw_8_13 mw_s148 mw_1_13 mw_8_14) rfl rfl rfl (by decide +kernel) ⟨Nat.le_of_ble_eq_true rfl, Nat.le_of_ble_eq_true rfl⟩) rfl rfl rfl hl.1 rfl (Nat.le_of_ble_eq_true rfl) dX12_whatOf_19 ⟨Nat.zero_le _, Nat.zero_le _⟩) hP hD hS hA (fun r4 u H locs h hP hD hS => ?_)
      have hP : va_P D vwCl (List.flatten (wM aM C ms mw ma ml)) H := hP
      have hD : va_D A (List.flatten (wM aM C ms mw ma ml)) := hD
      refine lv_goto (tgt := 30) hx hb dX12_whatOf_22 (by decide) ?_
      rw [← hQ]
      exact cRetL (v := r4) () hx hb hr hlocks hS hP hD h dX12_whatOf_30
  · have h := h.2 c1
    refine lv_aload_n hx hb dX12_whatOf_4 rfl (lv_at hl 0 rfl) ?_
    refine lv_iload_n hx hb dX12_whatOf_5 rfl (lv_at hl 1 rfl) ?_
    refine cGoAL (cRunAV (As := [.int p1]) (rest := []) ⟨hx, hb, hml, hown, hw⟩ hK hN hP hD (k_X12_paidOf l D C _ aM  ms mw ma ml p1 h) (cwV 1 hw (goodV mw_8_6 mw_8_8 mw_s147 mw_1_13 mw_8_9) rfl rfl rfl (by decide +kernel) ⟨Nat.le_of_ble_eq_true rfl, Nat.le_of_ble_eq_true rfl⟩) rfl rfl rfl hl.1 rfl (Nat.le_of_ble_eq_true rfl) dX12_whatOf_6 ⟨Nat.zero_le _, Nat.zero_le _⟩) hP hD hS hA (fun r5 u H locs h hP hD hS => ?_)
    have hP : va_P D vwCl (List.flatten (wM aM C ms mw ma ml)) H := hP
    have hD : va_D A (List.flatten (wM aM C ms mw ma ml)) := hD
    refine lv_goto (tgt := 30) hx hb dX12_whatOf_9 (by decide) ?_
    rw [← hQ]
    exact cRetL (v := r5) () hx hb hr hlocks hS hP hD h dX12_whatOf_30
abbrev vsX12_cost : List Cond := Cond.code yX12_cost cX12_cost 3 (some .long) :: WS
abbrev rmX12_cost : Room := { frames := 5, cells := 0, slots := 0, locals := 119 }
set_option maxHeartbeats 4000000 in
set_option maxRecDepth 100000 in
theorem k_X12_cost (l : Launch) (D : va_G) (C : Nat → ClassId) (sz : Nat) (aM : Nat → Nat)  (ms : Nat → Int32) (mw : Nat → Int64) (ma : Nat → Nat → Int32) (ml : Nat → Nat → Int64) (p1 : Int32) (p2 : Int32) {post : Int64 → (Nat → Int32) → (Nat → Nat → Int32) → (Nat → Nat → Int64) → Prop} (h : P_X12_cost ms ma ml p1 p2 post) : Met l yX12_cost vsX12_cost rmX12_cost (cPre D C [.ref (aM 0), .int p1, .int p2] sz (wM aM C ms mw ma ml)) (cQl D (fun (r : Int64) (u : (Nat → Int32) × (Nat → Nat → Int32) × (Nat → Nat → Int64)) => post r u.1 u.2.1 u.2.2) (fun u => wM aM C u.1 mw u.2.1 u.2.2) (va_A (List.flatten (wM aM C ms mw ma ml)) sz)) 0 0 (va_A (List.flatten (wM aM C ms mw ma ml)) sz) := by
  refine cStart (QA := fun A => cQl D (fun (r : Int64) (u : (Nat → Int32) × (Nat → Nat → Int32) × (Nat → Nat → Int64)) => post r u.1 u.2.1 u.2.2) (fun u => wM aM C u.1 mw u.2.1 u.2.2) A) (cc := cX12_cost) (maxL := 3) (ret := (some .long)) (by decide) (Nat.le_of_ble_eq_true rfl) ?_
  intro p e s m args below meth c A ls hx hb hr hml hown hw hlocks hname hK hN hA hP hD hS hl
  generalize hQ : MQ below _ args s 0 0 A = Q
  have hl : lv_has ls 3 [(0, .ref (aM 0)), (1, .int p1), (2, .int p2)] := hl
  obtain ⟨H, hH⟩ : ∃ H, H = s.heap := ⟨_, rfl⟩
  obtain ⟨locs, hlo⟩ : ∃ z : List Loc, z = [] := ⟨_, rfl⟩
  have hP : va_P D vwCl (List.flatten (wM aM C ms mw ma ml)) H := by rw [hH]; exact hP
  have hS : va_S A s.heap H locs := by rw [hH, hlo]; exact hS
  rw [show W p l e rmX12_cost s m args below meth c s.heap [] 0 0 Q (F0 m 0 ls []) = W p l e rmX12_cost s m args below meth c H locs 0 0 Q (F0 m 0 ls []) from by rw [hH, hlo]]
  refine lv_aload_n hx hb dX12_cost_0 rfl (lv_at hl 0 rfl) ?_
  refine lv_iconst (v := 0) hx hb dX12_cost_1 (by decide) ?_
  refine va_put (D := D) (ci := 12) (v := .int 0) (ty := .int) (C := RX12) (T := TX12) (N := 51) hx hb hw inW_X12 tyX12 tyX12_ok nmX12 hown hK hP hD hS 0 rfl rfl 0 (by decide) (hw _ mw_6_43) (fun _ h9 => h9) rfl (by decide +kernel) rfl rfl (Nat.le_of_ble_eq_true rfl) dX12_cost_2 (fun H locs hP hD hS => ?_)
  refine lv_aload_n hx hb dX12_cost_5 rfl (lv_at hl 0 rfl) ?_
  refine lv_iload_n hx hb dX12_cost_6 rfl (lv_at hl 1 rfl) ?_
  have hP : va_P D vwCl (List.flatten (wM aM C (va_up ms 0 0) mw ma ml)) H := hP
  have hD : va_D A (List.flatten (wM aM C (va_up ms 0 0) mw ma ml)) := hD
  refine cGoAI (cRunAV (As := [.int p1]) (rest := []) ⟨hx, hb, hml, hown, hw⟩ hK hN hP hD (k_X12_isBike l D C _ aM  (va_up ms 0 0) mw ma ml p1 h) (cwV 1 hw (goodV mw_7_143 mw_7_145 mw_s133 mw_1_13 mw_7_146) rfl rfl rfl (by decide +kernel) ⟨Nat.le_of_ble_eq_true rfl, Nat.le_of_ble_eq_true rfl⟩) rfl rfl rfl hl.1 rfl (Nat.le_of_ble_eq_true rfl) dX12_cost_7 ⟨Nat.zero_le _, Nat.zero_le _⟩) hP hD hS hA (fun r1 u H locs h hP hD hS => ?_)
  have hP : va_P D vwCl (List.flatten (wM aM C (va_up ms 0 0) mw ma ml)) H := hP
  have hD : va_D A (List.flatten (wM aM C (va_up ms 0 0) mw ma ml)) := hD
  refine lv_if_eq (tgt := 25) hx hb dX12_cost_10 (by decide) (fun c2 => ?_) (fun c2 => ?_)
  · have h := h.1 c2
    refine lv_ldc2 (v := (-2)) hx hb hown (hw _ mw_7_208) dX12_cost_25 ?_
    rw [← hQ]
    exact cRetL (v := (-2)) ((va_up ms 0 0), ma, ml) hx hb hr hlocks hS hP hD h dX12_cost_28
  · have h := h.2 c2
    refine lv_iload_n hx hb dX12_cost_13 rfl (lv_at hl 2 rfl) ?_
    refine lv_i2l hx hb dX12_cost_14 rfl ?_
    refine lv_lconst (v := 0) hx hb dX12_cost_15 (by decide) ?_
    refine lv_ldc2 (v := 2) hx hb hown (hw _ mw_8_1) dX12_cost_16 ?_
    refine cGoEI (cRunES (As := [.long p2.toInt64, .long 0, .long 2]) (rest := []) ⟨hx, hb, hml, hown, hw⟩ hK hN hP hD (k_X12_in l D C _    p2.toInt64 0 2 h) (va_cwS 3 hw (goodS mw_6_205 mw_6_206 mw_1_13 mw_6_207) rfl rfl rfl (by decide +kernel) ⟨Nat.le_of_ble_eq_true rfl, Nat.le_of_ble_eq_true rfl⟩) rfl hl.1 rfl (Nat.le_of_ble_eq_true rfl) dX12_cost_19 ⟨Nat.zero_le _, Nat.zero_le _⟩) hP hD hS hA (fun r3 u H locs h hP hD hS => ?_)
    have hP : va_P D vwCl (List.flatten (wM aM C (va_up ms 0 0) mw ma ml)) H := hP
    have hD : va_D A (List.flatten (wM aM C (va_up ms 0 0) mw ma ml)) := hD
    refine lv_if_ne (tgt := 29) hx hb dX12_cost_22 (by decide) (fun c4 => ?_) (fun c4 => ?_)
    · have h := h.1 c4
      refine lv_aload_n hx hb dX12_cost_29 rfl (lv_at hl 0 rfl) ?_
      refine cGoAV (cRunAV (As := []) (rest := []) ⟨hx, hb, hml, hown, hw⟩ hK hN hP hD (k_X12_night l D C _ aM  (va_up ms 0 0) mw ma ml  h) (cwV 0 hw (goodV mw_7_209 mw_7_211 mw_s143 mw_1_13 mw_7_212) rfl rfl rfl (by decide +kernel) ⟨Nat.le_of_ble_eq_true rfl, Nat.le_of_ble_eq_true rfl⟩) rfl rfl rfl hl.1 rfl (Nat.le_of_ble_eq_true rfl) dX12_cost_30 ⟨Nat.zero_le _, Nat.zero_le _⟩) hP hD hS hA (fun u H locs h hP hD hS => ?_)
      obtain ⟨ms_5, ma_6, ml_7⟩ := u
      have hP : va_P D vwCl (List.flatten (wM aM C ms_5 mw ma_6 ml_7)) H := hP
      have hD : va_D A (List.flatten (wM aM C ms_5 mw ma_6 ml_7)) := hD
      refine lv_aload_n hx hb dX12_cost_33 rfl (lv_at hl 0 rfl) ?_
      refine lv_iload_n hx hb dX12_cost_34 rfl (lv_at hl 1 rfl) ?_
      refine lv_iload_n hx hb dX12_cost_35 rfl (lv_at hl 2 rfl) ?_
      refine cGoAL (cRunAV (As := [.int p1, .int p2]) (rest := []) ⟨hx, hb, hml, hown, hw⟩ hK hN hP hD (k_X12_whatOf l D C _ aM  ms_5 mw ma_6 ml_7 p1 p2 h) (cwV 2 hw (goodV mw_8_2 mw_8_4 mw_s146 mw_1_13 mw_8_5) rfl rfl rfl (by decide +kernel) ⟨Nat.le_of_ble_eq_true rfl, Nat.le_of_ble_eq_true rfl⟩) rfl rfl rfl hl.1 rfl (Nat.le_of_ble_eq_true rfl) dX12_cost_36 ⟨Nat.zero_le _, Nat.zero_le _⟩) hP hD hS hA (fun r8 u H locs h hP hD hS => ?_)
      have hP : va_P D vwCl (List.flatten (wM aM C ms_5 mw ma_6 ml_7)) H := hP
      have hD : va_D A (List.flatten (wM aM C ms_5 mw ma_6 ml_7)) := hD
      rw [← hQ]
      exact cRetL (v := r8) (ms_5, ma_6, ml_7) hx hb hr hlocks hS hP hD h dX12_cost_39
    · have h := h.2 c4
      refine lv_ldc2 (v := (-2)) hx hb hown (hw _ mw_7_208) dX12_cost_25 ?_
      rw [← hQ]
      exact cRetL (v := (-2)) ((va_up ms 0 0), ma, ml) hx hb hr hlocks hS hP hD h dX12_cost_28
abbrev vsX12_allNow : List Cond := Cond.code yX12_allNow cX12_allNow 5 (some .long) :: WS
abbrev rmX12_allNow : Room := { frames := 5, cells := 0, slots := 0, locals := 119 }
set_option maxHeartbeats 4000000 in
set_option maxRecDepth 100000 in
theorem k_X12_allNow (l : Launch) (D : va_G) (C : Nat → ClassId) (sz : Nat) (aM : Nat → Nat)  (ms : Nat → Int32) (mw : Nat → Int64) (ma : Nat → Nat → Int32) (ml : Nat → Nat → Int64) (p1 : Int32) {post : Int64 → (Nat → Int32) → (Nat → Nat → Int32) → (Nat → Nat → Int64) → Prop} (h : P_X12_allNow ms ma ml p1 post) : Met l yX12_allNow vsX12_allNow rmX12_allNow (cPre D C [.ref (aM 0), .int p1] sz (wM aM C ms mw ma ml)) (cQl D (fun (r : Int64) (u : (Nat → Int32) × (Nat → Nat → Int32) × (Nat → Nat → Int64)) => post r u.1 u.2.1 u.2.2) (fun u => wM aM C u.1 mw u.2.1 u.2.2) (va_A (List.flatten (wM aM C ms mw ma ml)) sz)) 0 0 (va_A (List.flatten (wM aM C ms mw ma ml)) sz) := by
  refine cStart (QA := fun A => cQl D (fun (r : Int64) (u : (Nat → Int32) × (Nat → Nat → Int32) × (Nat → Nat → Int64)) => post r u.1 u.2.1 u.2.2) (fun u => wM aM C u.1 mw u.2.1 u.2.2) A) (cc := cX12_allNow) (maxL := 5) (ret := (some .long)) (by decide) (Nat.le_of_ble_eq_true rfl) ?_
  intro p e s m args below meth c A ls hx hb hr hml hown hw hlocks hname hK hN hA hP hD hS hl
  generalize hQ : MQ below _ args s 0 0 A = Q
  have hl : lv_has ls 5 [(0, .ref (aM 0)), (1, .int p1)] := hl
  obtain ⟨H, hH⟩ : ∃ H, H = s.heap := ⟨_, rfl⟩
  obtain ⟨locs, hlo⟩ : ∃ z : List Loc, z = [] := ⟨_, rfl⟩
  have hP : va_P D vwCl (List.flatten (wM aM C ms mw ma ml)) H := by rw [hH]; exact hP
  have hS : va_S A s.heap H locs := by rw [hH, hlo]; exact hS
  rw [show W p l e rmX12_allNow s m args below meth c s.heap [] 0 0 Q (F0 m 0 ls []) = W p l e rmX12_allNow s m args below meth c H locs 0 0 Q (F0 m 0 ls []) from by rw [hH, hlo]]
  have N9 : ∀ (ms : Nat → Int32) (ma : Nat → Nat → Int32) (ml : Nat → Nat → Int64) (n9 : Nat) (x2_ : Int64) (x4_ : Int32) (H : Heap) (locs : List Loc) (ls : Array Slot), P_X12_allNow_9 p1 post  ms ma ml n9 x2_ x4_ → va_P D vwCl (List.flatten (wM aM C ms mw ma ml)) H → va_D A (List.flatten (wM aM C ms mw ma ml)) → va_S A s.heap H locs → lv_has ls 5 [(0, .ref (aM 0)), (1, .int p1), (2, .long x2_), (4, .int x4_)] → W p l e rmX12_allNow s m args below meth c H locs 0 0 Q (F0 m 9 ls []) := by
    intro ms ma ml
    intro n9
    induction n9 with
    | zero => intro x2_ x4_ H locs ls h hP hD hS hl; exact False.elim h
    | succ n9 ih9 =>
      intro x2_ x4_ H locs ls h hP hD hS hl
      refine lv_iload hx hb dX12_allNow_9 (lv_at hl 3 rfl) ?_
      refine lv_aload_n hx hb dX12_allNow_11 rfl (lv_at hl 0 rfl) ?_
      refine va_get (D := D) (ci := 12) (v := .ref (aM 13)) (C := RX12) (T := TX12) (N := 51) hx hb hw inW_X12 hown hK hP 0 rfl rfl 23 (by decide) (hw _ mw_6_66) (fun _ h9 => h9) rfl dX12_allNow_12 ?_
      refine lv_iconst (v := 0) hx hb dX12_allNow_15 (by decide) ?_
      refine cIald hx hb hK hP 13 0 rfl rfl 0 (by decide +kernel) (cIn (by decide +kernel)) dX12_allNow_16 ?_
      refine lv_icmp_ge (tgt := 36) hx hb dX12_allNow_17 (by decide) (fun c1 => ?_) (fun c1 => ?_)
      · have h := h.1 c1
        refine lv_lload_n hx hb dX12_allNow_36 rfl (lv_at hl 2 rfl) ?_
        rw [← hQ]
        exact cRetL (v := x2_) (ms, ma, ml) hx hb hr hlocks hS hP hD h dX12_allNow_37
      · have h := h.2 c1
        refine lv_lload_n hx hb dX12_allNow_20 rfl (lv_at hl 2 rfl) ?_
        refine lv_aload_n hx hb dX12_allNow_21 rfl (lv_at hl 0 rfl) ?_
        refine lv_iload hx hb dX12_allNow_22 (lv_at hl 3 rfl) ?_
        refine lv_iload_n hx hb dX12_allNow_24 rfl (lv_at hl 1 rfl) ?_
        refine cGoAL (cRunAV (As := [.int x4_, .int p1]) (rest := [.long x2_]) ⟨hx, hb, hml, hown, hw⟩ hK hN hP hD (k_X12_whatOf l D C _ aM  ms mw ma ml x4_ p1 h) (cwV 2 hw (goodV mw_8_2 mw_8_4 mw_s146 mw_1_13 mw_8_5) rfl rfl rfl (by decide +kernel) ⟨Nat.le_of_ble_eq_true rfl, Nat.le_of_ble_eq_true rfl⟩) rfl rfl rfl hl.1 rfl (Nat.le_of_ble_eq_true rfl) dX12_allNow_25 ⟨Nat.zero_le _, Nat.zero_le _⟩) hP hD hS hA (fun r2 u H locs h hP hD hS => ?_)
        have hP : va_P D vwCl (List.flatten (wM aM C ms mw ma ml)) H := hP
        have hD : va_D A (List.flatten (wM aM C ms mw ma ml)) := hD
        refine lv_ladd hx hb dX12_allNow_28 ?_
        refine lv_topl (fun x3 ex3 => ?_)
        have h := h x3 ex3
        refine lv_lstore_n (lv' := [(2, .long x3), (0, .ref (aM 0)), (1, .int p1), (4, .int x4_)]) hx hb dX12_allNow_29 rfl hl (by decide) rfl (fun ls hl => ?_)
        refine lv_iinc (v := (x4_ + 1)) (lv' := [(4, .int (x4_ + 1)), (2, .long x3), (0, .ref (aM 0)), (1, .int p1)]) hx hb dX12_allNow_30 hl (k := 3) rfl rfl (by decide) rfl (fun ls hl => ?_)
        refine lv_goto (tgt := 9) hx hb dX12_allNow_33 (by decide) ?_
        exact ih9 x3 (x4_ + 1) _ _ _ h hP hD hS (lv_sub hl [2, 3, 1, 0] rfl)
  refine lv_aload_n hx hb dX12_allNow_0 rfl (lv_at hl 0 rfl) ?_
  refine cGoAV (cRunAV (As := []) (rest := []) ⟨hx, hb, hml, hown, hw⟩ hK hN hP hD (k_X12_night l D C _ aM  ms mw ma ml  h) (cwV 0 hw (goodV mw_7_209 mw_7_211 mw_s143 mw_1_13 mw_7_212) rfl rfl rfl (by decide +kernel) ⟨Nat.le_of_ble_eq_true rfl, Nat.le_of_ble_eq_true rfl⟩) rfl rfl rfl hl.1 rfl (Nat.le_of_ble_eq_true rfl) dX12_allNow_1 ⟨Nat.zero_le _, Nat.zero_le _⟩) hP hD hS hA (fun u H locs h hP hD hS => ?_)
  obtain ⟨ms_4, ma_5, ml_6⟩ := u
  have hP : va_P D vwCl (List.flatten (wM aM C ms_4 mw ma_5 ml_6)) H := hP
  have hD : va_D A (List.flatten (wM aM C ms_4 mw ma_5 ml_6)) := hD
  refine lv_lconst (v := 0) hx hb dX12_allNow_4 (by decide) ?_
  refine lv_lstore_n (lv' := [(2, .long 0), (0, .ref (aM 0)), (1, .int p1)]) hx hb dX12_allNow_5 rfl hl (by decide) rfl (fun ls hl => ?_)
  refine lv_iconst (v := 0) hx hb dX12_allNow_6 (by decide) ?_
  refine lv_istore (lv' := [(4, .int 0), (2, .long 0), (0, .ref (aM 0)), (1, .int p1)]) hx hb dX12_allNow_7 hl (by decide) rfl (fun ls hl => ?_)
  obtain ⟨n, h⟩ := h
  exact N9 ms_4 ma_5 ml_6 n 0 0 _ _ _ h hP hD hS (lv_sub hl [2, 3, 1, 0] rfl)
abbrev vsX12_all : List Cond := Cond.code yX12_all cX12_all 2 (some .long) :: WS
abbrev rmX12_all : Room := { frames := 6, cells := 0, slots := 0, locals := 143 }
set_option maxHeartbeats 4000000 in
set_option maxRecDepth 100000 in
theorem k_X12_all (l : Launch) (D : va_G) (C : Nat → ClassId) (sz : Nat) (aM : Nat → Nat)  (ms : Nat → Int32) (mw : Nat → Int64) (ma : Nat → Nat → Int32) (ml : Nat → Nat → Int64) (p1 : Int32) {post : Int64 → (Nat → Int32) → (Nat → Nat → Int32) → (Nat → Nat → Int64) → Prop} (h : P_X12_all ms ma ml p1 post) : Met l yX12_all vsX12_all rmX12_all (cPre D C [.ref (aM 0), .int p1] sz (wM aM C ms mw ma ml)) (cQl D (fun (r : Int64) (u : (Nat → Int32) × (Nat → Nat → Int32) × (Nat → Nat → Int64)) => post r u.1 u.2.1 u.2.2) (fun u => wM aM C u.1 mw u.2.1 u.2.2) (va_A (List.flatten (wM aM C ms mw ma ml)) sz)) 0 0 (va_A (List.flatten (wM aM C ms mw ma ml)) sz) := by
  refine cStart (QA := fun A => cQl D (fun (r : Int64) (u : (Nat → Int32) × (Nat → Nat → Int32) × (Nat → Nat → Int64)) => post r u.1 u.2.1 u.2.2) (fun u => wM aM C u.1 mw u.2.1 u.2.2) A) (cc := cX12_all) (maxL := 2) (ret := (some .long)) (by decide) (Nat.le_of_ble_eq_true rfl) ?_
  intro p e s m args below meth c A ls hx hb hr hml hown hw hlocks hname hK hN hA hP hD hS hl
  generalize hQ : MQ below _ args s 0 0 A = Q
  have hl : lv_has ls 2 [(0, .ref (aM 0)), (1, .int p1)] := hl
  obtain ⟨H, hH⟩ : ∃ H, H = s.heap := ⟨_, rfl⟩
  obtain ⟨locs, hlo⟩ : ∃ z : List Loc, z = [] := ⟨_, rfl⟩
  have hP : va_P D vwCl (List.flatten (wM aM C ms mw ma ml)) H := by rw [hH]; exact hP
  have hS : va_S A s.heap H locs := by rw [hH, hlo]; exact hS
  rw [show W p l e rmX12_all s m args below meth c s.heap [] 0 0 Q (F0 m 0 ls []) = W p l e rmX12_all s m args below meth c H locs 0 0 Q (F0 m 0 ls []) from by rw [hH, hlo]]
  refine lv_aload_n hx hb dX12_all_0 rfl (lv_at hl 0 rfl) ?_
  refine lv_iconst (v := 0) hx hb dX12_all_1 (by decide) ?_
  refine va_put (D := D) (ci := 12) (v := .int 0) (ty := .int) (C := RX12) (T := TX12) (N := 51) hx hb hw inW_X12 tyX12 tyX12_ok nmX12 hown hK hP hD hS 0 rfl rfl 0 (by decide) (hw _ mw_6_43) (fun _ h9 => h9) rfl (by decide +kernel) rfl rfl (Nat.le_of_ble_eq_true rfl) dX12_all_2 (fun H locs hP hD hS => ?_)
  refine lv_aload_n hx hb dX12_all_5 rfl (lv_at hl 0 rfl) ?_
  have hP : va_P D vwCl (List.flatten (wM aM C (va_up ms 0 0) mw ma ml)) H := hP
  have hD : va_D A (List.flatten (wM aM C (va_up ms 0 0) mw ma ml)) := hD
  refine cGoAI (cRunAV (As := []) (rest := []) ⟨hx, hb, hml, hown, hw⟩ hK hN hP hD (k_X12_isRail l D C _ aM  (va_up ms 0 0) mw ma ml  h) (cwV 0 hw (goodV mw_7_204 mw_7_206 mw_s142 mw_1_13 mw_7_207) rfl rfl rfl (by decide +kernel) ⟨Nat.le_of_ble_eq_true rfl, Nat.le_of_ble_eq_true rfl⟩) rfl rfl rfl hl.1 rfl (Nat.le_of_ble_eq_true rfl) dX12_all_6 ⟨Nat.zero_le _, Nat.zero_le _⟩) hP hD hS hA (fun r1 u H locs h hP hD hS => ?_)
  have hP : va_P D vwCl (List.flatten (wM aM C (va_up ms 0 0) mw ma ml)) H := hP
  have hD : va_D A (List.flatten (wM aM C (va_up ms 0 0) mw ma ml)) := hD
  refine lv_if_eq (tgt := 32) hx hb dX12_all_9 (by decide) (fun c2 => ?_) (fun c2 => ?_)
  · have h := h.1 c2
    refine lv_ldc2 (v := (-2)) hx hb hown (hw _ mw_7_208) dX12_all_32 ?_
    rw [← hQ]
    exact cRetL (v := (-2)) ((va_up ms 0 0), ma, ml) hx hb hr hlocks hS hP hD h dX12_all_35
  · have h := h.2 c2
    refine lv_iload_n hx hb dX12_all_12 rfl (lv_at hl 1 rfl) ?_
    refine lv_i2l hx hb dX12_all_13 rfl ?_
    refine lv_lconst (v := 0) hx hb dX12_all_14 (by decide) ?_
    refine lv_ldc2 (v := 2) hx hb hown (hw _ mw_8_1) dX12_all_15 ?_
    refine cGoEI (cRunES (As := [.long p1.toInt64, .long 0, .long 2]) (rest := []) ⟨hx, hb, hml, hown, hw⟩ hK hN hP hD (k_X12_in l D C _    p1.toInt64 0 2 h) (va_cwS 3 hw (goodS mw_6_205 mw_6_206 mw_1_13 mw_6_207) rfl rfl rfl (by decide +kernel) ⟨Nat.le_of_ble_eq_true rfl, Nat.le_of_ble_eq_true rfl⟩) rfl hl.1 rfl (Nat.le_of_ble_eq_true rfl) dX12_all_18 ⟨Nat.zero_le _, Nat.zero_le _⟩) hP hD hS hA (fun r3 u H locs h hP hD hS => ?_)
    have hP : va_P D vwCl (List.flatten (wM aM C (va_up ms 0 0) mw ma ml)) H := hP
    have hD : va_D A (List.flatten (wM aM C (va_up ms 0 0) mw ma ml)) := hD
    refine lv_if_eq (tgt := 32) hx hb dX12_all_21 (by decide) (fun c4 => ?_) (fun c4 => ?_)
    · have h := h.1 c4
      refine lv_ldc2 (v := (-2)) hx hb hown (hw _ mw_7_208) dX12_all_32 ?_
      rw [← hQ]
      exact cRetL (v := (-2)) ((va_up ms 0 0), ma, ml) hx hb hr hlocks hS hP hD h dX12_all_35
    · have h := h.2 c4
      refine lv_aload_n hx hb dX12_all_24 rfl (lv_at hl 0 rfl) ?_
      refine lv_iload_n hx hb dX12_all_25 rfl (lv_at hl 1 rfl) ?_
      refine cGoAL (cRunAV (As := [.int p1]) (rest := []) ⟨hx, hb, hml, hown, hw⟩ hK hN hP hD (k_X12_allNow l D C _ aM  (va_up ms 0 0) mw ma ml p1 h) (cwV 1 hw (goodV mw_8_28 mw_8_30 mw_s151 mw_1_13 mw_8_31) rfl rfl rfl (by decide +kernel) ⟨Nat.le_of_ble_eq_true rfl, Nat.le_of_ble_eq_true rfl⟩) rfl rfl rfl hl.1 rfl (Nat.le_of_ble_eq_true rfl) dX12_all_26 ⟨Nat.zero_le _, Nat.zero_le _⟩) hP hD hS hA (fun r8 u H locs h hP hD hS => ?_)
      obtain ⟨ms_5, ma_6, ml_7⟩ := u
      have hP : va_P D vwCl (List.flatten (wM aM C ms_5 mw ma_6 ml_7)) H := hP
      have hD : va_D A (List.flatten (wM aM C ms_5 mw ma_6 ml_7)) := hD
      refine lv_goto (tgt := 35) hx hb dX12_all_29 (by decide) ?_
      rw [← hQ]
      exact cRetL (v := r8) (ms_5, ma_6, ml_7) hx hb hr hlocks hS hP hD h dX12_all_35
abbrev vsX12_costNow : List Cond := Cond.code yX12_costNow cX12_costNow 2 (some .long) :: WS
abbrev rmX12_costNow : Room := { frames := 5, cells := 0, slots := 0, locals := 119 }
set_option maxHeartbeats 4000000 in
set_option maxRecDepth 100000 in
theorem k_X12_costNow (l : Launch) (D : va_G) (C : Nat → ClassId) (sz : Nat) (aM : Nat → Nat)  (ms : Nat → Int32) (mw : Nat → Int64) (ma : Nat → Nat → Int32) (ml : Nat → Nat → Int64) (p1 : Int32) {post : Int64 → (Nat → Int32) → (Nat → Nat → Int32) → (Nat → Nat → Int64) → Prop} (h : P_X12_costNow ms ma ml p1 post) : Met l yX12_costNow vsX12_costNow rmX12_costNow (cPre D C [.ref (aM 0), .int p1] sz (wM aM C ms mw ma ml)) (cQl D (fun (r : Int64) (u : (Nat → Int32) × (Nat → Nat → Int32) × (Nat → Nat → Int64)) => post r u.1 u.2.1 u.2.2) (fun u => wM aM C u.1 mw u.2.1 u.2.2) (va_A (List.flatten (wM aM C ms mw ma ml)) sz)) 0 0 (va_A (List.flatten (wM aM C ms mw ma ml)) sz) := by
  refine cStart (QA := fun A => cQl D (fun (r : Int64) (u : (Nat → Int32) × (Nat → Nat → Int32) × (Nat → Nat → Int64)) => post r u.1 u.2.1 u.2.2) (fun u => wM aM C u.1 mw u.2.1 u.2.2) A) (cc := cX12_costNow) (maxL := 2) (ret := (some .long)) (by decide) (Nat.le_of_ble_eq_true rfl) ?_
  intro p e s m args below meth c A ls hx hb hr hml hown hw hlocks hname hK hN hA hP hD hS hl
  generalize hQ : MQ below _ args s 0 0 A = Q
  have hl : lv_has ls 2 [(0, .ref (aM 0)), (1, .int p1)] := hl
  obtain ⟨H, hH⟩ : ∃ H, H = s.heap := ⟨_, rfl⟩
  obtain ⟨locs, hlo⟩ : ∃ z : List Loc, z = [] := ⟨_, rfl⟩
  have hP : va_P D vwCl (List.flatten (wM aM C ms mw ma ml)) H := by rw [hH]; exact hP
  have hS : va_S A s.heap H locs := by rw [hH, hlo]; exact hS
  rw [show W p l e rmX12_costNow s m args below meth c s.heap [] 0 0 Q (F0 m 0 ls []) = W p l e rmX12_costNow s m args below meth c H locs 0 0 Q (F0 m 0 ls []) from by rw [hH, hlo]]
  refine lv_aload_n hx hb dX12_costNow_0 rfl (lv_at hl 0 rfl) ?_
  refine cGoAV (cRunAV (As := []) (rest := []) ⟨hx, hb, hml, hown, hw⟩ hK hN hP hD (k_X12_night l D C _ aM  ms mw ma ml  h) (cwV 0 hw (goodV mw_7_209 mw_7_211 mw_s143 mw_1_13 mw_7_212) rfl rfl rfl (by decide +kernel) ⟨Nat.le_of_ble_eq_true rfl, Nat.le_of_ble_eq_true rfl⟩) rfl rfl rfl hl.1 rfl (Nat.le_of_ble_eq_true rfl) dX12_costNow_1 ⟨Nat.zero_le _, Nat.zero_le _⟩) hP hD hS hA (fun u H locs h hP hD hS => ?_)
  obtain ⟨ms_1, ma_2, ml_3⟩ := u
  have hP : va_P D vwCl (List.flatten (wM aM C ms_1 mw ma_2 ml_3)) H := hP
  have hD : va_D A (List.flatten (wM aM C ms_1 mw ma_2 ml_3)) := hD
  refine lv_aload_n hx hb dX12_costNow_4 rfl (lv_at hl 0 rfl) ?_
  refine lv_iload_n hx hb dX12_costNow_5 rfl (lv_at hl 1 rfl) ?_
  refine cGoAL (cRunAV (As := [.int p1]) (rest := []) ⟨hx, hb, hml, hown, hw⟩ hK hN hP hD (k_X12_costOf l D C _ aM  ms_1 mw ma_2 ml_3 p1 h) (cwV 1 hw (goodV mw_8_16 mw_8_18 mw_s149 mw_1_13 mw_8_19) rfl rfl rfl (by decide +kernel) ⟨Nat.le_of_ble_eq_true rfl, Nat.le_of_ble_eq_true rfl⟩) rfl rfl rfl hl.1 rfl (Nat.le_of_ble_eq_true rfl) dX12_costNow_6 ⟨Nat.zero_le _, Nat.zero_le _⟩) hP hD hS hA (fun r4 u H locs h hP hD hS => ?_)
  have hP : va_P D vwCl (List.flatten (wM aM C ms_1 mw ma_2 ml_3)) H := hP
  have hD : va_D A (List.flatten (wM aM C ms_1 mw ma_2 ml_3)) := hD
  rw [← hQ]
  exact cRetL (v := r4) (ms_1, ma_2, ml_3) hx hb hr hlocks hS hP hD h dX12_costNow_9
abbrev vsX12_optionMany : List Cond := Cond.code yX12_optionMany cX12_optionMany 1 (some .int) :: WS
abbrev rmX12_optionMany : Room := { frames := 0, cells := 0, slots := 0, locals := 0 }
set_option maxHeartbeats 4000000 in
set_option maxRecDepth 100000 in
theorem k_X12_optionMany (l : Launch) (D : va_G) (C : Nat → ClassId) (sz : Nat) (aM : Nat → Nat)  (ms : Nat → Int32) (mw : Nat → Int64) (ma : Nat → Nat → Int32) (ml : Nat → Nat → Int64)  {post : Int32 → Prop} (h : P_X12_optionMany ma post) : Met l yX12_optionMany vsX12_optionMany rmX12_optionMany (cPre D C [.ref (aM 0)] sz (wM aM C ms mw ma ml)) (cQi D (fun (r : Int32) (u : Unit) => post r ) (fun u => wM aM C ms mw ma ml) (va_A (List.flatten (wM aM C ms mw ma ml)) sz)) 0 0 (va_A (List.flatten (wM aM C ms mw ma ml)) sz) := by
  refine cStart (QA := fun A => cQi D (fun (r : Int32) (u : Unit) => post r ) (fun u => wM aM C ms mw ma ml) A) (cc := cX12_optionMany) (maxL := 1) (ret := (some .int)) (by decide) (Nat.le_of_ble_eq_true rfl) ?_
  intro p e s m args below meth c A ls hx hb hr hml hown hw hlocks hname hK hN hA hP hD hS hl
  generalize hQ : MQ below _ args s 0 0 A = Q
  have hl : lv_has ls 1 [(0, .ref (aM 0))] := hl
  obtain ⟨H, hH⟩ : ∃ H, H = s.heap := ⟨_, rfl⟩
  obtain ⟨locs, hlo⟩ : ∃ z : List Loc, z = [] := ⟨_, rfl⟩
  have hP : va_P D vwCl (List.flatten (wM aM C ms mw ma ml)) H := by rw [hH]; exact hP
  have hS : va_S A s.heap H locs := by rw [hH, hlo]; exact hS
  rw [show W p l e rmX12_optionMany s m args below meth c s.heap [] 0 0 Q (F0 m 0 ls []) = W p l e rmX12_optionMany s m args below meth c H locs 0 0 Q (F0 m 0 ls []) from by rw [hH, hlo]]
  refine lv_iconst (v := 2) hx hb dX12_optionMany_0 (by decide) ?_
  refine lv_aload_n hx hb dX12_optionMany_1 rfl (lv_at hl 0 rfl) ?_
  refine va_get (D := D) (ci := 12) (v := .ref (aM 11)) (C := RX12) (T := TX12) (N := 51) hx hb hw inW_X12 hown hK hP 0 rfl rfl 21 (by decide) (hw _ mw_6_64) (fun _ h9 => h9) rfl dX12_optionMany_2 ?_
  refine lv_iconst (v := 0) hx hb dX12_optionMany_5 (by decide) ?_
  refine cIald hx hb hK hP 11 0 rfl rfl 0 (by decide +kernel) (cIn (by decide +kernel)) dX12_optionMany_6 ?_
  refine lv_iconst (v := 1) hx hb dX12_optionMany_7 (by decide) ?_
  refine lv_iadd hx hb dX12_optionMany_8 ?_
  refine lv_imul hx hb dX12_optionMany_9 ?_
  rw [← hQ]
  exact cRetI (v := (2 * ((ma 8 0) + 1))) () hx hb hr hlocks hS hP hD h dX12_optionMany_10
abbrev vsX12_isOption : List Cond := Cond.code yX12_isOption cX12_isOption 2 (some .boolean) :: WS
abbrev rmX12_isOption : Room := { frames := 1, cells := 0, slots := 0, locals := 25 }
set_option maxHeartbeats 4000000 in
set_option maxRecDepth 100000 in
theorem k_X12_isOption (l : Launch) (D : va_G) (C : Nat → ClassId) (sz : Nat) (aM : Nat → Nat)  (ms : Nat → Int32) (mw : Nat → Int64) (ma : Nat → Nat → Int32) (ml : Nat → Nat → Int64) (p1 : Int32) {post : Int32 → Prop} (h : P_X12_isOption ma p1 post) : Met l yX12_isOption vsX12_isOption rmX12_isOption (cPre D C [.ref (aM 0), .int p1] sz (wM aM C ms mw ma ml)) (cQi D (fun (r : Int32) (u : Unit) => post r ) (fun u => wM aM C ms mw ma ml) (va_A (List.flatten (wM aM C ms mw ma ml)) sz)) 0 0 (va_A (List.flatten (wM aM C ms mw ma ml)) sz) := by
  refine cStart (QA := fun A => cQi D (fun (r : Int32) (u : Unit) => post r ) (fun u => wM aM C ms mw ma ml) A) (cc := cX12_isOption) (maxL := 2) (ret := (some .boolean)) (by decide) (Nat.le_of_ble_eq_true rfl) ?_
  intro p e s m args below meth c A ls hx hb hr hml hown hw hlocks hname hK hN hA hP hD hS hl
  generalize hQ : MQ below _ args s 0 0 A = Q
  have hl : lv_has ls 2 [(0, .ref (aM 0)), (1, .int p1)] := hl
  obtain ⟨H, hH⟩ : ∃ H, H = s.heap := ⟨_, rfl⟩
  obtain ⟨locs, hlo⟩ : ∃ z : List Loc, z = [] := ⟨_, rfl⟩
  have hP : va_P D vwCl (List.flatten (wM aM C ms mw ma ml)) H := by rw [hH]; exact hP
  have hS : va_S A s.heap H locs := by rw [hH, hlo]; exact hS
  rw [show W p l e rmX12_isOption s m args below meth c s.heap [] 0 0 Q (F0 m 0 ls []) = W p l e rmX12_isOption s m args below meth c H locs 0 0 Q (F0 m 0 ls []) from by rw [hH, hlo]]
  refine lv_iload_n hx hb dX12_isOption_0 rfl (lv_at hl 1 rfl) ?_
  refine lv_i2l hx hb dX12_isOption_1 rfl ?_
  refine lv_lconst (v := 0) hx hb dX12_isOption_2 (by decide) ?_
  refine lv_aload_n hx hb dX12_isOption_3 rfl (lv_at hl 0 rfl) ?_
  refine cGoAI (cRunAV (As := []) (rest := [.long 0, .long p1.toInt64]) ⟨hx, hb, hml, hown, hw⟩ hK hN hP hD (k_X12_optionMany l D C _ aM  ms mw ma ml  h) (cwV 0 hw (goodV mw_8_40 mw_8_42 mw_s153 mw_1_13 mw_8_43) rfl rfl rfl (by decide +kernel) ⟨Nat.le_of_ble_eq_true rfl, Nat.le_of_ble_eq_true rfl⟩) rfl rfl rfl hl.1 rfl (Nat.le_of_ble_eq_true rfl) dX12_isOption_4 ⟨Nat.zero_le _, Nat.zero_le _⟩) hP hD hS hA (fun r1 u H locs h hP hD hS => ?_)
  have hP : va_P D vwCl (List.flatten (wM aM C ms mw ma ml)) H := hP
  have hD : va_D A (List.flatten (wM aM C ms mw ma ml)) := hD
  refine lv_iconst (v := 1) hx hb dX12_isOption_7 (by decide) ?_
  refine lv_isub hx hb dX12_isOption_8 ?_
  refine lv_i2l hx hb dX12_isOption_9 rfl ?_
  refine cGoEI (cRunES (As := [.long p1.toInt64, .long 0, .long ((r1 - 1).toInt64)]) (rest := []) ⟨hx, hb, hml, hown, hw⟩ hK hN hP hD (k_X12_in l D C _    p1.toInt64 0 ((r1 - 1).toInt64) h) (va_cwS 3 hw (goodS mw_6_205 mw_6_206 mw_1_13 mw_6_207) rfl rfl rfl (by decide +kernel) ⟨Nat.le_of_ble_eq_true rfl, Nat.le_of_ble_eq_true rfl⟩) rfl hl.1 rfl (Nat.le_of_ble_eq_true rfl) dX12_isOption_10 ⟨Nat.zero_le _, Nat.zero_le _⟩) hP hD hS hA (fun r2 u H locs h hP hD hS => ?_)
  have hP : va_P D vwCl (List.flatten (wM aM C ms mw ma ml)) H := hP
  have hD : va_D A (List.flatten (wM aM C ms mw ma ml)) := hD
  rw [← hQ]
  exact cRetZ (v := r2) () hx hb hr hlocks hS hP hD h.1 h.2 dX12_isOption_13
abbrev vsX12_optionOf : List Cond := Cond.code yX12_optionOf cX12_optionOf 2 (some .int) :: WS
abbrev rmX12_optionOf : Room := { frames := 1, cells := 0, slots := 0, locals := 21 }
set_option maxHeartbeats 4000000 in
set_option maxRecDepth 100000 in
theorem k_X12_optionOf (l : Launch) (D : va_G) (C : Nat → ClassId) (sz : Nat) (aM : Nat → Nat)  (ms : Nat → Int32) (mw : Nat → Int64) (ma : Nat → Nat → Int32) (ml : Nat → Nat → Int64) (p1 : Int32) {post : Int32 → Prop} (h : P_X12_optionOf ma p1 post) : Met l yX12_optionOf vsX12_optionOf rmX12_optionOf (cPre D C [.ref (aM 0), .int p1] sz (wM aM C ms mw ma ml)) (cQi D (fun (r : Int32) (u : Unit) => post r ) (fun u => wM aM C ms mw ma ml) (va_A (List.flatten (wM aM C ms mw ma ml)) sz)) 0 0 (va_A (List.flatten (wM aM C ms mw ma ml)) sz) := by
  refine cStart (QA := fun A => cQi D (fun (r : Int32) (u : Unit) => post r ) (fun u => wM aM C ms mw ma ml) A) (cc := cX12_optionOf) (maxL := 2) (ret := (some .int)) (by decide) (Nat.le_of_ble_eq_true rfl) ?_
  intro p e s m args below meth c A ls hx hb hr hml hown hw hlocks hname hK hN hA hP hD hS hl
  generalize hQ : MQ below _ args s 0 0 A = Q
  have hl : lv_has ls 2 [(0, .ref (aM 0)), (1, .int p1)] := hl
  obtain ⟨H, hH⟩ : ∃ H, H = s.heap := ⟨_, rfl⟩
  obtain ⟨locs, hlo⟩ : ∃ z : List Loc, z = [] := ⟨_, rfl⟩
  have hP : va_P D vwCl (List.flatten (wM aM C ms mw ma ml)) H := by rw [hH]; exact hP
  have hS : va_S A s.heap H locs := by rw [hH, hlo]; exact hS
  rw [show W p l e rmX12_optionOf s m args below meth c s.heap [] 0 0 Q (F0 m 0 ls []) = W p l e rmX12_optionOf s m args below meth c H locs 0 0 Q (F0 m 0 ls []) from by rw [hH, hlo]]
  refine lv_iconst (v := 2) hx hb dX12_optionOf_0 (by decide) ?_
  refine lv_aload_n hx hb dX12_optionOf_1 rfl (lv_at hl 0 rfl) ?_
  refine va_get (D := D) (ci := 12) (v := .ref (aM 14)) (C := RX12) (T := TX12) (N := 51) hx hb hw inW_X12 hown hK hP 0 rfl rfl 24 (by decide) (hw _ mw_6_67) (fun _ h9 => h9) rfl dX12_optionOf_2 ?_
  refine lv_iconst (v := 0) hx hb dX12_optionOf_5 (by decide) ?_
  refine lv_iload_n hx hb dX12_optionOf_6 rfl (lv_at hl 1 rfl) ?_
  refine cGoEI (cRunES (As := [.int 0, .int p1]) (rest := [.ref (aM 14), .int 2]) ⟨hx, hb, hml, hown, hw⟩ hK hN hP hD (k_X12_at l D C _    0 p1 h) (va_cwS 2 hw (goodS mw_7_148 mw_7_149 mw_1_13 mw_7_150) rfl rfl rfl (by decide +kernel) ⟨Nat.le_of_ble_eq_true rfl, Nat.le_of_ble_eq_true rfl⟩) rfl hl.1 rfl (Nat.le_of_ble_eq_true rfl) dX12_optionOf_7 ⟨Nat.zero_le _, Nat.zero_le _⟩) hP hD hS hA (fun r1 u H locs h hP hD hS => ?_)
  have hP : va_P D vwCl (List.flatten (wM aM C ms mw ma ml)) H := hP
  have hD : va_D A (List.flatten (wM aM C ms mw ma ml)) := hD
  refine lv_iconst (v := 3) hx hb dX12_optionOf_10 (by decide) ?_
  refine lv_iadd hx hb dX12_optionOf_11 ?_
  refine cIald hx hb hK hP 14 0 rfl rfl ((r1 + 3).toNatClampNeg) rfl h.1 dX12_optionOf_12 ?_
  have h := h.2
  refine lv_iconst (v := 1) hx hb dX12_optionOf_13 (by decide) ?_
  refine lv_iadd hx hb dX12_optionOf_14 ?_
  refine lv_imul hx hb dX12_optionOf_15 ?_
  refine lv_aload_n hx hb dX12_optionOf_16 rfl (lv_at hl 0 rfl) ?_
  refine va_get (D := D) (ci := 12) (v := .ref (aM 14)) (C := RX12) (T := TX12) (N := 51) hx hb hw inW_X12 hown hK hP 0 rfl rfl 24 (by decide) (hw _ mw_6_67) (fun _ h9 => h9) rfl dX12_optionOf_17 ?_
  refine lv_iconst (v := 0) hx hb dX12_optionOf_20 (by decide) ?_
  refine lv_iload_n hx hb dX12_optionOf_21 rfl (lv_at hl 1 rfl) ?_
  refine cGoEI (cRunES (As := [.int 0, .int p1]) (rest := [.ref (aM 14), .int (2 * ((ma 11 ((r1 + 3).toNatClampNeg)) + 1))]) ⟨hx, hb, hml, hown, hw⟩ hK hN hP hD (k_X12_at l D C _    0 p1 h) (va_cwS 2 hw (goodS mw_7_148 mw_7_149 mw_1_13 mw_7_150) rfl rfl rfl (by decide +kernel) ⟨Nat.le_of_ble_eq_true rfl, Nat.le_of_ble_eq_true rfl⟩) rfl hl.1 rfl (Nat.le_of_ble_eq_true rfl) dX12_optionOf_22 ⟨Nat.zero_le _, Nat.zero_le _⟩) hP hD hS hA (fun r2 u H locs h hP hD hS => ?_)
  have hP : va_P D vwCl (List.flatten (wM aM C ms mw ma ml)) H := hP
  have hD : va_D A (List.flatten (wM aM C ms mw ma ml)) := hD
  refine lv_iconst (v := 4) hx hb dX12_optionOf_25 (by decide) ?_
  refine lv_iadd hx hb dX12_optionOf_26 ?_
  refine cIald hx hb hK hP 14 0 rfl rfl ((r2 + 4).toNatClampNeg) rfl h.1 dX12_optionOf_27 ?_
  have h := h.2
  refine lv_iadd hx hb dX12_optionOf_28 ?_
  rw [← hQ]
  exact cRetI (v := ((2 * ((ma 11 ((r1 + 3).toNatClampNeg)) + 1)) + (ma 11 ((r2 + 4).toNatClampNeg)))) () hx hb hr hlocks hS hP hD h dX12_optionOf_29
abbrev vsX12_hasOption : List Cond := Cond.code yX12_hasOption cX12_hasOption 3 none :: WS
abbrev rmX12_hasOption : Room := { frames := 1, cells := 0, slots := 0, locals := 21 }
set_option maxHeartbeats 4000000 in
set_option maxRecDepth 100000 in
theorem k_X12_hasOption (l : Launch) (D : va_G) (C : Nat → ClassId) (sz : Nat) (aM : Nat → Nat)  (ms : Nat → Int32) (mw : Nat → Int64) (ma : Nat → Nat → Int32) (ml : Nat → Nat → Int64) (p1 : Int32) (p2 : Int32) {post : (Nat → Nat → Int32) → Prop} (h : P_X12_hasOption ma p1 p2 post) : Met l yX12_hasOption vsX12_hasOption rmX12_hasOption (cPre D C [.ref (aM 0), .int p1, .int p2] sz (wM aM C ms mw ma ml)) (cQv D (fun (u : (Nat → Nat → Int32)) => post u) (fun u => wM aM C ms mw u ml) (va_A (List.flatten (wM aM C ms mw ma ml)) sz)) 0 0 (va_A (List.flatten (wM aM C ms mw ma ml)) sz) := by
  refine cStart (QA := fun A => cQv D (fun (u : (Nat → Nat → Int32)) => post u) (fun u => wM aM C ms mw u ml) A) (cc := cX12_hasOption) (maxL := 3) (ret := none) (by decide) (Nat.le_of_ble_eq_true rfl) ?_
  intro p e s m args below meth c A ls hx hb hr hml hown hw hlocks hname hK hN hA hP hD hS hl
  generalize hQ : MQ below _ args s 0 0 A = Q
  have hl : lv_has ls 3 [(0, .ref (aM 0)), (1, .int p1), (2, .int p2)] := hl
  obtain ⟨H, hH⟩ : ∃ H, H = s.heap := ⟨_, rfl⟩
  obtain ⟨locs, hlo⟩ : ∃ z : List Loc, z = [] := ⟨_, rfl⟩
  have hP : va_P D vwCl (List.flatten (wM aM C ms mw ma ml)) H := by rw [hH]; exact hP
  have hS : va_S A s.heap H locs := by rw [hH, hlo]; exact hS
  rw [show W p l e rmX12_hasOption s m args below meth c s.heap [] 0 0 Q (F0 m 0 ls []) = W p l e rmX12_hasOption s m args below meth c H locs 0 0 Q (F0 m 0 ls []) from by rw [hH, hlo]]
  unfold P_X12_hasOption at h
  refine lv_aload_n hx hb dX12_hasOption_0 rfl (lv_at hl 0 rfl) ?_
  refine va_get (D := D) (ci := 12) (v := .ref (aM 14)) (C := RX12) (T := TX12) (N := 51) hx hb hw inW_X12 hown hK hP 0 rfl rfl 24 (by decide) (hw _ mw_6_67) (fun _ h9 => h9) rfl dX12_hasOption_1 ?_
  refine lv_iconst (v := 0) hx hb dX12_hasOption_4 (by decide) ?_
  refine lv_iload_n hx hb dX12_hasOption_5 rfl (lv_at hl 1 rfl) ?_
  refine cGoEI (cRunES (As := [.int 0, .int p1]) (rest := [.ref (aM 14)]) ⟨hx, hb, hml, hown, hw⟩ hK hN hP hD (k_X12_at l D C _    0 p1 h) (va_cwS 2 hw (goodS mw_7_148 mw_7_149 mw_1_13 mw_7_150) rfl rfl rfl (by decide +kernel) ⟨Nat.le_of_ble_eq_true rfl, Nat.le_of_ble_eq_true rfl⟩) rfl hl.1 rfl (Nat.le_of_ble_eq_true rfl) dX12_hasOption_6 ⟨Nat.zero_le _, Nat.zero_le _⟩) hP hD hS hA (fun r1 u H locs h hP hD hS => ?_)
  have hP : va_P D vwCl (List.flatten (wM aM C ms mw ma ml)) H := hP
  have hD : va_D A (List.flatten (wM aM C ms mw ma ml)) := hD
  refine lv_iconst (v := 3) hx hb dX12_hasOption_9 (by decide) ?_
  refine lv_iadd hx hb dX12_hasOption_10 ?_
  refine lv_iload_n hx hb dX12_hasOption_11 rfl (lv_at hl 2 rfl) ?_
  refine lv_iconst (v := 2) hx hb dX12_hasOption_12 (by decide) ?_
  refine lv_idiv hx hb dX12_hasOption_13 (by decide) ?_
  refine lv_iconst (v := 1) hx hb dX12_hasOption_14 (by decide) ?_
  refine lv_isub hx hb dX12_hasOption_15 ?_
  try dsimp only at h
  obtain ⟨kk_2, hkk_2⟩ : ∃ z : Nat, (r1 + 3).toNatClampNeg = z := ⟨_, rfl⟩
  rw [hkk_2] at h
  refine cIast hx hb hK hP hD hS 14 0 rfl rfl kk_2 hkk_2 h.1 dX12_hasOption_16 (fun H locs hP hD hS => ?_)
  have h := h.2
  refine lv_aload_n hx hb dX12_hasOption_17 rfl (lv_at hl 0 rfl) ?_
  refine va_get (D := D) (ci := 12) (v := .ref (aM 14)) (C := RX12) (T := TX12) (N := 51) hx hb hw inW_X12 hown hK hP 0 rfl rfl 24 (by decide) (hw _ mw_6_67) (fun _ h9 => h9) rfl dX12_hasOption_18 ?_
  refine lv_iconst (v := 0) hx hb dX12_hasOption_21 (by decide) ?_
  refine lv_iload_n hx hb dX12_hasOption_22 rfl (lv_at hl 1 rfl) ?_
  have hP : va_P D vwCl (List.flatten (wM aM C ms mw (va_up ma 11 (upd (ma 11) kk_2 ((p2 / 2) - 1))) ml)) H := hP
  have hD : va_D A (List.flatten (wM aM C ms mw (va_up ma 11 (upd (ma 11) kk_2 ((p2 / 2) - 1))) ml)) := hD
  refine cGoEI (cRunES (As := [.int 0, .int p1]) (rest := [.ref (aM 14)]) ⟨hx, hb, hml, hown, hw⟩ hK hN hP hD (k_X12_at l D C _    0 p1 h) (va_cwS 2 hw (goodS mw_7_148 mw_7_149 mw_1_13 mw_7_150) rfl rfl rfl (by decide +kernel) ⟨Nat.le_of_ble_eq_true rfl, Nat.le_of_ble_eq_true rfl⟩) rfl hl.1 rfl (Nat.le_of_ble_eq_true rfl) dX12_hasOption_23 ⟨Nat.zero_le _, Nat.zero_le _⟩) hP hD hS hA (fun r3 u H locs h hP hD hS => ?_)
  have hP : va_P D vwCl (List.flatten (wM aM C ms mw (va_up ma 11 (upd (ma 11) kk_2 ((p2 / 2) - 1))) ml)) H := hP
  have hD : va_D A (List.flatten (wM aM C ms mw (va_up ma 11 (upd (ma 11) kk_2 ((p2 / 2) - 1))) ml)) := hD
  refine lv_iconst (v := 4) hx hb dX12_hasOption_26 (by decide) ?_
  refine lv_iadd hx hb dX12_hasOption_27 ?_
  refine lv_iload_n hx hb dX12_hasOption_28 rfl (lv_at hl 2 rfl) ?_
  refine lv_iconst (v := 2) hx hb dX12_hasOption_29 (by decide) ?_
  refine lv_irem hx hb dX12_hasOption_30 (by decide) ?_
  try dsimp only at h
  obtain ⟨kk_4, hkk_4⟩ : ∃ z : Nat, (r3 + 4).toNatClampNeg = z := ⟨_, rfl⟩
  rw [hkk_4] at h
  refine cIast hx hb hK hP hD hS 14 0 rfl rfl kk_4 hkk_4 h.1 dX12_hasOption_31 (fun H locs hP hD hS => ?_)
  have h := h.2
  have hP : va_P D vwCl (List.flatten (wM aM C ms mw (va_up ma 11 (upd (upd (ma 11) kk_2 ((p2 / 2) - 1)) kk_4 (p2 - p2 / 2 * 2))) ml)) H := hP
  have hD : va_D A (List.flatten (wM aM C ms mw (va_up ma 11 (upd (upd (ma 11) kk_2 ((p2 / 2) - 1)) kk_4 (p2 - p2 / 2 * 2))) ml)) := hD
  rw [← hQ]
  exact cRetV ((va_up ma 11 (upd (upd (ma 11) kk_2 ((p2 / 2) - 1)) kk_4 (p2 - p2 / 2 * 2)))) hx hb hr hlocks hS hP hD h dX12_hasOption_32
abbrev vsX12_option : List Cond := Cond.code yX12_option cX12_option 4 (some .int) :: WS
abbrev rmX12_option : Room := { frames := 2, cells := 0, slots := 0, locals := 46 }
set_option maxHeartbeats 4000000 in
set_option maxRecDepth 100000 in
theorem k_X12_option (l : Launch) (D : va_G) (C : Nat → ClassId) (sz : Nat) (aM : Nat → Nat)  (ms : Nat → Int32) (mw : Nat → Int64) (ma : Nat → Nat → Int32) (ml : Nat → Nat → Int64) (p1 : Int32) (p2 : Int32) {post : Int32 → (Nat → Int32) → (Nat → Nat → Int32) → Prop} (h : P_X12_option ms ma p1 p2 post) : Met l yX12_option vsX12_option rmX12_option (cPre D C [.ref (aM 0), .int p1, .int p2] sz (wM aM C ms mw ma ml)) (cQi D (fun (r : Int32) (u : (Nat → Int32) × (Nat → Nat → Int32)) => post r u.1 u.2) (fun u => wM aM C u.1 mw u.2 ml) (va_A (List.flatten (wM aM C ms mw ma ml)) sz)) 0 0 (va_A (List.flatten (wM aM C ms mw ma ml)) sz) := by
  refine cStart (QA := fun A => cQi D (fun (r : Int32) (u : (Nat → Int32) × (Nat → Nat → Int32)) => post r u.1 u.2) (fun u => wM aM C u.1 mw u.2 ml) A) (cc := cX12_option) (maxL := 4) (ret := (some .int)) (by decide) (Nat.le_of_ble_eq_true rfl) ?_
  intro p e s m args below meth c A ls hx hb hr hml hown hw hlocks hname hK hN hA hP hD hS hl
  generalize hQ : MQ below _ args s 0 0 A = Q
  have hl : lv_has ls 4 [(0, .ref (aM 0)), (1, .int p1), (2, .int p2)] := hl
  obtain ⟨H, hH⟩ : ∃ H, H = s.heap := ⟨_, rfl⟩
  obtain ⟨locs, hlo⟩ : ∃ z : List Loc, z = [] := ⟨_, rfl⟩
  have hP : va_P D vwCl (List.flatten (wM aM C ms mw ma ml)) H := by rw [hH]; exact hP
  have hS : va_S A s.heap H locs := by rw [hH, hlo]; exact hS
  rw [show W p l e rmX12_option s m args below meth c s.heap [] 0 0 Q (F0 m 0 ls []) = W p l e rmX12_option s m args below meth c H locs 0 0 Q (F0 m 0 ls []) from by rw [hH, hlo]]
  refine lv_aload_n hx hb dX12_option_0 rfl (lv_at hl 0 rfl) ?_
  refine lv_iconst (v := 0) hx hb dX12_option_1 (by decide) ?_
  refine va_put (D := D) (ci := 12) (v := .int 0) (ty := .int) (C := RX12) (T := TX12) (N := 51) hx hb hw inW_X12 tyX12 tyX12_ok nmX12 hown hK hP hD hS 0 rfl rfl 0 (by decide) (hw _ mw_6_43) (fun _ h9 => h9) rfl (by decide +kernel) rfl rfl (Nat.le_of_ble_eq_true rfl) dX12_option_2 (fun H locs hP hD hS => ?_)
  refine lv_aload_n hx hb dX12_option_5 rfl (lv_at hl 0 rfl) ?_
  refine lv_iload_n hx hb dX12_option_6 rfl (lv_at hl 1 rfl) ?_
  have hP : va_P D vwCl (List.flatten (wM aM C (va_up ms 0 0) mw ma ml)) H := hP
  have hD : va_D A (List.flatten (wM aM C (va_up ms 0 0) mw ma ml)) := hD
  refine cGoAI (cRunAV (As := [.int p1]) (rest := []) ⟨hx, hb, hml, hown, hw⟩ hK hN hP hD (k_X12_isBike l D C _ aM  (va_up ms 0 0) mw ma ml p1 h) (cwV 1 hw (goodV mw_7_143 mw_7_145 mw_s133 mw_1_13 mw_7_146) rfl rfl rfl (by decide +kernel) ⟨Nat.le_of_ble_eq_true rfl, Nat.le_of_ble_eq_true rfl⟩) rfl rfl rfl hl.1 rfl (Nat.le_of_ble_eq_true rfl) dX12_option_7 ⟨Nat.zero_le _, Nat.zero_le _⟩) hP hD hS hA (fun r1 u H locs h hP hD hS => ?_)
  have hP : va_P D vwCl (List.flatten (wM aM C (va_up ms 0 0) mw ma ml)) H := hP
  have hD : va_D A (List.flatten (wM aM C (va_up ms 0 0) mw ma ml)) := hD
  refine lv_if_eq (tgt := 21) hx hb dX12_option_10 (by decide) (fun c2 => ?_) (fun c2 => ?_)
  · have h := h.1 c2
    refine lv_bipush (v := (-2)) hx hb dX12_option_21 (by decide) ?_
    rw [← hQ]
    exact cRetI (v := (-2)) ((va_up ms 0 0), ma) hx hb hr hlocks hS hP hD h dX12_option_23
  · have h := h.2 c2
    refine lv_aload_n hx hb dX12_option_13 rfl (lv_at hl 0 rfl) ?_
    refine lv_iload_n hx hb dX12_option_14 rfl (lv_at hl 2 rfl) ?_
    refine cGoAI (cRunAV (As := [.int p2]) (rest := []) ⟨hx, hb, hml, hown, hw⟩ hK hN hP hD (k_X12_isOption l D C _ aM  (va_up ms 0 0) mw ma ml p2 h) (cwV 1 hw (goodV mw_8_36 mw_8_38 mw_s152 mw_1_13 mw_8_39) rfl rfl rfl (by decide +kernel) ⟨Nat.le_of_ble_eq_true rfl, Nat.le_of_ble_eq_true rfl⟩) rfl rfl rfl hl.1 rfl (Nat.le_of_ble_eq_true rfl) dX12_option_15 ⟨Nat.zero_le _, Nat.zero_le _⟩) hP hD hS hA (fun r3 u H locs h hP hD hS => ?_)
    have hP : va_P D vwCl (List.flatten (wM aM C (va_up ms 0 0) mw ma ml)) H := hP
    have hD : va_D A (List.flatten (wM aM C (va_up ms 0 0) mw ma ml)) := hD
    refine lv_if_ne (tgt := 24) hx hb dX12_option_18 (by decide) (fun c4 => ?_) (fun c4 => ?_)
    · have h := h.1 c4
      refine lv_aload_n hx hb dX12_option_24 rfl (lv_at hl 0 rfl) ?_
      refine lv_iload_n hx hb dX12_option_25 rfl (lv_at hl 1 rfl) ?_
      refine cGoAI (cRunAV (As := [.int p1]) (rest := []) ⟨hx, hb, hml, hown, hw⟩ hK hN hP hD (k_X12_optionOf l D C _ aM  (va_up ms 0 0) mw ma ml p1 h) (cwV 1 hw (goodV mw_8_44 mw_8_46 mw_s154 mw_1_13 mw_8_47) rfl rfl rfl (by decide +kernel) ⟨Nat.le_of_ble_eq_true rfl, Nat.le_of_ble_eq_true rfl⟩) rfl rfl rfl hl.1 rfl (Nat.le_of_ble_eq_true rfl) dX12_option_26 ⟨Nat.zero_le _, Nat.zero_le _⟩) hP hD hS hA (fun r5 u H locs h hP hD hS => ?_)
      have hP : va_P D vwCl (List.flatten (wM aM C (va_up ms 0 0) mw ma ml)) H := hP
      have hD : va_D A (List.flatten (wM aM C (va_up ms 0 0) mw ma ml)) := hD
      refine lv_istore_n (lv' := [(3, .int r5), (0, .ref (aM 0)), (1, .int p1), (2, .int p2)]) hx hb dX12_option_29 rfl hl (by decide) rfl (fun ls hl => ?_)
      refine lv_aload_n hx hb dX12_option_30 rfl (lv_at hl 1 rfl) ?_
      refine lv_iload_n hx hb dX12_option_31 rfl (lv_at hl 2 rfl) ?_
      refine lv_iload_n hx hb dX12_option_32 rfl (lv_at hl 3 rfl) ?_
      refine cGoAV (cRunAV (As := [.int p1, .int p2]) (rest := []) ⟨hx, hb, hml, hown, hw⟩ hK hN hP hD (k_X12_hasOption l D C _ aM  (va_up ms 0 0) mw ma ml p1 p2 h) (cwV 2 hw (goodV mw_8_48 mw_8_50 mw_s155 mw_1_13 mw_8_51) rfl rfl rfl (by decide +kernel) ⟨Nat.le_of_ble_eq_true rfl, Nat.le_of_ble_eq_true rfl⟩) rfl rfl rfl hl.1 rfl (Nat.le_of_ble_eq_true rfl) dX12_option_33 ⟨Nat.zero_le _, Nat.zero_le _⟩) hP hD hS hA (fun ma_6 H locs h hP hD hS => ?_)
      have hP : va_P D vwCl (List.flatten (wM aM C (va_up ms 0 0) mw ma_6 ml)) H := hP
      have hD : va_D A (List.flatten (wM aM C (va_up ms 0 0) mw ma_6 ml)) := hD
      refine lv_iload_n hx hb dX12_option_36 rfl (lv_at hl 0 rfl) ?_
      rw [← hQ]
      exact cRetI (v := r5) ((va_up ms 0 0), ma_6) hx hb hr hlocks hS hP hD h dX12_option_37
    · have h := h.2 c4
      refine lv_bipush (v := (-2)) hx hb dX12_option_21 (by decide) ?_
      rw [← hQ]
      exact cRetI (v := (-2)) ((va_up ms 0 0), ma) hx hb hr hlocks hS hP hD h dX12_option_23
abbrev vsX12_wouldOf : List Cond := Cond.code yX12_wouldOf cX12_wouldOf 6 (some .long) :: WS
abbrev rmX12_wouldOf : Room := { frames := 6, cells := 0, slots := 0, locals := 140 }
set_option maxHeartbeats 4000000 in
set_option maxRecDepth 100000 in
theorem k_X12_wouldOf (l : Launch) (D : va_G) (C : Nat → ClassId) (sz : Nat) (aM : Nat → Nat)  (ms : Nat → Int32) (mw : Nat → Int64) (ma : Nat → Nat → Int32) (ml : Nat → Nat → Int64) (p1 : Int32) (p2 : Int32) {post : Int64 → (Nat → Int32) → (Nat → Nat → Int32) → (Nat → Nat → Int64) → Prop} (h : P_X12_wouldOf ms ma ml p1 p2 post) : Met l yX12_wouldOf vsX12_wouldOf rmX12_wouldOf (cPre D C [.ref (aM 0), .int p1, .int p2] sz (wM aM C ms mw ma ml)) (cQl D (fun (r : Int64) (u : (Nat → Int32) × (Nat → Nat → Int32) × (Nat → Nat → Int64)) => post r u.1 u.2.1 u.2.2) (fun u => wM aM C u.1 mw u.2.1 u.2.2) (va_A (List.flatten (wM aM C ms mw ma ml)) sz)) 0 0 (va_A (List.flatten (wM aM C ms mw ma ml)) sz) := by
  refine cStart (QA := fun A => cQl D (fun (r : Int64) (u : (Nat → Int32) × (Nat → Nat → Int32) × (Nat → Nat → Int64)) => post r u.1 u.2.1 u.2.2) (fun u => wM aM C u.1 mw u.2.1 u.2.2) A) (cc := cX12_wouldOf) (maxL := 6) (ret := (some .long)) (by decide) (Nat.le_of_ble_eq_true rfl) ?_
  intro p e s m args below meth c A ls hx hb hr hml hown hw hlocks hname hK hN hA hP hD hS hl
  generalize hQ : MQ below _ args s 0 0 A = Q
  have hl : lv_has ls 6 [(0, .ref (aM 0)), (1, .int p1), (2, .int p2)] := hl
  obtain ⟨H, hH⟩ : ∃ H, H = s.heap := ⟨_, rfl⟩
  obtain ⟨locs, hlo⟩ : ∃ z : List Loc, z = [] := ⟨_, rfl⟩
  have hP : va_P D vwCl (List.flatten (wM aM C ms mw ma ml)) H := by rw [hH]; exact hP
  have hS : va_S A s.heap H locs := by rw [hH, hlo]; exact hS
  rw [show W p l e rmX12_wouldOf s m args below meth c s.heap [] 0 0 Q (F0 m 0 ls []) = W p l e rmX12_wouldOf s m args below meth c H locs 0 0 Q (F0 m 0 ls []) from by rw [hH, hlo]]
  refine lv_aload_n hx hb dX12_wouldOf_0 rfl (lv_at hl 0 rfl) ?_
  refine lv_iload_n hx hb dX12_wouldOf_1 rfl (lv_at hl 1 rfl) ?_
  refine cGoAI (cRunAV (As := [.int p1]) (rest := []) ⟨hx, hb, hml, hown, hw⟩ hK hN hP hD (k_X12_optionOf l D C _ aM  ms mw ma ml p1 h) (cwV 1 hw (goodV mw_8_44 mw_8_46 mw_s154 mw_1_13 mw_8_47) rfl rfl rfl (by decide +kernel) ⟨Nat.le_of_ble_eq_true rfl, Nat.le_of_ble_eq_true rfl⟩) rfl rfl rfl hl.1 rfl (Nat.le_of_ble_eq_true rfl) dX12_wouldOf_2 ⟨Nat.zero_le _, Nat.zero_le _⟩) hP hD hS hA (fun r1 u H locs h hP hD hS => ?_)
  have hP : va_P D vwCl (List.flatten (wM aM C ms mw ma ml)) H := hP
  have hD : va_D A (List.flatten (wM aM C ms mw ma ml)) := hD
  refine lv_istore_n (lv' := [(3, .int r1), (0, .ref (aM 0)), (1, .int p1), (2, .int p2)]) hx hb dX12_wouldOf_5 rfl hl (by decide) rfl (fun ls hl => ?_)
  refine lv_aload_n hx hb dX12_wouldOf_6 rfl (lv_at hl 1 rfl) ?_
  refine lv_iload_n hx hb dX12_wouldOf_7 rfl (lv_at hl 2 rfl) ?_
  refine lv_iload_n hx hb dX12_wouldOf_8 rfl (lv_at hl 3 rfl) ?_
  refine cGoAV (cRunAV (As := [.int p1, .int p2]) (rest := []) ⟨hx, hb, hml, hown, hw⟩ hK hN hP hD (k_X12_hasOption l D C _ aM  ms mw ma ml p1 p2 h) (cwV 2 hw (goodV mw_8_48 mw_8_50 mw_s155 mw_1_13 mw_8_51) rfl rfl rfl (by decide +kernel) ⟨Nat.le_of_ble_eq_true rfl, Nat.le_of_ble_eq_true rfl⟩) rfl rfl rfl hl.1 rfl (Nat.le_of_ble_eq_true rfl) dX12_wouldOf_9 ⟨Nat.zero_le _, Nat.zero_le _⟩) hP hD hS hA (fun ma_2 H locs h hP hD hS => ?_)
  have hP : va_P D vwCl (List.flatten (wM aM C ms mw ma_2 ml)) H := hP
  have hD : va_D A (List.flatten (wM aM C ms mw ma_2 ml)) := hD
  refine lv_aload_n hx hb dX12_wouldOf_12 rfl (lv_at hl 1 rfl) ?_
  refine lv_iload_n hx hb dX12_wouldOf_13 rfl (lv_at hl 2 rfl) ?_
  refine cGoAL (cRunAV (As := [.int p1]) (rest := []) ⟨hx, hb, hml, hown, hw⟩ hK hN hP hD (k_X12_costNow l D C _ aM  ms mw ma_2 ml p1 h) (cwV 1 hw (goodV mw_8_60 mw_8_62 mw_s157 mw_1_13 mw_8_63) rfl rfl rfl (by decide +kernel) ⟨Nat.le_of_ble_eq_true rfl, Nat.le_of_ble_eq_true rfl⟩) rfl rfl rfl hl.1 rfl (Nat.le_of_ble_eq_true rfl) dX12_wouldOf_14 ⟨Nat.zero_le _, Nat.zero_le _⟩) hP hD hS hA (fun r6 u H locs h hP hD hS => ?_)
  obtain ⟨ms_3, ma_4, ml_5⟩ := u
  have hP : va_P D vwCl (List.flatten (wM aM C ms_3 mw ma_4 ml_5)) H := hP
  have hD : va_D A (List.flatten (wM aM C ms_3 mw ma_4 ml_5)) := hD
  refine lv_lstore (lv' := [(4, .long r6), (3, .int r1), (0, .ref (aM 0)), (1, .int p1), (2, .int p2)]) hx hb dX12_wouldOf_17 hl (by decide) rfl (fun ls hl => ?_)
  refine lv_aload_n hx hb dX12_wouldOf_19 rfl (lv_at hl 2 rfl) ?_
  refine lv_iload_n hx hb dX12_wouldOf_20 rfl (lv_at hl 3 rfl) ?_
  refine lv_iload_n hx hb dX12_wouldOf_21 rfl (lv_at hl 1 rfl) ?_
  refine cGoAV (cRunAV (As := [.int p1, .int r1]) (rest := []) ⟨hx, hb, hml, hown, hw⟩ hK hN hP hD (k_X12_hasOption l D C _ aM  ms_3 mw ma_4 ml_5 p1 r1 h) (cwV 2 hw (goodV mw_8_48 mw_8_50 mw_s155 mw_1_13 mw_8_51) rfl rfl rfl (by decide +kernel) ⟨Nat.le_of_ble_eq_true rfl, Nat.le_of_ble_eq_true rfl⟩) rfl rfl rfl hl.1 rfl (Nat.le_of_ble_eq_true rfl) dX12_wouldOf_22 ⟨Nat.zero_le _, Nat.zero_le _⟩) hP hD hS hA (fun ma_7 H locs h hP hD hS => ?_)
  have hP : va_P D vwCl (List.flatten (wM aM C ms_3 mw ma_7 ml_5)) H := hP
  have hD : va_D A (List.flatten (wM aM C ms_3 mw ma_7 ml_5)) := hD
  refine lv_lload hx hb dX12_wouldOf_25 (lv_at hl 0 rfl) ?_
  rw [← hQ]
  exact cRetL (v := r6) (ms_3, ma_7, ml_5) hx hb hr hlocks hS hP hD h dX12_wouldOf_27
abbrev vsX12_would : List Cond := Cond.code yX12_would cX12_would 3 (some .long) :: WS
abbrev rmX12_would : Room := { frames := 7, cells := 0, slots := 0, locals := 165 }
set_option maxHeartbeats 4000000 in
set_option maxRecDepth 100000 in
theorem k_X12_would (l : Launch) (D : va_G) (C : Nat → ClassId) (sz : Nat) (aM : Nat → Nat)  (ms : Nat → Int32) (mw : Nat → Int64) (ma : Nat → Nat → Int32) (ml : Nat → Nat → Int64) (p1 : Int32) (p2 : Int32) {post : Int64 → (Nat → Int32) → (Nat → Nat → Int32) → (Nat → Nat → Int64) → Prop} (h : P_X12_would ms ma ml p1 p2 post) : Met l yX12_would vsX12_would rmX12_would (cPre D C [.ref (aM 0), .int p1, .int p2] sz (wM aM C ms mw ma ml)) (cQl D (fun (r : Int64) (u : (Nat → Int32) × (Nat → Nat → Int32) × (Nat → Nat → Int64)) => post r u.1 u.2.1 u.2.2) (fun u => wM aM C u.1 mw u.2.1 u.2.2) (va_A (List.flatten (wM aM C ms mw ma ml)) sz)) 0 0 (va_A (List.flatten (wM aM C ms mw ma ml)) sz) := by
  refine cStart (QA := fun A => cQl D (fun (r : Int64) (u : (Nat → Int32) × (Nat → Nat → Int32) × (Nat → Nat → Int64)) => post r u.1 u.2.1 u.2.2) (fun u => wM aM C u.1 mw u.2.1 u.2.2) A) (cc := cX12_would) (maxL := 3) (ret := (some .long)) (by decide) (Nat.le_of_ble_eq_true rfl) ?_
  intro p e s m args below meth c A ls hx hb hr hml hown hw hlocks hname hK hN hA hP hD hS hl
  generalize hQ : MQ below _ args s 0 0 A = Q
  have hl : lv_has ls 3 [(0, .ref (aM 0)), (1, .int p1), (2, .int p2)] := hl
  obtain ⟨H, hH⟩ : ∃ H, H = s.heap := ⟨_, rfl⟩
  obtain ⟨locs, hlo⟩ : ∃ z : List Loc, z = [] := ⟨_, rfl⟩
  have hP : va_P D vwCl (List.flatten (wM aM C ms mw ma ml)) H := by rw [hH]; exact hP
  have hS : va_S A s.heap H locs := by rw [hH, hlo]; exact hS
  rw [show W p l e rmX12_would s m args below meth c s.heap [] 0 0 Q (F0 m 0 ls []) = W p l e rmX12_would s m args below meth c H locs 0 0 Q (F0 m 0 ls []) from by rw [hH, hlo]]
  refine lv_aload_n hx hb dX12_would_0 rfl (lv_at hl 0 rfl) ?_
  refine lv_iconst (v := 0) hx hb dX12_would_1 (by decide) ?_
  refine va_put (D := D) (ci := 12) (v := .int 0) (ty := .int) (C := RX12) (T := TX12) (N := 51) hx hb hw inW_X12 tyX12 tyX12_ok nmX12 hown hK hP hD hS 0 rfl rfl 0 (by decide) (hw _ mw_6_43) (fun _ h9 => h9) rfl (by decide +kernel) rfl rfl (Nat.le_of_ble_eq_true rfl) dX12_would_2 (fun H locs hP hD hS => ?_)
  refine lv_aload_n hx hb dX12_would_5 rfl (lv_at hl 0 rfl) ?_
  refine lv_iload_n hx hb dX12_would_6 rfl (lv_at hl 1 rfl) ?_
  have hP : va_P D vwCl (List.flatten (wM aM C (va_up ms 0 0) mw ma ml)) H := hP
  have hD : va_D A (List.flatten (wM aM C (va_up ms 0 0) mw ma ml)) := hD
  refine cGoAI (cRunAV (As := [.int p1]) (rest := []) ⟨hx, hb, hml, hown, hw⟩ hK hN hP hD (k_X12_isBike l D C _ aM  (va_up ms 0 0) mw ma ml p1 h) (cwV 1 hw (goodV mw_7_143 mw_7_145 mw_s133 mw_1_13 mw_7_146) rfl rfl rfl (by decide +kernel) ⟨Nat.le_of_ble_eq_true rfl, Nat.le_of_ble_eq_true rfl⟩) rfl rfl rfl hl.1 rfl (Nat.le_of_ble_eq_true rfl) dX12_would_7 ⟨Nat.zero_le _, Nat.zero_le _⟩) hP hD hS hA (fun r1 u H locs h hP hD hS => ?_)
  have hP : va_P D vwCl (List.flatten (wM aM C (va_up ms 0 0) mw ma ml)) H := hP
  have hD : va_D A (List.flatten (wM aM C (va_up ms 0 0) mw ma ml)) := hD
  refine lv_if_eq (tgt := 30) hx hb dX12_would_10 (by decide) (fun c2 => ?_) (fun c2 => ?_)
  · have h := h.1 c2
    refine lv_ldc2 (v := (-2)) hx hb hown (hw _ mw_7_208) dX12_would_30 ?_
    rw [← hQ]
    exact cRetL (v := (-2)) ((va_up ms 0 0), ma, ml) hx hb hr hlocks hS hP hD h dX12_would_33
  · have h := h.2 c2
    refine lv_aload_n hx hb dX12_would_13 rfl (lv_at hl 0 rfl) ?_
    refine lv_iload_n hx hb dX12_would_14 rfl (lv_at hl 2 rfl) ?_
    refine cGoAI (cRunAV (As := [.int p2]) (rest := []) ⟨hx, hb, hml, hown, hw⟩ hK hN hP hD (k_X12_isOption l D C _ aM  (va_up ms 0 0) mw ma ml p2 h) (cwV 1 hw (goodV mw_8_36 mw_8_38 mw_s152 mw_1_13 mw_8_39) rfl rfl rfl (by decide +kernel) ⟨Nat.le_of_ble_eq_true rfl, Nat.le_of_ble_eq_true rfl⟩) rfl rfl rfl hl.1 rfl (Nat.le_of_ble_eq_true rfl) dX12_would_15 ⟨Nat.zero_le _, Nat.zero_le _⟩) hP hD hS hA (fun r3 u H locs h hP hD hS => ?_)
    have hP : va_P D vwCl (List.flatten (wM aM C (va_up ms 0 0) mw ma ml)) H := hP
    have hD : va_D A (List.flatten (wM aM C (va_up ms 0 0) mw ma ml)) := hD
    refine lv_if_eq (tgt := 30) hx hb dX12_would_18 (by decide) (fun c4 => ?_) (fun c4 => ?_)
    · have h := h.1 c4
      refine lv_ldc2 (v := (-2)) hx hb hown (hw _ mw_7_208) dX12_would_30 ?_
      rw [← hQ]
      exact cRetL (v := (-2)) ((va_up ms 0 0), ma, ml) hx hb hr hlocks hS hP hD h dX12_would_33
    · have h := h.2 c4
      refine lv_aload_n hx hb dX12_would_21 rfl (lv_at hl 0 rfl) ?_
      refine lv_iload_n hx hb dX12_would_22 rfl (lv_at hl 1 rfl) ?_
      refine lv_iload_n hx hb dX12_would_23 rfl (lv_at hl 2 rfl) ?_
      refine cGoAL (cRunAV (As := [.int p1, .int p2]) (rest := []) ⟨hx, hb, hml, hown, hw⟩ hK hN hP hD (k_X12_wouldOf l D C _ aM  (va_up ms 0 0) mw ma ml p1 p2 h) (cwV 2 hw (goodV mw_8_56 mw_8_58 mw_s156 mw_1_13 mw_8_59) rfl rfl rfl (by decide +kernel) ⟨Nat.le_of_ble_eq_true rfl, Nat.le_of_ble_eq_true rfl⟩) rfl rfl rfl hl.1 rfl (Nat.le_of_ble_eq_true rfl) dX12_would_24 ⟨Nat.zero_le _, Nat.zero_le _⟩) hP hD hS hA (fun r8 u H locs h hP hD hS => ?_)
      obtain ⟨ms_5, ma_6, ml_7⟩ := u
      have hP : va_P D vwCl (List.flatten (wM aM C ms_5 mw ma_6 ml_7)) H := hP
      have hD : va_D A (List.flatten (wM aM C ms_5 mw ma_6 ml_7)) := hD
      refine lv_goto (tgt := 33) hx hb dX12_would_27 (by decide) ?_
      rw [← hQ]
      exact cRetL (v := r8) (ms_5, ma_6, ml_7) hx hb hr hlocks hS hP hD h dX12_would_33
abbrev vsX12_bestOf : List Cond := Cond.code yX12_bestOf cX12_bestOf 6 (some .int) :: WS
abbrev rmX12_bestOf : Room := { frames := 7, cells := 0, slots := 0, locals := 165 }
set_option maxHeartbeats 4000000 in
set_option maxRecDepth 100000 in
theorem k_X12_bestOf (l : Launch) (D : va_G) (C : Nat → ClassId) (sz : Nat) (aM : Nat → Nat)  (ms : Nat → Int32) (mw : Nat → Int64) (ma : Nat → Nat → Int32) (ml : Nat → Nat → Int64) (p1 : Int32) {post : Int32 → (Nat → Int32) → (Nat → Int64) → (Nat → Nat → Int32) → (Nat → Nat → Int64) → Prop} (h : P_X12_bestOf ms mw ma ml p1 post) : Met l yX12_bestOf vsX12_bestOf rmX12_bestOf (cPre D C [.ref (aM 0), .int p1] sz (wM aM C ms mw ma ml)) (cQi D (fun (r : Int32) (u : (Nat → Int32) × (Nat → Int64) × (Nat → Nat → Int32) × (Nat → Nat → Int64)) => post r u.1 u.2.1 u.2.2.1 u.2.2.2) (fun u => wM aM C u.1 u.2.1 u.2.2.1 u.2.2.2) (va_A (List.flatten (wM aM C ms mw ma ml)) sz)) 0 0 (va_A (List.flatten (wM aM C ms mw ma ml)) sz) := by
  refine cStart (QA := fun A => cQi D (fun (r : Int32) (u : (Nat → Int32) × (Nat → Int64) × (Nat → Nat → Int32) × (Nat → Nat → Int64)) => post r u.1 u.2.1 u.2.2.1 u.2.2.2) (fun u => wM aM C u.1 u.2.1 u.2.2.1 u.2.2.2) A) (cc := cX12_bestOf) (maxL := 6) (ret := (some .int)) (by decide) (Nat.le_of_ble_eq_true rfl) ?_
  intro p e s m args below meth c A ls hx hb hr hml hown hw hlocks hname hK hN hA hP hD hS hl
  generalize hQ : MQ below _ args s 0 0 A = Q
  have hl : lv_has ls 6 [(0, .ref (aM 0)), (1, .int p1)] := hl
  obtain ⟨H, hH⟩ : ∃ H, H = s.heap := ⟨_, rfl⟩
  obtain ⟨locs, hlo⟩ : ∃ z : List Loc, z = [] := ⟨_, rfl⟩
  have hP : va_P D vwCl (List.flatten (wM aM C ms mw ma ml)) H := by rw [hH]; exact hP
  have hS : va_S A s.heap H locs := by rw [hH, hlo]; exact hS
  rw [show W p l e rmX12_bestOf s m args below meth c s.heap [] 0 0 Q (F0 m 0 ls []) = W p l e rmX12_bestOf s m args below meth c H locs 0 0 Q (F0 m 0 ls []) from by rw [hH, hlo]]
  have N14 : ∀  (n14 : Nat) (x2_ : Int32) (x3_ : Int32) (ms : Nat → Int32) (mw : Nat → Int64) (ma : Nat → Nat → Int32) (ml : Nat → Nat → Int64) (H : Heap) (locs : List Loc) (ls : Array Slot), P_X12_bestOf_14 p1 post   n14 x2_ x3_ ms mw ma ml → va_P D vwCl (List.flatten (wM aM C ms mw ma ml)) H → va_D A (List.flatten (wM aM C ms mw ma ml)) → va_S A s.heap H locs → lv_has ls 6 [(0, .ref (aM 0)), (1, .int p1), (2, .int x2_), (3, .int x3_)] → W p l e rmX12_bestOf s m args below meth c H locs 0 0 Q (F0 m 14 ls []) := by
    intro n14
    induction n14 with
    | zero => intro x2_ x3_ ms mw ma ml H locs ls h hP hD hS hl; exact False.elim h
    | succ n14 ih14 =>
      intro x2_ x3_ ms mw ma ml H locs ls h hP hD hS hl
      have h : P_X12_bestOf_14_b p1 post   (P_X12_bestOf_14 p1 post   n14) x2_ x3_ ms mw ma ml := h
      unfold P_X12_bestOf_14_b at h
      refine lv_iload_n hx hb dX12_bestOf_14 rfl (lv_at hl 3 rfl) ?_
      refine lv_aload_n hx hb dX12_bestOf_15 rfl (lv_at hl 0 rfl) ?_
      refine cGoAI (cRunAV (As := []) (rest := [.int x3_]) ⟨hx, hb, hml, hown, hw⟩ hK hN hP hD (k_X12_optionMany l D C _ aM  ms mw ma ml  h) (cwV 0 hw (goodV mw_8_40 mw_8_42 mw_s153 mw_1_13 mw_8_43) rfl rfl rfl (by decide +kernel) ⟨Nat.le_of_ble_eq_true rfl, Nat.le_of_ble_eq_true rfl⟩) rfl rfl rfl hl.1 rfl (Nat.le_of_ble_eq_true rfl) dX12_bestOf_16 ⟨Nat.zero_le _, Nat.zero_le _⟩) hP hD hS hA (fun r1 u H locs h hP hD hS => ?_)
      have hP : va_P D vwCl (List.flatten (wM aM C ms mw ma ml)) H := hP
      have hD : va_D A (List.flatten (wM aM C ms mw ma ml)) := hD
      refine lv_icmp_ge (tgt := 57) hx hb dX12_bestOf_19 (by decide) (fun c2 => ?_) (fun c2 => ?_)
      · have h := h.1 c2
        refine lv_iload_n hx hb dX12_bestOf_57 rfl (lv_at hl 2 rfl) ?_
        rw [← hQ]
        exact cRetI (v := x2_) (ms, mw, ma, ml) hx hb hr hlocks hS hP hD h dX12_bestOf_58
      · have h := h.2 c2
        refine lv_aload_n hx hb dX12_bestOf_22 rfl (lv_at hl 0 rfl) ?_
        refine lv_iload_n hx hb dX12_bestOf_23 rfl (lv_at hl 1 rfl) ?_
        refine lv_iload_n hx hb dX12_bestOf_24 rfl (lv_at hl 3 rfl) ?_
        refine cGoAL (cRunAV (As := [.int p1, .int x3_]) (rest := []) ⟨hx, hb, hml, hown, hw⟩ hK hN hP hD (k_X12_wouldOf l D C _ aM  ms mw ma ml p1 x3_ h) (cwV 2 hw (goodV mw_8_56 mw_8_58 mw_s156 mw_1_13 mw_8_59) rfl rfl rfl (by decide +kernel) ⟨Nat.le_of_ble_eq_true rfl, Nat.le_of_ble_eq_true rfl⟩) rfl rfl rfl hl.1 rfl (Nat.le_of_ble_eq_true rfl) dX12_bestOf_25 ⟨Nat.zero_le _, Nat.zero_le _⟩) hP hD hS hA (fun r6 u H locs h hP hD hS => ?_)
        obtain ⟨ms_3, ma_4, ml_5⟩ := u
        have hP : va_P D vwCl (List.flatten (wM aM C ms_3 mw ma_4 ml_5)) H := hP
        have hD : va_D A (List.flatten (wM aM C ms_3 mw ma_4 ml_5)) := hD
        refine lv_lstore (lv' := [(4, .long r6), (0, .ref (aM 0)), (1, .int p1), (2, .int x2_), (3, .int x3_)]) hx hb dX12_bestOf_28 hl (by decide) rfl (fun ls hl => ?_)
        refine lv_lload hx hb dX12_bestOf_30 (lv_at hl 0 rfl) ?_
        refine lv_aload_n hx hb dX12_bestOf_32 rfl (lv_at hl 1 rfl) ?_
        refine va_get (D := D) (ci := 12) (v := .long (mw 1)) (C := RX12) (T := TX12) (N := 51) hx hb hw inW_X12 hown hK hP 0 rfl rfl 39 (by decide) (hw _ mw_6_82) (fun _ h9 => h9) rfl dX12_bestOf_33 ?_
        refine W.lcmp hx hb dX12_bestOf_36 ?_
        refine lv_if_lt (tgt := 43) hx hb dX12_bestOf_37 (by decide) (fun c7 => ?_) (fun c7 => ?_)
        · have c7 : r6 < (mw 1) := (lg_cmp_lt _ _).mp c7
          have h := h.1 c7
          refine lv_iload_n hx hb dX12_bestOf_43 rfl (lv_at hl 4 rfl) ?_
          refine lv_istore_n (lv' := [(2, .int x3_), (4, .long r6), (0, .ref (aM 0)), (1, .int p1), (3, .int x3_)]) hx hb dX12_bestOf_44 rfl hl (by decide) rfl (fun ls hl => ?_)
          refine lv_aload_n hx hb dX12_bestOf_45 rfl (lv_at hl 2 rfl) ?_
          refine lv_lload hx hb dX12_bestOf_46 (lv_at hl 1 rfl) ?_
          refine va_put (D := D) (ci := 12) (v := .long r6) (ty := .long) (C := RX12) (T := TX12) (N := 51) hx hb hw inW_X12 tyX12 tyX12_ok nmX12 hown hK hP hD hS 0 rfl rfl 39 (by decide) (hw _ mw_6_82) (fun _ h9 => h9) rfl (by decide +kernel) rfl rfl (Nat.le_of_ble_eq_true rfl) dX12_bestOf_48 (fun H locs hP hD hS => ?_)
          refine lv_iinc (v := (x3_ + 1)) (lv' := [(3, .int (x3_ + 1)), (2, .int x3_), (4, .long r6), (0, .ref (aM 0)), (1, .int p1)]) hx hb dX12_bestOf_51 hl (k := 4) rfl rfl (by decide) rfl (fun ls hl => ?_)
          refine lv_goto (tgt := 14) hx hb dX12_bestOf_54 (by decide) ?_
          have hP : va_P D vwCl (List.flatten (wM aM C ms_3 (va_up mw 1 r6) ma_4 ml_5)) H := hP
          have hD : va_D A (List.flatten (wM aM C ms_3 (va_up mw 1 r6) ma_4 ml_5)) := hD
          exact ih14 x3_ (x3_ + 1) ms_3 (va_up mw 1 r6) ma_4 ml_5 _ _ _ h hP hD hS (lv_sub hl [3, 4, 1, 0] rfl)
        · have c7 : ¬ r6 < (mw 1) := fun q => c7 ((lg_cmp_lt _ _).mpr q)
          have h := h.2 c7
          refine lv_goto (tgt := 51) hx hb dX12_bestOf_40 (by decide) ?_
          refine lv_iinc (v := (x3_ + 1)) (lv' := [(3, .int (x3_ + 1)), (4, .long r6), (0, .ref (aM 0)), (1, .int p1), (2, .int x2_)]) hx hb dX12_bestOf_51 hl (k := 4) rfl rfl (by decide) rfl (fun ls hl => ?_)
          refine lv_goto (tgt := 14) hx hb dX12_bestOf_54 (by decide) ?_
          exact ih14 x2_ (x3_ + 1) ms_3 mw ma_4 ml_5 _ _ _ h hP hD hS (lv_sub hl [2, 3, 4, 0] rfl)
  refine lv_iconst (v := 0) hx hb dX12_bestOf_0 (by decide) ?_
  refine lv_istore_n (lv' := [(2, .int 0), (0, .ref (aM 0)), (1, .int p1)]) hx hb dX12_bestOf_1 rfl hl (by decide) rfl (fun ls hl => ?_)
  refine lv_aload_n hx hb dX12_bestOf_2 rfl (lv_at hl 1 rfl) ?_
  refine lv_aload_n hx hb dX12_bestOf_3 rfl (lv_at hl 1 rfl) ?_
  refine lv_iload_n hx hb dX12_bestOf_4 rfl (lv_at hl 2 rfl) ?_
  refine lv_iconst (v := 0) hx hb dX12_bestOf_5 (by decide) ?_
  refine cGoAL (cRunAV (As := [.int p1, .int 0]) (rest := [.ref (aM 0)]) ⟨hx, hb, hml, hown, hw⟩ hK hN hP hD (k_X12_wouldOf l D C _ aM  ms mw ma ml p1 0 h) (cwV 2 hw (goodV mw_8_56 mw_8_58 mw_s156 mw_1_13 mw_8_59) rfl rfl rfl (by decide +kernel) ⟨Nat.le_of_ble_eq_true rfl, Nat.le_of_ble_eq_true rfl⟩) rfl rfl rfl hl.1 rfl (Nat.le_of_ble_eq_true rfl) dX12_bestOf_6 ⟨Nat.zero_le _, Nat.zero_le _⟩) hP hD hS hA (fun r11 u H locs h hP hD hS => ?_)
  obtain ⟨ms_8, ma_9, ml_10⟩ := u
  have hP : va_P D vwCl (List.flatten (wM aM C ms_8 mw ma_9 ml_10)) H := hP
  have hD : va_D A (List.flatten (wM aM C ms_8 mw ma_9 ml_10)) := hD
  refine va_put (D := D) (ci := 12) (v := .long r11) (ty := .long) (C := RX12) (T := TX12) (N := 51) hx hb hw inW_X12 tyX12 tyX12_ok nmX12 hown hK hP hD hS 0 rfl rfl 39 (by decide) (hw _ mw_6_82) (fun _ h9 => h9) rfl (by decide +kernel) rfl rfl (Nat.le_of_ble_eq_true rfl) dX12_bestOf_9 (fun H locs hP hD hS => ?_)
  refine lv_iconst (v := 1) hx hb dX12_bestOf_12 (by decide) ?_
  refine lv_istore_n (lv' := [(3, .int 1), (2, .int 0), (0, .ref (aM 0)), (1, .int p1)]) hx hb dX12_bestOf_13 rfl hl (by decide) rfl (fun ls hl => ?_)
  have hP : va_P D vwCl (List.flatten (wM aM C ms_8 (va_up mw 1 r11) ma_9 ml_10)) H := hP
  have hD : va_D A (List.flatten (wM aM C ms_8 (va_up mw 1 r11) ma_9 ml_10)) := hD
  obtain ⟨n, h⟩ := h
  exact N14  n 0 1 ms_8 (va_up mw 1 r11) ma_9 ml_10 _ _ _ h hP hD hS (lv_sub hl [2, 3, 1, 0] rfl)
abbrev vsX12_best : List Cond := Cond.code yX12_best cX12_best 2 (some .int) :: WS
abbrev rmX12_best : Room := { frames := 8, cells := 0, slots := 0, locals := 190 }
set_option maxHeartbeats 4000000 in
set_option maxRecDepth 100000 in
theorem k_X12_best (l : Launch) (D : va_G) (C : Nat → ClassId) (sz : Nat) (aM : Nat → Nat)  (ms : Nat → Int32) (mw : Nat → Int64) (ma : Nat → Nat → Int32) (ml : Nat → Nat → Int64) (p1 : Int32) {post : Int32 → (Nat → Int32) → (Nat → Int64) → (Nat → Nat → Int32) → (Nat → Nat → Int64) → Prop} (h : P_X12_best ms mw ma ml p1 post) : Met l yX12_best vsX12_best rmX12_best (cPre D C [.ref (aM 0), .int p1] sz (wM aM C ms mw ma ml)) (cQi D (fun (r : Int32) (u : (Nat → Int32) × (Nat → Int64) × (Nat → Nat → Int32) × (Nat → Nat → Int64)) => post r u.1 u.2.1 u.2.2.1 u.2.2.2) (fun u => wM aM C u.1 u.2.1 u.2.2.1 u.2.2.2) (va_A (List.flatten (wM aM C ms mw ma ml)) sz)) 0 0 (va_A (List.flatten (wM aM C ms mw ma ml)) sz) := by
  refine cStart (QA := fun A => cQi D (fun (r : Int32) (u : (Nat → Int32) × (Nat → Int64) × (Nat → Nat → Int32) × (Nat → Nat → Int64)) => post r u.1 u.2.1 u.2.2.1 u.2.2.2) (fun u => wM aM C u.1 u.2.1 u.2.2.1 u.2.2.2) A) (cc := cX12_best) (maxL := 2) (ret := (some .int)) (by decide) (Nat.le_of_ble_eq_true rfl) ?_
  intro p e s m args below meth c A ls hx hb hr hml hown hw hlocks hname hK hN hA hP hD hS hl
  generalize hQ : MQ below _ args s 0 0 A = Q
  have hl : lv_has ls 2 [(0, .ref (aM 0)), (1, .int p1)] := hl
  obtain ⟨H, hH⟩ : ∃ H, H = s.heap := ⟨_, rfl⟩
  obtain ⟨locs, hlo⟩ : ∃ z : List Loc, z = [] := ⟨_, rfl⟩
  have hP : va_P D vwCl (List.flatten (wM aM C ms mw ma ml)) H := by rw [hH]; exact hP
  have hS : va_S A s.heap H locs := by rw [hH, hlo]; exact hS
  rw [show W p l e rmX12_best s m args below meth c s.heap [] 0 0 Q (F0 m 0 ls []) = W p l e rmX12_best s m args below meth c H locs 0 0 Q (F0 m 0 ls []) from by rw [hH, hlo]]
  refine lv_aload_n hx hb dX12_best_0 rfl (lv_at hl 0 rfl) ?_
  refine lv_iconst (v := 0) hx hb dX12_best_1 (by decide) ?_
  refine va_put (D := D) (ci := 12) (v := .int 0) (ty := .int) (C := RX12) (T := TX12) (N := 51) hx hb hw inW_X12 tyX12 tyX12_ok nmX12 hown hK hP hD hS 0 rfl rfl 0 (by decide) (hw _ mw_6_43) (fun _ h9 => h9) rfl (by decide +kernel) rfl rfl (Nat.le_of_ble_eq_true rfl) dX12_best_2 (fun H locs hP hD hS => ?_)
  refine lv_aload_n hx hb dX12_best_5 rfl (lv_at hl 0 rfl) ?_
  refine lv_iload_n hx hb dX12_best_6 rfl (lv_at hl 1 rfl) ?_
  have hP : va_P D vwCl (List.flatten (wM aM C (va_up ms 0 0) mw ma ml)) H := hP
  have hD : va_D A (List.flatten (wM aM C (va_up ms 0 0) mw ma ml)) := hD
  refine cGoAI (cRunAV (As := [.int p1]) (rest := []) ⟨hx, hb, hml, hown, hw⟩ hK hN hP hD (k_X12_isBike l D C _ aM  (va_up ms 0 0) mw ma ml p1 h) (cwV 1 hw (goodV mw_7_143 mw_7_145 mw_s133 mw_1_13 mw_7_146) rfl rfl rfl (by decide +kernel) ⟨Nat.le_of_ble_eq_true rfl, Nat.le_of_ble_eq_true rfl⟩) rfl rfl rfl hl.1 rfl (Nat.le_of_ble_eq_true rfl) dX12_best_7 ⟨Nat.zero_le _, Nat.zero_le _⟩) hP hD hS hA (fun r1 u H locs h hP hD hS => ?_)
  have hP : va_P D vwCl (List.flatten (wM aM C (va_up ms 0 0) mw ma ml)) H := hP
  have hD : va_D A (List.flatten (wM aM C (va_up ms 0 0) mw ma ml)) := hD
  refine lv_if_eq (tgt := 21) hx hb dX12_best_10 (by decide) (fun c2 => ?_) (fun c2 => ?_)
  · have h := h.1 c2
    refine lv_bipush (v := (-2)) hx hb dX12_best_21 (by decide) ?_
    rw [← hQ]
    exact cRetI (v := (-2)) ((va_up ms 0 0), mw, ma, ml) hx hb hr hlocks hS hP hD h dX12_best_23
  · have h := h.2 c2
    refine lv_aload_n hx hb dX12_best_13 rfl (lv_at hl 0 rfl) ?_
    refine lv_iload_n hx hb dX12_best_14 rfl (lv_at hl 1 rfl) ?_
    refine cGoAI (cRunAV (As := [.int p1]) (rest := []) ⟨hx, hb, hml, hown, hw⟩ hK hN hP hD (k_X12_bestOf l D C _ aM  (va_up ms 0 0) mw ma ml p1 h) (cwV 1 hw (goodV mw_8_68 mw_8_70 mw_s158 mw_1_13 mw_8_71) rfl rfl rfl (by decide +kernel) ⟨Nat.le_of_ble_eq_true rfl, Nat.le_of_ble_eq_true rfl⟩) rfl rfl rfl hl.1 rfl (Nat.le_of_ble_eq_true rfl) dX12_best_15 ⟨Nat.zero_le _, Nat.zero_le _⟩) hP hD hS hA (fun r7 u H locs h hP hD hS => ?_)
    obtain ⟨ms_3, mw_4, ma_5, ml_6⟩ := u
    have hP : va_P D vwCl (List.flatten (wM aM C ms_3 mw_4 ma_5 ml_6)) H := hP
    have hD : va_D A (List.flatten (wM aM C ms_3 mw_4 ma_5 ml_6)) := hD
    refine lv_goto (tgt := 23) hx hb dX12_best_18 (by decide) ?_
    rw [← hQ]
    exact cRetI (v := r7) (ms_3, mw_4, ma_5, ml_6) hx hb hr hlocks hS hP hD h dX12_best_23
abbrev vsX12_restless : List Cond := Cond.code yX12_restless cX12_restless 3 (some .int) :: WS
abbrev rmX12_restless : Room := { frames := 8, cells := 0, slots := 0, locals := 190 }
set_option maxHeartbeats 4000000 in
set_option maxRecDepth 100000 in
theorem k_X12_restless (l : Launch) (D : va_G) (C : Nat → ClassId) (sz : Nat) (aM : Nat → Nat)  (ms : Nat → Int32) (mw : Nat → Int64) (ma : Nat → Nat → Int32) (ml : Nat → Nat → Int64)  {post : Int32 → (Nat → Int32) → (Nat → Int64) → (Nat → Nat → Int32) → (Nat → Nat → Int64) → Prop} (h : P_X12_restless ms mw ma ml post) : Met l yX12_restless vsX12_restless rmX12_restless (cPre D C [.ref (aM 0)] sz (wM aM C ms mw ma ml)) (cQi D (fun (r : Int32) (u : (Nat → Int32) × (Nat → Int64) × (Nat → Nat → Int32) × (Nat → Nat → Int64)) => post r u.1 u.2.1 u.2.2.1 u.2.2.2) (fun u => wM aM C u.1 u.2.1 u.2.2.1 u.2.2.2) (va_A (List.flatten (wM aM C ms mw ma ml)) sz)) 0 0 (va_A (List.flatten (wM aM C ms mw ma ml)) sz) := by
  refine cStart (QA := fun A => cQi D (fun (r : Int32) (u : (Nat → Int32) × (Nat → Int64) × (Nat → Nat → Int32) × (Nat → Nat → Int64)) => post r u.1 u.2.1 u.2.2.1 u.2.2.2) (fun u => wM aM C u.1 u.2.1 u.2.2.1 u.2.2.2) A) (cc := cX12_restless) (maxL := 3) (ret := (some .int)) (by decide) (Nat.le_of_ble_eq_true rfl) ?_
  intro p e s m args below meth c A ls hx hb hr hml hown hw hlocks hname hK hN hA hP hD hS hl
  generalize hQ : MQ below _ args s 0 0 A = Q
  have hl : lv_has ls 3 [(0, .ref (aM 0))] := hl
  obtain ⟨H, hH⟩ : ∃ H, H = s.heap := ⟨_, rfl⟩
  obtain ⟨locs, hlo⟩ : ∃ z : List Loc, z = [] := ⟨_, rfl⟩
  have hP : va_P D vwCl (List.flatten (wM aM C ms mw ma ml)) H := by rw [hH]; exact hP
  have hS : va_S A s.heap H locs := by rw [hH, hlo]; exact hS
  rw [show W p l e rmX12_restless s m args below meth c s.heap [] 0 0 Q (F0 m 0 ls []) = W p l e rmX12_restless s m args below meth c H locs 0 0 Q (F0 m 0 ls []) from by rw [hH, hlo]]
  have N19 : ∀  (n19 : Nat) (x1_ : Int32) (x2_ : Int32) (ms : Nat → Int32) (mw : Nat → Int64) (ma : Nat → Nat → Int32) (ml : Nat → Nat → Int64) (H : Heap) (locs : List Loc) (ls : Array Slot), P_X12_restless_19  post   n19 x1_ x2_ ms mw ma ml → va_P D vwCl (List.flatten (wM aM C ms mw ma ml)) H → va_D A (List.flatten (wM aM C ms mw ma ml)) → va_S A s.heap H locs → lv_has ls 3 [(0, .ref (aM 0)), (1, .int x1_), (2, .int x2_)] → W p l e rmX12_restless s m args below meth c H locs 0 0 Q (F0 m 19 ls []) := by
    intro n19
    induction n19 with
    | zero => intro x1_ x2_ ms mw ma ml H locs ls h hP hD hS hl; exact False.elim h
    | succ n19 ih19 =>
      intro x1_ x2_ ms mw ma ml H locs ls h hP hD hS hl
      refine lv_iload_n hx hb dX12_restless_19 rfl (lv_at hl 2 rfl) ?_
      refine lv_aload_n hx hb dX12_restless_20 rfl (lv_at hl 0 rfl) ?_
      refine va_get (D := D) (ci := 12) (v := .ref (aM 13)) (C := RX12) (T := TX12) (N := 51) hx hb hw inW_X12 hown hK hP 0 rfl rfl 23 (by decide) (hw _ mw_6_66) (fun _ h9 => h9) rfl dX12_restless_21 ?_
      refine lv_iconst (v := 0) hx hb dX12_restless_24 (by decide) ?_
      refine cIald hx hb hK hP 13 0 rfl rfl 0 (by decide +kernel) (cIn (by decide +kernel)) dX12_restless_25 ?_
      refine lv_icmp_ge (tgt := 62) hx hb dX12_restless_26 (by decide) (fun c1 => ?_) (fun c1 => ?_)
      · have h := h.1 c1
        refine lv_iload_n hx hb dX12_restless_62 rfl (lv_at hl 1 rfl) ?_
        rw [← hQ]
        exact cRetI (v := x1_) (ms, mw, ma, ml) hx hb hr hlocks hS hP hD h dX12_restless_63
      · have h := h.2 c1
        refine lv_aload_n hx hb dX12_restless_29 rfl (lv_at hl 0 rfl) ?_
        refine lv_iload_n hx hb dX12_restless_30 rfl (lv_at hl 2 rfl) ?_
        refine cGoAI (cRunAV (As := [.int x2_]) (rest := []) ⟨hx, hb, hml, hown, hw⟩ hK hN hP hD (k_X12_bestOf l D C _ aM  ms mw ma ml x2_ h) (cwV 1 hw (goodV mw_8_68 mw_8_70 mw_s158 mw_1_13 mw_8_71) rfl rfl rfl (by decide +kernel) ⟨Nat.le_of_ble_eq_true rfl, Nat.le_of_ble_eq_true rfl⟩) rfl rfl rfl hl.1 rfl (Nat.le_of_ble_eq_true rfl) dX12_restless_31 ⟨Nat.zero_le _, Nat.zero_le _⟩) hP hD hS hA (fun r6 u H locs h hP hD hS => ?_)
        obtain ⟨ms_2, mw_3, ma_4, ml_5⟩ := u
        have hP : va_P D vwCl (List.flatten (wM aM C ms_2 mw_3 ma_4 ml_5)) H := hP
        have hD : va_D A (List.flatten (wM aM C ms_2 mw_3 ma_4 ml_5)) := hD
        refine lv_pop hx hb dX12_restless_34 rfl ?_
        refine lv_iload_n hx hb dX12_restless_35 rfl (lv_at hl 1 rfl) ?_
        refine lv_aload_n hx hb dX12_restless_36 rfl (lv_at hl 0 rfl) ?_
        refine va_get (D := D) (ci := 12) (v := .long (mw_3 1)) (C := RX12) (T := TX12) (N := 51) hx hb hw inW_X12 hown hK hP 0 rfl rfl 39 (by decide) (hw _ mw_6_82) (fun _ h9 => h9) rfl dX12_restless_37 ?_
        refine lv_aload_n hx hb dX12_restless_40 rfl (lv_at hl 0 rfl) ?_
        refine lv_iload_n hx hb dX12_restless_41 rfl (lv_at hl 2 rfl) ?_
        refine cGoAL (cRunAV (As := [.int x2_]) (rest := [.long (mw_3 1), .int x1_]) ⟨hx, hb, hml, hown, hw⟩ hK hN hP hD (k_X12_costNow l D C _ aM  ms_2 mw_3 ma_4 ml_5 x2_ h) (cwV 1 hw (goodV mw_8_60 mw_8_62 mw_s157 mw_1_13 mw_8_63) rfl rfl rfl (by decide +kernel) ⟨Nat.le_of_ble_eq_true rfl, Nat.le_of_ble_eq_true rfl⟩) rfl rfl rfl hl.1 rfl (Nat.le_of_ble_eq_true rfl) dX12_restless_42 ⟨Nat.zero_le _, Nat.zero_le _⟩) hP hD hS hA (fun r10 u H locs h hP hD hS => ?_)
        obtain ⟨ms_7, ma_8, ml_9⟩ := u
        have hP : va_P D vwCl (List.flatten (wM aM C ms_7 mw_3 ma_8 ml_9)) H := hP
        have hD : va_D A (List.flatten (wM aM C ms_7 mw_3 ma_8 ml_9)) := hD
        refine W.lcmp hx hb dX12_restless_45 ?_
        refine lv_if_ge (tgt := 53) hx hb dX12_restless_46 (by decide) (fun c11 => ?_) (fun c11 => ?_)
        · have c11 : r10 ≤ (mw_3 1) := (lg_cmp_ge _ _).mp c11
          have h := h.1 c11
          refine lv_iconst (v := 0) hx hb dX12_restless_53 (by decide) ?_
          refine lv_iadd hx hb dX12_restless_54 ?_
          refine lv_topi (fun x12 ex12 => ?_)
          have h := h x12 ex12
          refine lv_istore_n (lv' := [(1, .int x12), (0, .ref (aM 0)), (2, .int x2_)]) hx hb dX12_restless_55 rfl hl (by decide) rfl (fun ls hl => ?_)
          refine lv_iinc (v := (x2_ + 1)) (lv' := [(2, .int (x2_ + 1)), (1, .int x12), (0, .ref (aM 0))]) hx hb dX12_restless_56 hl (k := 2) rfl rfl (by decide) rfl (fun ls hl => ?_)
          refine lv_goto (tgt := 19) hx hb dX12_restless_59 (by decide) ?_
          exact ih19 x12 (x2_ + 1) ms_7 mw_3 ma_8 ml_9 _ _ _ h hP hD hS (lv_sub hl [2, 1, 0] rfl)
        · have c11 : ¬ r10 ≤ (mw_3 1) := fun q => c11 ((lg_cmp_ge _ _).mpr q)
          have h := h.2 c11
          refine lv_iconst (v := 1) hx hb dX12_restless_49 (by decide) ?_
          refine lv_goto (tgt := 54) hx hb dX12_restless_50 (by decide) ?_
          refine lv_iadd hx hb dX12_restless_54 ?_
          refine lv_topi (fun x13 ex13 => ?_)
          have h := h x13 ex13
          refine lv_istore_n (lv' := [(1, .int x13), (0, .ref (aM 0)), (2, .int x2_)]) hx hb dX12_restless_55 rfl hl (by decide) rfl (fun ls hl => ?_)
          refine lv_iinc (v := (x2_ + 1)) (lv' := [(2, .int (x2_ + 1)), (1, .int x13), (0, .ref (aM 0))]) hx hb dX12_restless_56 hl (k := 2) rfl rfl (by decide) rfl (fun ls hl => ?_)
          refine lv_goto (tgt := 19) hx hb dX12_restless_59 (by decide) ?_
          exact ih19 x13 (x2_ + 1) ms_7 mw_3 ma_8 ml_9 _ _ _ h hP hD hS (lv_sub hl [2, 1, 0] rfl)
  refine lv_aload_n hx hb dX12_restless_0 rfl (lv_at hl 0 rfl) ?_
  refine lv_iconst (v := 0) hx hb dX12_restless_1 (by decide) ?_
  refine va_put (D := D) (ci := 12) (v := .int 0) (ty := .int) (C := RX12) (T := TX12) (N := 51) hx hb hw inW_X12 tyX12 tyX12_ok nmX12 hown hK hP hD hS 0 rfl rfl 0 (by decide) (hw _ mw_6_43) (fun _ h9 => h9) rfl (by decide +kernel) rfl rfl (Nat.le_of_ble_eq_true rfl) dX12_restless_2 (fun H locs hP hD hS => ?_)
  refine lv_aload_n hx hb dX12_restless_5 rfl (lv_at hl 0 rfl) ?_
  have hP : va_P D vwCl (List.flatten (wM aM C (va_up ms 0 0) mw ma ml)) H := hP
  have hD : va_D A (List.flatten (wM aM C (va_up ms 0 0) mw ma ml)) := hD
  refine cGoAI (cRunAV (As := []) (rest := []) ⟨hx, hb, hml, hown, hw⟩ hK hN hP hD (k_X12_isRail l D C _ aM  (va_up ms 0 0) mw ma ml  h) (cwV 0 hw (goodV mw_7_204 mw_7_206 mw_s142 mw_1_13 mw_7_207) rfl rfl rfl (by decide +kernel) ⟨Nat.le_of_ble_eq_true rfl, Nat.le_of_ble_eq_true rfl⟩) rfl rfl rfl hl.1 rfl (Nat.le_of_ble_eq_true rfl) dX12_restless_6 ⟨Nat.zero_le _, Nat.zero_le _⟩) hP hD hS hA (fun r14 u H locs h hP hD hS => ?_)
  have hP : va_P D vwCl (List.flatten (wM aM C (va_up ms 0 0) mw ma ml)) H := hP
  have hD : va_D A (List.flatten (wM aM C (va_up ms 0 0) mw ma ml)) := hD
  refine lv_if_ne (tgt := 15) hx hb dX12_restless_9 (by decide) (fun c15 => ?_) (fun c15 => ?_)
  · have h := h.1 c15
    refine lv_iconst (v := 0) hx hb dX12_restless_15 (by decide) ?_
    refine lv_istore_n (lv' := [(1, .int 0), (0, .ref (aM 0))]) hx hb dX12_restless_16 rfl hl (by decide) rfl (fun ls hl => ?_)
    refine lv_iconst (v := 0) hx hb dX12_restless_17 (by decide) ?_
    refine lv_istore_n (lv' := [(2, .int 0), (1, .int 0), (0, .ref (aM 0))]) hx hb dX12_restless_18 rfl hl (by decide) rfl (fun ls hl => ?_)
    obtain ⟨n, h⟩ := h
    exact N19  n 0 0 (va_up ms 0 0) mw ma ml _ _ _ h hP hD hS (lv_sub hl [2, 1, 0] rfl)
  · have h := h.2 c15
    refine lv_bipush (v := (-2)) hx hb dX12_restless_12 (by decide) ?_
    rw [← hQ]
    exact cRetI (v := (-2)) ((va_up ms 0 0), mw, ma, ml) hx hb hr hlocks hS hP hD h dX12_restless_14
abbrev vsX12_round : List Cond := Cond.code yX12_round cX12_round 4 (some .boolean) :: WS
abbrev rmX12_round : Room := { frames := 8, cells := 0, slots := 0, locals := 190 }
set_option maxHeartbeats 4000000 in
set_option maxRecDepth 100000 in
theorem k_X12_round (l : Launch) (D : va_G) (C : Nat → ClassId) (sz : Nat) (aM : Nat → Nat)  (ms : Nat → Int32) (mw : Nat → Int64) (ma : Nat → Nat → Int32) (ml : Nat → Nat → Int64)  {post : Int32 → (Nat → Int32) → (Nat → Int64) → (Nat → Nat → Int32) → (Nat → Nat → Int64) → Prop} (h : P_X12_round ms mw ma ml post) : Met l yX12_round vsX12_round rmX12_round (cPre D C [.ref (aM 0)] sz (wM aM C ms mw ma ml)) (cQi D (fun (r : Int32) (u : (Nat → Int32) × (Nat → Int64) × (Nat → Nat → Int32) × (Nat → Nat → Int64)) => post r u.1 u.2.1 u.2.2.1 u.2.2.2) (fun u => wM aM C u.1 u.2.1 u.2.2.1 u.2.2.2) (va_A (List.flatten (wM aM C ms mw ma ml)) sz)) 0 0 (va_A (List.flatten (wM aM C ms mw ma ml)) sz) := by
  refine cStart (QA := fun A => cQi D (fun (r : Int32) (u : (Nat → Int32) × (Nat → Int64) × (Nat → Nat → Int32) × (Nat → Nat → Int64)) => post r u.1 u.2.1 u.2.2.1 u.2.2.2) (fun u => wM aM C u.1 u.2.1 u.2.2.1 u.2.2.2) A) (cc := cX12_round) (maxL := 4) (ret := (some .boolean)) (by decide) (Nat.le_of_ble_eq_true rfl) ?_
  intro p e s m args below meth c A ls hx hb hr hml hown hw hlocks hname hK hN hA hP hD hS hl
  generalize hQ : MQ below _ args s 0 0 A = Q
  have hl : lv_has ls 4 [(0, .ref (aM 0))] := hl
  obtain ⟨H, hH⟩ : ∃ H, H = s.heap := ⟨_, rfl⟩
  obtain ⟨locs, hlo⟩ : ∃ z : List Loc, z = [] := ⟨_, rfl⟩
  have hP : va_P D vwCl (List.flatten (wM aM C ms mw ma ml)) H := by rw [hH]; exact hP
  have hS : va_S A s.heap H locs := by rw [hH, hlo]; exact hS
  rw [show W p l e rmX12_round s m args below meth c s.heap [] 0 0 Q (F0 m 0 ls []) = W p l e rmX12_round s m args below meth c H locs 0 0 Q (F0 m 0 ls []) from by rw [hH, hlo]]
  have N4 : ∀  (n4 : Nat) (x1_ : Int32) (x2_ : Int32) (ms : Nat → Int32) (mw : Nat → Int64) (ma : Nat → Nat → Int32) (ml : Nat → Nat → Int64) (H : Heap) (locs : List Loc) (ls : Array Slot), P_X12_round_4  post   n4 x1_ x2_ ms mw ma ml → va_P D vwCl (List.flatten (wM aM C ms mw ma ml)) H → va_D A (List.flatten (wM aM C ms mw ma ml)) → va_S A s.heap H locs → lv_has ls 4 [(0, .ref (aM 0)), (1, .int x1_), (2, .int x2_)] → W p l e rmX12_round s m args below meth c H locs 0 0 Q (F0 m 4 ls []) := by
    intro n4
    induction n4 with
    | zero => intro x1_ x2_ ms mw ma ml H locs ls h hP hD hS hl; exact False.elim h
    | succ n4 ih4 =>
      intro x1_ x2_ ms mw ma ml H locs ls h hP hD hS hl
      refine lv_iload_n hx hb dX12_round_4 rfl (lv_at hl 2 rfl) ?_
      refine lv_aload_n hx hb dX12_round_5 rfl (lv_at hl 0 rfl) ?_
      refine va_get (D := D) (ci := 12) (v := .ref (aM 13)) (C := RX12) (T := TX12) (N := 51) hx hb hw inW_X12 hown hK hP 0 rfl rfl 23 (by decide) (hw _ mw_6_66) (fun _ h9 => h9) rfl dX12_round_6 ?_
      refine lv_iconst (v := 0) hx hb dX12_round_9 (by decide) ?_
      refine cIald hx hb hK hP 13 0 rfl rfl 0 (by decide +kernel) (cIn (by decide +kernel)) dX12_round_10 ?_
      refine lv_icmp_ge (tgt := 50) hx hb dX12_round_11 (by decide) (fun c1 => ?_) (fun c1 => ?_)
      · have h := h.1 c1
        refine lv_iload_n hx hb dX12_round_50 rfl (lv_at hl 1 rfl) ?_
        rw [← hQ]
        exact cRetZ (v := x1_) (ms, mw, ma, ml) hx hb hr hlocks hS hP hD h.1 h.2 dX12_round_51
      · have h := h.2 c1
        refine lv_aload_n hx hb dX12_round_14 rfl (lv_at hl 0 rfl) ?_
        refine lv_iload_n hx hb dX12_round_15 rfl (lv_at hl 2 rfl) ?_
        refine cGoAI (cRunAV (As := [.int x2_]) (rest := []) ⟨hx, hb, hml, hown, hw⟩ hK hN hP hD (k_X12_bestOf l D C _ aM  ms mw ma ml x2_ h) (cwV 1 hw (goodV mw_8_68 mw_8_70 mw_s158 mw_1_13 mw_8_71) rfl rfl rfl (by decide +kernel) ⟨Nat.le_of_ble_eq_true rfl, Nat.le_of_ble_eq_true rfl⟩) rfl rfl rfl hl.1 rfl (Nat.le_of_ble_eq_true rfl) dX12_round_16 ⟨Nat.zero_le _, Nat.zero_le _⟩) hP hD hS hA (fun r6 u H locs h hP hD hS => ?_)
        obtain ⟨ms_2, mw_3, ma_4, ml_5⟩ := u
        have hP : va_P D vwCl (List.flatten (wM aM C ms_2 mw_3 ma_4 ml_5)) H := hP
        have hD : va_D A (List.flatten (wM aM C ms_2 mw_3 ma_4 ml_5)) := hD
        refine lv_istore_n (lv' := [(3, .int r6), (0, .ref (aM 0)), (1, .int x1_), (2, .int x2_)]) hx hb dX12_round_19 rfl hl (by decide) rfl (fun ls hl => ?_)
        refine lv_aload_n hx hb dX12_round_20 rfl (lv_at hl 1 rfl) ?_
        refine va_get (D := D) (ci := 12) (v := .long (mw_3 1)) (C := RX12) (T := TX12) (N := 51) hx hb hw inW_X12 hown hK hP 0 rfl rfl 39 (by decide) (hw _ mw_6_82) (fun _ h9 => h9) rfl dX12_round_21 ?_
        refine lv_aload_n hx hb dX12_round_24 rfl (lv_at hl 1 rfl) ?_
        refine lv_iload_n hx hb dX12_round_25 rfl (lv_at hl 3 rfl) ?_
        refine cGoAL (cRunAV (As := [.int x2_]) (rest := [.long (mw_3 1)]) ⟨hx, hb, hml, hown, hw⟩ hK hN hP hD (k_X12_costNow l D C _ aM  ms_2 mw_3 ma_4 ml_5 x2_ h) (cwV 1 hw (goodV mw_8_60 mw_8_62 mw_s157 mw_1_13 mw_8_63) rfl rfl rfl (by decide +kernel) ⟨Nat.le_of_ble_eq_true rfl, Nat.le_of_ble_eq_true rfl⟩) rfl rfl rfl hl.1 rfl (Nat.le_of_ble_eq_true rfl) dX12_round_26 ⟨Nat.zero_le _, Nat.zero_le _⟩) hP hD hS hA (fun r10 u H locs h hP hD hS => ?_)
        obtain ⟨ms_7, ma_8, ml_9⟩ := u
        have hP : va_P D vwCl (List.flatten (wM aM C ms_7 mw_3 ma_8 ml_9)) H := hP
        have hD : va_D A (List.flatten (wM aM C ms_7 mw_3 ma_8 ml_9)) := hD
        refine W.lcmp hx hb dX12_round_29 ?_
        refine lv_if_lt (tgt := 36) hx hb dX12_round_30 (by decide) (fun c11 => ?_) (fun c11 => ?_)
        · have c11 : (mw_3 1) < r10 := (lg_cmp_lt _ _).mp c11
          have h := h.1 c11
          refine lv_aload_n hx hb dX12_round_36 rfl (lv_at hl 1 rfl) ?_
          refine lv_iload_n hx hb dX12_round_37 rfl (lv_at hl 3 rfl) ?_
          refine lv_iload_n hx hb dX12_round_38 rfl (lv_at hl 0 rfl) ?_
          refine cGoAV (cRunAV (As := [.int x2_, .int r6]) (rest := []) ⟨hx, hb, hml, hown, hw⟩ hK hN hP hD (k_X12_hasOption l D C _ aM  ms_7 mw_3 ma_8 ml_9 x2_ r6 h) (cwV 2 hw (goodV mw_8_48 mw_8_50 mw_s155 mw_1_13 mw_8_51) rfl rfl rfl (by decide +kernel) ⟨Nat.le_of_ble_eq_true rfl, Nat.le_of_ble_eq_true rfl⟩) rfl rfl rfl hl.1 rfl (Nat.le_of_ble_eq_true rfl) dX12_round_39 ⟨Nat.zero_le _, Nat.zero_le _⟩) hP hD hS hA (fun ma_12 H locs h hP hD hS => ?_)
          have hP : va_P D vwCl (List.flatten (wM aM C ms_7 mw_3 ma_12 ml_9)) H := hP
          have hD : va_D A (List.flatten (wM aM C ms_7 mw_3 ma_12 ml_9)) := hD
          refine lv_iconst (v := 1) hx hb dX12_round_42 (by decide) ?_
          refine lv_istore_n (lv' := [(1, .int 1), (3, .int r6), (0, .ref (aM 0)), (2, .int x2_)]) hx hb dX12_round_43 rfl hl (by decide) rfl (fun ls hl => ?_)
          refine lv_iinc (v := (x2_ + 1)) (lv' := [(2, .int (x2_ + 1)), (1, .int 1), (3, .int r6), (0, .ref (aM 0))]) hx hb dX12_round_44 hl (k := 3) rfl rfl (by decide) rfl (fun ls hl => ?_)
          refine lv_goto (tgt := 4) hx hb dX12_round_47 (by decide) ?_
          exact ih4 1 (x2_ + 1) ms_7 mw_3 ma_12 ml_9 _ _ _ h hP hD hS (lv_sub hl [3, 1, 0] rfl)
        · have c11 : ¬ (mw_3 1) < r10 := fun q => c11 ((lg_cmp_lt _ _).mpr q)
          have h := h.2 c11
          refine lv_goto (tgt := 44) hx hb dX12_round_33 (by decide) ?_
          refine lv_iinc (v := (x2_ + 1)) (lv' := [(2, .int (x2_ + 1)), (3, .int r6), (0, .ref (aM 0)), (1, .int x1_)]) hx hb dX12_round_44 hl (k := 3) rfl rfl (by decide) rfl (fun ls hl => ?_)
          refine lv_goto (tgt := 4) hx hb dX12_round_47 (by decide) ?_
          exact ih4 x1_ (x2_ + 1) ms_7 mw_3 ma_8 ml_9 _ _ _ h hP hD hS (lv_sub hl [2, 3, 0] rfl)
  refine lv_iconst (v := 0) hx hb dX12_round_0 (by decide) ?_
  refine lv_istore_n (lv' := [(1, .int 0), (0, .ref (aM 0))]) hx hb dX12_round_1 rfl hl (by decide) rfl (fun ls hl => ?_)
  refine lv_iconst (v := 0) hx hb dX12_round_2 (by decide) ?_
  refine lv_istore_n (lv' := [(2, .int 0), (1, .int 0), (0, .ref (aM 0))]) hx hb dX12_round_3 rfl hl (by decide) rfl (fun ls hl => ?_)
  obtain ⟨n, h⟩ := h
  exact N4  n 0 0 ms mw ma ml _ _ _ h hP hD hS (lv_sub hl [2, 1, 0] rfl)
abbrev vsX12_laysAside : List Cond := Cond.code yX12_laysAside cX12_laysAside 2 none :: WS
abbrev rmX12_laysAside : Room := { frames := 2, cells := 0, slots := 0, locals := 42 }
set_option maxHeartbeats 4000000 in
set_option maxRecDepth 100000 in
theorem k_X12_laysAside (l : Launch) (D : va_G) (C : Nat → ClassId) (sz : Nat) (aM : Nat → Nat)  (ms : Nat → Int32) (mw : Nat → Int64) (ma : Nat → Nat → Int32) (ml : Nat → Nat → Int64)  {post : (Nat → Nat → Int32) → Prop} (h : P_X12_laysAside ma post) : Met l yX12_laysAside vsX12_laysAside rmX12_laysAside (cPre D C [.ref (aM 0)] sz (wM aM C ms mw ma ml)) (cQv D (fun (u : (Nat → Nat → Int32)) => post u) (fun u => wM aM C ms mw u ml) (va_A (List.flatten (wM aM C ms mw ma ml)) sz)) 0 0 (va_A (List.flatten (wM aM C ms mw ma ml)) sz) := by
  refine cStart (QA := fun A => cQv D (fun (u : (Nat → Nat → Int32)) => post u) (fun u => wM aM C ms mw u ml) A) (cc := cX12_laysAside) (maxL := 2) (ret := none) (by decide) (Nat.le_of_ble_eq_true rfl) ?_
  intro p e s m args below meth c A ls hx hb hr hml hown hw hlocks hname hK hN hA hP hD hS hl
  generalize hQ : MQ below _ args s 0 0 A = Q
  have hl : lv_has ls 2 [(0, .ref (aM 0))] := hl
  obtain ⟨H, hH⟩ : ∃ H, H = s.heap := ⟨_, rfl⟩
  obtain ⟨locs, hlo⟩ : ∃ z : List Loc, z = [] := ⟨_, rfl⟩
  have hP : va_P D vwCl (List.flatten (wM aM C ms mw ma ml)) H := by rw [hH]; exact hP
  have hS : va_S A s.heap H locs := by rw [hH, hlo]; exact hS
  rw [show W p l e rmX12_laysAside s m args below meth c s.heap [] 0 0 Q (F0 m 0 ls []) = W p l e rmX12_laysAside s m args below meth c H locs 0 0 Q (F0 m 0 ls []) from by rw [hH, hlo]]
  have N2 : ∀  (n2 : Nat) (x1_ : Int32) (ma : Nat → Nat → Int32) (H : Heap) (locs : List Loc) (ls : Array Slot), P_X12_laysAside_2  post   n2 x1_ ma → va_P D vwCl (List.flatten (wM aM C ms mw ma ml)) H → va_D A (List.flatten (wM aM C ms mw ma ml)) → va_S A s.heap H locs → lv_has ls 2 [(0, .ref (aM 0)), (1, .int x1_)] → W p l e rmX12_laysAside s m args below meth c H locs 0 0 Q (F0 m 2 ls []) := by
    intro n2
    induction n2 with
    | zero => intro x1_ ma H locs ls h hP hD hS hl; exact False.elim h
    | succ n2 ih2 =>
      intro x1_ ma H locs ls h hP hD hS hl
      refine lv_iload_n hx hb dX12_laysAside_2 rfl (lv_at hl 1 rfl) ?_
      refine lv_aload_n hx hb dX12_laysAside_3 rfl (lv_at hl 0 rfl) ?_
      refine va_get (D := D) (ci := 12) (v := .ref (aM 13)) (C := RX12) (T := TX12) (N := 51) hx hb hw inW_X12 hown hK hP 0 rfl rfl 23 (by decide) (hw _ mw_6_66) (fun _ h9 => h9) rfl dX12_laysAside_4 ?_
      refine lv_iconst (v := 0) hx hb dX12_laysAside_7 (by decide) ?_
      refine cIald hx hb hK hP 13 0 rfl rfl 0 (by decide +kernel) (cIn (by decide +kernel)) dX12_laysAside_8 ?_
      refine lv_icmp_ge (tgt := 29) hx hb dX12_laysAside_9 (by decide) (fun c1 => ?_) (fun c1 => ?_)
      · have h := h.1 c1
        rw [← hQ]
        exact cRetV (ma) hx hb hr hlocks hS hP hD h dX12_laysAside_29
      · have h := h.2 c1
        refine lv_aload_n hx hb dX12_laysAside_12 rfl (lv_at hl 0 rfl) ?_
        refine va_get (D := D) (ci := 12) (v := .ref (aM 26)) (C := RX12) (T := TX12) (N := 51) hx hb hw inW_X12 hown hK hP 0 rfl rfl 40 (by decide) (hw _ mw_6_83) (fun _ h9 => h9) rfl dX12_laysAside_13 ?_
        refine lv_iload_n hx hb dX12_laysAside_16 rfl (lv_at hl 1 rfl) ?_
        refine lv_aload_n hx hb dX12_laysAside_17 rfl (lv_at hl 0 rfl) ?_
        refine lv_iload_n hx hb dX12_laysAside_18 rfl (lv_at hl 1 rfl) ?_
        refine cGoAI (cRunAV (As := [.int x1_]) (rest := [.int x1_, .ref (aM 26)]) ⟨hx, hb, hml, hown, hw⟩ hK hN hP hD (k_X12_optionOf l D C _ aM  ms mw ma ml x1_ h) (cwV 1 hw (goodV mw_8_44 mw_8_46 mw_s154 mw_1_13 mw_8_47) rfl rfl rfl (by decide +kernel) ⟨Nat.le_of_ble_eq_true rfl, Nat.le_of_ble_eq_true rfl⟩) rfl rfl rfl hl.1 rfl (Nat.le_of_ble_eq_true rfl) dX12_laysAside_19 ⟨Nat.zero_le _, Nat.zero_le _⟩) hP hD hS hA (fun r2 u H locs h hP hD hS => ?_)
        have hP : va_P D vwCl (List.flatten (wM aM C ms mw ma ml)) H := hP
        have hD : va_D A (List.flatten (wM aM C ms mw ma ml)) := hD
        refine cIast hx hb hK hP hD hS 26 0 rfl rfl x1_.toNatClampNeg rfl h.1 dX12_laysAside_22 (fun H locs hP hD hS => ?_)
        have h := h.2
        refine lv_iinc (v := (x1_ + 1)) (lv' := [(1, .int (x1_ + 1)), (0, .ref (aM 0))]) hx hb dX12_laysAside_23 hl (k := 1) rfl rfl (by decide) rfl (fun ls hl => ?_)
        refine lv_goto (tgt := 2) hx hb dX12_laysAside_26 (by decide) ?_
        have hP : va_P D vwCl (List.flatten (wM aM C ms mw (va_up ma 20 (upd (ma 20) x1_.toNatClampNeg r2)) ml)) H := hP
        have hD : va_D A (List.flatten (wM aM C ms mw (va_up ma 20 (upd (ma 20) x1_.toNatClampNeg r2)) ml)) := hD
        exact ih2 (x1_ + 1) (va_up ma 20 (upd (ma 20) x1_.toNatClampNeg r2)) _ _ _ h hP hD hS (lv_sub hl [1, 0] rfl)
  refine lv_iconst (v := 0) hx hb dX12_laysAside_0 (by decide) ?_
  refine lv_istore_n (lv' := [(1, .int 0), (0, .ref (aM 0))]) hx hb dX12_laysAside_1 rfl hl (by decide) rfl (fun ls hl => ?_)
  obtain ⟨n, h⟩ := h
  exact N2  n 0 ma _ _ _ h hP hD hS (lv_sub hl [1, 0] rfl)
abbrev vsX12_takesBack : List Cond := Cond.code yX12_takesBack cX12_takesBack 2 none :: WS
abbrev rmX12_takesBack : Room := { frames := 2, cells := 0, slots := 0, locals := 43 }
set_option maxHeartbeats 4000000 in
set_option maxRecDepth 100000 in
theorem k_X12_takesBack (l : Launch) (D : va_G) (C : Nat → ClassId) (sz : Nat) (aM : Nat → Nat)  (ms : Nat → Int32) (mw : Nat → Int64) (ma : Nat → Nat → Int32) (ml : Nat → Nat → Int64)  {post : (Nat → Nat → Int32) → Prop} (h : P_X12_takesBack ma post) : Met l yX12_takesBack vsX12_takesBack rmX12_takesBack (cPre D C [.ref (aM 0)] sz (wM aM C ms mw ma ml)) (cQv D (fun (u : (Nat → Nat → Int32)) => post u) (fun u => wM aM C ms mw u ml) (va_A (List.flatten (wM aM C ms mw ma ml)) sz)) 0 0 (va_A (List.flatten (wM aM C ms mw ma ml)) sz) := by
  refine cStart (QA := fun A => cQv D (fun (u : (Nat → Nat → Int32)) => post u) (fun u => wM aM C ms mw u ml) A) (cc := cX12_takesBack) (maxL := 2) (ret := none) (by decide) (Nat.le_of_ble_eq_true rfl) ?_
  intro p e s m args below meth c A ls hx hb hr hml hown hw hlocks hname hK hN hA hP hD hS hl
  generalize hQ : MQ below _ args s 0 0 A = Q
  have hl : lv_has ls 2 [(0, .ref (aM 0))] := hl
  obtain ⟨H, hH⟩ : ∃ H, H = s.heap := ⟨_, rfl⟩
  obtain ⟨locs, hlo⟩ : ∃ z : List Loc, z = [] := ⟨_, rfl⟩
  have hP : va_P D vwCl (List.flatten (wM aM C ms mw ma ml)) H := by rw [hH]; exact hP
  have hS : va_S A s.heap H locs := by rw [hH, hlo]; exact hS
  rw [show W p l e rmX12_takesBack s m args below meth c s.heap [] 0 0 Q (F0 m 0 ls []) = W p l e rmX12_takesBack s m args below meth c H locs 0 0 Q (F0 m 0 ls []) from by rw [hH, hlo]]
  have N2 : ∀  (n2 : Nat) (x1_ : Int32) (ma : Nat → Nat → Int32) (H : Heap) (locs : List Loc) (ls : Array Slot), P_X12_takesBack_2  post   n2 x1_ ma → va_P D vwCl (List.flatten (wM aM C ms mw ma ml)) H → va_D A (List.flatten (wM aM C ms mw ma ml)) → va_S A s.heap H locs → lv_has ls 2 [(0, .ref (aM 0)), (1, .int x1_)] → W p l e rmX12_takesBack s m args below meth c H locs 0 0 Q (F0 m 2 ls []) := by
    intro n2
    induction n2 with
    | zero => intro x1_ ma H locs ls h hP hD hS hl; exact False.elim h
    | succ n2 ih2 =>
      intro x1_ ma H locs ls h hP hD hS hl
      refine lv_iload_n hx hb dX12_takesBack_2 rfl (lv_at hl 1 rfl) ?_
      refine lv_aload_n hx hb dX12_takesBack_3 rfl (lv_at hl 0 rfl) ?_
      refine va_get (D := D) (ci := 12) (v := .ref (aM 13)) (C := RX12) (T := TX12) (N := 51) hx hb hw inW_X12 hown hK hP 0 rfl rfl 23 (by decide) (hw _ mw_6_66) (fun _ h9 => h9) rfl dX12_takesBack_4 ?_
      refine lv_iconst (v := 0) hx hb dX12_takesBack_7 (by decide) ?_
      refine cIald hx hb hK hP 13 0 rfl rfl 0 (by decide +kernel) (cIn (by decide +kernel)) dX12_takesBack_8 ?_
      refine lv_icmp_ge (tgt := 29) hx hb dX12_takesBack_9 (by decide) (fun c1 => ?_) (fun c1 => ?_)
      · have h := h.1 c1
        rw [← hQ]
        exact cRetV (ma) hx hb hr hlocks hS hP hD h dX12_takesBack_29
      · have h := h.2 c1
        refine lv_aload_n hx hb dX12_takesBack_12 rfl (lv_at hl 0 rfl) ?_
        refine lv_iload_n hx hb dX12_takesBack_13 rfl (lv_at hl 1 rfl) ?_
        refine lv_aload_n hx hb dX12_takesBack_14 rfl (lv_at hl 0 rfl) ?_
        refine va_get (D := D) (ci := 12) (v := .ref (aM 26)) (C := RX12) (T := TX12) (N := 51) hx hb hw inW_X12 hown hK hP 0 rfl rfl 40 (by decide) (hw _ mw_6_83) (fun _ h9 => h9) rfl dX12_takesBack_15 ?_
        refine lv_iload_n hx hb dX12_takesBack_18 rfl (lv_at hl 1 rfl) ?_
        refine cIald hx hb hK hP 26 0 rfl rfl x1_.toNatClampNeg rfl h.1 dX12_takesBack_19 ?_
        have h := h.2
        refine cGoAV (cRunAV (As := [.int x1_, .int (ma 20 x1_.toNatClampNeg)]) (rest := []) ⟨hx, hb, hml, hown, hw⟩ hK hN hP hD (k_X12_hasOption l D C _ aM  ms mw ma ml x1_ (ma 20 x1_.toNatClampNeg) h) (cwV 2 hw (goodV mw_8_48 mw_8_50 mw_s155 mw_1_13 mw_8_51) rfl rfl rfl (by decide +kernel) ⟨Nat.le_of_ble_eq_true rfl, Nat.le_of_ble_eq_true rfl⟩) rfl rfl rfl hl.1 rfl (Nat.le_of_ble_eq_true rfl) dX12_takesBack_20 ⟨Nat.zero_le _, Nat.zero_le _⟩) hP hD hS hA (fun ma_2 H locs h hP hD hS => ?_)
        have hP : va_P D vwCl (List.flatten (wM aM C ms mw ma_2 ml)) H := hP
        have hD : va_D A (List.flatten (wM aM C ms mw ma_2 ml)) := hD
        refine lv_iinc (v := (x1_ + 1)) (lv' := [(1, .int (x1_ + 1)), (0, .ref (aM 0))]) hx hb dX12_takesBack_23 hl (k := 1) rfl rfl (by decide) rfl (fun ls hl => ?_)
        refine lv_goto (tgt := 2) hx hb dX12_takesBack_26 (by decide) ?_
        exact ih2 (x1_ + 1) ma_2 _ _ _ h hP hD hS (lv_sub hl [1, 0] rfl)
  refine lv_iconst (v := 0) hx hb dX12_takesBack_0 (by decide) ?_
  refine lv_istore_n (lv' := [(1, .int 0), (0, .ref (aM 0))]) hx hb dX12_takesBack_1 rfl hl (by decide) rfl (fun ls hl => ?_)
  obtain ⟨n, h⟩ := h
  exact N2  n 0 ma _ _ _ h hP hD hS (lv_sub hl [1, 0] rfl)
abbrev vsX12_settlesIn : List Cond := Cond.code yX12_settlesIn cX12_settlesIn 3 (some .int) :: WS
abbrev rmX12_settlesIn : Room := { frames := 9, cells := 0, slots := 0, locals := 213 }
set_option maxHeartbeats 4000000 in
set_option maxRecDepth 100000 in
theorem k_X12_settlesIn (l : Launch) (D : va_G) (C : Nat → ClassId) (sz : Nat) (aM : Nat → Nat)  (ms : Nat → Int32) (mw : Nat → Int64) (ma : Nat → Nat → Int32) (ml : Nat → Nat → Int64) (p1 : Int32) {post : Int32 → (Nat → Int32) → (Nat → Int64) → (Nat → Nat → Int32) → (Nat → Nat → Int64) → Prop} (h : P_X12_settlesIn ms mw ma ml p1 post) : Met l yX12_settlesIn vsX12_settlesIn rmX12_settlesIn (cPre D C [.ref (aM 0), .int p1] sz (wM aM C ms mw ma ml)) (cQi D (fun (r : Int32) (u : (Nat → Int32) × (Nat → Int64) × (Nat → Nat → Int32) × (Nat → Nat → Int64)) => post r u.1 u.2.1 u.2.2.1 u.2.2.2) (fun u => wM aM C u.1 u.2.1 u.2.2.1 u.2.2.2) (va_A (List.flatten (wM aM C ms mw ma ml)) sz)) 0 0 (va_A (List.flatten (wM aM C ms mw ma ml)) sz) := by
  refine cStart (QA := fun A => cQi D (fun (r : Int32) (u : (Nat → Int32) × (Nat → Int64) × (Nat → Nat → Int32) × (Nat → Nat → Int64)) => post r u.1 u.2.1 u.2.2.1 u.2.2.2) (fun u => wM aM C u.1 u.2.1 u.2.2.1 u.2.2.2) A) (cc := cX12_settlesIn) (maxL := 3) (ret := (some .int)) (by decide) (Nat.le_of_ble_eq_true rfl) ?_
  intro p e s m args below meth c A ls hx hb hr hml hown hw hlocks hname hK hN hA hP hD hS hl
  generalize hQ : MQ below _ args s 0 0 A = Q
  have hl : lv_has ls 3 [(0, .ref (aM 0)), (1, .int p1)] := hl
  obtain ⟨H, hH⟩ : ∃ H, H = s.heap := ⟨_, rfl⟩
  obtain ⟨locs, hlo⟩ : ∃ z : List Loc, z = [] := ⟨_, rfl⟩
  have hP : va_P D vwCl (List.flatten (wM aM C ms mw ma ml)) H := by rw [hH]; exact hP
  have hS : va_S A s.heap H locs := by rw [hH, hlo]; exact hS
  rw [show W p l e rmX12_settlesIn s m args below meth c s.heap [] 0 0 Q (F0 m 0 ls []) = W p l e rmX12_settlesIn s m args below meth c H locs 0 0 Q (F0 m 0 ls []) from by rw [hH, hlo]]
  have N7 : ∀  (n7 : Nat) (x2_ : Int32) (ms : Nat → Int32) (mw : Nat → Int64) (ma : Nat → Nat → Int32) (ml : Nat → Nat → Int64) (H : Heap) (locs : List Loc) (ls : Array Slot), P_X12_settlesIn_7 p1 post   n7 x2_ ms mw ma ml → va_P D vwCl (List.flatten (wM aM C ms mw ma ml)) H → va_D A (List.flatten (wM aM C ms mw ma ml)) → va_S A s.heap H locs → lv_has ls 3 [(0, .ref (aM 0)), (1, .int p1), (2, .int x2_)] → W p l e rmX12_settlesIn s m args below meth c H locs 0 0 Q (F0 m 7 ls []) := by
    intro n7
    induction n7 with
    | zero => intro x2_ ms mw ma ml H locs ls h hP hD hS hl; exact False.elim h
    | succ n7 ih7 =>
      intro x2_ ms mw ma ml H locs ls h hP hD hS hl
      refine lv_iload_n hx hb dX12_settlesIn_7 rfl (lv_at hl 2 rfl) ?_
      refine lv_iload_n hx hb dX12_settlesIn_8 rfl (lv_at hl 1 rfl) ?_
      refine lv_icmp_ge (tgt := 41) hx hb dX12_settlesIn_9 (by decide) (fun c1 => ?_) (fun c1 => ?_)
      · have h := h.1 c1
        refine lv_iload_n hx hb dX12_settlesIn_41 rfl (lv_at hl 2 rfl) ?_
        rw [← hQ]
        exact cRetI (v := x2_) (ms, mw, ma, ml) hx hb hr hlocks hS hP hD h dX12_settlesIn_42
      · have h := h.2 c1
        refine lv_aload_n hx hb dX12_settlesIn_12 rfl (lv_at hl 0 rfl) ?_
        refine va_get (D := D) (ci := 12) (v := .int (ms 13)) (C := RX12) (T := TX12) (N := 51) hx hb hw inW_X12 hown hK hP 0 rfl rfl 41 (by decide) (hw _ mw_6_84) (fun _ h9 => h9) rfl dX12_settlesIn_13 ?_
        refine lv_if_ne (tgt := 41) hx hb dX12_settlesIn_16 (by decide) (fun c2 => ?_) (fun c2 => ?_)
        · have h := h.1 c2
          refine lv_iload_n hx hb dX12_settlesIn_41 rfl (lv_at hl 2 rfl) ?_
          rw [← hQ]
          exact cRetI (v := x2_) (ms, mw, ma, ml) hx hb hr hlocks hS hP hD h dX12_settlesIn_42
        · have h := h.2 c2
          refine lv_aload_n hx hb dX12_settlesIn_19 rfl (lv_at hl 0 rfl) ?_
          refine lv_aload_n hx hb dX12_settlesIn_20 rfl (lv_at hl 0 rfl) ?_
          refine cGoAI (cRunAV (As := []) (rest := [.ref (aM 0)]) ⟨hx, hb, hml, hown, hw⟩ hK hN hP hD (k_X12_round l D C _ aM  ms mw ma ml  h) (cwV 0 hw (goodV mw_8_85 mw_8_87 mw_s160 mw_1_13 mw_8_88) rfl rfl rfl (by decide +kernel) ⟨Nat.le_of_ble_eq_true rfl, Nat.le_of_ble_eq_true rfl⟩) rfl rfl rfl hl.1 rfl (Nat.le_of_ble_eq_true rfl) dX12_settlesIn_21 ⟨Nat.zero_le _, Nat.zero_le _⟩) hP hD hS hA (fun r7 u H locs h hP hD hS => ?_)
          obtain ⟨ms_3, mw_4, ma_5, ml_6⟩ := u
          have hP : va_P D vwCl (List.flatten (wM aM C ms_3 mw_4 ma_5 ml_6)) H := hP
          have hD : va_D A (List.flatten (wM aM C ms_3 mw_4 ma_5 ml_6)) := hD
          refine lv_if_ne (tgt := 31) hx hb dX12_settlesIn_24 (by decide) (fun c8 => ?_) (fun c8 => ?_)
          · have h := h.1 c8
            refine lv_iconst (v := 0) hx hb dX12_settlesIn_31 (by decide) ?_
            refine va_put (D := D) (ci := 12) (v := .int 0) (ty := .boolean) (C := RX12) (T := TX12) (N := 51) hx hb hw inW_X12 tyX12 tyX12_ok nmX12 hown hK hP hD hS 0 rfl rfl 41 (by decide) (hw _ mw_6_84) (fun _ h9 => h9) rfl (by decide +kernel) rfl rfl (Nat.le_of_ble_eq_true rfl) dX12_settlesIn_32 (fun H locs hP hD hS => ?_)
            refine lv_iinc (v := (x2_ + 1)) (lv' := [(2, .int (x2_ + 1)), (0, .ref (aM 0)), (1, .int p1)]) hx hb dX12_settlesIn_35 hl (k := 2) rfl rfl (by decide) rfl (fun ls hl => ?_)
            refine lv_goto (tgt := 7) hx hb dX12_settlesIn_38 (by decide) ?_
            have hP : va_P D vwCl (List.flatten (wM aM C (va_up ms_3 13 0) mw_4 ma_5 ml_6)) H := hP
            have hD : va_D A (List.flatten (wM aM C (va_up ms_3 13 0) mw_4 ma_5 ml_6)) := hD
            exact ih7 (x2_ + 1) (va_up ms_3 13 0) mw_4 ma_5 ml_6 _ _ _ h hP hD hS (lv_sub hl [1, 2, 0] rfl)
          · have h := h.2 c8
            refine lv_iconst (v := 1) hx hb dX12_settlesIn_27 (by decide) ?_
            refine lv_goto (tgt := 32) hx hb dX12_settlesIn_28 (by decide) ?_
            refine va_put (D := D) (ci := 12) (v := .int 1) (ty := .boolean) (C := RX12) (T := TX12) (N := 51) hx hb hw inW_X12 tyX12 tyX12_ok nmX12 hown hK hP hD hS 0 rfl rfl 41 (by decide) (hw _ mw_6_84) (fun _ h9 => h9) rfl (by decide +kernel) rfl rfl (Nat.le_of_ble_eq_true rfl) dX12_settlesIn_32 (fun H locs hP hD hS => ?_)
            refine lv_iinc (v := (x2_ + 1)) (lv' := [(2, .int (x2_ + 1)), (0, .ref (aM 0)), (1, .int p1)]) hx hb dX12_settlesIn_35 hl (k := 2) rfl rfl (by decide) rfl (fun ls hl => ?_)
            refine lv_goto (tgt := 7) hx hb dX12_settlesIn_38 (by decide) ?_
            have hP : va_P D vwCl (List.flatten (wM aM C (va_up ms_3 13 1) mw_4 ma_5 ml_6)) H := hP
            have hD : va_D A (List.flatten (wM aM C (va_up ms_3 13 1) mw_4 ma_5 ml_6)) := hD
            exact ih7 (x2_ + 1) (va_up ms_3 13 1) mw_4 ma_5 ml_6 _ _ _ h hP hD hS (lv_sub hl [1, 2, 0] rfl)
  refine lv_aload_n hx hb dX12_settlesIn_0 rfl (lv_at hl 0 rfl) ?_
  refine lv_iconst (v := 0) hx hb dX12_settlesIn_1 (by decide) ?_
  refine va_put (D := D) (ci := 12) (v := .int 0) (ty := .boolean) (C := RX12) (T := TX12) (N := 51) hx hb hw inW_X12 tyX12 tyX12_ok nmX12 hown hK hP hD hS 0 rfl rfl 41 (by decide) (hw _ mw_6_84) (fun _ h9 => h9) rfl (by decide +kernel) rfl rfl (Nat.le_of_ble_eq_true rfl) dX12_settlesIn_2 (fun H locs hP hD hS => ?_)
  refine lv_iconst (v := 0) hx hb dX12_settlesIn_5 (by decide) ?_
  refine lv_istore_n (lv' := [(2, .int 0), (0, .ref (aM 0)), (1, .int p1)]) hx hb dX12_settlesIn_6 rfl hl (by decide) rfl (fun ls hl => ?_)
  have hP : va_P D vwCl (List.flatten (wM aM C (va_up ms 13 0) mw ma ml)) H := hP
  have hD : va_D A (List.flatten (wM aM C (va_up ms 13 0) mw ma ml)) := hD
  obtain ⟨n, h⟩ := h
  exact N7  n 0 (va_up ms 13 0) mw ma ml _ _ _ h hP hD hS (lv_sub hl [1, 2, 0] rfl)
