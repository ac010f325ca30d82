abbrev vsX12_settle : List Cond := Cond.code yX12_settle cX12_settle 2 (some .int) :: WS
abbrev rmX12_settle : Room := { frames := 10, cells := 0, slots := 0, locals := 235 }
set_option maxHeartbeats 4000000 in
set_option maxRecDepth 100000 in
theorem k_X12_settle (l : Launch) (D : va_G) (C : Nat → ClassId) (sz : Nat) (aM : Nat → Nat)  (ms : Nat → Int32) (mw : Nat → Int64) (ma : Nat → Nat → Int32) (ml : Nat → Nat → Int64) (p1 : Int32) {post : Int32 → (Nat → Int32) → (Nat → Int64) → (Nat → Nat → Int32) → (Nat → Nat → Int64) → Prop} (h : P_X12_settle ms mw ma ml p1 post) : Met l yX12_settle vsX12_settle rmX12_settle (cPre D C [.ref (aM 0), .int p1] sz (wM aM C ms mw ma ml)) (cQi D (fun (r : Int32) (u : (Nat → Int32) × (Nat → Int64) × (Nat → Nat → Int32) × (Nat → Nat → Int64)) => post r u.1 u.2.1 u.2.2.1 u.2.2.2) (fun u => wM aM C u.1 u.2.1 u.2.2.1 u.2.2.2) (va_A (List.flatten (wM aM C ms mw ma ml)) sz)) 0 0 (va_A (List.flatten (wM aM C ms mw ma ml)) sz) := by
  refine cStart (QA := fun A => cQi D (fun (r : Int32) (u : (Nat → Int32) × (Nat → Int64) × (Nat → Nat → Int32) × (Nat → Nat → Int64)) => post r u.1 u.2.1 u.2.2.1 u.2.2.2) (fun u => wM aM C u.1 u.2.1 u.2.2.1 u.2.2.2) A) (cc := cX12_settle) (maxL := 2) (ret := (some .int)) (by decide) (Nat.le_of_ble_eq_true rfl) ?_
  intro p e s m args below meth c A ls hx hb hr hml hown hw hlocks hname hK hN hA hP hD hS hl
  generalize hQ : MQ below _ args s 0 0 A = Q
  have hl : lv_has ls 2 [(0, .ref (aM 0)), (1, .int p1)] := hl
  obtain ⟨H, hH⟩ : ∃ H, H = s.heap := ⟨_, rfl⟩
  obtain ⟨locs, hlo⟩ : ∃ z : List Loc, z = [] := ⟨_, rfl⟩
  have hP : va_P D vwCl (List.flatten (wM aM C ms mw ma ml)) H := by rw [hH]; exact hP
  have hS : va_S A s.heap H locs := by rw [hH, hlo]; exact hS
  rw [show W p l e rmX12_settle s m args below meth c s.heap [] 0 0 Q (F0 m 0 ls []) = W p l e rmX12_settle s m args below meth c H locs 0 0 Q (F0 m 0 ls []) from by rw [hH, hlo]]
  refine lv_aload_n hx hb dX12_settle_0 rfl (lv_at hl 0 rfl) ?_
  refine lv_iconst (v := 0) hx hb dX12_settle_1 (by decide) ?_
  refine va_put (D := D) (ci := 12) (v := .int 0) (ty := .int) (C := RX12) (T := TX12) (N := 51) hx hb hw inW_X12 tyX12 tyX12_ok nmX12 hown hK hP hD hS 0 rfl rfl 0 (by decide) (hw _ mw_6_43) (fun _ h9 => h9) rfl (by decide +kernel) rfl rfl (Nat.le_of_ble_eq_true rfl) dX12_settle_2 (fun H locs hP hD hS => ?_)
  refine lv_aload_n hx hb dX12_settle_5 rfl (lv_at hl 0 rfl) ?_
  have hP : va_P D vwCl (List.flatten (wM aM C (va_up ms 0 0) mw ma ml)) H := hP
  have hD : va_D A (List.flatten (wM aM C (va_up ms 0 0) mw ma ml)) := hD
  refine cGoAI (cRunAV (As := []) (rest := []) ⟨hx, hb, hml, hown, hw⟩ hK hN hP hD (k_X12_isRail l D C _ aM  (va_up ms 0 0) mw ma ml  h) (cwV 0 hw (goodV mw_7_204 mw_7_206 mw_s142 mw_1_13 mw_7_207) rfl rfl rfl (by decide +kernel) ⟨Nat.le_of_ble_eq_true rfl, Nat.le_of_ble_eq_true rfl⟩) rfl rfl rfl hl.1 rfl (Nat.le_of_ble_eq_true rfl) dX12_settle_6 ⟨Nat.zero_le _, Nat.zero_le _⟩) hP hD hS hA (fun r1 u H locs h hP hD hS => ?_)
  have hP : va_P D vwCl (List.flatten (wM aM C (va_up ms 0 0) mw ma ml)) H := hP
  have hD : va_D A (List.flatten (wM aM C (va_up ms 0 0) mw ma ml)) := hD
  refine lv_if_eq (tgt := 32) hx hb dX12_settle_9 (by decide) (fun c2 => ?_) (fun c2 => ?_)
  · have h := h.1 c2
    refine lv_bipush (v := (-2)) hx hb dX12_settle_32 (by decide) ?_
    rw [← hQ]
    exact cRetI (v := (-2)) ((va_up ms 0 0), mw, ma, ml) hx hb hr hlocks hS hP hD h dX12_settle_34
  · have h := h.2 c2
    refine lv_iload_n hx hb dX12_settle_12 rfl (lv_at hl 1 rfl) ?_
    refine lv_i2l hx hb dX12_settle_13 rfl ?_
    refine lv_lconst (v := 0) hx hb dX12_settle_14 (by decide) ?_
    refine lv_ldc2 (v := 30) hx hb hown (hw _ mw_8_80) dX12_settle_15 ?_
    refine cGoEI (cRunES (As := [.long p1.toInt64, .long 0, .long 30]) (rest := []) ⟨hx, hb, hml, hown, hw⟩ hK hN hP hD (k_X12_in l D C _    p1.toInt64 0 30 h) (va_cwS 3 hw (goodS mw_6_205 mw_6_206 mw_1_13 mw_6_207) rfl rfl rfl (by decide +kernel) ⟨Nat.le_of_ble_eq_true rfl, Nat.le_of_ble_eq_true rfl⟩) rfl hl.1 rfl (Nat.le_of_ble_eq_true rfl) dX12_settle_18 ⟨Nat.zero_le _, Nat.zero_le _⟩) hP hD hS hA (fun r3 u H locs h hP hD hS => ?_)
    have hP : va_P D vwCl (List.flatten (wM aM C (va_up ms 0 0) mw ma ml)) H := hP
    have hD : va_D A (List.flatten (wM aM C (va_up ms 0 0) mw ma ml)) := hD
    refine lv_if_eq (tgt := 32) hx hb dX12_settle_21 (by decide) (fun c4 => ?_) (fun c4 => ?_)
    · have h := h.1 c4
      refine lv_bipush (v := (-2)) hx hb dX12_settle_32 (by decide) ?_
      rw [← hQ]
      exact cRetI (v := (-2)) ((va_up ms 0 0), mw, ma, ml) hx hb hr hlocks hS hP hD h dX12_settle_34
    · have h := h.2 c4
      refine lv_aload_n hx hb dX12_settle_24 rfl (lv_at hl 0 rfl) ?_
      refine lv_iload_n hx hb dX12_settle_25 rfl (lv_at hl 1 rfl) ?_
      refine cGoAI (cRunAV (As := [.int p1]) (rest := []) ⟨hx, hb, hml, hown, hw⟩ hK hN hP hD (k_X12_settlesIn l D C _ aM  (va_up ms 0 0) mw ma ml p1 h) (cwV 1 hw (goodV mw_8_81 mw_8_83 mw_s159 mw_1_13 mw_8_84) rfl rfl rfl (by decide +kernel) ⟨Nat.le_of_ble_eq_true rfl, Nat.le_of_ble_eq_true rfl⟩) rfl rfl rfl hl.1 rfl (Nat.le_of_ble_eq_true rfl) dX12_settle_26 ⟨Nat.zero_le _, Nat.zero_le _⟩) hP hD hS hA (fun r9 u H locs h hP hD hS => ?_)
      obtain ⟨ms_5, mw_6, ma_7, ml_8⟩ := u
      have hP : va_P D vwCl (List.flatten (wM aM C ms_5 mw_6 ma_7 ml_8)) H := hP
      have hD : va_D A (List.flatten (wM aM C ms_5 mw_6 ma_7 ml_8)) := hD
      refine lv_goto (tgt := 34) hx hb dX12_settle_29 (by decide) ?_
      rw [← hQ]
      exact cRetI (v := r9) (ms_5, mw_6, ma_7, ml_8) hx hb hr hlocks hS hP hD h dX12_settle_34
abbrev vsX12_settles : List Cond := Cond.code yX12_settles cX12_settles 2 (some .int) :: WS
abbrev rmX12_settles : Room := { frames := 10, cells := 0, slots := 0, locals := 235 }
set_option maxHeartbeats 4000000 in
set_option maxRecDepth 100000 in
theorem k_X12_settles (l : Launch) (D : va_G) (C : Nat → ClassId) (sz : Nat) (aM : Nat → Nat)  (ms : Nat → Int32) (mw : Nat → Int64) (ma : Nat → Nat → Int32) (ml : Nat → Nat → Int64)  {post : Int32 → (Nat → Int32) → (Nat → Int64) → (Nat → Nat → Int32) → (Nat → Nat → Int64) → Prop} (h : P_X12_settles ms mw ma ml post) : Met l yX12_settles vsX12_settles rmX12_settles (cPre D C [.ref (aM 0)] sz (wM aM C ms mw ma ml)) (cQi D (fun (r : Int32) (u : (Nat → Int32) × (Nat → Int64) × (Nat → Nat → Int32) × (Nat → Nat → Int64)) => post r u.1 u.2.1 u.2.2.1 u.2.2.2) (fun u => wM aM C u.1 u.2.1 u.2.2.1 u.2.2.2) (va_A (List.flatten (wM aM C ms mw ma ml)) sz)) 0 0 (va_A (List.flatten (wM aM C ms mw ma ml)) sz) := by
  refine cStart (QA := fun A => cQi D (fun (r : Int32) (u : (Nat → Int32) × (Nat → Int64) × (Nat → Nat → Int32) × (Nat → Nat → Int64)) => post r u.1 u.2.1 u.2.2.1 u.2.2.2) (fun u => wM aM C u.1 u.2.1 u.2.2.1 u.2.2.2) A) (cc := cX12_settles) (maxL := 2) (ret := (some .int)) (by decide) (Nat.le_of_ble_eq_true rfl) ?_
  intro p e s m args below meth c A ls hx hb hr hml hown hw hlocks hname hK hN hA hP hD hS hl
  generalize hQ : MQ below _ args s 0 0 A = Q
  have hl : lv_has ls 2 [(0, .ref (aM 0))] := hl
  obtain ⟨H, hH⟩ : ∃ H, H = s.heap := ⟨_, rfl⟩
  obtain ⟨locs, hlo⟩ : ∃ z : List Loc, z = [] := ⟨_, rfl⟩
  have hP : va_P D vwCl (List.flatten (wM aM C ms mw ma ml)) H := by rw [hH]; exact hP
  have hS : va_S A s.heap H locs := by rw [hH, hlo]; exact hS
  rw [show W p l e rmX12_settles s m args below meth c s.heap [] 0 0 Q (F0 m 0 ls []) = W p l e rmX12_settles s m args below meth c H locs 0 0 Q (F0 m 0 ls []) from by rw [hH, hlo]]
  refine lv_aload_n hx hb dX12_settles_0 rfl (lv_at hl 0 rfl) ?_
  refine lv_iconst (v := 0) hx hb dX12_settles_1 (by decide) ?_
  refine va_put (D := D) (ci := 12) (v := .int 0) (ty := .int) (C := RX12) (T := TX12) (N := 51) hx hb hw inW_X12 tyX12 tyX12_ok nmX12 hown hK hP hD hS 0 rfl rfl 0 (by decide) (hw _ mw_6_43) (fun _ h9 => h9) rfl (by decide +kernel) rfl rfl (Nat.le_of_ble_eq_true rfl) dX12_settles_2 (fun H locs hP hD hS => ?_)
  refine lv_aload_n hx hb dX12_settles_5 rfl (lv_at hl 0 rfl) ?_
  have hP : va_P D vwCl (List.flatten (wM aM C (va_up ms 0 0) mw ma ml)) H := hP
  have hD : va_D A (List.flatten (wM aM C (va_up ms 0 0) mw ma ml)) := hD
  refine cGoAI (cRunAV (As := []) (rest := []) ⟨hx, hb, hml, hown, hw⟩ hK hN hP hD (k_X12_isRail l D C _ aM  (va_up ms 0 0) mw ma ml  h) (cwV 0 hw (goodV mw_7_204 mw_7_206 mw_s142 mw_1_13 mw_7_207) rfl rfl rfl (by decide +kernel) ⟨Nat.le_of_ble_eq_true rfl, Nat.le_of_ble_eq_true rfl⟩) rfl rfl rfl hl.1 rfl (Nat.le_of_ble_eq_true rfl) dX12_settles_6 ⟨Nat.zero_le _, Nat.zero_le _⟩) hP hD hS hA (fun r1 u H locs h hP hD hS => ?_)
  have hP : va_P D vwCl (List.flatten (wM aM C (va_up ms 0 0) mw ma ml)) H := hP
  have hD : va_D A (List.flatten (wM aM C (va_up ms 0 0) mw ma ml)) := hD
  refine lv_if_ne (tgt := 15) hx hb dX12_settles_9 (by decide) (fun c2 => ?_) (fun c2 => ?_)
  · have h := h.1 c2
    refine lv_aload_n hx hb dX12_settles_15 rfl (lv_at hl 0 rfl) ?_
    refine cGoAV (cRunAV (As := []) (rest := []) ⟨hx, hb, hml, hown, hw⟩ hK hN hP hD (k_X12_laysAside l D C _ aM  (va_up ms 0 0) mw ma ml  h) (cwV 0 hw (goodV mw_8_93 mw_8_95 mw_s161 mw_1_13 mw_8_96) rfl rfl rfl (by decide +kernel) ⟨Nat.le_of_ble_eq_true rfl, Nat.le_of_ble_eq_true rfl⟩) rfl rfl rfl hl.1 rfl (Nat.le_of_ble_eq_true rfl) dX12_settles_16 ⟨Nat.zero_le _, Nat.zero_le _⟩) hP hD hS hA (fun ma_3 H locs h hP hD hS => ?_)
    have hP : va_P D vwCl (List.flatten (wM aM C (va_up ms 0 0) mw ma_3 ml)) H := hP
    have hD : va_D A (List.flatten (wM aM C (va_up ms 0 0) mw ma_3 ml)) := hD
    refine lv_aload_n hx hb dX12_settles_19 rfl (lv_at hl 0 rfl) ?_
    refine lv_bipush (v := 30) hx hb dX12_settles_20 (by decide) ?_
    refine cGoAI (cRunAV (As := [.int 30]) (rest := []) ⟨hx, hb, hml, hown, hw⟩ hK hN hP hD (k_X12_settlesIn l D C _ aM  (va_up ms 0 0) mw ma_3 ml 30 h) (cwV 1 hw (goodV mw_8_81 mw_8_83 mw_s159 mw_1_13 mw_8_84) rfl rfl rfl (by decide +kernel) ⟨Nat.le_of_ble_eq_true rfl, Nat.le_of_ble_eq_true rfl⟩) rfl rfl rfl hl.1 rfl (Nat.le_of_ble_eq_true rfl) dX12_settles_22 ⟨Nat.zero_le _, Nat.zero_le _⟩) hP hD hS hA (fun r8 u H locs h hP hD hS => ?_)
    obtain ⟨ms_4, mw_5, ma_6, ml_7⟩ := u
    have hP : va_P D vwCl (List.flatten (wM aM C ms_4 mw_5 ma_6 ml_7)) H := hP
    have hD : va_D A (List.flatten (wM aM C ms_4 mw_5 ma_6 ml_7)) := hD
    refine lv_istore_n (lv' := [(1, .int r8), (0, .ref (aM 0))]) hx hb dX12_settles_25 rfl hl (by decide) rfl (fun ls hl => ?_)
    refine lv_aload_n hx hb dX12_settles_26 rfl (lv_at hl 1 rfl) ?_
    refine cGoAV (cRunAV (As := []) (rest := []) ⟨hx, hb, hml, hown, hw⟩ hK hN hP hD (k_X12_takesBack l D C _ aM  ms_4 mw_5 ma_6 ml_7  h) (cwV 0 hw (goodV mw_8_97 mw_8_99 mw_s162 mw_1_13 mw_8_100) rfl rfl rfl (by decide +kernel) ⟨Nat.le_of_ble_eq_true rfl, Nat.le_of_ble_eq_true rfl⟩) rfl rfl rfl hl.1 rfl (Nat.le_of_ble_eq_true rfl) dX12_settles_27 ⟨Nat.zero_le _, Nat.zero_le _⟩) hP hD hS hA (fun ma_9 H locs h hP hD hS => ?_)
    have hP : va_P D vwCl (List.flatten (wM aM C ms_4 mw_5 ma_9 ml_7)) H := hP
    have hD : va_D A (List.flatten (wM aM C ms_4 mw_5 ma_9 ml_7)) := hD
    refine lv_aload_n hx hb dX12_settles_30 rfl (lv_at hl 1 rfl) ?_
    refine va_get (D := D) (ci := 12) (v := .int (ms_4 13)) (C := RX12) (T := TX12) (N := 51) hx hb hw inW_X12 hown hK hP 0 rfl rfl 41 (by decide) (hw _ mw_6_84) (fun _ h9 => h9) rfl dX12_settles_31 ?_
    refine lv_if_eq (tgt := 41) hx hb dX12_settles_34 (by decide) (fun c10 => ?_) (fun c10 => ?_)
    · have h := h.1 c10
      refine lv_iconst (v := (-1)) hx hb dX12_settles_41 (by decide) ?_
      rw [← hQ]
      exact cRetI (v := (-1)) (ms_4, mw_5, ma_9, ml_7) hx hb hr hlocks hS hP hD h dX12_settles_42
    · have h := h.2 c10
      refine lv_iload_n hx hb dX12_settles_37 rfl (lv_at hl 0 rfl) ?_
      refine lv_goto (tgt := 42) hx hb dX12_settles_38 (by decide) ?_
      rw [← hQ]
      exact cRetI (v := r8) (ms_4, mw_5, ma_9, ml_7) hx hb hr hlocks hS hP hD h dX12_settles_42
  · have h := h.2 c2
    refine lv_bipush (v := (-2)) hx hb dX12_settles_12 (by decide) ?_
    rw [← hQ]
    exact cRetI (v := (-2)) ((va_up ms 0 0), mw, ma, ml) hx hb hr hlocks hS hP hD h dX12_settles_14
abbrev vsX12_settled : List Cond := Cond.code yX12_settled cX12_settled 3 (some .long) :: WS
abbrev rmX12_settled : Room := { frames := 10, cells := 0, slots := 0, locals := 235 }
set_option maxHeartbeats 4000000 in
set_option maxRecDepth 100000 in
theorem k_X12_settled (l : Launch) (D : va_G) (C : Nat → ClassId) (sz : Nat) (aM : Nat → Nat)  (ms : Nat → Int32) (mw : Nat → Int64) (ma : Nat → Nat → Int32) (ml : Nat → Nat → Int64)  {post : Int64 → (Nat → Int32) → (Nat → Int64) → (Nat → Nat → Int32) → (Nat → Nat → Int64) → Prop} (h : P_X12_settled ms mw ma ml post) : Met l yX12_settled vsX12_settled rmX12_settled (cPre D C [.ref (aM 0)] sz (wM aM C ms mw ma ml)) (cQl D (fun (r : Int64) (u : (Nat → Int32) × (Nat → Int64) × (Nat → Nat → Int32) × (Nat → Nat → Int64)) => post r u.1 u.2.1 u.2.2.1 u.2.2.2) (fun u => wM aM C u.1 u.2.1 u.2.2.1 u.2.2.2) (va_A (List.flatten (wM aM C ms mw ma ml)) sz)) 0 0 (va_A (List.flatten (wM aM C ms mw ma ml)) sz) := by
  refine cStart (QA := fun A => cQl D (fun (r : Int64) (u : (Nat → Int32) × (Nat → Int64) × (Nat → Nat → Int32) × (Nat → Nat → Int64)) => post r u.1 u.2.1 u.2.2.1 u.2.2.2) (fun u => wM aM C u.1 u.2.1 u.2.2.1 u.2.2.2) A) (cc := cX12_settled) (maxL := 3) (ret := (some .long)) (by decide) (Nat.le_of_ble_eq_true rfl) ?_
  intro p e s m args below meth c A ls hx hb hr hml hown hw hlocks hname hK hN hA hP hD hS hl
  generalize hQ : MQ below _ args s 0 0 A = Q
  have hl : lv_has ls 3 [(0, .ref (aM 0))] := hl
  obtain ⟨H, hH⟩ : ∃ H, H = s.heap := ⟨_, rfl⟩
  obtain ⟨locs, hlo⟩ : ∃ z : List Loc, z = [] := ⟨_, rfl⟩
  have hP : va_P D vwCl (List.flatten (wM aM C ms mw ma ml)) H := by rw [hH]; exact hP
  have hS : va_S A s.heap H locs := by rw [hH, hlo]; exact hS
  rw [show W p l e rmX12_settled s m args below meth c s.heap [] 0 0 Q (F0 m 0 ls []) = W p l e rmX12_settled s m args below meth c H locs 0 0 Q (F0 m 0 ls []) from by rw [hH, hlo]]
  refine lv_aload_n hx hb dX12_settled_0 rfl (lv_at hl 0 rfl) ?_
  refine lv_iconst (v := 0) hx hb dX12_settled_1 (by decide) ?_
  refine va_put (D := D) (ci := 12) (v := .int 0) (ty := .int) (C := RX12) (T := TX12) (N := 51) hx hb hw inW_X12 tyX12 tyX12_ok nmX12 hown hK hP hD hS 0 rfl rfl 0 (by decide) (hw _ mw_6_43) (fun _ h9 => h9) rfl (by decide +kernel) rfl rfl (Nat.le_of_ble_eq_true rfl) dX12_settled_2 (fun H locs hP hD hS => ?_)
  refine lv_aload_n hx hb dX12_settled_5 rfl (lv_at hl 0 rfl) ?_
  have hP : va_P D vwCl (List.flatten (wM aM C (va_up ms 0 0) mw ma ml)) H := hP
  have hD : va_D A (List.flatten (wM aM C (va_up ms 0 0) mw ma ml)) := hD
  refine cGoAI (cRunAV (As := []) (rest := []) ⟨hx, hb, hml, hown, hw⟩ hK hN hP hD (k_X12_isRail l D C _ aM  (va_up ms 0 0) mw ma ml  h) (cwV 0 hw (goodV mw_7_204 mw_7_206 mw_s142 mw_1_13 mw_7_207) rfl rfl rfl (by decide +kernel) ⟨Nat.le_of_ble_eq_true rfl, Nat.le_of_ble_eq_true rfl⟩) rfl rfl rfl hl.1 rfl (Nat.le_of_ble_eq_true rfl) dX12_settled_6 ⟨Nat.zero_le _, Nat.zero_le _⟩) hP hD hS hA (fun r1 u H locs h hP hD hS => ?_)
  have hP : va_P D vwCl (List.flatten (wM aM C (va_up ms 0 0) mw ma ml)) H := hP
  have hD : va_D A (List.flatten (wM aM C (va_up ms 0 0) mw ma ml)) := hD
  refine lv_if_ne (tgt := 16) hx hb dX12_settled_9 (by decide) (fun c2 => ?_) (fun c2 => ?_)
  · have h := h.1 c2
    refine lv_aload_n hx hb dX12_settled_16 rfl (lv_at hl 0 rfl) ?_
    refine cGoAV (cRunAV (As := []) (rest := []) ⟨hx, hb, hml, hown, hw⟩ hK hN hP hD (k_X12_laysAside l D C _ aM  (va_up ms 0 0) mw ma ml  h) (cwV 0 hw (goodV mw_8_93 mw_8_95 mw_s161 mw_1_13 mw_8_96) rfl rfl rfl (by decide +kernel) ⟨Nat.le_of_ble_eq_true rfl, Nat.le_of_ble_eq_true rfl⟩) rfl rfl rfl hl.1 rfl (Nat.le_of_ble_eq_true rfl) dX12_settled_17 ⟨Nat.zero_le _, Nat.zero_le _⟩) hP hD hS hA (fun ma_3 H locs h hP hD hS => ?_)
    have hP : va_P D vwCl (List.flatten (wM aM C (va_up ms 0 0) mw ma_3 ml)) H := hP
    have hD : va_D A (List.flatten (wM aM C (va_up ms 0 0) mw ma_3 ml)) := hD
    refine lv_aload_n hx hb dX12_settled_20 rfl (lv_at hl 0 rfl) ?_
    refine lv_bipush (v := 30) hx hb dX12_settled_21 (by decide) ?_
    refine cGoAI (cRunAV (As := [.int 30]) (rest := []) ⟨hx, hb, hml, hown, hw⟩ hK hN hP hD (k_X12_settlesIn l D C _ aM  (va_up ms 0 0) mw ma_3 ml 30 h) (cwV 1 hw (goodV mw_8_81 mw_8_83 mw_s159 mw_1_13 mw_8_84) rfl rfl rfl (by decide +kernel) ⟨Nat.le_of_ble_eq_true rfl, Nat.le_of_ble_eq_true rfl⟩) rfl rfl rfl hl.1 rfl (Nat.le_of_ble_eq_true rfl) dX12_settled_23 ⟨Nat.zero_le _, Nat.zero_le _⟩) hP hD hS hA (fun r8 u H locs h hP hD hS => ?_)
    obtain ⟨ms_4, mw_5, ma_6, ml_7⟩ := u
    have hP : va_P D vwCl (List.flatten (wM aM C ms_4 mw_5 ma_6 ml_7)) H := hP
    have hD : va_D A (List.flatten (wM aM C ms_4 mw_5 ma_6 ml_7)) := hD
    refine lv_pop hx hb dX12_settled_26 rfl ?_
    refine lv_aload_n hx hb dX12_settled_27 rfl (lv_at hl 0 rfl) ?_
    refine lv_iconst (v := 2) hx hb dX12_settled_28 (by decide) ?_
    refine cGoAL (cRunAV (As := [.int 2]) (rest := []) ⟨hx, hb, hml, hown, hw⟩ hK hN hP hD (k_X12_allNow l D C _ aM  ms_4 mw_5 ma_6 ml_7 2 h) (cwV 1 hw (goodV mw_8_28 mw_8_30 mw_s151 mw_1_13 mw_8_31) rfl rfl rfl (by decide +kernel) ⟨Nat.le_of_ble_eq_true rfl, Nat.le_of_ble_eq_true rfl⟩) rfl rfl rfl hl.1 rfl (Nat.le_of_ble_eq_true rfl) dX12_settled_29 ⟨Nat.zero_le _, Nat.zero_le _⟩) hP hD hS hA (fun r12 u H locs h hP hD hS => ?_)
    obtain ⟨ms_9, ma_10, ml_11⟩ := u
    have hP : va_P D vwCl (List.flatten (wM aM C ms_9 mw_5 ma_10 ml_11)) H := hP
    have hD : va_D A (List.flatten (wM aM C ms_9 mw_5 ma_10 ml_11)) := hD
    refine lv_lstore_n (lv' := [(1, .long r12), (0, .ref (aM 0))]) hx hb dX12_settled_32 rfl hl (by decide) rfl (fun ls hl => ?_)
    refine lv_aload_n hx hb dX12_settled_33 rfl (lv_at hl 1 rfl) ?_
    refine cGoAV (cRunAV (As := []) (rest := []) ⟨hx, hb, hml, hown, hw⟩ hK hN hP hD (k_X12_takesBack l D C _ aM  ms_9 mw_5 ma_10 ml_11  h) (cwV 0 hw (goodV mw_8_97 mw_8_99 mw_s162 mw_1_13 mw_8_100) rfl rfl rfl (by decide +kernel) ⟨Nat.le_of_ble_eq_true rfl, Nat.le_of_ble_eq_true rfl⟩) rfl rfl rfl hl.1 rfl (Nat.le_of_ble_eq_true rfl) dX12_settled_34 ⟨Nat.zero_le _, Nat.zero_le _⟩) hP hD hS hA (fun ma_13 H locs h hP hD hS => ?_)
    have hP : va_P D vwCl (List.flatten (wM aM C ms_9 mw_5 ma_13 ml_11)) H := hP
    have hD : va_D A (List.flatten (wM aM C ms_9 mw_5 ma_13 ml_11)) := hD
    refine lv_aload_n hx hb dX12_settled_37 rfl (lv_at hl 1 rfl) ?_
    refine va_get (D := D) (ci := 12) (v := .int (ms_9 13)) (C := RX12) (T := TX12) (N := 51) hx hb hw inW_X12 hown hK hP 0 rfl rfl 41 (by decide) (hw _ mw_6_84) (fun _ h9 => h9) rfl dX12_settled_38 ?_
    refine lv_if_eq (tgt := 48) hx hb dX12_settled_41 (by decide) (fun c14 => ?_) (fun c14 => ?_)
    · have h := h.1 c14
      refine lv_ldc2 (v := (-1)) hx hb hown (hw _ mw_7_15) dX12_settled_48 ?_
      rw [← hQ]
      exact cRetL (v := (-1)) (ms_9, mw_5, ma_13, ml_11) hx hb hr hlocks hS hP hD h dX12_settled_51
    · have h := h.2 c14
      refine lv_lload_n hx hb dX12_settled_44 rfl (lv_at hl 0 rfl) ?_
      refine lv_goto (tgt := 51) hx hb dX12_settled_45 (by decide) ?_
      rw [← hQ]
      exact cRetL (v := r12) (ms_9, mw_5, ma_13, ml_11) hx hb hr hlocks hS hP hD h dX12_settled_51
  · have h := h.2 c2
    refine lv_ldc2 (v := (-2)) hx hb hown (hw _ mw_7_208) dX12_settled_12 ?_
    rw [← hQ]
    exact cRetL (v := (-2)) ((va_up ms 0 0), mw, ma, ml) hx hb hr hlocks hS hP hD h dX12_settled_15
abbrev vsX12_changes : List Cond := Cond.code yX12_changes cX12_changes 10 (some .boolean) :: WS
abbrev rmX12_changes : Room := { frames := 6, cells := 0, slots := 0, locals := 143 }
set_option maxHeartbeats 4000000 in
set_option maxRecDepth 100000 in
theorem k_X12_changes (l : Launch) (D : va_G) (C : Nat → ClassId) (sz : Nat) (aM : Nat → Nat)  (ms : Nat → Int32) (mw : Nat → Int64) (ma : Nat → Nat → Int32) (ml : Nat → Nat → Int64)  {post : Int32 → (Nat → Int32) → (Nat → Nat → Int32) → (Nat → Nat → Int64) → Prop} (h : P_X12_changes ms ma ml post) : Met l yX12_changes vsX12_changes rmX12_changes (cPre D C [.ref (aM 0)] sz (wM aM C ms mw ma ml)) (cQi D (fun (r : Int32) (u : (Nat → Int32) × (Nat → Nat → Int32) × (Nat → Nat → Int64)) => post r u.1 u.2.1 u.2.2) (fun u => wM aM C u.1 mw u.2.1 u.2.2) (va_A (List.flatten (wM aM C ms mw ma ml)) sz)) 0 0 (va_A (List.flatten (wM aM C ms mw ma ml)) sz) := by
  refine cStart (QA := fun A => cQi D (fun (r : Int32) (u : (Nat → Int32) × (Nat → Nat → Int32) × (Nat → Nat → Int64)) => post r u.1 u.2.1 u.2.2) (fun u => wM aM C u.1 mw u.2.1 u.2.2) A) (cc := cX12_changes) (maxL := 10) (ret := (some .boolean)) (by decide) (Nat.le_of_ble_eq_true rfl) ?_
  intro p e s m args below meth c A ls hx hb hr hml hown hw hlocks hname hK hN hA hP hD hS hl
  generalize hQ : MQ below _ args s 0 0 A = Q
  have hl : lv_has ls 10 [(0, .ref (aM 0))] := hl
  obtain ⟨H, hH⟩ : ∃ H, H = s.heap := ⟨_, rfl⟩
  obtain ⟨locs, hlo⟩ : ∃ z : List Loc, z = [] := ⟨_, rfl⟩
  have hP : va_P D vwCl (List.flatten (wM aM C ms mw ma ml)) H := by rw [hH]; exact hP
  have hS : va_S A s.heap H locs := by rw [hH, hlo]; exact hS
  rw [show W p l e rmX12_changes s m args below meth c s.heap [] 0 0 Q (F0 m 0 ls []) = W p l e rmX12_changes s m args below meth c H locs 0 0 Q (F0 m 0 ls []) from by rw [hH, hlo]]
  have N100 : ∀ (x3_ : Int32) (x4_ : Int32) (ms : Nat → Int32) (ma : Nat → Nat → Int32) (ml : Nat → Nat → Int64) (H : Heap) (locs : List Loc) (ls : Array Slot), P_X12_changes_100  post  x3_ x4_ ms ma ml → va_P D vwCl (List.flatten (wM aM C ms mw ma ml)) H → va_D A (List.flatten (wM aM C ms mw ma ml)) → va_S A s.heap H locs → lv_has ls 10 [(0, .ref (aM 0)), (3, .int x3_), (4, .int x4_)] → W p l e rmX12_changes s m args below meth c H locs 0 0 Q (F0 m 100 ls []) := by
    intro x3_ x4_ ms ma ml H locs ls h hP hD hS hl
    refine lv_iload_n hx hb dX12_changes_100 rfl (lv_at hl 1 rfl) ?_
    refine lv_iconst (v := (-1)) hx hb dX12_changes_101 (by decide) ?_
    refine lv_icmp_ne (tgt := 107) hx hb dX12_changes_102 (by decide) (fun c10 => ?_) (fun c10 => ?_)
    · have h := h.1 c10
      refine lv_aload_n hx hb dX12_changes_107 rfl (lv_at hl 0 rfl) ?_
      refine lv_iload_n hx hb dX12_changes_108 rfl (lv_at hl 1 rfl) ?_
      refine lv_iload hx hb dX12_changes_109 (lv_at hl 2 rfl) ?_
      refine cGoAV (cRunAV (As := [.int x3_, .int x4_]) (rest := []) ⟨hx, hb, hml, hown, hw⟩ hK hN hP hD (k_X12_hasOption l D C _ aM  ms mw ma ml x3_ x4_ h) (cwV 2 hw (goodV mw_8_48 mw_8_50 mw_s155 mw_1_13 mw_8_51) rfl rfl rfl (by decide +kernel) ⟨Nat.le_of_ble_eq_true rfl, Nat.le_of_ble_eq_true rfl⟩) rfl rfl rfl hl.1 rfl (Nat.le_of_ble_eq_true rfl) dX12_changes_111 ⟨Nat.zero_le _, Nat.zero_le _⟩) hP hD hS hA (fun ma_11 H locs h hP hD hS => ?_)
      have hP : va_P D vwCl (List.flatten (wM aM C ms mw ma_11 ml)) H := hP
      have hD : va_D A (List.flatten (wM aM C ms mw ma_11 ml)) := hD
      refine lv_iconst (v := 1) hx hb dX12_changes_114 (by decide) ?_
      rw [← hQ]
      exact cRetZ (v := 1) (ms, ma_11, ml) hx hb hr hlocks hS hP hD (Or.inr rfl) h dX12_changes_115
    · have h := h.2 c10
      refine lv_iconst (v := 0) hx hb dX12_changes_105 (by decide) ?_
      rw [← hQ]
      exact cRetZ (v := 0) (ms, ma, ml) hx hb hr hlocks hS hP hD (Or.inl rfl) h dX12_changes_106
  have N14 : ∀  (n14 : Nat) (x1_ : Int64) (x3_ : Int32) (x4_ : Int32) (x5_ : Int32) (ms : Nat → Int32) (ma : Nat → Nat → Int32) (ml : Nat → Nat → Int64) (H : Heap) (locs : List Loc) (ls : Array Slot), P_X12_changes_14  post (fun (x3_ : Int32) (x4_ : Int32) (ms : Nat → Int32) (ma : Nat → Nat → Int32) (ml : Nat → Nat → Int64) => P_X12_changes_100  post  x3_ x4_ ms ma ml)  n14 x1_ x3_ x4_ x5_ ms ma ml → va_P D vwCl (List.flatten (wM aM C ms mw ma ml)) H → va_D A (List.flatten (wM aM C ms mw ma ml)) → va_S A s.heap H locs → lv_has ls 10 [(0, .ref (aM 0)), (1, .long x1_), (3, .int x3_), (4, .int x4_), (5, .int x5_)] → W p l e rmX12_changes s m args below meth c H locs 0 0 Q (F0 m 14 ls []) := by
    intro n14
    induction n14 with
    | zero => intro x1_ x3_ x4_ x5_ ms ma ml H locs ls h hP hD hS hl; exact False.elim h
    | succ n14 ih14 =>
      have N86 : ∀ (x1_ : Int64) (x3_ : Int32) (x4_ : Int32) (x5_ : Int32) (x6_ : Int32) (ms : Nat → Int32) (ma : Nat → Nat → Int32) (ml : Nat → Nat → Int64) (H : Heap) (locs : List Loc) (ls : Array Slot), P_X12_changes_86  post (P_X12_changes_14  post (fun (x3_ : Int32) (x4_ : Int32) (ms : Nat → Int32) (ma : Nat → Nat → Int32) (ml : Nat → Nat → Int64) => P_X12_changes_100  post  x3_ x4_ ms ma ml)  n14) x1_ x3_ x4_ x5_ x6_ ms ma ml → va_P D vwCl (List.flatten (wM aM C ms mw ma ml)) H → va_D A (List.flatten (wM aM C ms mw ma ml)) → va_S A s.heap H locs → lv_has ls 10 [(0, .ref (aM 0)), (1, .long x1_), (3, .int x3_), (4, .int x4_), (5, .int x5_), (6, .int x6_)] → W p l e rmX12_changes s m args below meth c H locs 0 0 Q (F0 m 86 ls []) := by
        intro x1_ x3_ x4_ x5_ x6_ ms ma ml H locs ls h hP hD hS hl
        refine lv_aload_n hx hb dX12_changes_86 rfl (lv_at hl 0 rfl) ?_
        refine lv_iload hx hb dX12_changes_87 (lv_at hl 4 rfl) ?_
        refine lv_iload hx hb dX12_changes_89 (lv_at hl 5 rfl) ?_
        refine cGoAV (cRunAV (As := [.int x5_, .int x6_]) (rest := []) ⟨hx, hb, hml, hown, hw⟩ hK hN hP hD (k_X12_hasOption l D C _ aM  ms mw ma ml x5_ x6_ h) (cwV 2 hw (goodV mw_8_48 mw_8_50 mw_s155 mw_1_13 mw_8_51) rfl rfl rfl (by decide +kernel) ⟨Nat.le_of_ble_eq_true rfl, Nat.le_of_ble_eq_true rfl⟩) rfl rfl rfl hl.1 rfl (Nat.le_of_ble_eq_true rfl) dX12_changes_91 ⟨Nat.zero_le _, Nat.zero_le _⟩) hP hD hS hA (fun ma_1 H locs h hP hD hS => ?_)
        have hP : va_P D vwCl (List.flatten (wM aM C ms mw ma_1 ml)) H := hP
        have hD : va_D A (List.flatten (wM aM C ms mw ma_1 ml)) := hD
        refine lv_iinc (v := (x5_ + 1)) (lv' := [(5, .int (x5_ + 1)), (0, .ref (aM 0)), (1, .long x1_), (3, .int x3_), (4, .int x4_), (6, .int x6_)]) hx hb dX12_changes_94 hl (k := 4) rfl rfl (by decide) rfl (fun ls hl => ?_)
        refine lv_goto (tgt := 14) hx hb dX12_changes_97 (by decide) ?_
        exact ih14 x1_ x3_ x4_ (x5_ + 1) ms ma_1 ml _ _ _ h hP hD hS (lv_sub hl [1, 2, 3, 4, 0] rfl)
      have N36 : ∀ (x5_ : Int32) (x6_ : Int32) (n36 : Nat) (x1_ : Int64) (x3_ : Int32) (x4_ : Int32) (x7_ : Int32) (ms : Nat → Int32) (ma : Nat → Nat → Int32) (ml : Nat → Nat → Int64) (H : Heap) (locs : List Loc) (ls : Array Slot), P_X12_changes_36  post (fun (x1_ : Int64) (x3_ : Int32) (x4_ : Int32) (x5_ : Int32) (x6_ : Int32) (ms : Nat → Int32) (ma : Nat → Nat → Int32) (ml : Nat → Nat → Int64) => P_X12_changes_86  post (P_X12_changes_14  post (fun (x3_ : Int32) (x4_ : Int32) (ms : Nat → Int32) (ma : Nat → Nat → Int32) (ml : Nat → Nat → Int64) => P_X12_changes_100  post  x3_ x4_ ms ma ml)  n14) x1_ x3_ x4_ x5_ x6_ ms ma ml) x5_ x6_ n36 x1_ x3_ x4_ x7_ ms ma ml → va_P D vwCl (List.flatten (wM aM C ms mw ma ml)) H → va_D A (List.flatten (wM aM C ms mw ma ml)) → va_S A s.heap H locs → lv_has ls 10 [(0, .ref (aM 0)), (1, .long x1_), (3, .int x3_), (4, .int x4_), (5, .int x5_), (6, .int x6_), (7, .int x7_)] → W p l e rmX12_changes s m args below meth c H locs 0 0 Q (F0 m 36 ls []) := by
        intro x5_ x6_
        intro n36
        induction n36 with
        | zero => intro x1_ x3_ x4_ x7_ ms ma ml H locs ls h hP hD hS hl; exact False.elim h
        | succ n36 ih36 =>
          intro x1_ x3_ x4_ x7_ ms ma ml H locs ls h hP hD hS hl
          have h : P_X12_changes_36_b  post (fun (x1_ : Int64) (x3_ : Int32) (x4_ : Int32) (x5_ : Int32) (x6_ : Int32) (ms : Nat → Int32) (ma : Nat → Nat → Int32) (ml : Nat → Nat → Int64) => P_X12_changes_86  post (P_X12_changes_14  post (fun (x3_ : Int32) (x4_ : Int32) (ms : Nat → Int32) (ma : Nat → Nat → Int32) (ml : Nat → Nat → Int64) => P_X12_changes_100  post  x3_ x4_ ms ma ml)  n14) x1_ x3_ x4_ x5_ x6_ ms ma ml) x5_ x6_ (P_X12_changes_36  post (fun (x1_ : Int64) (x3_ : Int32) (x4_ : Int32) (x5_ : Int32) (x6_ : Int32) (ms : Nat → Int32) (ma : Nat → Nat → Int32) (ml : Nat → Nat → Int64) => P_X12_changes_86  post (P_X12_changes_14  post (fun (x3_ : Int32) (x4_ : Int32) (ms : Nat → Int32) (ma : Nat → Nat → Int32) (ml : Nat → Nat → Int64) => P_X12_changes_100  post  x3_ x4_ ms ma ml)  n14) x1_ x3_ x4_ x5_ x6_ ms ma ml) x5_ x6_ n36) x1_ x3_ x4_ x7_ ms ma ml := h
          unfold P_X12_changes_36_b at h
          refine lv_iload hx hb dX12_changes_36 (lv_at hl 6 rfl) ?_
          refine lv_aload_n hx hb dX12_changes_38 rfl (lv_at hl 0 rfl) ?_
          refine cGoAI (cRunAV (As := []) (rest := [.int x7_]) ⟨hx, hb, hml, hown, hw⟩ hK hN hP hD (k_X12_optionMany l D C _ aM  ms mw ma ml  h) (cwV 0 hw (goodV mw_8_40 mw_8_42 mw_s153 mw_1_13 mw_8_43) rfl rfl rfl (by decide +kernel) ⟨Nat.le_of_ble_eq_true rfl, Nat.le_of_ble_eq_true rfl⟩) rfl rfl rfl hl.1 rfl (Nat.le_of_ble_eq_true rfl) dX12_changes_39 ⟨Nat.zero_le _, Nat.zero_le _⟩) hP hD hS hA (fun r2 u H locs h hP hD hS => ?_)
          have hP : va_P D vwCl (List.flatten (wM aM C ms mw ma ml)) H := hP
          have hD : va_D A (List.flatten (wM aM C ms mw ma ml)) := hD
          refine lv_icmp_ge (tgt := 86) hx hb dX12_changes_42 (by decide) (fun c3 => ?_) (fun c3 => ?_)
          · have h := h.1 c3
            exact N86 x1_ x3_ x4_ x5_ x6_ ms ma ml _ _ _ h hP hD hS (lv_sub hl [0, 1, 2, 3, 4, 5] rfl)
          · have h := h.2 c3
            refine lv_aload_n hx hb dX12_changes_45 rfl (lv_at hl 0 rfl) ?_
            refine lv_iload hx hb dX12_changes_46 (lv_at hl 4 rfl) ?_
            refine lv_iload hx hb dX12_changes_48 (lv_at hl 6 rfl) ?_
            refine cGoAV (cRunAV (As := [.int x5_, .int x7_]) (rest := []) ⟨hx, hb, hml, hown, hw⟩ hK hN hP hD (k_X12_hasOption l D C _ aM  ms mw ma ml x5_ x7_ h) (cwV 2 hw (goodV mw_8_48 mw_8_50 mw_s155 mw_1_13 mw_8_51) rfl rfl rfl (by decide +kernel) ⟨Nat.le_of_ble_eq_true rfl, Nat.le_of_ble_eq_true rfl⟩) rfl rfl rfl hl.1 rfl (Nat.le_of_ble_eq_true rfl) dX12_changes_50 ⟨Nat.zero_le _, Nat.zero_le _⟩) hP hD hS hA (fun ma_4 H locs h hP hD hS => ?_)
            have hP : va_P D vwCl (List.flatten (wM aM C ms mw ma_4 ml)) H := hP
            have hD : va_D A (List.flatten (wM aM C ms mw ma_4 ml)) := hD
            refine lv_aload_n hx hb dX12_changes_53 rfl (lv_at hl 0 rfl) ?_
            refine lv_iconst (v := 2) hx hb dX12_changes_54 (by decide) ?_
            refine cGoAL (cRunAV (As := [.int 2]) (rest := []) ⟨hx, hb, hml, hown, hw⟩ hK hN hP hD (k_X12_allNow l D C _ aM  ms mw ma_4 ml 2 h) (cwV 1 hw (goodV mw_8_28 mw_8_30 mw_s151 mw_1_13 mw_8_31) rfl rfl rfl (by decide +kernel) ⟨Nat.le_of_ble_eq_true rfl, Nat.le_of_ble_eq_true rfl⟩) rfl rfl rfl hl.1 rfl (Nat.le_of_ble_eq_true rfl) dX12_changes_55 ⟨Nat.zero_le _, Nat.zero_le _⟩) hP hD hS hA (fun r8 u H locs h hP hD hS => ?_)
            obtain ⟨ms_5, ma_6, ml_7⟩ := u
            have hP : va_P D vwCl (List.flatten (wM aM C ms_5 mw ma_6 ml_7)) H := hP
            have hD : va_D A (List.flatten (wM aM C ms_5 mw ma_6 ml_7)) := hD
            refine lv_lstore (lv' := [(8, .long r8), (0, .ref (aM 0)), (1, .long x1_), (3, .int x3_), (4, .int x4_), (5, .int x5_), (6, .int x6_), (7, .int x7_)]) hx hb dX12_changes_58 hl (by decide) rfl (fun ls hl => ?_)
            refine lv_lload hx hb dX12_changes_60 (lv_at hl 0 rfl) ?_
            refine lv_lload_n hx hb dX12_changes_62 rfl (lv_at hl 2 rfl) ?_
            refine W.lcmp hx hb dX12_changes_63 ?_
            refine lv_if_lt (tgt := 70) hx hb dX12_changes_64 (by decide) (fun c9 => ?_) (fun c9 => ?_)
            · have c9 : r8 < x1_ := (lg_cmp_lt _ _).mp c9
              have h := h.1 c9
              refine lv_lload hx hb dX12_changes_70 (lv_at hl 0 rfl) ?_
              refine lv_lstore_n (lv' := [(1, .long r8), (8, .long r8), (0, .ref (aM 0)), (3, .int x3_), (4, .int x4_), (5, .int x5_), (6, .int x6_), (7, .int x7_)]) hx hb dX12_changes_72 rfl hl (by decide) rfl (fun ls hl => ?_)
              refine lv_iload hx hb dX12_changes_73 (lv_at hl 5 rfl) ?_
              refine lv_istore_n (lv' := [(3, .int x5_), (1, .long r8), (8, .long r8), (0, .ref (aM 0)), (4, .int x4_), (5, .int x5_), (6, .int x6_), (7, .int x7_)]) hx hb dX12_changes_75 rfl hl (by decide) rfl (fun ls hl => ?_)
              refine lv_iload hx hb dX12_changes_76 (lv_at hl 7 rfl) ?_
              refine lv_istore (lv' := [(4, .int x7_), (3, .int x5_), (1, .long r8), (8, .long r8), (0, .ref (aM 0)), (5, .int x5_), (6, .int x6_), (7, .int x7_)]) hx hb dX12_changes_78 hl (by decide) rfl (fun ls hl => ?_)
              refine lv_iinc (v := (x7_ + 1)) (lv' := [(7, .int (x7_ + 1)), (4, .int x7_), (3, .int x5_), (1, .long r8), (8, .long r8), (0, .ref (aM 0)), (5, .int x5_), (6, .int x6_)]) hx hb dX12_changes_80 hl (k := 7) rfl rfl (by decide) rfl (fun ls hl => ?_)
              refine lv_goto (tgt := 36) hx hb dX12_changes_83 (by decide) ?_
              exact ih36 r8 x5_ x7_ (x7_ + 1) ms_5 ma_6 ml_7 _ _ _ h hP hD hS (lv_sub hl [5, 3, 2, 1, 6, 7, 0] rfl)
            · have c9 : ¬ r8 < x1_ := fun q => c9 ((lg_cmp_lt _ _).mpr q)
              have h := h.2 c9
              refine lv_goto (tgt := 80) hx hb dX12_changes_67 (by decide) ?_
              refine lv_iinc (v := (x7_ + 1)) (lv' := [(7, .int (x7_ + 1)), (8, .long r8), (0, .ref (aM 0)), (1, .long x1_), (3, .int x3_), (4, .int x4_), (5, .int x5_), (6, .int x6_)]) hx hb dX12_changes_80 hl (k := 7) rfl rfl (by decide) rfl (fun ls hl => ?_)
              refine lv_goto (tgt := 36) hx hb dX12_changes_83 (by decide) ?_
              exact ih36 x1_ x3_ x4_ (x7_ + 1) ms_5 ma_6 ml_7 _ _ _ h hP hD hS (lv_sub hl [2, 3, 4, 5, 6, 7, 0] rfl)
      intro x1_ x3_ x4_ x5_ ms ma ml H locs ls h hP hD hS hl
      refine lv_iload hx hb dX12_changes_14 (lv_at hl 4 rfl) ?_
      refine lv_aload_n hx hb dX12_changes_16 rfl (lv_at hl 0 rfl) ?_
      refine va_get (D := D) (ci := 12) (v := .ref (aM 13)) (C := RX12) (T := TX12) (N := 51) hx hb hw inW_X12 hown hK hP 0 rfl rfl 23 (by decide) (hw _ mw_6_66) (fun _ h9 => h9) rfl dX12_changes_17 ?_
      refine lv_iconst (v := 0) hx hb dX12_changes_20 (by decide) ?_
      refine cIald hx hb hK hP 13 0 rfl rfl 0 (by decide +kernel) (cIn (by decide +kernel)) dX12_changes_21 ?_
      refine lv_icmp_ge (tgt := 100) hx hb dX12_changes_22 (by decide) (fun c12 => ?_) (fun c12 => ?_)
      · have h := h.1 c12
        exact N100 x3_ x4_ ms ma ml _ _ _ h hP hD hS (lv_sub hl [0, 2, 3] rfl)
      · have h := h.2 c12
        refine lv_aload_n hx hb dX12_changes_25 rfl (lv_at hl 0 rfl) ?_
        refine lv_iload hx hb dX12_changes_26 (lv_at hl 4 rfl) ?_
        refine cGoAI (cRunAV (As := [.int x5_]) (rest := []) ⟨hx, hb, hml, hown, hw⟩ hK hN hP hD (k_X12_optionOf l D C _ aM  ms mw ma ml x5_ h) (cwV 1 hw (goodV mw_8_44 mw_8_46 mw_s154 mw_1_13 mw_8_47) rfl rfl rfl (by decide +kernel) ⟨Nat.le_of_ble_eq_true rfl, Nat.le_of_ble_eq_true rfl⟩) rfl rfl rfl hl.1 rfl (Nat.le_of_ble_eq_true rfl) dX12_changes_28 ⟨Nat.zero_le _, Nat.zero_le _⟩) hP hD hS hA (fun r13 u H locs h hP hD hS => ?_)
        have hP : va_P D vwCl (List.flatten (wM aM C ms mw ma ml)) H := hP
        have hD : va_D A (List.flatten (wM aM C ms mw ma ml)) := hD
        refine lv_istore (lv' := [(6, .int r13), (0, .ref (aM 0)), (1, .long x1_), (3, .int x3_), (4, .int x4_), (5, .int x5_)]) hx hb dX12_changes_31 hl (by decide) rfl (fun ls hl => ?_)
        refine lv_iconst (v := 0) hx hb dX12_changes_33 (by decide) ?_
        refine lv_istore (lv' := [(7, .int 0), (6, .int r13), (0, .ref (aM 0)), (1, .long x1_), (3, .int x3_), (4, .int x4_), (5, .int x5_)]) hx hb dX12_changes_34 hl (by decide) rfl (fun ls hl => ?_)
        obtain ⟨n, h⟩ := h
        exact N36 x5_ r13 n x1_ x3_ x4_ 0 ms ma ml _ _ _ h hP hD hS (lv_sub hl [2, 3, 4, 5, 6, 1, 0] rfl)
  refine lv_aload_n hx hb dX12_changes_0 rfl (lv_at hl 0 rfl) ?_
  refine lv_iconst (v := 2) hx hb dX12_changes_1 (by decide) ?_
  refine cGoAL (cRunAV (As := [.int 2]) (rest := []) ⟨hx, hb, hml, hown, hw⟩ hK hN hP hD (k_X12_allNow l D C _ aM  ms mw ma ml 2 h) (cwV 1 hw (goodV mw_8_28 mw_8_30 mw_s151 mw_1_13 mw_8_31) rfl rfl rfl (by decide +kernel) ⟨Nat.le_of_ble_eq_true rfl, Nat.le_of_ble_eq_true rfl⟩) rfl rfl rfl hl.1 rfl (Nat.le_of_ble_eq_true rfl) dX12_changes_2 ⟨Nat.zero_le _, Nat.zero_le _⟩) hP hD hS hA (fun r17 u H locs h hP hD hS => ?_)
  obtain ⟨ms_14, ma_15, ml_16⟩ := u
  have hP : va_P D vwCl (List.flatten (wM aM C ms_14 mw ma_15 ml_16)) H := hP
  have hD : va_D A (List.flatten (wM aM C ms_14 mw ma_15 ml_16)) := hD
  refine lv_lstore_n (lv' := [(1, .long r17), (0, .ref (aM 0))]) hx hb dX12_changes_5 rfl hl (by decide) rfl (fun ls hl => ?_)
  refine lv_iconst (v := (-1)) hx hb dX12_changes_6 (by decide) ?_
  refine lv_istore_n (lv' := [(3, .int (-1)), (1, .long r17), (0, .ref (aM 0))]) hx hb dX12_changes_7 rfl hl (by decide) rfl (fun ls hl => ?_)
  refine lv_iconst (v := 0) hx hb dX12_changes_8 (by decide) ?_
  refine lv_istore (lv' := [(4, .int 0), (3, .int (-1)), (1, .long r17), (0, .ref (aM 0))]) hx hb dX12_changes_9 hl (by decide) rfl (fun ls hl => ?_)
  refine lv_iconst (v := 0) hx hb dX12_changes_11 (by decide) ?_
  refine lv_istore (lv' := [(5, .int 0), (4, .int 0), (3, .int (-1)), (1, .long r17), (0, .ref (aM 0))]) hx hb dX12_changes_12 hl (by decide) rfl (fun ls hl => ?_)
  obtain ⟨n, h⟩ := h
  exact N14  n r17 (-1) 0 0 ms_14 ma_15 ml_16 _ _ _ h hP hD hS (lv_sub hl [4, 3, 2, 1, 0] rfl)
abbrev vsX12_betters : List Cond := Cond.code yX12_betters cX12_betters 3 (some .int) :: WS
abbrev rmX12_betters : Room := { frames := 7, cells := 0, slots := 0, locals := 172 }
set_option maxHeartbeats 4000000 in
set_option maxRecDepth 100000 in
theorem k_X12_betters (l : Launch) (D : va_G) (C : Nat → ClassId) (sz : Nat) (aM : Nat → Nat)  (ms : Nat → Int32) (mw : Nat → Int64) (ma : Nat → Nat → Int32) (ml : Nat → Nat → Int64) (p1 : Int32) {post : Int32 → (Nat → Int32) → (Nat → Nat → Int32) → (Nat → Nat → Int64) → Prop} (h : P_X12_betters ms ma ml p1 post) : Met l yX12_betters vsX12_betters rmX12_betters (cPre D C [.ref (aM 0), .int p1] sz (wM aM C ms mw ma ml)) (cQi D (fun (r : Int32) (u : (Nat → Int32) × (Nat → Nat → Int32) × (Nat → Nat → Int64)) => post r u.1 u.2.1 u.2.2) (fun u => wM aM C u.1 mw u.2.1 u.2.2) (va_A (List.flatten (wM aM C ms mw ma ml)) sz)) 0 0 (va_A (List.flatten (wM aM C ms mw ma ml)) sz) := by
  refine cStart (QA := fun A => cQi D (fun (r : Int32) (u : (Nat → Int32) × (Nat → Nat → Int32) × (Nat → Nat → Int64)) => post r u.1 u.2.1 u.2.2) (fun u => wM aM C u.1 mw u.2.1 u.2.2) A) (cc := cX12_betters) (maxL := 3) (ret := (some .int)) (by decide) (Nat.le_of_ble_eq_true rfl) ?_
  intro p e s m args below meth c A ls hx hb hr hml hown hw hlocks hname hK hN hA hP hD hS hl
  generalize hQ : MQ below _ args s 0 0 A = Q
  have hl : lv_has ls 3 [(0, .ref (aM 0)), (1, .int p1)] := hl
  obtain ⟨H, hH⟩ : ∃ H, H = s.heap := ⟨_, rfl⟩
  obtain ⟨locs, hlo⟩ : ∃ z : List Loc, z = [] := ⟨_, rfl⟩
  have hP : va_P D vwCl (List.flatten (wM aM C ms mw ma ml)) H := by rw [hH]; exact hP
  have hS : va_S A s.heap H locs := by rw [hH, hlo]; exact hS
  rw [show W p l e rmX12_betters s m args below meth c s.heap [] 0 0 Q (F0 m 0 ls []) = W p l e rmX12_betters s m args below meth c H locs 0 0 Q (F0 m 0 ls []) from by rw [hH, hlo]]
  have N2 : ∀  (n2 : Nat) (x2_ : Int32) (ms : Nat → Int32) (ma : Nat → Nat → Int32) (ml : Nat → Nat → Int64) (H : Heap) (locs : List Loc) (ls : Array Slot), P_X12_betters_2 p1 post   n2 x2_ ms ma ml → va_P D vwCl (List.flatten (wM aM C ms mw ma ml)) H → va_D A (List.flatten (wM aM C ms mw ma ml)) → va_S A s.heap H locs → lv_has ls 3 [(0, .ref (aM 0)), (1, .int p1), (2, .int x2_)] → W p l e rmX12_betters s m args below meth c H locs 0 0 Q (F0 m 2 ls []) := by
    intro n2
    induction n2 with
    | zero => intro x2_ ms ma ml H locs ls h hP hD hS hl; exact False.elim h
    | succ n2 ih2 =>
      intro x2_ ms ma ml H locs ls h hP hD hS hl
      refine lv_iload_n hx hb dX12_betters_2 rfl (lv_at hl 2 rfl) ?_
      refine lv_iload_n hx hb dX12_betters_3 rfl (lv_at hl 1 rfl) ?_
      refine lv_icmp_ge (tgt := 20) hx hb dX12_betters_4 (by decide) (fun c1 => ?_) (fun c1 => ?_)
      · have h := h.1 c1
        refine lv_iload_n hx hb dX12_betters_20 rfl (lv_at hl 2 rfl) ?_
        rw [← hQ]
        exact cRetI (v := x2_) (ms, ma, ml) hx hb hr hlocks hS hP hD h dX12_betters_21
      · have h := h.2 c1
        refine lv_aload_n hx hb dX12_betters_7 rfl (lv_at hl 0 rfl) ?_
        refine cGoAI (cRunAV (As := []) (rest := []) ⟨hx, hb, hml, hown, hw⟩ hK hN hP hD (k_X12_changes l D C _ aM  ms mw ma ml  h) (cwV 0 hw (goodV mw_8_114 mw_8_116 mw_s164 mw_1_13 mw_8_117) rfl rfl rfl (by decide +kernel) ⟨Nat.le_of_ble_eq_true rfl, Nat.le_of_ble_eq_true rfl⟩) rfl rfl rfl hl.1 rfl (Nat.le_of_ble_eq_true rfl) dX12_betters_8 ⟨Nat.zero_le _, Nat.zero_le _⟩) hP hD hS hA (fun r5 u H locs h hP hD hS => ?_)
        obtain ⟨ms_2, ma_3, ml_4⟩ := u
        have hP : va_P D vwCl (List.flatten (wM aM C ms_2 mw ma_3 ml_4)) H := hP
        have hD : va_D A (List.flatten (wM aM C ms_2 mw ma_3 ml_4)) := hD
        refine lv_if_eq (tgt := 20) hx hb dX12_betters_11 (by decide) (fun c6 => ?_) (fun c6 => ?_)
        · have h := h.1 c6
          refine lv_iload_n hx hb dX12_betters_20 rfl (lv_at hl 2 rfl) ?_
          rw [← hQ]
          exact cRetI (v := x2_) (ms_2, ma_3, ml_4) hx hb hr hlocks hS hP hD h dX12_betters_21
        · have h := h.2 c6
          refine lv_iinc (v := (x2_ + 1)) (lv' := [(2, .int (x2_ + 1)), (0, .ref (aM 0)), (1, .int p1)]) hx hb dX12_betters_14 hl (k := 2) rfl rfl (by decide) rfl (fun ls hl => ?_)
          refine lv_goto (tgt := 2) hx hb dX12_betters_17 (by decide) ?_
          exact ih2 (x2_ + 1) ms_2 ma_3 ml_4 _ _ _ h hP hD hS (lv_sub hl [1, 2, 0] rfl)
  refine lv_iconst (v := 0) hx hb dX12_betters_0 (by decide) ?_
  refine lv_istore_n (lv' := [(2, .int 0), (0, .ref (aM 0)), (1, .int p1)]) hx hb dX12_betters_1 rfl hl (by decide) rfl (fun ls hl => ?_)
  obtain ⟨n, h⟩ := h
  exact N2  n 0 ms ma ml _ _ _ h hP hD hS (lv_sub hl [1, 2, 0] rfl)
abbrev vsX12_better : List Cond := Cond.code yX12_better cX12_better 2 (some .int) :: WS
abbrev rmX12_better : Room := { frames := 8, cells := 0, slots := 0, locals := 194 }
set_option maxHeartbeats 4000000 in
set_option maxRecDepth 100000 in
theorem k_X12_better (l : Launch) (D : va_G) (C : Nat → ClassId) (sz : Nat) (aM : Nat → Nat)  (ms : Nat → Int32) (mw : Nat → Int64) (ma : Nat → Nat → Int32) (ml : Nat → Nat → Int64) (p1 : Int32) {post : Int32 → (Nat → Int32) → (Nat → Nat → Int32) → (Nat → Nat → Int64) → Prop} (h : P_X12_better ms ma ml p1 post) : Met l yX12_better vsX12_better rmX12_better (cPre D C [.ref (aM 0), .int p1] sz (wM aM C ms mw ma ml)) (cQi D (fun (r : Int32) (u : (Nat → Int32) × (Nat → Nat → Int32) × (Nat → Nat → Int64)) => post r u.1 u.2.1 u.2.2) (fun u => wM aM C u.1 mw u.2.1 u.2.2) (va_A (List.flatten (wM aM C ms mw ma ml)) sz)) 0 0 (va_A (List.flatten (wM aM C ms mw ma ml)) sz) := by
  refine cStart (QA := fun A => cQi D (fun (r : Int32) (u : (Nat → Int32) × (Nat → Nat → Int32) × (Nat → Nat → Int64)) => post r u.1 u.2.1 u.2.2) (fun u => wM aM C u.1 mw u.2.1 u.2.2) A) (cc := cX12_better) (maxL := 2) (ret := (some .int)) (by decide) (Nat.le_of_ble_eq_true rfl) ?_
  intro p e s m args below meth c A ls hx hb hr hml hown hw hlocks hname hK hN hA hP hD hS hl
  generalize hQ : MQ below _ args s 0 0 A = Q
  have hl : lv_has ls 2 [(0, .ref (aM 0)), (1, .int p1)] := hl
  obtain ⟨H, hH⟩ : ∃ H, H = s.heap := ⟨_, rfl⟩
  obtain ⟨locs, hlo⟩ : ∃ z : List Loc, z = [] := ⟨_, rfl⟩
  have hP : va_P D vwCl (List.flatten (wM aM C ms mw ma ml)) H := by rw [hH]; exact hP
  have hS : va_S A s.heap H locs := by rw [hH, hlo]; exact hS
  rw [show W p l e rmX12_better s m args below meth c s.heap [] 0 0 Q (F0 m 0 ls []) = W p l e rmX12_better s m args below meth c H locs 0 0 Q (F0 m 0 ls []) from by rw [hH, hlo]]
  refine lv_aload_n hx hb dX12_better_0 rfl (lv_at hl 0 rfl) ?_
  refine lv_iconst (v := 0) hx hb dX12_better_1 (by decide) ?_
  refine va_put (D := D) (ci := 12) (v := .int 0) (ty := .int) (C := RX12) (T := TX12) (N := 51) hx hb hw inW_X12 tyX12 tyX12_ok nmX12 hown hK hP hD hS 0 rfl rfl 0 (by decide) (hw _ mw_6_43) (fun _ h9 => h9) rfl (by decide +kernel) rfl rfl (Nat.le_of_ble_eq_true rfl) dX12_better_2 (fun H locs hP hD hS => ?_)
  refine lv_aload_n hx hb dX12_better_5 rfl (lv_at hl 0 rfl) ?_
  have hP : va_P D vwCl (List.flatten (wM aM C (va_up ms 0 0) mw ma ml)) H := hP
  have hD : va_D A (List.flatten (wM aM C (va_up ms 0 0) mw ma ml)) := hD
  refine cGoAI (cRunAV (As := []) (rest := []) ⟨hx, hb, hml, hown, hw⟩ hK hN hP hD (k_X12_isRail l D C _ aM  (va_up ms 0 0) mw ma ml  h) (cwV 0 hw (goodV mw_7_204 mw_7_206 mw_s142 mw_1_13 mw_7_207) rfl rfl rfl (by decide +kernel) ⟨Nat.le_of_ble_eq_true rfl, Nat.le_of_ble_eq_true rfl⟩) rfl rfl rfl hl.1 rfl (Nat.le_of_ble_eq_true rfl) dX12_better_6 ⟨Nat.zero_le _, Nat.zero_le _⟩) hP hD hS hA (fun r1 u H locs h hP hD hS => ?_)
  have hP : va_P D vwCl (List.flatten (wM aM C (va_up ms 0 0) mw ma ml)) H := hP
  have hD : va_D A (List.flatten (wM aM C (va_up ms 0 0) mw ma ml)) := hD
  refine lv_if_eq (tgt := 32) hx hb dX12_better_9 (by decide) (fun c2 => ?_) (fun c2 => ?_)
  · have h := h.1 c2
    refine lv_bipush (v := (-2)) hx hb dX12_better_32 (by decide) ?_
    rw [← hQ]
    exact cRetI (v := (-2)) ((va_up ms 0 0), ma, ml) hx hb hr hlocks hS hP hD h dX12_better_34
  · have h := h.2 c2
    refine lv_iload_n hx hb dX12_better_12 rfl (lv_at hl 1 rfl) ?_
    refine lv_i2l hx hb dX12_better_13 rfl ?_
    refine lv_lconst (v := 0) hx hb dX12_better_14 (by decide) ?_
    refine lv_ldc2 (v := 60) hx hb hown (hw _ mw_8_109) dX12_better_15 ?_
    refine cGoEI (cRunES (As := [.long p1.toInt64, .long 0, .long 60]) (rest := []) ⟨hx, hb, hml, hown, hw⟩ hK hN hP hD (k_X12_in l D C _    p1.toInt64 0 60 h) (va_cwS 3 hw (goodS mw_6_205 mw_6_206 mw_1_13 mw_6_207) rfl rfl rfl (by decide +kernel) ⟨Nat.le_of_ble_eq_true rfl, Nat.le_of_ble_eq_true rfl⟩) rfl hl.1 rfl (Nat.le_of_ble_eq_true rfl) dX12_better_18 ⟨Nat.zero_le _, Nat.zero_le _⟩) hP hD hS hA (fun r3 u H locs h hP hD hS => ?_)
    have hP : va_P D vwCl (List.flatten (wM aM C (va_up ms 0 0) mw ma ml)) H := hP
    have hD : va_D A (List.flatten (wM aM C (va_up ms 0 0) mw ma ml)) := hD
    refine lv_if_eq (tgt := 32) hx hb dX12_better_21 (by decide) (fun c4 => ?_) (fun c4 => ?_)
    · have h := h.1 c4
      refine lv_bipush (v := (-2)) hx hb dX12_better_32 (by decide) ?_
      rw [← hQ]
      exact cRetI (v := (-2)) ((va_up ms 0 0), ma, ml) hx hb hr hlocks hS hP hD h dX12_better_34
    · have h := h.2 c4
      refine lv_aload_n hx hb dX12_better_24 rfl (lv_at hl 0 rfl) ?_
      refine lv_iload_n hx hb dX12_better_25 rfl (lv_at hl 1 rfl) ?_
      refine cGoAI (cRunAV (As := [.int p1]) (rest := []) ⟨hx, hb, hml, hown, hw⟩ hK hN hP hD (k_X12_betters l D C _ aM  (va_up ms 0 0) mw ma ml p1 h) (cwV 1 hw (goodV mw_8_110 mw_8_112 mw_s163 mw_1_13 mw_8_113) rfl rfl rfl (by decide +kernel) ⟨Nat.le_of_ble_eq_true rfl, Nat.le_of_ble_eq_true rfl⟩) rfl rfl rfl hl.1 rfl (Nat.le_of_ble_eq_true rfl) dX12_better_26 ⟨Nat.zero_le _, Nat.zero_le _⟩) hP hD hS hA (fun r8 u H locs h hP hD hS => ?_)
      obtain ⟨ms_5, ma_6, ml_7⟩ := u
      have hP : va_P D vwCl (List.flatten (wM aM C ms_5 mw ma_6 ml_7)) H := hP
      have hD : va_D A (List.flatten (wM aM C ms_5 mw ma_6 ml_7)) := hD
      refine lv_goto (tgt := 34) hx hb dX12_better_29 (by decide) ?_
      rw [← hQ]
      exact cRetI (v := r8) (ms_5, ma_6, ml_7) hx hb hr hlocks hS hP hD h dX12_better_34
abbrev vsX12_good : List Cond := Cond.code yX12_good cX12_good 3 (some .long) :: WS
abbrev rmX12_good : Room := { frames := 8, cells := 0, slots := 0, locals := 194 }
set_option maxHeartbeats 4000000 in
set_option maxRecDepth 100000 in
theorem k_X12_good (l : Launch) (D : va_G) (C : Nat → ClassId) (sz : Nat) (aM : Nat → Nat)  (ms : Nat → Int32) (mw : Nat → Int64) (ma : Nat → Nat → Int32) (ml : Nat → Nat → Int64)  {post : Int64 → (Nat → Int32) → (Nat → Nat → Int32) → (Nat → Nat → Int64) → Prop} (h : P_X12_good ms ma ml post) : Met l yX12_good vsX12_good rmX12_good (cPre D C [.ref (aM 0)] sz (wM aM C ms mw ma ml)) (cQl D (fun (r : Int64) (u : (Nat → Int32) × (Nat → Nat → Int32) × (Nat → Nat → Int64)) => post r u.1 u.2.1 u.2.2) (fun u => wM aM C u.1 mw u.2.1 u.2.2) (va_A (List.flatten (wM aM C ms mw ma ml)) sz)) 0 0 (va_A (List.flatten (wM aM C ms mw ma ml)) sz) := by
  refine cStart (QA := fun A => cQl D (fun (r : Int64) (u : (Nat → Int32) × (Nat → Nat → Int32) × (Nat → Nat → Int64)) => post r u.1 u.2.1 u.2.2) (fun u => wM aM C u.1 mw u.2.1 u.2.2) A) (cc := cX12_good) (maxL := 3) (ret := (some .long)) (by decide) (Nat.le_of_ble_eq_true rfl) ?_
  intro p e s m args below meth c A ls hx hb hr hml hown hw hlocks hname hK hN hA hP hD hS hl
  generalize hQ : MQ below _ args s 0 0 A = Q
  have hl : lv_has ls 3 [(0, .ref (aM 0))] := hl
  obtain ⟨H, hH⟩ : ∃ H, H = s.heap := ⟨_, rfl⟩
  obtain ⟨locs, hlo⟩ : ∃ z : List Loc, z = [] := ⟨_, rfl⟩
  have hP : va_P D vwCl (List.flatten (wM aM C ms mw ma ml)) H := by rw [hH]; exact hP
  have hS : va_S A s.heap H locs := by rw [hH, hlo]; exact hS
  rw [show W p l e rmX12_good s m args below meth c s.heap [] 0 0 Q (F0 m 0 ls []) = W p l e rmX12_good s m args below meth c H locs 0 0 Q (F0 m 0 ls []) from by rw [hH, hlo]]
  refine lv_aload_n hx hb dX12_good_0 rfl (lv_at hl 0 rfl) ?_
  refine lv_iconst (v := 0) hx hb dX12_good_1 (by decide) ?_
  refine va_put (D := D) (ci := 12) (v := .int 0) (ty := .int) (C := RX12) (T := TX12) (N := 51) hx hb hw inW_X12 tyX12 tyX12_ok nmX12 hown hK hP hD hS 0 rfl rfl 0 (by decide) (hw _ mw_6_43) (fun _ h9 => h9) rfl (by decide +kernel) rfl rfl (Nat.le_of_ble_eq_true rfl) dX12_good_2 (fun H locs hP hD hS => ?_)
  refine lv_aload_n hx hb dX12_good_5 rfl (lv_at hl 0 rfl) ?_
  have hP : va_P D vwCl (List.flatten (wM aM C (va_up ms 0 0) mw ma ml)) H := hP
  have hD : va_D A (List.flatten (wM aM C (va_up ms 0 0) mw ma ml)) := hD
  refine cGoAI (cRunAV (As := []) (rest := []) ⟨hx, hb, hml, hown, hw⟩ hK hN hP hD (k_X12_isRail l D C _ aM  (va_up ms 0 0) mw ma ml  h) (cwV 0 hw (goodV mw_7_204 mw_7_206 mw_s142 mw_1_13 mw_7_207) rfl rfl rfl (by decide +kernel) ⟨Nat.le_of_ble_eq_true rfl, Nat.le_of_ble_eq_true rfl⟩) rfl rfl rfl hl.1 rfl (Nat.le_of_ble_eq_true rfl) dX12_good_6 ⟨Nat.zero_le _, Nat.zero_le _⟩) hP hD hS hA (fun r1 u H locs h hP hD hS => ?_)
  have hP : va_P D vwCl (List.flatten (wM aM C (va_up ms 0 0) mw ma ml)) H := hP
  have hD : va_D A (List.flatten (wM aM C (va_up ms 0 0) mw ma ml)) := hD
  refine lv_if_ne (tgt := 16) hx hb dX12_good_9 (by decide) (fun c2 => ?_) (fun c2 => ?_)
  · have h := h.1 c2
    refine lv_aload_n hx hb dX12_good_16 rfl (lv_at hl 0 rfl) ?_
    refine cGoAV (cRunAV (As := []) (rest := []) ⟨hx, hb, hml, hown, hw⟩ hK hN hP hD (k_X12_laysAside l D C _ aM  (va_up ms 0 0) mw ma ml  h) (cwV 0 hw (goodV mw_8_93 mw_8_95 mw_s161 mw_1_13 mw_8_96) rfl rfl rfl (by decide +kernel) ⟨Nat.le_of_ble_eq_true rfl, Nat.le_of_ble_eq_true rfl⟩) rfl rfl rfl hl.1 rfl (Nat.le_of_ble_eq_true rfl) dX12_good_17 ⟨Nat.zero_le _, Nat.zero_le _⟩) hP hD hS hA (fun ma_3 H locs h hP hD hS => ?_)
    have hP : va_P D vwCl (List.flatten (wM aM C (va_up ms 0 0) mw ma_3 ml)) H := hP
    have hD : va_D A (List.flatten (wM aM C (va_up ms 0 0) mw ma_3 ml)) := hD
    refine lv_aload_n hx hb dX12_good_20 rfl (lv_at hl 0 rfl) ?_
    refine lv_bipush (v := 60) hx hb dX12_good_21 (by decide) ?_
    refine cGoAI (cRunAV (As := [.int 60]) (rest := []) ⟨hx, hb, hml, hown, hw⟩ hK hN hP hD (k_X12_betters l D C _ aM  (va_up ms 0 0) mw ma_3 ml 60 h) (cwV 1 hw (goodV mw_8_110 mw_8_112 mw_s163 mw_1_13 mw_8_113) rfl rfl rfl (by decide +kernel) ⟨Nat.le_of_ble_eq_true rfl, Nat.le_of_ble_eq_true rfl⟩) rfl rfl rfl hl.1 rfl (Nat.le_of_ble_eq_true rfl) dX12_good_23 ⟨Nat.zero_le _, Nat.zero_le _⟩) hP hD hS hA (fun r7 u H locs h hP hD hS => ?_)
    obtain ⟨ms_4, ma_5, ml_6⟩ := u
    have hP : va_P D vwCl (List.flatten (wM aM C ms_4 mw ma_5 ml_6)) H := hP
    have hD : va_D A (List.flatten (wM aM C ms_4 mw ma_5 ml_6)) := hD
    refine lv_pop hx hb dX12_good_26 rfl ?_
    refine lv_aload_n hx hb dX12_good_27 rfl (lv_at hl 0 rfl) ?_
    refine lv_iconst (v := 2) hx hb dX12_good_28 (by decide) ?_
    refine cGoAL (cRunAV (As := [.int 2]) (rest := []) ⟨hx, hb, hml, hown, hw⟩ hK hN hP hD (k_X12_allNow l D C _ aM  ms_4 mw ma_5 ml_6 2 h) (cwV 1 hw (goodV mw_8_28 mw_8_30 mw_s151 mw_1_13 mw_8_31) rfl rfl rfl (by decide +kernel) ⟨Nat.le_of_ble_eq_true rfl, Nat.le_of_ble_eq_true rfl⟩) rfl rfl rfl hl.1 rfl (Nat.le_of_ble_eq_true rfl) dX12_good_29 ⟨Nat.zero_le _, Nat.zero_le _⟩) hP hD hS hA (fun r11 u H locs h hP hD hS => ?_)
    obtain ⟨ms_8, ma_9, ml_10⟩ := u
    have hP : va_P D vwCl (List.flatten (wM aM C ms_8 mw ma_9 ml_10)) H := hP
    have hD : va_D A (List.flatten (wM aM C ms_8 mw ma_9 ml_10)) := hD
    refine lv_lstore_n (lv' := [(1, .long r11), (0, .ref (aM 0))]) hx hb dX12_good_32 rfl hl (by decide) rfl (fun ls hl => ?_)
    refine lv_aload_n hx hb dX12_good_33 rfl (lv_at hl 1 rfl) ?_
    refine cGoAV (cRunAV (As := []) (rest := []) ⟨hx, hb, hml, hown, hw⟩ hK hN hP hD (k_X12_takesBack l D C _ aM  ms_8 mw ma_9 ml_10  h) (cwV 0 hw (goodV mw_8_97 mw_8_99 mw_s162 mw_1_13 mw_8_100) rfl rfl rfl (by decide +kernel) ⟨Nat.le_of_ble_eq_true rfl, Nat.le_of_ble_eq_true rfl⟩) rfl rfl rfl hl.1 rfl (Nat.le_of_ble_eq_true rfl) dX12_good_34 ⟨Nat.zero_le _, Nat.zero_le _⟩) hP hD hS hA (fun ma_12 H locs h hP hD hS => ?_)
    have hP : va_P D vwCl (List.flatten (wM aM C ms_8 mw ma_12 ml_10)) H := hP
    have hD : va_D A (List.flatten (wM aM C ms_8 mw ma_12 ml_10)) := hD
    refine lv_lload_n hx hb dX12_good_37 rfl (lv_at hl 0 rfl) ?_
    rw [← hQ]
    exact cRetL (v := r11) (ms_8, ma_12, ml_10) hx hb hr hlocks hS hP hD h dX12_good_38
  · have h := h.2 c2
    refine lv_ldc2 (v := (-2)) hx hb hown (hw _ mw_7_208) dX12_good_12 ?_
    rw [← hQ]
    exact cRetL (v := (-2)) ((va_up ms 0 0), ma, ml) hx hb hr hlocks hS hP hD h dX12_good_15
abbrev vsX12_areTwo : List Cond := Cond.code yX12_areTwo cX12_areTwo 3 (some .boolean) :: WS
abbrev rmX12_areTwo : Room := { frames := 2, cells := 0, slots := 0, locals := 46 }
set_option maxHeartbeats 4000000 in
set_option maxRecDepth 100000 in
theorem k_X12_areTwo (l : Launch) (D : va_G) (C : Nat → ClassId) (sz : Nat) (aM : Nat → Nat)  (ms : Nat → Int32) (mw : Nat → Int64) (ma : Nat → Nat → Int32) (ml : Nat → Nat → Int64) (p1 : Int32) (p2 : Int32) {post : Int32 → Prop} (h : P_X12_areTwo ma p1 p2 post) : Met l yX12_areTwo vsX12_areTwo rmX12_areTwo (cPre D C [.ref (aM 0), .int p1, .int p2] sz (wM aM C ms mw ma ml)) (cQi D (fun (r : Int32) (u : Unit) => post r ) (fun u => wM aM C ms mw ma ml) (va_A (List.flatten (wM aM C ms mw ma ml)) sz)) 0 0 (va_A (List.flatten (wM aM C ms mw ma ml)) sz) := by
  refine cStart (QA := fun A => cQi D (fun (r : Int32) (u : Unit) => post r ) (fun u => wM aM C ms mw ma ml) A) (cc := cX12_areTwo) (maxL := 3) (ret := (some .boolean)) (by decide) (Nat.le_of_ble_eq_true rfl) ?_
  intro p e s m args below meth c A ls hx hb hr hml hown hw hlocks hname hK hN hA hP hD hS hl
  generalize hQ : MQ below _ args s 0 0 A = Q
  have hl : lv_has ls 3 [(0, .ref (aM 0)), (1, .int p1), (2, .int p2)] := hl
  obtain ⟨H, hH⟩ : ∃ H, H = s.heap := ⟨_, rfl⟩
  obtain ⟨locs, hlo⟩ : ∃ z : List Loc, z = [] := ⟨_, rfl⟩
  have hP : va_P D vwCl (List.flatten (wM aM C ms mw ma ml)) H := by rw [hH]; exact hP
  have hS : va_S A s.heap H locs := by rw [hH, hlo]; exact hS
  rw [show W p l e rmX12_areTwo s m args below meth c s.heap [] 0 0 Q (F0 m 0 ls []) = W p l e rmX12_areTwo s m args below meth c H locs 0 0 Q (F0 m 0 ls []) from by rw [hH, hlo]]
  refine lv_aload_n hx hb dX12_areTwo_0 rfl (lv_at hl 0 rfl) ?_
  refine lv_iload_n hx hb dX12_areTwo_1 rfl (lv_at hl 1 rfl) ?_
  refine cGoAI (cRunAV (As := [.int p1]) (rest := []) ⟨hx, hb, hml, hown, hw⟩ hK hN hP hD (k_X12_isBike l D C _ aM  ms mw ma ml p1 h) (cwV 1 hw (goodV mw_7_143 mw_7_145 mw_s133 mw_1_13 mw_7_146) rfl rfl rfl (by decide +kernel) ⟨Nat.le_of_ble_eq_true rfl, Nat.le_of_ble_eq_true rfl⟩) rfl rfl rfl hl.1 rfl (Nat.le_of_ble_eq_true rfl) dX12_areTwo_2 ⟨Nat.zero_le _, Nat.zero_le _⟩) hP hD hS hA (fun r1 u H locs h hP hD hS => ?_)
  have hP : va_P D vwCl (List.flatten (wM aM C ms mw ma ml)) H := hP
  have hD : va_D A (List.flatten (wM aM C ms mw ma ml)) := hD
  refine lv_if_eq (tgt := 25) hx hb dX12_areTwo_5 (by decide) (fun c2 => ?_) (fun c2 => ?_)
  · have h := h.1 c2
    refine lv_iconst (v := 0) hx hb dX12_areTwo_25 (by decide) ?_
    rw [← hQ]
    exact cRetZ (v := 0) () hx hb hr hlocks hS hP hD (Or.inl rfl) h dX12_areTwo_26
  · have h := h.2 c2
    refine lv_aload_n hx hb dX12_areTwo_8 rfl (lv_at hl 0 rfl) ?_
    refine lv_iload_n hx hb dX12_areTwo_9 rfl (lv_at hl 2 rfl) ?_
    refine cGoAI (cRunAV (As := [.int p2]) (rest := []) ⟨hx, hb, hml, hown, hw⟩ hK hN hP hD (k_X12_isBike l D C _ aM  ms mw ma ml p2 h) (cwV 1 hw (goodV mw_7_143 mw_7_145 mw_s133 mw_1_13 mw_7_146) rfl rfl rfl (by decide +kernel) ⟨Nat.le_of_ble_eq_true rfl, Nat.le_of_ble_eq_true rfl⟩) rfl rfl rfl hl.1 rfl (Nat.le_of_ble_eq_true rfl) dX12_areTwo_10 ⟨Nat.zero_le _, Nat.zero_le _⟩) hP hD hS hA (fun r3 u H locs h hP hD hS => ?_)
    have hP : va_P D vwCl (List.flatten (wM aM C ms mw ma ml)) H := hP
    have hD : va_D A (List.flatten (wM aM C ms mw ma ml)) := hD
    refine lv_if_eq (tgt := 25) hx hb dX12_areTwo_13 (by decide) (fun c4 => ?_) (fun c4 => ?_)
    · have h := h.1 c4
      refine lv_iconst (v := 0) hx hb dX12_areTwo_25 (by decide) ?_
      rw [← hQ]
      exact cRetZ (v := 0) () hx hb hr hlocks hS hP hD (Or.inl rfl) h dX12_areTwo_26
    · have h := h.2 c4
      refine lv_iload_n hx hb dX12_areTwo_16 rfl (lv_at hl 1 rfl) ?_
      refine lv_iload_n hx hb dX12_areTwo_17 rfl (lv_at hl 2 rfl) ?_
      refine lv_icmp_eq (tgt := 25) hx hb dX12_areTwo_18 (by decide) (fun c5 => ?_) (fun c5 => ?_)
      · have h := h.1 c5
        refine lv_iconst (v := 0) hx hb dX12_areTwo_25 (by decide) ?_
        rw [← hQ]
        exact cRetZ (v := 0) () hx hb hr hlocks hS hP hD (Or.inl rfl) h dX12_areTwo_26
      · have h := h.2 c5
        refine lv_iconst (v := 1) hx hb dX12_areTwo_21 (by decide) ?_
        refine lv_goto (tgt := 26) hx hb dX12_areTwo_22 (by decide) ?_
        rw [← hQ]
        exact cRetZ (v := 1) () hx hb hr hlocks hS hP hD (Or.inr rfl) h dX12_areTwo_26
abbrev vsX12_pair : List Cond := Cond.code yX12_pair cX12_pair 12 (some .int) :: WS
abbrev rmX12_pair : Room := { frames := 5, cells := 0, slots := 0, locals := 119 }
set_option maxHeartbeats 4000000 in
set_option maxRecDepth 100000 in
theorem k_X12_pair (l : Launch) (D : va_G) (C : Nat → ClassId) (sz : Nat) (aM : Nat → Nat)  (ms : Nat → Int32) (mw : Nat → Int64) (ma : Nat → Nat → Int32) (ml : Nat → Nat → Int64) (p1 : Int32) (p2 : Int32) {post : Int32 → (Nat → Int32) → (Nat → Nat → Int32) → (Nat → Nat → Int64) → Prop} (h : P_X12_pair ms ma ml p1 p2 post) : Met l yX12_pair vsX12_pair rmX12_pair (cPre D C [.ref (aM 0), .int p1, .int p2] sz (wM aM C ms mw ma ml)) (cQi D (fun (r : Int32) (u : (Nat → Int32) × (Nat → Nat → Int32) × (Nat → Nat → Int64)) => post r u.1 u.2.1 u.2.2) (fun u => wM aM C u.1 mw u.2.1 u.2.2) (va_A (List.flatten (wM aM C ms mw ma ml)) sz)) 0 0 (va_A (List.flatten (wM aM C ms mw ma ml)) sz) := by
  refine cStart (QA := fun A => cQi D (fun (r : Int32) (u : (Nat → Int32) × (Nat → Nat → Int32) × (Nat → Nat → Int64)) => post r u.1 u.2.1 u.2.2) (fun u => wM aM C u.1 mw u.2.1 u.2.2) A) (cc := cX12_pair) (maxL := 12) (ret := (some .int)) (by decide) (Nat.le_of_ble_eq_true rfl) ?_
  intro p e s m args below meth c A ls hx hb hr hml hown hw hlocks hname hK hN hA hP hD hS hl
  generalize hQ : MQ below _ args s 0 0 A = Q
  have hl : lv_has ls 12 [(0, .ref (aM 0)), (1, .int p1), (2, .int p2)] := hl
  obtain ⟨H, hH⟩ : ∃ H, H = s.heap := ⟨_, rfl⟩
  obtain ⟨locs, hlo⟩ : ∃ z : List Loc, z = [] := ⟨_, rfl⟩
  have hP : va_P D vwCl (List.flatten (wM aM C ms mw ma ml)) H := by rw [hH]; exact hP
  have hS : va_S A s.heap H locs := by rw [hH, hlo]; exact hS
  rw [show W p l e rmX12_pair s m args below meth c s.heap [] 0 0 Q (F0 m 0 ls []) = W p l e rmX12_pair s m args below meth c H locs 0 0 Q (F0 m 0 ls []) from by rw [hH, hlo]]
  have N134 : ∀ (x3_ : Int32) (x4_ : Int32) (x5_ : Int32) (ms : Nat → Int32) (ma : Nat → Nat → Int32) (ml : Nat → Nat → Int64) (H : Heap) (locs : List Loc) (ls : Array Slot), P_X12_pair_134 p1 p2 post  x3_ x4_ x5_ ms ma ml → va_P D vwCl (List.flatten (wM aM C ms mw ma ml)) H → va_D A (List.flatten (wM aM C ms mw ma ml)) → va_S A s.heap H locs → lv_has ls 12 [(0, .ref (aM 0)), (1, .int p1), (2, .int p2), (3, .int x3_), (4, .int x4_), (5, .int x5_)] → W p l e rmX12_pair s m args below meth c H locs 0 0 Q (F0 m 134 ls []) := by
    intro x3_ x4_ x5_ ms ma ml H locs ls h hP hD hS hl
    refine lv_aload_n hx hb dX12_pair_134 rfl (lv_at hl 0 rfl) ?_
    refine lv_iload_n hx hb dX12_pair_135 rfl (lv_at hl 1 rfl) ?_
    refine lv_iload_n hx hb dX12_pair_136 rfl (lv_at hl 3 rfl) ?_
    refine cGoAV (cRunAV (As := [.int p1, .int x3_]) (rest := []) ⟨hx, hb, hml, hown, hw⟩ hK hN hP hD (k_X12_hasOption l D C _ aM  ms mw ma ml p1 x3_ h) (cwV 2 hw (goodV mw_8_48 mw_8_50 mw_s155 mw_1_13 mw_8_51) rfl rfl rfl (by decide +kernel) ⟨Nat.le_of_ble_eq_true rfl, Nat.le_of_ble_eq_true rfl⟩) rfl rfl rfl hl.1 rfl (Nat.le_of_ble_eq_true rfl) dX12_pair_137 ⟨Nat.zero_le _, Nat.zero_le _⟩) hP hD hS hA (fun ma_15 H locs h hP hD hS => ?_)
    have hP : va_P D vwCl (List.flatten (wM aM C ms mw ma_15 ml)) H := hP
    have hD : va_D A (List.flatten (wM aM C ms mw ma_15 ml)) := hD
    refine lv_aload_n hx hb dX12_pair_140 rfl (lv_at hl 0 rfl) ?_
    refine lv_iload_n hx hb dX12_pair_141 rfl (lv_at hl 2 rfl) ?_
    refine lv_iload hx hb dX12_pair_142 (lv_at hl 4 rfl) ?_
    refine cGoAV (cRunAV (As := [.int p2, .int x4_]) (rest := []) ⟨hx, hb, hml, hown, hw⟩ hK hN hP hD (k_X12_hasOption l D C _ aM  ms mw ma_15 ml p2 x4_ h) (cwV 2 hw (goodV mw_8_48 mw_8_50 mw_s155 mw_1_13 mw_8_51) rfl rfl rfl (by decide +kernel) ⟨Nat.le_of_ble_eq_true rfl, Nat.le_of_ble_eq_true rfl⟩) rfl rfl rfl hl.1 rfl (Nat.le_of_ble_eq_true rfl) dX12_pair_144 ⟨Nat.zero_le _, Nat.zero_le _⟩) hP hD hS hA (fun ma_16 H locs h hP hD hS => ?_)
    have hP : va_P D vwCl (List.flatten (wM aM C ms mw ma_16 ml)) H := hP
    have hD : va_D A (List.flatten (wM aM C ms mw ma_16 ml)) := hD
    refine lv_iload hx hb dX12_pair_147 (lv_at hl 5 rfl) ?_
    rw [← hQ]
    exact cRetI (v := x5_) (ms, ma_16, ml) hx hb hr hlocks hS hP hD h dX12_pair_149
  have N39 : ∀ (x3_ : Int32) (x4_ : Int32) (n39 : Nat) (x5_ : Int32) (x6_ : Int64) (x8_ : Int32) (ms : Nat → Int32) (ma : Nat → Nat → Int32) (ml : Nat → Nat → Int64) (H : Heap) (locs : List Loc) (ls : Array Slot), P_X12_pair_39 p1 p2 post (fun (x3_ : Int32) (x4_ : Int32) (x5_ : Int32) (ms : Nat → Int32) (ma : Nat → Nat → Int32) (ml : Nat → Nat → Int64) => P_X12_pair_134 p1 p2 post  x3_ x4_ x5_ ms ma ml) x3_ x4_ n39 x5_ x6_ x8_ ms ma ml → va_P D vwCl (List.flatten (wM aM C ms mw ma ml)) H → va_D A (List.flatten (wM aM C ms mw ma ml)) → va_S A s.heap H locs → lv_has ls 12 [(0, .ref (aM 0)), (1, .int p1), (2, .int p2), (3, .int x3_), (4, .int x4_), (5, .int x5_), (6, .long x6_), (8, .int x8_)] → W p l e rmX12_pair s m args below meth c H locs 0 0 Q (F0 m 39 ls []) := by
    intro x3_ x4_
    intro n39
    induction n39 with
    | zero => intro x5_ x6_ x8_ ms ma ml H locs ls h hP hD hS hl; exact False.elim h
    | succ n39 ih39 =>
      have N51 : ∀ (x8_ : Int32) (n51 : Nat) (x5_ : Int32) (x6_ : Int64) (x9_ : Int32) (ms : Nat → Int32) (ma : Nat → Nat → Int32) (ml : Nat → Nat → Int64) (H : Heap) (locs : List Loc) (ls : Array Slot), P_X12_pair_51 p1 p2 x3_ x4_ post (P_X12_pair_39 p1 p2 post (fun (x3_ : Int32) (x4_ : Int32) (x5_ : Int32) (ms : Nat → Int32) (ma : Nat → Nat → Int32) (ml : Nat → Nat → Int64) => P_X12_pair_134 p1 p2 post  x3_ x4_ x5_ ms ma ml) x3_ x4_ n39) x8_ n51 x5_ x6_ x9_ ms ma ml → va_P D vwCl (List.flatten (wM aM C ms mw ma ml)) H → va_D A (List.flatten (wM aM C ms mw ma ml)) → va_S A s.heap H locs → lv_has ls 12 [(0, .ref (aM 0)), (1, .int p1), (2, .int p2), (3, .int x3_), (4, .int x4_), (5, .int x5_), (6, .long x6_), (8, .int x8_), (9, .int x9_)] → W p l e rmX12_pair s m args below meth c H locs 0 0 Q (F0 m 51 ls []) := by
        intro x8_
        intro n51
        induction n51 with
        | zero => intro x5_ x6_ x9_ ms ma ml H locs ls h hP hD hS hl; exact False.elim h
        | succ n51 ih51 =>
          intro x5_ x6_ x9_ ms ma ml H locs ls h hP hD hS hl
          have h : P_X12_pair_51_b p1 p2 x3_ x4_ post (P_X12_pair_39 p1 p2 post (fun (x3_ : Int32) (x4_ : Int32) (x5_ : Int32) (ms : Nat → Int32) (ma : Nat → Nat → Int32) (ml : Nat → Nat → Int64) => P_X12_pair_134 p1 p2 post  x3_ x4_ x5_ ms ma ml) x3_ x4_ n39) x8_ (P_X12_pair_51 p1 p2 x3_ x4_ post (P_X12_pair_39 p1 p2 post (fun (x3_ : Int32) (x4_ : Int32) (x5_ : Int32) (ms : Nat → Int32) (ma : Nat → Nat → Int32) (ml : Nat → Nat → Int64) => P_X12_pair_134 p1 p2 post  x3_ x4_ x5_ ms ma ml) x3_ x4_ n39) x8_ n51) x5_ x6_ x9_ ms ma ml := h
          unfold P_X12_pair_51_b at h
          refine lv_iload hx hb dX12_pair_51 (lv_at hl 8 rfl) ?_
          refine lv_aload_n hx hb dX12_pair_53 rfl (lv_at hl 0 rfl) ?_
          refine cGoAI (cRunAV (As := []) (rest := [.int x9_]) ⟨hx, hb, hml, hown, hw⟩ hK hN hP hD (k_X12_optionMany l D C _ aM  ms mw ma ml  h) (cwV 0 hw (goodV mw_8_40 mw_8_42 mw_s153 mw_1_13 mw_8_43) rfl rfl rfl (by decide +kernel) ⟨Nat.le_of_ble_eq_true rfl, Nat.le_of_ble_eq_true rfl⟩) rfl rfl rfl hl.1 rfl (Nat.le_of_ble_eq_true rfl) dX12_pair_54 ⟨Nat.zero_le _, Nat.zero_le _⟩) hP hD hS hA (fun r1 u H locs h hP hD hS => ?_)
          have hP : va_P D vwCl (List.flatten (wM aM C ms mw ma ml)) H := hP
          have hD : va_D A (List.flatten (wM aM C ms mw ma ml)) := hD
          refine lv_icmp_ge (tgt := 128) hx hb dX12_pair_57 (by decide) (fun c2 => ?_) (fun c2 => ?_)
          · have h := h.1 c2
            refine lv_iinc (v := (x8_ + 1)) (lv' := [(8, .int (x8_ + 1)), (0, .ref (aM 0)), (1, .int p1), (2, .int p2), (3, .int x3_), (4, .int x4_), (5, .int x5_), (6, .long x6_), (9, .int x9_)]) hx hb dX12_pair_128 hl (k := 7) rfl rfl (by decide) rfl (fun ls hl => ?_)
            refine lv_goto (tgt := 39) hx hb dX12_pair_131 (by decide) ?_
            exact ih39 x5_ x6_ (x8_ + 1) ms ma ml _ _ _ h hP hD hS (lv_sub hl [1, 2, 3, 4, 5, 6, 7, 0] rfl)
          · have h := h.2 c2
            refine lv_aload_n hx hb dX12_pair_60 rfl (lv_at hl 0 rfl) ?_
            refine lv_iload_n hx hb dX12_pair_61 rfl (lv_at hl 1 rfl) ?_
            refine lv_iload hx hb dX12_pair_62 (lv_at hl 7 rfl) ?_
            refine cGoAV (cRunAV (As := [.int p1, .int x8_]) (rest := []) ⟨hx, hb, hml, hown, hw⟩ hK hN hP hD (k_X12_hasOption l D C _ aM  ms mw ma ml p1 x8_ h) (cwV 2 hw (goodV mw_8_48 mw_8_50 mw_s155 mw_1_13 mw_8_51) rfl rfl rfl (by decide +kernel) ⟨Nat.le_of_ble_eq_true rfl, Nat.le_of_ble_eq_true rfl⟩) rfl rfl rfl hl.1 rfl (Nat.le_of_ble_eq_true rfl) dX12_pair_64 ⟨Nat.zero_le _, Nat.zero_le _⟩) hP hD hS hA (fun ma_3 H locs h hP hD hS => ?_)
            have hP : va_P D vwCl (List.flatten (wM aM C ms mw ma_3 ml)) H := hP
            have hD : va_D A (List.flatten (wM aM C ms mw ma_3 ml)) := hD
            refine lv_aload_n hx hb dX12_pair_67 rfl (lv_at hl 0 rfl) ?_
            refine lv_iload_n hx hb dX12_pair_68 rfl (lv_at hl 2 rfl) ?_
            refine lv_iload hx hb dX12_pair_69 (lv_at hl 8 rfl) ?_
            refine cGoAV (cRunAV (As := [.int p2, .int x9_]) (rest := []) ⟨hx, hb, hml, hown, hw⟩ hK hN hP hD (k_X12_hasOption l D C _ aM  ms mw ma_3 ml p2 x9_ h) (cwV 2 hw (goodV mw_8_48 mw_8_50 mw_s155 mw_1_13 mw_8_51) rfl rfl rfl (by decide +kernel) ⟨Nat.le_of_ble_eq_true rfl, Nat.le_of_ble_eq_true rfl⟩) rfl rfl rfl hl.1 rfl (Nat.le_of_ble_eq_true rfl) dX12_pair_71 ⟨Nat.zero_le _, Nat.zero_le _⟩) hP hD hS hA (fun ma_4 H locs h hP hD hS => ?_)
            have hP : va_P D vwCl (List.flatten (wM aM C ms mw ma_4 ml)) H := hP
            have hD : va_D A (List.flatten (wM aM C ms mw ma_4 ml)) := hD
            refine lv_aload_n hx hb dX12_pair_74 rfl (lv_at hl 0 rfl) ?_
            refine cGoAV (cRunAV (As := []) (rest := []) ⟨hx, hb, hml, hown, hw⟩ hK hN hP hD (k_X12_night l D C _ aM  ms mw ma_4 ml  h) (cwV 0 hw (goodV mw_7_209 mw_7_211 mw_s143 mw_1_13 mw_7_212) rfl rfl rfl (by decide +kernel) ⟨Nat.le_of_ble_eq_true rfl, Nat.le_of_ble_eq_true rfl⟩) rfl rfl rfl hl.1 rfl (Nat.le_of_ble_eq_true rfl) dX12_pair_75 ⟨Nat.zero_le _, Nat.zero_le _⟩) hP hD hS hA (fun u H locs h hP hD hS => ?_)
            obtain ⟨ms_5, ma_6, ml_7⟩ := u
            have hP : va_P D vwCl (List.flatten (wM aM C ms_5 mw ma_6 ml_7)) H := hP
            have hD : va_D A (List.flatten (wM aM C ms_5 mw ma_6 ml_7)) := hD
            refine lv_aload_n hx hb dX12_pair_78 rfl (lv_at hl 0 rfl) ?_
            refine lv_iload_n hx hb dX12_pair_79 rfl (lv_at hl 1 rfl) ?_
            refine cGoAL (cRunAV (As := [.int p1]) (rest := []) ⟨hx, hb, hml, hown, hw⟩ hK hN hP hD (k_X12_costOf l D C _ aM  ms_5 mw ma_6 ml_7 p1 h) (cwV 1 hw (goodV mw_8_16 mw_8_18 mw_s149 mw_1_13 mw_8_19) rfl rfl rfl (by decide +kernel) ⟨Nat.le_of_ble_eq_true rfl, Nat.le_of_ble_eq_true rfl⟩) rfl rfl rfl hl.1 rfl (Nat.le_of_ble_eq_true rfl) dX12_pair_80 ⟨Nat.zero_le _, Nat.zero_le _⟩) hP hD hS hA (fun r8 u H locs h hP hD hS => ?_)
            have hP : va_P D vwCl (List.flatten (wM aM C ms_5 mw ma_6 ml_7)) H := hP
            have hD : va_D A (List.flatten (wM aM C ms_5 mw ma_6 ml_7)) := hD
            refine lv_aload_n hx hb dX12_pair_83 rfl (lv_at hl 0 rfl) ?_
            refine lv_iload_n hx hb dX12_pair_84 rfl (lv_at hl 2 rfl) ?_
            refine cGoAL (cRunAV (As := [.int p2]) (rest := [.long r8]) ⟨hx, hb, hml, hown, hw⟩ hK hN hP hD (k_X12_costOf l D C _ aM  ms_5 mw ma_6 ml_7 p2 h) (cwV 1 hw (goodV mw_8_16 mw_8_18 mw_s149 mw_1_13 mw_8_19) rfl rfl rfl (by decide +kernel) ⟨Nat.le_of_ble_eq_true rfl, Nat.le_of_ble_eq_true rfl⟩) rfl rfl rfl hl.1 rfl (Nat.le_of_ble_eq_true rfl) dX12_pair_85 ⟨Nat.zero_le _, Nat.zero_le _⟩) hP hD hS hA (fun r9 u H locs h hP hD hS => ?_)
            have hP : va_P D vwCl (List.flatten (wM aM C ms_5 mw ma_6 ml_7)) H := hP
            have hD : va_D A (List.flatten (wM aM C ms_5 mw ma_6 ml_7)) := hD
            refine lv_ladd hx hb dX12_pair_88 ?_
            refine lv_topl (fun x10 ex10 => ?_)
            have h := h x10 ex10
            refine lv_lstore (lv' := [(10, .long x10), (0, .ref (aM 0)), (1, .int p1), (2, .int p2), (3, .int x3_), (4, .int x4_), (5, .int x5_), (6, .long x6_), (8, .int x8_), (9, .int x9_)]) hx hb dX12_pair_89 hl (by decide) rfl (fun ls hl => ?_)
            refine lv_iload hx hb dX12_pair_91 (lv_at hl 6 rfl) ?_
            refine lv_iconst (v := (-1)) hx hb dX12_pair_93 (by decide) ?_
            refine lv_icmp_eq (tgt := 108) hx hb dX12_pair_94 (by decide) (fun c11 => ?_) (fun c11 => ?_)
            · have h := h.1 c11
              refine lv_bipush (v := 100) hx hb dX12_pair_108 (by decide) ?_
              refine lv_iload hx hb dX12_pair_110 (lv_at hl 8 rfl) ?_
              refine lv_imul hx hb dX12_pair_112 ?_
              refine lv_iload hx hb dX12_pair_113 (lv_at hl 9 rfl) ?_
              refine lv_iadd hx hb dX12_pair_115 ?_
              refine lv_topi (fun x12 ex12 => ?_)
              have h := h x12 ex12
              refine lv_istore (lv' := [(5, .int x12), (10, .long x10), (0, .ref (aM 0)), (1, .int p1), (2, .int p2), (3, .int x3_), (4, .int x4_), (6, .long x6_), (8, .int x8_), (9, .int x9_)]) hx hb dX12_pair_116 hl (by decide) rfl (fun ls hl => ?_)
              refine lv_lload hx hb dX12_pair_118 (lv_at hl 1 rfl) ?_
              refine lv_lstore (lv' := [(6, .long x10), (5, .int x12), (10, .long x10), (0, .ref (aM 0)), (1, .int p1), (2, .int p2), (3, .int x3_), (4, .int x4_), (8, .int x8_), (9, .int x9_)]) hx hb dX12_pair_120 hl (by decide) rfl (fun ls hl => ?_)
              refine lv_iinc (v := (x9_ + 1)) (lv' := [(9, .int (x9_ + 1)), (6, .long x10), (5, .int x12), (10, .long x10), (0, .ref (aM 0)), (1, .int p1), (2, .int p2), (3, .int x3_), (4, .int x4_), (8, .int x8_)]) hx hb dX12_pair_122 hl (k := 9) rfl rfl (by decide) rfl (fun ls hl => ?_)
              refine lv_goto (tgt := 51) hx hb dX12_pair_125 (by decide) ?_
              exact ih51 x12 x10 (x9_ + 1) ms_5 ma_6 ml_7 _ _ _ h hP hD hS (lv_sub hl [4, 5, 6, 7, 8, 2, 1, 9, 0] rfl)
            · have h := h.2 c11
              refine lv_lload hx hb dX12_pair_97 (lv_at hl 0 rfl) ?_
              refine lv_lload hx hb dX12_pair_99 (lv_at hl 7 rfl) ?_
              refine W.lcmp hx hb dX12_pair_101 ?_
              refine lv_if_lt (tgt := 108) hx hb dX12_pair_102 (by decide) (fun c13 => ?_) (fun c13 => ?_)
              · have c13 : x10 < x6_ := (lg_cmp_lt _ _).mp c13
                have h := h.1 c13
                refine lv_bipush (v := 100) hx hb dX12_pair_108 (by decide) ?_
                refine lv_iload hx hb dX12_pair_110 (lv_at hl 8 rfl) ?_
                refine lv_imul hx hb dX12_pair_112 ?_
                refine lv_iload hx hb dX12_pair_113 (lv_at hl 9 rfl) ?_
                refine lv_iadd hx hb dX12_pair_115 ?_
                refine lv_topi (fun x14 ex14 => ?_)
                have h := h x14 ex14
                refine lv_istore (lv' := [(5, .int x14), (10, .long x10), (0, .ref (aM 0)), (1, .int p1), (2, .int p2), (3, .int x3_), (4, .int x4_), (6, .long x6_), (8, .int x8_), (9, .int x9_)]) hx hb dX12_pair_116 hl (by decide) rfl (fun ls hl => ?_)
                refine lv_lload hx hb dX12_pair_118 (lv_at hl 1 rfl) ?_
                refine lv_lstore (lv' := [(6, .long x10), (5, .int x14), (10, .long x10), (0, .ref (aM 0)), (1, .int p1), (2, .int p2), (3, .int x3_), (4, .int x4_), (8, .int x8_), (9, .int x9_)]) hx hb dX12_pair_120 hl (by decide) rfl (fun ls hl => ?_)
                refine lv_iinc (v := (x9_ + 1)) (lv' := [(9, .int (x9_ + 1)), (6, .long x10), (5, .int x14), (10, .long x10), (0, .ref (aM 0)), (1, .int p1), (2, .int p2), (3, .int x3_), (4, .int x4_), (8, .int x8_)]) hx hb dX12_pair_122 hl (k := 9) rfl rfl (by decide) rfl (fun ls hl => ?_)
                refine lv_goto (tgt := 51) hx hb dX12_pair_125 (by decide) ?_
                exact ih51 x14 x10 (x9_ + 1) ms_5 ma_6 ml_7 _ _ _ h hP hD hS (lv_sub hl [4, 5, 6, 7, 8, 2, 1, 9, 0] rfl)
              · have c13 : ¬ x10 < x6_ := fun q => c13 ((lg_cmp_lt _ _).mpr q)
                have h := h.2 c13
                refine lv_goto (tgt := 122) hx hb dX12_pair_105 (by decide) ?_
                refine lv_iinc (v := (x9_ + 1)) (lv' := [(9, .int (x9_ + 1)), (10, .long x10), (0, .ref (aM 0)), (1, .int p1), (2, .int p2), (3, .int x3_), (4, .int x4_), (5, .int x5_), (6, .long x6_), (8, .int x8_)]) hx hb dX12_pair_122 hl (k := 9) rfl rfl (by decide) rfl (fun ls hl => ?_)
                refine lv_goto (tgt := 51) hx hb dX12_pair_125 (by decide) ?_
                exact ih51 x5_ x6_ (x9_ + 1) ms_5 ma_6 ml_7 _ _ _ h hP hD hS (lv_sub hl [2, 3, 4, 5, 6, 7, 8, 9, 0] rfl)
      intro x5_ x6_ x8_ ms ma ml H locs ls h hP hD hS hl
      have h : P_X12_pair_39_b p1 p2 post (fun (x3_ : Int32) (x4_ : Int32) (x5_ : Int32) (ms : Nat → Int32) (ma : Nat → Nat → Int32) (ml : Nat → Nat → Int64) => P_X12_pair_134 p1 p2 post  x3_ x4_ x5_ ms ma ml) x3_ x4_ (P_X12_pair_39 p1 p2 post (fun (x3_ : Int32) (x4_ : Int32) (x5_ : Int32) (ms : Nat → Int32) (ma : Nat → Nat → Int32) (ml : Nat → Nat → Int64) => P_X12_pair_134 p1 p2 post  x3_ x4_ x5_ ms ma ml) x3_ x4_ n39) x5_ x6_ x8_ ms ma ml := h
      unfold P_X12_pair_39_b at h
      refine lv_iload hx hb dX12_pair_39 (lv_at hl 7 rfl) ?_
      refine lv_aload_n hx hb dX12_pair_41 rfl (lv_at hl 0 rfl) ?_
      refine cGoAI (cRunAV (As := []) (rest := [.int x8_]) ⟨hx, hb, hml, hown, hw⟩ hK hN hP hD (k_X12_optionMany l D C _ aM  ms mw ma ml  h) (cwV 0 hw (goodV mw_8_40 mw_8_42 mw_s153 mw_1_13 mw_8_43) rfl rfl rfl (by decide +kernel) ⟨Nat.le_of_ble_eq_true rfl, Nat.le_of_ble_eq_true rfl⟩) rfl rfl rfl hl.1 rfl (Nat.le_of_ble_eq_true rfl) dX12_pair_42 ⟨Nat.zero_le _, Nat.zero_le _⟩) hP hD hS hA (fun r17 u H locs h hP hD hS => ?_)
      have hP : va_P D vwCl (List.flatten (wM aM C ms mw ma ml)) H := hP
      have hD : va_D A (List.flatten (wM aM C ms mw ma ml)) := hD
      refine lv_icmp_ge (tgt := 134) hx hb dX12_pair_45 (by decide) (fun c18 => ?_) (fun c18 => ?_)
      · have h := h.1 c18
        exact N134 x3_ x4_ x5_ ms ma ml _ _ _ h hP hD hS (lv_sub hl [0, 1, 2, 3, 4, 5] rfl)
      · have h := h.2 c18
        refine lv_iconst (v := 0) hx hb dX12_pair_48 (by decide) ?_
        refine lv_istore (lv' := [(9, .int 0), (0, .ref (aM 0)), (1, .int p1), (2, .int p2), (3, .int x3_), (4, .int x4_), (5, .int x5_), (6, .long x6_), (8, .int x8_)]) hx hb dX12_pair_49 hl (by decide) rfl (fun ls hl => ?_)
        obtain ⟨n, h⟩ := h
        exact N51 x8_ n x5_ x6_ 0 ms ma ml _ _ _ h hP hD hS (lv_sub hl [1, 2, 3, 4, 5, 6, 7, 8, 0] rfl)
  refine lv_aload_n hx hb dX12_pair_0 rfl (lv_at hl 0 rfl) ?_
  refine lv_iconst (v := 0) hx hb dX12_pair_1 (by decide) ?_
  refine va_put (D := D) (ci := 12) (v := .int 0) (ty := .int) (C := RX12) (T := TX12) (N := 51) hx hb hw inW_X12 tyX12 tyX12_ok nmX12 hown hK hP hD hS 0 rfl rfl 0 (by decide) (hw _ mw_6_43) (fun _ h9 => h9) rfl (by decide +kernel) rfl rfl (Nat.le_of_ble_eq_true rfl) dX12_pair_2 (fun H locs hP hD hS => ?_)
  refine lv_aload_n hx hb dX12_pair_5 rfl (lv_at hl 0 rfl) ?_
  refine lv_iload_n hx hb dX12_pair_6 rfl (lv_at hl 1 rfl) ?_
  refine lv_iload_n hx hb dX12_pair_7 rfl (lv_at hl 2 rfl) ?_
  have hP : va_P D vwCl (List.flatten (wM aM C (va_up ms 0 0) mw ma ml)) H := hP
  have hD : va_D A (List.flatten (wM aM C (va_up ms 0 0) mw ma ml)) := hD
  refine cGoAI (cRunAV (As := [.int p1, .int p2]) (rest := []) ⟨hx, hb, hml, hown, hw⟩ hK hN hP hD (k_X12_areTwo l D C _ aM  (va_up ms 0 0) mw ma ml p1 p2 h) (cwV 2 hw (goodV mw_8_126 mw_8_128 mw_s165 mw_1_13 mw_8_129) rfl rfl rfl (by decide +kernel) ⟨Nat.le_of_ble_eq_true rfl, Nat.le_of_ble_eq_true rfl⟩) rfl rfl rfl hl.1 rfl (Nat.le_of_ble_eq_true rfl) dX12_pair_8 ⟨Nat.zero_le _, Nat.zero_le _⟩) hP hD hS hA (fun r19 u H locs h hP hD hS => ?_)
  have hP : va_P D vwCl (List.flatten (wM aM C (va_up ms 0 0) mw ma ml)) H := hP
  have hD : va_D A (List.flatten (wM aM C (va_up ms 0 0) mw ma ml)) := hD
  refine lv_if_ne (tgt := 17) hx hb dX12_pair_11 (by decide) (fun c20 => ?_) (fun c20 => ?_)
  · have h := h.1 c20
    refine lv_aload_n hx hb dX12_pair_17 rfl (lv_at hl 0 rfl) ?_
    refine lv_iload_n hx hb dX12_pair_18 rfl (lv_at hl 1 rfl) ?_
    refine cGoAI (cRunAV (As := [.int p1]) (rest := []) ⟨hx, hb, hml, hown, hw⟩ hK hN hP hD (k_X12_optionOf l D C _ aM  (va_up ms 0 0) mw ma ml p1 h) (cwV 1 hw (goodV mw_8_44 mw_8_46 mw_s154 mw_1_13 mw_8_47) rfl rfl rfl (by decide +kernel) ⟨Nat.le_of_ble_eq_true rfl, Nat.le_of_ble_eq_true rfl⟩) rfl rfl rfl hl.1 rfl (Nat.le_of_ble_eq_true rfl) dX12_pair_19 ⟨Nat.zero_le _, Nat.zero_le _⟩) hP hD hS hA (fun r21 u H locs h hP hD hS => ?_)
    have hP : va_P D vwCl (List.flatten (wM aM C (va_up ms 0 0) mw ma ml)) H := hP
    have hD : va_D A (List.flatten (wM aM C (va_up ms 0 0) mw ma ml)) := hD
    refine lv_istore_n (lv' := [(3, .int r21), (0, .ref (aM 0)), (1, .int p1), (2, .int p2)]) hx hb dX12_pair_22 rfl hl (by decide) rfl (fun ls hl => ?_)
    refine lv_aload_n hx hb dX12_pair_23 rfl (lv_at hl 1 rfl) ?_
    refine lv_iload_n hx hb dX12_pair_24 rfl (lv_at hl 3 rfl) ?_
    refine cGoAI (cRunAV (As := [.int p2]) (rest := []) ⟨hx, hb, hml, hown, hw⟩ hK hN hP hD (k_X12_optionOf l D C _ aM  (va_up ms 0 0) mw ma ml p2 h) (cwV 1 hw (goodV mw_8_44 mw_8_46 mw_s154 mw_1_13 mw_8_47) rfl rfl rfl (by decide +kernel) ⟨Nat.le_of_ble_eq_true rfl, Nat.le_of_ble_eq_true rfl⟩) rfl rfl rfl hl.1 rfl (Nat.le_of_ble_eq_true rfl) dX12_pair_25 ⟨Nat.zero_le _, Nat.zero_le _⟩) hP hD hS hA (fun r22 u H locs h hP hD hS => ?_)
    have hP : va_P D vwCl (List.flatten (wM aM C (va_up ms 0 0) mw ma ml)) H := hP
    have hD : va_D A (List.flatten (wM aM C (va_up ms 0 0) mw ma ml)) := hD
    refine lv_istore (lv' := [(4, .int r22), (3, .int r21), (0, .ref (aM 0)), (1, .int p1), (2, .int p2)]) hx hb dX12_pair_28 hl (by decide) rfl (fun ls hl => ?_)
    refine lv_iconst (v := (-1)) hx hb dX12_pair_30 (by decide) ?_
    refine lv_istore (lv' := [(5, .int (-1)), (4, .int r22), (3, .int r21), (0, .ref (aM 0)), (1, .int p1), (2, .int p2)]) hx hb dX12_pair_31 hl (by decide) rfl (fun ls hl => ?_)
    refine lv_lconst (v := 0) hx hb dX12_pair_33 (by decide) ?_
    refine lv_lstore (lv' := [(6, .long 0), (5, .int (-1)), (4, .int r22), (3, .int r21), (0, .ref (aM 0)), (1, .int p1), (2, .int p2)]) hx hb dX12_pair_34 hl (by decide) rfl (fun ls hl => ?_)
    refine lv_iconst (v := 0) hx hb dX12_pair_36 (by decide) ?_
    refine lv_istore (lv' := [(8, .int 0), (6, .long 0), (5, .int (-1)), (4, .int r22), (3, .int r21), (0, .ref (aM 0)), (1, .int p1), (2, .int p2)]) hx hb dX12_pair_37 hl (by decide) rfl (fun ls hl => ?_)
    obtain ⟨n, h⟩ := h
    exact N39 r21 r22 n (-1) 0 0 (va_up ms 0 0) ma ml _ _ _ h hP hD hS (lv_sub hl [5, 6, 7, 4, 3, 2, 1, 0] rfl)
  · have h := h.2 c20
    refine lv_bipush (v := (-2)) hx hb dX12_pair_14 (by decide) ?_
    rw [← hQ]
    exact cRetI (v := (-2)) ((va_up ms 0 0), ma, ml) hx hb hr hlocks hS hP hD h dX12_pair_16
abbrev vsX12_wasted : List Cond := Cond.code yX12_wasted cX12_wasted 5 (some .long) :: WS
abbrev rmX12_wasted : Room := { frames := 6, cells := 0, slots := 0, locals := 143 }
set_option maxHeartbeats 4000000 in
set_option maxRecDepth 100000 in
theorem k_X12_wasted (l : Launch) (D : va_G) (C : Nat → ClassId) (sz : Nat) (aM : Nat → Nat)  (ms : Nat → Int32) (mw : Nat → Int64) (ma : Nat → Nat → Int32) (ml : Nat → Nat → Int64)  {post : Int64 → (Nat → Int32) → (Nat → Nat → Int32) → (Nat → Nat → Int64) → Prop} (h : P_X12_wasted ms ma ml post) : Met l yX12_wasted vsX12_wasted rmX12_wasted (cPre D C [.ref (aM 0)] sz (wM aM C ms mw ma ml)) (cQl D (fun (r : Int64) (u : (Nat → Int32) × (Nat → Nat → Int32) × (Nat → Nat → Int64)) => post r u.1 u.2.1 u.2.2) (fun u => wM aM C u.1 mw u.2.1 u.2.2) (va_A (List.flatten (wM aM C ms mw ma ml)) sz)) 0 0 (va_A (List.flatten (wM aM C ms mw ma ml)) sz) := by
  refine cStart (QA := fun A => cQl D (fun (r : Int64) (u : (Nat → Int32) × (Nat → Nat → Int32) × (Nat → Nat → Int64)) => post r u.1 u.2.1 u.2.2) (fun u => wM aM C u.1 mw u.2.1 u.2.2) A) (cc := cX12_wasted) (maxL := 5) (ret := (some .long)) (by decide) (Nat.le_of_ble_eq_true rfl) ?_
  intro p e s m args below meth c A ls hx hb hr hml hown hw hlocks hname hK hN hA hP hD hS hl
  generalize hQ : MQ below _ args s 0 0 A = Q
  have hl : lv_has ls 5 [(0, .ref (aM 0))] := hl
  obtain ⟨H, hH⟩ : ∃ H, H = s.heap := ⟨_, rfl⟩
  obtain ⟨locs, hlo⟩ : ∃ z : List Loc, z = [] := ⟨_, rfl⟩
  have hP : va_P D vwCl (List.flatten (wM aM C ms mw ma ml)) H := by rw [hH]; exact hP
  have hS : va_S A s.heap H locs := by rw [hH, hlo]; exact hS
  rw [show W p l e rmX12_wasted s m args below meth c s.heap [] 0 0 Q (F0 m 0 ls []) = W p l e rmX12_wasted s m args below meth c H locs 0 0 Q (F0 m 0 ls []) from by rw [hH, hlo]]
  have N50 : ∀ (x1_ : Int64) (ms : Nat → Int32) (ma : Nat → Nat → Int32) (ml : Nat → Nat → Int64) (H : Heap) (locs : List Loc) (ls : Array Slot), P_X12_wasted_50  post  x1_ ms ma ml → va_P D vwCl (List.flatten (wM aM C ms mw ma ml)) H → va_D A (List.flatten (wM aM C ms mw ma ml)) → va_S A s.heap H locs → lv_has ls 5 [(0, .ref (aM 0)), (1, .long x1_)] → W p l e rmX12_wasted s m args below meth c H locs 0 0 Q (F0 m 50 ls []) := by
    intro x1_ ms ma ml H locs ls h hP hD hS hl
    refine lv_lload_n hx hb dX12_wasted_50 rfl (lv_at hl 1 rfl) ?_
    refine lv_aload_n hx hb dX12_wasted_51 rfl (lv_at hl 0 rfl) ?_
    refine lv_iconst (v := 2) hx hb dX12_wasted_52 (by decide) ?_
    refine cGoAL (cRunAV (As := [.int 2]) (rest := [.long x1_]) ⟨hx, hb, hml, hown, hw⟩ hK hN hP hD (k_X12_allNow l D C _ aM  ms mw ma ml 2 h) (cwV 1 hw (goodV mw_8_28 mw_8_30 mw_s151 mw_1_13 mw_8_31) rfl rfl rfl (by decide +kernel) ⟨Nat.le_of_ble_eq_true rfl, Nat.le_of_ble_eq_true rfl⟩) rfl rfl rfl hl.1 rfl (Nat.le_of_ble_eq_true rfl) dX12_wasted_53 ⟨Nat.zero_le _, Nat.zero_le _⟩) hP hD hS hA (fun r4 u H locs h hP hD hS => ?_)
    obtain ⟨ms_1, ma_2, ml_3⟩ := u
    have hP : va_P D vwCl (List.flatten (wM aM C ms_1 mw ma_2 ml_3)) H := hP
    have hD : va_D A (List.flatten (wM aM C ms_1 mw ma_2 ml_3)) := hD
    refine lv_lsub hx hb dX12_wasted_56 ?_
    refine lv_topl (fun x5 ex5 => ?_)
    have h := h x5 ex5
    refine lv_lstore_n (lv' := [(3, .long x5), (0, .ref (aM 0)), (1, .long x1_)]) hx hb dX12_wasted_57 rfl hl (by decide) rfl (fun ls hl => ?_)
    refine lv_aload_n hx hb dX12_wasted_58 rfl (lv_at hl 1 rfl) ?_
    refine cGoAV (cRunAV (As := []) (rest := []) ⟨hx, hb, hml, hown, hw⟩ hK hN hP hD (k_X12_takesBack l D C _ aM  ms_1 mw ma_2 ml_3  h) (cwV 0 hw (goodV mw_8_97 mw_8_99 mw_s162 mw_1_13 mw_8_100) rfl rfl rfl (by decide +kernel) ⟨Nat.le_of_ble_eq_true rfl, Nat.le_of_ble_eq_true rfl⟩) rfl rfl rfl hl.1 rfl (Nat.le_of_ble_eq_true rfl) dX12_wasted_59 ⟨Nat.zero_le _, Nat.zero_le _⟩) hP hD hS hA (fun ma_6 H locs h hP hD hS => ?_)
    have hP : va_P D vwCl (List.flatten (wM aM C ms_1 mw ma_6 ml_3)) H := hP
    have hD : va_D A (List.flatten (wM aM C ms_1 mw ma_6 ml_3)) := hD
    refine lv_lload_n hx hb dX12_wasted_62 rfl (lv_at hl 0 rfl) ?_
    rw [← hQ]
    exact cRetL (v := x5) (ms_1, ma_6, ml_3) hx hb hr hlocks hS hP hD h dX12_wasted_63
  have N28 : ∀ (x1_ : Int64) (ms : Nat → Int32) (ml : Nat → Nat → Int64) (n28 : Nat) (x3_ : Int32) (ma : Nat → Nat → Int32) (H : Heap) (locs : List Loc) (ls : Array Slot), P_X12_wasted_28  post (fun (x1_ : Int64) (ms : Nat → Int32) (ma : Nat → Nat → Int32) (ml : Nat → Nat → Int64) => P_X12_wasted_50  post  x1_ ms ma ml) x1_ ms ml n28 x3_ ma → va_P D vwCl (List.flatten (wM aM C ms mw ma ml)) H → va_D A (List.flatten (wM aM C ms mw ma ml)) → va_S A s.heap H locs → lv_has ls 5 [(0, .ref (aM 0)), (1, .long x1_), (3, .int x3_)] → W p l e rmX12_wasted s m args below meth c H locs 0 0 Q (F0 m 28 ls []) := by
    intro x1_ ms ml
    intro n28
    induction n28 with
    | zero => intro x3_ ma H locs ls h hP hD hS hl; exact False.elim h
    | succ n28 ih28 =>
      intro x3_ ma H locs ls h hP hD hS hl
      refine lv_iload_n hx hb dX12_wasted_28 rfl (lv_at hl 2 rfl) ?_
      refine lv_aload_n hx hb dX12_wasted_29 rfl (lv_at hl 0 rfl) ?_
      refine va_get (D := D) (ci := 12) (v := .ref (aM 13)) (C := RX12) (T := TX12) (N := 51) hx hb hw inW_X12 hown hK hP 0 rfl rfl 23 (by decide) (hw _ mw_6_66) (fun _ h9 => h9) rfl dX12_wasted_30 ?_
      refine lv_iconst (v := 0) hx hb dX12_wasted_33 (by decide) ?_
      refine cIald hx hb hK hP 13 0 rfl rfl 0 (by decide +kernel) (cIn (by decide +kernel)) dX12_wasted_34 ?_
      refine lv_icmp_ge (tgt := 50) hx hb dX12_wasted_35 (by decide) (fun c7 => ?_) (fun c7 => ?_)
      · have h := h.1 c7
        exact N50 x1_ ms ma ml _ _ _ h hP hD hS (lv_sub hl [0, 1] rfl)
      · have h := h.2 c7
        refine lv_aload_n hx hb dX12_wasted_38 rfl (lv_at hl 0 rfl) ?_
        refine lv_iload_n hx hb dX12_wasted_39 rfl (lv_at hl 2 rfl) ?_
        refine lv_iconst (v := 0) hx hb dX12_wasted_40 (by decide) ?_
        refine cGoAV (cRunAV (As := [.int x3_, .int 0]) (rest := []) ⟨hx, hb, hml, hown, hw⟩ hK hN hP hD (k_X12_hasOption l D C _ aM  ms mw ma ml x3_ 0 h) (cwV 2 hw (goodV mw_8_48 mw_8_50 mw_s155 mw_1_13 mw_8_51) rfl rfl rfl (by decide +kernel) ⟨Nat.le_of_ble_eq_true rfl, Nat.le_of_ble_eq_true rfl⟩) rfl rfl rfl hl.1 rfl (Nat.le_of_ble_eq_true rfl) dX12_wasted_41 ⟨Nat.zero_le _, Nat.zero_le _⟩) hP hD hS hA (fun ma_8 H locs h hP hD hS => ?_)
        have hP : va_P D vwCl (List.flatten (wM aM C ms mw ma_8 ml)) H := hP
        have hD : va_D A (List.flatten (wM aM C ms mw ma_8 ml)) := hD
        refine lv_iinc (v := (x3_ + 1)) (lv' := [(3, .int (x3_ + 1)), (0, .ref (aM 0)), (1, .long x1_)]) hx hb dX12_wasted_44 hl (k := 2) rfl rfl (by decide) rfl (fun ls hl => ?_)
        refine lv_goto (tgt := 28) hx hb dX12_wasted_47 (by decide) ?_
        exact ih28 (x3_ + 1) ma_8 _ _ _ h hP hD hS (lv_sub hl [1, 2, 0] rfl)
  refine lv_aload_n hx hb dX12_wasted_0 rfl (lv_at hl 0 rfl) ?_
  refine lv_iconst (v := 0) hx hb dX12_wasted_1 (by decide) ?_
  refine va_put (D := D) (ci := 12) (v := .int 0) (ty := .int) (C := RX12) (T := TX12) (N := 51) hx hb hw inW_X12 tyX12 tyX12_ok nmX12 hown hK hP hD hS 0 rfl rfl 0 (by decide) (hw _ mw_6_43) (fun _ h9 => h9) rfl (by decide +kernel) rfl rfl (Nat.le_of_ble_eq_true rfl) dX12_wasted_2 (fun H locs hP hD hS => ?_)
  refine lv_aload_n hx hb dX12_wasted_5 rfl (lv_at hl 0 rfl) ?_
  have hP : va_P D vwCl (List.flatten (wM aM C (va_up ms 0 0) mw ma ml)) H := hP
  have hD : va_D A (List.flatten (wM aM C (va_up ms 0 0) mw ma ml)) := hD
  refine cGoAI (cRunAV (As := []) (rest := []) ⟨hx, hb, hml, hown, hw⟩ hK hN hP hD (k_X12_isRail l D C _ aM  (va_up ms 0 0) mw ma ml  h) (cwV 0 hw (goodV mw_7_204 mw_7_206 mw_s142 mw_1_13 mw_7_207) rfl rfl rfl (by decide +kernel) ⟨Nat.le_of_ble_eq_true rfl, Nat.le_of_ble_eq_true rfl⟩) rfl rfl rfl hl.1 rfl (Nat.le_of_ble_eq_true rfl) dX12_wasted_6 ⟨Nat.zero_le _, Nat.zero_le _⟩) hP hD hS hA (fun r9 u H locs h hP hD hS => ?_)
  have hP : va_P D vwCl (List.flatten (wM aM C (va_up ms 0 0) mw ma ml)) H := hP
  have hD : va_D A (List.flatten (wM aM C (va_up ms 0 0) mw ma ml)) := hD
  refine lv_if_ne (tgt := 16) hx hb dX12_wasted_9 (by decide) (fun c10 => ?_) (fun c10 => ?_)
  · have h := h.1 c10
    refine lv_aload_n hx hb dX12_wasted_16 rfl (lv_at hl 0 rfl) ?_
    refine lv_iconst (v := 2) hx hb dX12_wasted_17 (by decide) ?_
    refine cGoAL (cRunAV (As := [.int 2]) (rest := []) ⟨hx, hb, hml, hown, hw⟩ hK hN hP hD (k_X12_allNow l D C _ aM  (va_up ms 0 0) mw ma ml 2 h) (cwV 1 hw (goodV mw_8_28 mw_8_30 mw_s151 mw_1_13 mw_8_31) rfl rfl rfl (by decide +kernel) ⟨Nat.le_of_ble_eq_true rfl, Nat.le_of_ble_eq_true rfl⟩) rfl rfl rfl hl.1 rfl (Nat.le_of_ble_eq_true rfl) dX12_wasted_18 ⟨Nat.zero_le _, Nat.zero_le _⟩) hP hD hS hA (fun r14 u H locs h hP hD hS => ?_)
    obtain ⟨ms_11, ma_12, ml_13⟩ := u
    have hP : va_P D vwCl (List.flatten (wM aM C ms_11 mw ma_12 ml_13)) H := hP
    have hD : va_D A (List.flatten (wM aM C ms_11 mw ma_12 ml_13)) := hD
    refine lv_lstore_n (lv' := [(1, .long r14), (0, .ref (aM 0))]) hx hb dX12_wasted_21 rfl hl (by decide) rfl (fun ls hl => ?_)
    refine lv_aload_n hx hb dX12_wasted_22 rfl (lv_at hl 1 rfl) ?_
    refine cGoAV (cRunAV (As := []) (rest := []) ⟨hx, hb, hml, hown, hw⟩ hK hN hP hD (k_X12_laysAside l D C _ aM  ms_11 mw ma_12 ml_13  h) (cwV 0 hw (goodV mw_8_93 mw_8_95 mw_s161 mw_1_13 mw_8_96) rfl rfl rfl (by decide +kernel) ⟨Nat.le_of_ble_eq_true rfl, Nat.le_of_ble_eq_true rfl⟩) rfl rfl rfl hl.1 rfl (Nat.le_of_ble_eq_true rfl) dX12_wasted_23 ⟨Nat.zero_le _, Nat.zero_le _⟩) hP hD hS hA (fun ma_15 H locs h hP hD hS => ?_)
    have hP : va_P D vwCl (List.flatten (wM aM C ms_11 mw ma_15 ml_13)) H := hP
    have hD : va_D A (List.flatten (wM aM C ms_11 mw ma_15 ml_13)) := hD
    refine lv_iconst (v := 0) hx hb dX12_wasted_26 (by decide) ?_
    refine lv_istore_n (lv' := [(3, .int 0), (1, .long r14), (0, .ref (aM 0))]) hx hb dX12_wasted_27 rfl hl (by decide) rfl (fun ls hl => ?_)
    obtain ⟨n, h⟩ := h
    exact N28 r14 ms_11 ml_13 n 0 ma_15 _ _ _ h hP hD hS (lv_sub hl [2, 1, 0] rfl)
  · have h := h.2 c10
    refine lv_ldc2 (v := (-1000000000000)) hx hb hown (hw _ mw_8_134) dX12_wasted_12 ?_
    rw [← hQ]
    exact cRetL (v := (-1000000000000)) ((va_up ms 0 0), ma, ml) hx hb hr hlocks hS hP hD h dX12_wasted_15
abbrev vsX12_laysGrowth : List Cond := Cond.code yX12_laysGrowth cX12_laysGrowth 5 none :: WS
abbrev rmX12_laysGrowth : Room := { frames := 5, cells := 0, slots := 0, locals := 119 }
set_option maxHeartbeats 4000000 in
set_option maxRecDepth 100000 in
theorem k_X12_laysGrowth (l : Launch) (D : va_G) (C : Nat → ClassId) (sz : Nat) (aM : Nat → Nat)  (ms : Nat → Int32) (mw : Nat → Int64) (ma : Nat → Nat → Int32) (ml : Nat → Nat → Int64) (p1 : Int32) (p2 : Int32) {post : (Nat → Int32) → (Nat → Nat → Int32) → (Nat → Nat → Int64) → Prop} (h : P_X12_laysGrowth ms ma ml p1 p2 post) : Met l yX12_laysGrowth vsX12_laysGrowth rmX12_laysGrowth (cPre D C [.ref (aM 0), .int p1, .int p2] sz (wM aM C ms mw ma ml)) (cQv D (fun (u : (Nat → Int32) × (Nat → Nat → Int32) × (Nat → Nat → Int64)) => post u.1 u.2.1 u.2.2) (fun u => wM aM C u.1 mw u.2.1 u.2.2) (va_A (List.flatten (wM aM C ms mw ma ml)) sz)) 0 0 (va_A (List.flatten (wM aM C ms mw ma ml)) sz) := by
  refine cStart (QA := fun A => cQv D (fun (u : (Nat → Int32) × (Nat → Nat → Int32) × (Nat → Nat → Int64)) => post u.1 u.2.1 u.2.2) (fun u => wM aM C u.1 mw u.2.1 u.2.2) A) (cc := cX12_laysGrowth) (maxL := 5) (ret := none) (by decide) (Nat.le_of_ble_eq_true rfl) ?_
  intro p e s m args below meth c A ls hx hb hr hml hown hw hlocks hname hK hN hA hP hD hS hl
  generalize hQ : MQ below _ args s 0 0 A = Q
  have hl : lv_has ls 5 [(0, .ref (aM 0)), (1, .int p1), (2, .int p2)] := hl
  obtain ⟨H, hH⟩ : ∃ H, H = s.heap := ⟨_, rfl⟩
  obtain ⟨locs, hlo⟩ : ∃ z : List Loc, z = [] := ⟨_, rfl⟩
  have hP : va_P D vwCl (List.flatten (wM aM C ms mw ma ml)) H := by rw [hH]; exact hP
  have hS : va_S A s.heap H locs := by rw [hH, hlo]; exact hS
  rw [show W p l e rmX12_laysGrowth s m args below meth c s.heap [] 0 0 Q (F0 m 0 ls []) = W p l e rmX12_laysGrowth s m args below meth c H locs 0 0 Q (F0 m 0 ls []) from by rw [hH, hlo]]
  have N86 : ∀ (x3_ : Int32) (ms : Nat → Int32) (ma : Nat → Nat → Int32) (ml : Nat → Nat → Int64) (H : Heap) (locs : List Loc) (ls : Array Slot), P_X12_laysGrowth_86 p1 p2 post  x3_ ms ma ml → va_P D vwCl (List.flatten (wM aM C ms mw ma ml)) H → va_D A (List.flatten (wM aM C ms mw ma ml)) → va_S A s.heap H locs → lv_has ls 5 [(0, .ref (aM 0)), (1, .int p1), (3, .int x3_)] → W p l e rmX12_laysGrowth s m args below meth c H locs 0 0 Q (F0 m 86 ls []) := by
    intro x3_ ms ma ml H locs ls h hP hD hS hl
    refine lv_aload_n hx hb dX12_laysGrowth_86 rfl (lv_at hl 0 rfl) ?_
    refine lv_iload_n hx hb dX12_laysGrowth_87 rfl (lv_at hl 1 rfl) ?_
    refine lv_iload_n hx hb dX12_laysGrowth_88 rfl (lv_at hl 2 rfl) ?_
    refine cGoAV (cRunAV (As := [.int p1, .int x3_]) (rest := []) ⟨hx, hb, hml, hown, hw⟩ hK hN hP hD (k_X12_hasOption l D C _ aM  ms mw ma ml p1 x3_ h) (cwV 2 hw (goodV mw_8_48 mw_8_50 mw_s155 mw_1_13 mw_8_51) rfl rfl rfl (by decide +kernel) ⟨Nat.le_of_ble_eq_true rfl, Nat.le_of_ble_eq_true rfl⟩) rfl rfl rfl hl.1 rfl (Nat.le_of_ble_eq_true rfl) dX12_laysGrowth_89 ⟨Nat.zero_le _, Nat.zero_le _⟩) hP hD hS hA (fun ma_1 H locs h hP hD hS => ?_)
    have hP : va_P D vwCl (List.flatten (wM aM C ms mw ma_1 ml)) H := hP
    have hD : va_D A (List.flatten (wM aM C ms mw ma_1 ml)) := hD
    rw [← hQ]
    exact cRetV (ms, ma_1, ml) hx hb hr hlocks hS hP hD h dX12_laysGrowth_92
  have N53 : ∀ (x3_ : Int32) (ms : Nat → Int32) (ma : Nat → Nat → Int32) (n53 : Nat) (x4_ : Int32) (ml : Nat → Nat → Int64) (H : Heap) (locs : List Loc) (ls : Array Slot), P_X12_laysGrowth_53 p1 p2 post (fun (x3_ : Int32) (ms : Nat → Int32) (ma : Nat → Nat → Int32) (ml : Nat → Nat → Int64) => P_X12_laysGrowth_86 p1 p2 post  x3_ ms ma ml) x3_ ms ma n53 x4_ ml → va_P D vwCl (List.flatten (wM aM C ms mw ma ml)) H → va_D A (List.flatten (wM aM C ms mw ma ml)) → va_S A s.heap H locs → lv_has ls 5 [(0, .ref (aM 0)), (1, .int p1), (3, .int x3_), (4, .int x4_)] → W p l e rmX12_laysGrowth s m args below meth c H locs 0 0 Q (F0 m 53 ls []) := by
    intro x3_ ms ma
    intro n53
    induction n53 with
    | zero => intro x4_ ml H locs ls h hP hD hS hl; exact False.elim h
    | succ n53 ih53 =>
      intro x4_ ml H locs ls h hP hD hS hl
      refine lv_iload hx hb dX12_laysGrowth_53 (lv_at hl 3 rfl) ?_
      refine lv_aload_n hx hb dX12_laysGrowth_55 rfl (lv_at hl 0 rfl) ?_
      refine va_get (D := D) (ci := 12) (v := .ref (aM 13)) (C := RX12) (T := TX12) (N := 51) hx hb hw inW_X12 hown hK hP 0 rfl rfl 23 (by decide) (hw _ mw_6_66) (fun _ h9 => h9) rfl dX12_laysGrowth_56 ?_
      refine lv_iconst (v := 0) hx hb dX12_laysGrowth_59 (by decide) ?_
      refine cIald hx hb hK hP 13 0 rfl rfl 0 (by decide +kernel) (cIn (by decide +kernel)) dX12_laysGrowth_60 ?_
      refine lv_icmp_ge (tgt := 86) hx hb dX12_laysGrowth_61 (by decide) (fun c2 => ?_) (fun c2 => ?_)
      · have h := h.1 c2
        exact N86 x3_ ms ma ml _ _ _ h hP hD hS (lv_sub hl [0, 1, 2] rfl)
      · have h := h.2 c2
        refine lv_aload_n hx hb dX12_laysGrowth_64 rfl (lv_at hl 0 rfl) ?_
        refine va_get (D := D) (ci := 12) (v := .ref (aM 27)) (C := RX12) (T := TX12) (N := 51) hx hb hw inW_X12 hown hK hP 0 rfl rfl 42 (by decide) (hw _ mw_6_85) (fun _ h9 => h9) rfl dX12_laysGrowth_65 ?_
        refine lv_iload hx hb dX12_laysGrowth_68 (lv_at hl 3 rfl) ?_
        refine lv_dup2_11 hx hb dX12_laysGrowth_70 rfl rfl ?_
        refine cLald hx hb hK hP 27 1 rfl rfl x4_.toNatClampNeg rfl h.1 dX12_laysGrowth_71 ?_
        have h := h.2
        refine lv_aload_n hx hb dX12_laysGrowth_72 rfl (lv_at hl 0 rfl) ?_
        refine lv_iload hx hb dX12_laysGrowth_73 (lv_at hl 3 rfl) ?_
        refine cGoAL (cRunAV (As := [.int x4_]) (rest := [.long (ml 5 x4_.toNatClampNeg), .int x4_, .ref (aM 27)]) ⟨hx, hb, hml, hown, hw⟩ hK hN hP hD (k_X12_riskOf l D C _ aM  ms mw ma ml x4_ h) (cwV 1 hw (goodV mw_7_229 mw_7_231 mw_s145 mw_1_13 mw_7_232) rfl rfl rfl (by decide +kernel) ⟨Nat.le_of_ble_eq_true rfl, Nat.le_of_ble_eq_true rfl⟩) rfl rfl rfl hl.1 rfl (Nat.le_of_ble_eq_true rfl) dX12_laysGrowth_75 ⟨Nat.zero_le _, Nat.zero_le _⟩) hP hD hS hA (fun r3 u H locs h hP hD hS => ?_)
        have hP : va_P D vwCl (List.flatten (wM aM C ms mw ma ml)) H := hP
        have hD : va_D A (List.flatten (wM aM C ms mw ma ml)) := hD
        refine lv_ladd hx hb dX12_laysGrowth_78 ?_
        refine cLast hx hb hK hP hD hS 27 1 rfl rfl x4_.toNatClampNeg rfl h.1 dX12_laysGrowth_79 (fun H locs hP hD hS => ?_)
        have h := h.2
        refine lv_iinc (v := (x4_ + 1)) (lv' := [(4, .int (x4_ + 1)), (0, .ref (aM 0)), (1, .int p1), (3, .int x3_)]) hx hb dX12_laysGrowth_80 hl (k := 3) rfl rfl (by decide) rfl (fun ls hl => ?_)
        refine lv_goto (tgt := 53) hx hb dX12_laysGrowth_83 (by decide) ?_
        have hP : va_P D vwCl (List.flatten (wM aM C ms mw ma (va_up ml 5 (vp_updL (ml 5) x4_.toNatClampNeg ((ml 5 x4_.toNatClampNeg) + r3))))) H := hP
        have hD : va_D A (List.flatten (wM aM C ms mw ma (va_up ml 5 (vp_updL (ml 5) x4_.toNatClampNeg ((ml 5 x4_.toNatClampNeg) + r3))))) := hD
        exact ih53 (x4_ + 1) (va_up ml 5 (vp_updL (ml 5) x4_.toNatClampNeg ((ml 5 x4_.toNatClampNeg) + r3))) _ _ _ h hP hD hS (lv_sub hl [1, 2, 3, 0] rfl)
  have N34 : ∀ (ms : Nat → Int32) (ma : Nat → Nat → Int32) (ml : Nat → Nat → Int64) (H : Heap) (locs : List Loc) (ls : Array Slot), P_X12_laysGrowth_34 p1 p2 post  ms ma ml → va_P D vwCl (List.flatten (wM aM C ms mw ma ml)) H → va_D A (List.flatten (wM aM C ms mw ma ml)) → va_S A s.heap H locs → lv_has ls 5 [(0, .ref (aM 0)), (1, .int p1), (2, .int p2)] → W p l e rmX12_laysGrowth s m args below meth c H locs 0 0 Q (F0 m 34 ls []) := by
    intro ms ma ml H locs ls h hP hD hS hl
    refine lv_aload_n hx hb dX12_laysGrowth_34 rfl (lv_at hl 0 rfl) ?_
    refine lv_iload_n hx hb dX12_laysGrowth_35 rfl (lv_at hl 1 rfl) ?_
    refine cGoAI (cRunAV (As := [.int p1]) (rest := []) ⟨hx, hb, hml, hown, hw⟩ hK hN hP hD (k_X12_optionOf l D C _ aM  ms mw ma ml p1 h) (cwV 1 hw (goodV mw_8_44 mw_8_46 mw_s154 mw_1_13 mw_8_47) rfl rfl rfl (by decide +kernel) ⟨Nat.le_of_ble_eq_true rfl, Nat.le_of_ble_eq_true rfl⟩) rfl rfl rfl hl.1 rfl (Nat.le_of_ble_eq_true rfl) dX12_laysGrowth_36 ⟨Nat.zero_le _, Nat.zero_le _⟩) hP hD hS hA (fun r4 u H locs h hP hD hS => ?_)
    have hP : va_P D vwCl (List.flatten (wM aM C ms mw ma ml)) H := hP
    have hD : va_D A (List.flatten (wM aM C ms mw ma ml)) := hD
    refine lv_istore_n (lv' := [(3, .int r4), (0, .ref (aM 0)), (1, .int p1), (2, .int p2)]) hx hb dX12_laysGrowth_39 rfl hl (by decide) rfl (fun ls hl => ?_)
    refine lv_aload_n hx hb dX12_laysGrowth_40 rfl (lv_at hl 1 rfl) ?_
    refine lv_iload_n hx hb dX12_laysGrowth_41 rfl (lv_at hl 2 rfl) ?_
    refine lv_iload_n hx hb dX12_laysGrowth_42 rfl (lv_at hl 3 rfl) ?_
    refine cGoAV (cRunAV (As := [.int p1, .int p2]) (rest := []) ⟨hx, hb, hml, hown, hw⟩ hK hN hP hD (k_X12_hasOption l D C _ aM  ms mw ma ml p1 p2 h) (cwV 2 hw (goodV mw_8_48 mw_8_50 mw_s155 mw_1_13 mw_8_51) rfl rfl rfl (by decide +kernel) ⟨Nat.le_of_ble_eq_true rfl, Nat.le_of_ble_eq_true rfl⟩) rfl rfl rfl hl.1 rfl (Nat.le_of_ble_eq_true rfl) dX12_laysGrowth_43 ⟨Nat.zero_le _, Nat.zero_le _⟩) hP hD hS hA (fun ma_5 H locs h hP hD hS => ?_)
    have hP : va_P D vwCl (List.flatten (wM aM C ms mw ma_5 ml)) H := hP
    have hD : va_D A (List.flatten (wM aM C ms mw ma_5 ml)) := hD
    refine lv_aload_n hx hb dX12_laysGrowth_46 rfl (lv_at hl 1 rfl) ?_
    refine cGoAV (cRunAV (As := []) (rest := []) ⟨hx, hb, hml, hown, hw⟩ hK hN hP hD (k_X12_night l D C _ aM  ms mw ma_5 ml  h) (cwV 0 hw (goodV mw_7_209 mw_7_211 mw_s143 mw_1_13 mw_7_212) rfl rfl rfl (by decide +kernel) ⟨Nat.le_of_ble_eq_true rfl, Nat.le_of_ble_eq_true rfl⟩) rfl rfl rfl hl.1 rfl (Nat.le_of_ble_eq_true rfl) dX12_laysGrowth_47 ⟨Nat.zero_le _, Nat.zero_le _⟩) hP hD hS hA (fun u H locs h hP hD hS => ?_)
    obtain ⟨ms_6, ma_7, ml_8⟩ := u
    have hP : va_P D vwCl (List.flatten (wM aM C ms_6 mw ma_7 ml_8)) H := hP
    have hD : va_D A (List.flatten (wM aM C ms_6 mw ma_7 ml_8)) := hD
    refine lv_iconst (v := 0) hx hb dX12_laysGrowth_50 (by decide) ?_
    refine lv_istore (lv' := [(4, .int 0), (3, .int r4), (0, .ref (aM 0)), (1, .int p1), (2, .int p2)]) hx hb dX12_laysGrowth_51 hl (by decide) rfl (fun ls hl => ?_)
    obtain ⟨n, h⟩ := h
    exact N53 r4 ms_6 ma_7 n 0 ml_8 _ _ _ h hP hD hS (lv_sub hl [2, 3, 1, 0] rfl)
  have N6 : ∀ (ms : Nat → Int32) (ma : Nat → Nat → Int32) (n6 : Nat) (x3_ : Int32) (ml : Nat → Nat → Int64) (H : Heap) (locs : List Loc) (ls : Array Slot), P_X12_laysGrowth_6 p1 p2 post (fun (ms : Nat → Int32) (ma : Nat → Nat → Int32) (ml : Nat → Nat → Int64) => P_X12_laysGrowth_34 p1 p2 post  ms ma ml) ms ma n6 x3_ ml → va_P D vwCl (List.flatten (wM aM C ms mw ma ml)) H → va_D A (List.flatten (wM aM C ms mw ma ml)) → va_S A s.heap H locs → lv_has ls 5 [(0, .ref (aM 0)), (1, .int p1), (2, .int p2), (3, .int x3_)] → W p l e rmX12_laysGrowth s m args below meth c H locs 0 0 Q (F0 m 6 ls []) := by
    intro ms ma
    intro n6
    induction n6 with
    | zero => intro x3_ ml H locs ls h hP hD hS hl; exact False.elim h
    | succ n6 ih6 =>
      intro x3_ ml H locs ls h hP hD hS hl
      refine lv_iload_n hx hb dX12_laysGrowth_6 rfl (lv_at hl 3 rfl) ?_
      refine lv_aload_n hx hb dX12_laysGrowth_7 rfl (lv_at hl 0 rfl) ?_
      refine va_get (D := D) (ci := 12) (v := .ref (aM 13)) (C := RX12) (T := TX12) (N := 51) hx hb hw inW_X12 hown hK hP 0 rfl rfl 23 (by decide) (hw _ mw_6_66) (fun _ h9 => h9) rfl dX12_laysGrowth_8 ?_
      refine lv_iconst (v := 0) hx hb dX12_laysGrowth_11 (by decide) ?_
      refine cIald hx hb hK hP 13 0 rfl rfl 0 (by decide +kernel) (cIn (by decide +kernel)) dX12_laysGrowth_12 ?_
      refine lv_icmp_ge (tgt := 34) hx hb dX12_laysGrowth_13 (by decide) (fun c9 => ?_) (fun c9 => ?_)
      · have h := h.1 c9
        exact N34 ms ma ml _ _ _ h hP hD hS (lv_sub hl [0, 1, 2] rfl)
      · have h := h.2 c9
        refine lv_aload_n hx hb dX12_laysGrowth_16 rfl (lv_at hl 0 rfl) ?_
        refine va_get (D := D) (ci := 12) (v := .ref (aM 27)) (C := RX12) (T := TX12) (N := 51) hx hb hw inW_X12 hown hK hP 0 rfl rfl 42 (by decide) (hw _ mw_6_85) (fun _ h9 => h9) rfl dX12_laysGrowth_17 ?_
        refine lv_iload_n hx hb dX12_laysGrowth_20 rfl (lv_at hl 3 rfl) ?_
        refine lv_aload_n hx hb dX12_laysGrowth_21 rfl (lv_at hl 0 rfl) ?_
        refine lv_iload_n hx hb dX12_laysGrowth_22 rfl (lv_at hl 3 rfl) ?_
        refine cGoAL (cRunAV (As := [.int x3_]) (rest := [.int x3_, .ref (aM 27)]) ⟨hx, hb, hml, hown, hw⟩ hK hN hP hD (k_X12_riskOf l D C _ aM  ms mw ma ml x3_ h) (cwV 1 hw (goodV mw_7_229 mw_7_231 mw_s145 mw_1_13 mw_7_232) rfl rfl rfl (by decide +kernel) ⟨Nat.le_of_ble_eq_true rfl, Nat.le_of_ble_eq_true rfl⟩) rfl rfl rfl hl.1 rfl (Nat.le_of_ble_eq_true rfl) dX12_laysGrowth_23 ⟨Nat.zero_le _, Nat.zero_le _⟩) hP hD hS hA (fun r10 u H locs h hP hD hS => ?_)
        have hP : va_P D vwCl (List.flatten (wM aM C ms mw ma ml)) H := hP
        have hD : va_D A (List.flatten (wM aM C ms mw ma ml)) := hD
        refine lv_lneg hx hb dX12_laysGrowth_26 ?_
        refine cLast hx hb hK hP hD hS 27 1 rfl rfl x3_.toNatClampNeg rfl h.1 dX12_laysGrowth_27 (fun H locs hP hD hS => ?_)
        have h := h.2
        refine lv_iinc (v := (x3_ + 1)) (lv' := [(3, .int (x3_ + 1)), (0, .ref (aM 0)), (1, .int p1), (2, .int p2)]) hx hb dX12_laysGrowth_28 hl (k := 3) rfl rfl (by decide) rfl (fun ls hl => ?_)
        refine lv_goto (tgt := 6) hx hb dX12_laysGrowth_31 (by decide) ?_
        have hP : va_P D vwCl (List.flatten (wM aM C ms mw ma (va_up ml 5 (vp_updL (ml 5) x3_.toNatClampNeg (-r10))))) H := hP
        have hD : va_D A (List.flatten (wM aM C ms mw ma (va_up ml 5 (vp_updL (ml 5) x3_.toNatClampNeg (-r10))))) := hD
        exact ih6 (x3_ + 1) (va_up ml 5 (vp_updL (ml 5) x3_.toNatClampNeg (-r10))) _ _ _ h hP hD hS (lv_sub hl [1, 2, 3, 0] rfl)
  refine lv_aload_n hx hb dX12_laysGrowth_0 rfl (lv_at hl 0 rfl) ?_
  refine cGoAV (cRunAV (As := []) (rest := []) ⟨hx, hb, hml, hown, hw⟩ hK hN hP hD (k_X12_night l D C _ aM  ms mw ma ml  h) (cwV 0 hw (goodV mw_7_209 mw_7_211 mw_s143 mw_1_13 mw_7_212) rfl rfl rfl (by decide +kernel) ⟨Nat.le_of_ble_eq_true rfl, Nat.le_of_ble_eq_true rfl⟩) rfl rfl rfl hl.1 rfl (Nat.le_of_ble_eq_true rfl) dX12_laysGrowth_1 ⟨Nat.zero_le _, Nat.zero_le _⟩) hP hD hS hA (fun u H locs h hP hD hS => ?_)
  obtain ⟨ms_11, ma_12, ml_13⟩ := u
  have hP : va_P D vwCl (List.flatten (wM aM C ms_11 mw ma_12 ml_13)) H := hP
  have hD : va_D A (List.flatten (wM aM C ms_11 mw ma_12 ml_13)) := hD
  refine lv_iconst (v := 0) hx hb dX12_laysGrowth_4 (by decide) ?_
  refine lv_istore_n (lv' := [(3, .int 0), (0, .ref (aM 0)), (1, .int p1), (2, .int p2)]) hx hb dX12_laysGrowth_5 rfl hl (by decide) rfl (fun ls hl => ?_)
  obtain ⟨n, h⟩ := h
  exact N6 ms_11 ma_12 n 0 ml_13 _ _ _ h hP hD hS (lv_sub hl [1, 2, 3, 0] rfl)
abbrev vsX12_beside : List Cond := Cond.code yX12_beside cX12_beside 4 (some .long) :: WS
abbrev rmX12_beside : Room := { frames := 6, cells := 0, slots := 0, locals := 143 }
set_option maxHeartbeats 4000000 in
set_option maxRecDepth 100000 in
theorem k_X12_beside (l : Launch) (D : va_G) (C : Nat → ClassId) (sz : Nat) (aM : Nat → Nat)  (ms : Nat → Int32) (mw : Nat → Int64) (ma : Nat → Nat → Int32) (ml : Nat → Nat → Int64) (p1 : Int32) (p2 : Int32) (p3 : Int32) {post : Int64 → (Nat → Int32) → (Nat → Nat → Int32) → (Nat → Nat → Int64) → Prop} (h : P_X12_beside ms ma ml p1 p2 p3 post) : Met l yX12_beside vsX12_beside rmX12_beside (cPre D C [.ref (aM 0), .int p1, .int p2, .int p3] sz (wM aM C ms mw ma ml)) (cQl D (fun (r : Int64) (u : (Nat → Int32) × (Nat → Nat → Int32) × (Nat → Nat → Int64)) => post r u.1 u.2.1 u.2.2) (fun u => wM aM C u.1 mw u.2.1 u.2.2) (va_A (List.flatten (wM aM C ms mw ma ml)) sz)) 0 0 (va_A (List.flatten (wM aM C ms mw ma ml)) sz) := by
  refine cStart (QA := fun A => cQl D (fun (r : Int64) (u : (Nat → Int32) × (Nat → Nat → Int32) × (Nat → Nat → Int64)) => post r u.1 u.2.1 u.2.2) (fun u => wM aM C u.1 mw u.2.1 u.2.2) A) (cc := cX12_beside) (maxL := 4) (ret := (some .long)) (by decide) (Nat.le_of_ble_eq_true rfl) ?_
  intro p e s m args below meth c A ls hx hb hr hml hown hw hlocks hname hK hN hA hP hD hS hl
  generalize hQ : MQ below _ args s 0 0 A = Q
  have hl : lv_has ls 4 [(0, .ref (aM 0)), (1, .int p1), (2, .int p2), (3, .int p3)] := hl
  obtain ⟨H, hH⟩ : ∃ H, H = s.heap := ⟨_, rfl⟩
  obtain ⟨locs, hlo⟩ : ∃ z : List Loc, z = [] := ⟨_, rfl⟩
  have hP : va_P D vwCl (List.flatten (wM aM C ms mw ma ml)) H := by rw [hH]; exact hP
  have hS : va_S A s.heap H locs := by rw [hH, hlo]; exact hS
  rw [show W p l e rmX12_beside s m args below meth c s.heap [] 0 0 Q (F0 m 0 ls []) = W p l e rmX12_beside s m args below meth c H locs 0 0 Q (F0 m 0 ls []) from by rw [hH, hlo]]
  refine lv_aload_n hx hb dX12_beside_0 rfl (lv_at hl 0 rfl) ?_
  refine lv_iconst (v := 0) hx hb dX12_beside_1 (by decide) ?_
  refine va_put (D := D) (ci := 12) (v := .int 0) (ty := .int) (C := RX12) (T := TX12) (N := 51) hx hb hw inW_X12 tyX12 tyX12_ok nmX12 hown hK hP hD hS 0 rfl rfl 0 (by decide) (hw _ mw_6_43) (fun _ h9 => h9) rfl (by decide +kernel) rfl rfl (Nat.le_of_ble_eq_true rfl) dX12_beside_2 (fun H locs hP hD hS => ?_)
  refine lv_aload_n hx hb dX12_beside_5 rfl (lv_at hl 0 rfl) ?_
  refine lv_iload_n hx hb dX12_beside_6 rfl (lv_at hl 1 rfl) ?_
  refine lv_iload_n hx hb dX12_beside_7 rfl (lv_at hl 3 rfl) ?_
  have hP : va_P D vwCl (List.flatten (wM aM C (va_up ms 0 0) mw ma ml)) H := hP
  have hD : va_D A (List.flatten (wM aM C (va_up ms 0 0) mw ma ml)) := hD
  refine cGoAI (cRunAV (As := [.int p1, .int p3]) (rest := []) ⟨hx, hb, hml, hown, hw⟩ hK hN hP hD (k_X12_areTwo l D C _ aM  (va_up ms 0 0) mw ma ml p1 p3 h) (cwV 2 hw (goodV mw_8_126 mw_8_128 mw_s165 mw_1_13 mw_8_129) rfl rfl rfl (by decide +kernel) ⟨Nat.le_of_ble_eq_true rfl, Nat.le_of_ble_eq_true rfl⟩) rfl rfl rfl hl.1 rfl (Nat.le_of_ble_eq_true rfl) dX12_beside_8 ⟨Nat.zero_le _, Nat.zero_le _⟩) hP hD hS hA (fun r1 u H locs h hP hD hS => ?_)
  have hP : va_P D vwCl (List.flatten (wM aM C (va_up ms 0 0) mw ma ml)) H := hP
  have hD : va_D A (List.flatten (wM aM C (va_up ms 0 0) mw ma ml)) := hD
  refine lv_if_eq (tgt := 22) hx hb dX12_beside_11 (by decide) (fun c2 => ?_) (fun c2 => ?_)
  · have h := h.1 c2
    refine lv_ldc2 (v := (-1000000000000)) hx hb hown (hw _ mw_8_134) dX12_beside_22 ?_
    rw [← hQ]
    exact cRetL (v := (-1000000000000)) ((va_up ms 0 0), ma, ml) hx hb hr hlocks hS hP hD h dX12_beside_25
  · have h := h.2 c2
    refine lv_aload_n hx hb dX12_beside_14 rfl (lv_at hl 0 rfl) ?_
    refine lv_iload_n hx hb dX12_beside_15 rfl (lv_at hl 2 rfl) ?_
    refine cGoAI (cRunAV (As := [.int p2]) (rest := []) ⟨hx, hb, hml, hown, hw⟩ hK hN hP hD (k_X12_isOption l D C _ aM  (va_up ms 0 0) mw ma ml p2 h) (cwV 1 hw (goodV mw_8_36 mw_8_38 mw_s152 mw_1_13 mw_8_39) rfl rfl rfl (by decide +kernel) ⟨Nat.le_of_ble_eq_true rfl, Nat.le_of_ble_eq_true rfl⟩) rfl rfl rfl hl.1 rfl (Nat.le_of_ble_eq_true rfl) dX12_beside_16 ⟨Nat.zero_le _, Nat.zero_le _⟩) hP hD hS hA (fun r3 u H locs h hP hD hS => ?_)
    have hP : va_P D vwCl (List.flatten (wM aM C (va_up ms 0 0) mw ma ml)) H := hP
    have hD : va_D A (List.flatten (wM aM C (va_up ms 0 0) mw ma ml)) := hD
    refine lv_if_ne (tgt := 26) hx hb dX12_beside_19 (by decide) (fun c4 => ?_) (fun c4 => ?_)
    · have h := h.1 c4
      refine lv_aload_n hx hb dX12_beside_26 rfl (lv_at hl 0 rfl) ?_
      refine lv_iload_n hx hb dX12_beside_27 rfl (lv_at hl 1 rfl) ?_
      refine lv_iload_n hx hb dX12_beside_28 rfl (lv_at hl 2 rfl) ?_
      refine cGoAV (cRunAV (As := [.int p1, .int p2]) (rest := []) ⟨hx, hb, hml, hown, hw⟩ hK hN hP hD (k_X12_laysGrowth l D C _ aM  (va_up ms 0 0) mw ma ml p1 p2 h) (cwV 2 hw (goodV mw_8_139 mw_8_141 mw_s166 mw_1_13 mw_8_142) rfl rfl rfl (by decide +kernel) ⟨Nat.le_of_ble_eq_true rfl, Nat.le_of_ble_eq_true rfl⟩) rfl rfl rfl hl.1 rfl (Nat.le_of_ble_eq_true rfl) dX12_beside_29 ⟨Nat.zero_le _, Nat.zero_le _⟩) hP hD hS hA (fun u H locs h hP hD hS => ?_)
      obtain ⟨ms_5, ma_6, ml_7⟩ := u
      have hP : va_P D vwCl (List.flatten (wM aM C ms_5 mw ma_6 ml_7)) H := hP
      have hD : va_D A (List.flatten (wM aM C ms_5 mw ma_6 ml_7)) := hD
      refine lv_aload_n hx hb dX12_beside_32 rfl (lv_at hl 0 rfl) ?_
      refine va_get (D := D) (ci := 12) (v := .ref (aM 27)) (C := RX12) (T := TX12) (N := 51) hx hb hw inW_X12 hown hK hP 0 rfl rfl 42 (by decide) (hw _ mw_6_85) (fun _ h9 => h9) rfl dX12_beside_33 ?_
      refine lv_iload_n hx hb dX12_beside_36 rfl (lv_at hl 3 rfl) ?_
      refine cLald hx hb hK hP 27 1 rfl rfl p3.toNatClampNeg rfl h.1 dX12_beside_37 ?_
      have h := h.2
      rw [← hQ]
      exact cRetL (v := (ml_7 5 p3.toNatClampNeg)) (ms_5, ma_6, ml_7) hx hb hr hlocks hS hP hD h dX12_beside_38
    · have h := h.2 c4
      refine lv_ldc2 (v := (-1000000000000)) hx hb hown (hw _ mw_8_134) dX12_beside_22 ?_
      rw [← hQ]
      exact cRetL (v := (-1000000000000)) ((va_up ms 0 0), ma, ml) hx hb hr hlocks hS hP hD h dX12_beside_25
abbrev vsX12_worse : List Cond := Cond.code yX12_worse cX12_worse 5 (some .int) :: WS
abbrev rmX12_worse : Room := { frames := 6, cells := 0, slots := 0, locals := 143 }
set_option maxHeartbeats 4000000 in
set_option maxRecDepth 100000 in
theorem k_X12_worse (l : Launch) (D : va_G) (C : Nat → ClassId) (sz : Nat) (aM : Nat → Nat)  (ms : Nat → Int32) (mw : Nat → Int64) (ma : Nat → Nat → Int32) (ml : Nat → Nat → Int64) (p1 : Int32) (p2 : Int32) {post : Int32 → (Nat → Int32) → (Nat → Nat → Int32) → (Nat → Nat → Int64) → Prop} (h : P_X12_worse ms ma ml p1 p2 post) : Met l yX12_worse vsX12_worse rmX12_worse (cPre D C [.ref (aM 0), .int p1, .int p2] sz (wM aM C ms mw ma ml)) (cQi D (fun (r : Int32) (u : (Nat → Int32) × (Nat → Nat → Int32) × (Nat → Nat → Int64)) => post r u.1 u.2.1 u.2.2) (fun u => wM aM C u.1 mw u.2.1 u.2.2) (va_A (List.flatten (wM aM C ms mw ma ml)) sz)) 0 0 (va_A (List.flatten (wM aM C ms mw ma ml)) sz) := by
  refine cStart (QA := fun A => cQi D (fun (r : Int32) (u : (Nat → Int32) × (Nat → Nat → Int32) × (Nat → Nat → Int64)) => post r u.1 u.2.1 u.2.2) (fun u => wM aM C u.1 mw u.2.1 u.2.2) A) (cc := cX12_worse) (maxL := 5) (ret := (some .int)) (by decide) (Nat.le_of_ble_eq_true rfl) ?_
  intro p e s m args below meth c A ls hx hb hr hml hown hw hlocks hname hK hN hA hP hD hS hl
  generalize hQ : MQ below _ args s 0 0 A = Q
  have hl : lv_has ls 5 [(0, .ref (aM 0)), (1, .int p1), (2, .int p2)] := hl
  obtain ⟨H, hH⟩ : ∃ H, H = s.heap := ⟨_, rfl⟩
  obtain ⟨locs, hlo⟩ : ∃ z : List Loc, z = [] := ⟨_, rfl⟩
  have hP : va_P D vwCl (List.flatten (wM aM C ms mw ma ml)) H := by rw [hH]; exact hP
  have hS : va_S A s.heap H locs := by rw [hH, hlo]; exact hS
  rw [show W p l e rmX12_worse s m args below meth c s.heap [] 0 0 Q (F0 m 0 ls []) = W p l e rmX12_worse s m args below meth c H locs 0 0 Q (F0 m 0 ls []) from by rw [hH, hlo]]
  have N35 : ∀ (ms : Nat → Int32) (ma : Nat → Nat → Int32) (ml : Nat → Nat → Int64) (n35 : Nat) (x3_ : Int32) (x4_ : Int32) (H : Heap) (locs : List Loc) (ls : Array Slot), P_X12_worse_35 p1 p2 post  ms ma ml n35 x3_ x4_ → va_P D vwCl (List.flatten (wM aM C ms mw ma ml)) H → va_D A (List.flatten (wM aM C ms mw ma ml)) → va_S A s.heap H locs → lv_has ls 5 [(0, .ref (aM 0)), (1, .int p1), (3, .int x3_), (4, .int x4_)] → W p l e rmX12_worse s m args below meth c H locs 0 0 Q (F0 m 35 ls []) := by
    intro ms ma ml
    intro n35
    induction n35 with
    | zero => intro x3_ x4_ H locs ls h hP hD hS hl; exact False.elim h
    | succ n35 ih35 =>
      intro x3_ x4_ H locs ls h hP hD hS hl
      refine lv_iload hx hb dX12_worse_35 (lv_at hl 3 rfl) ?_
      refine lv_aload_n hx hb dX12_worse_37 rfl (lv_at hl 0 rfl) ?_
      refine va_get (D := D) (ci := 12) (v := .ref (aM 13)) (C := RX12) (T := TX12) (N := 51) hx hb hw inW_X12 hown hK hP 0 rfl rfl 23 (by decide) (hw _ mw_6_66) (fun _ h9 => h9) rfl dX12_worse_38 ?_
      refine lv_iconst (v := 0) hx hb dX12_worse_41 (by decide) ?_
      refine cIald hx hb hK hP 13 0 rfl rfl 0 (by decide +kernel) (cIn (by decide +kernel)) dX12_worse_42 ?_
      refine lv_icmp_ge (tgt := 78) hx hb dX12_worse_43 (by decide) (fun c1 => ?_) (fun c1 => ?_)
      · have h := h.1 c1
        refine lv_iload_n hx hb dX12_worse_78 rfl (lv_at hl 2 rfl) ?_
        rw [← hQ]
        exact cRetI (v := x3_) (ms, ma, ml) hx hb hr hlocks hS hP hD h dX12_worse_79
      · have h := h.2 c1
        refine lv_iload_n hx hb dX12_worse_46 rfl (lv_at hl 2 rfl) ?_
        refine lv_iload hx hb dX12_worse_47 (lv_at hl 3 rfl) ?_
        refine lv_iload_n hx hb dX12_worse_49 rfl (lv_at hl 1 rfl) ?_
        refine lv_icmp_eq (tgt := 69) hx hb dX12_worse_50 (by decide) (fun c2 => ?_) (fun c2 => ?_)
        · have h := h.1 c2
          refine lv_iconst (v := 0) hx hb dX12_worse_69 (by decide) ?_
          refine lv_iadd hx hb dX12_worse_70 ?_
          refine lv_topi (fun x3 ex3 => ?_)
          have h := h x3 ex3
          refine lv_istore_n (lv' := [(3, .int x3), (0, .ref (aM 0)), (1, .int p1), (4, .int x4_)]) hx hb dX12_worse_71 rfl hl (by decide) rfl (fun ls hl => ?_)
          refine lv_iinc (v := (x4_ + 1)) (lv' := [(4, .int (x4_ + 1)), (3, .int x3), (0, .ref (aM 0)), (1, .int p1)]) hx hb dX12_worse_72 hl (k := 3) rfl rfl (by decide) rfl (fun ls hl => ?_)
          refine lv_goto (tgt := 35) hx hb dX12_worse_75 (by decide) ?_
          exact ih35 x3 (x4_ + 1) _ _ _ h hP hD hS (lv_sub hl [2, 3, 1, 0] rfl)
        · have h := h.2 c2
          refine lv_aload_n hx hb dX12_worse_53 rfl (lv_at hl 0 rfl) ?_
          refine va_get (D := D) (ci := 12) (v := .ref (aM 27)) (C := RX12) (T := TX12) (N := 51) hx hb hw inW_X12 hown hK hP 0 rfl rfl 42 (by decide) (hw _ mw_6_85) (fun _ h9 => h9) rfl dX12_worse_54 ?_
          refine lv_iload hx hb dX12_worse_57 (lv_at hl 3 rfl) ?_
          refine cLald hx hb hK hP 27 1 rfl rfl x4_.toNatClampNeg rfl h.1 dX12_worse_59 ?_
          have h := h.2
          refine lv_lconst (v := 0) hx hb dX12_worse_60 (by decide) ?_
          refine W.lcmp hx hb dX12_worse_61 ?_
          refine lv_if_le (tgt := 69) hx hb dX12_worse_62 (by decide) (fun c4 => ?_) (fun c4 => ?_)
          · have c4 : (ml 5 x4_.toNatClampNeg) ≤ 0 := (lg_cmp_le _ _).mp c4
            have h := h.1 c4
            refine lv_iconst (v := 0) hx hb dX12_worse_69 (by decide) ?_
            refine lv_iadd hx hb dX12_worse_70 ?_
            refine lv_topi (fun x5 ex5 => ?_)
            have h := h x5 ex5
            refine lv_istore_n (lv' := [(3, .int x5), (0, .ref (aM 0)), (1, .int p1), (4, .int x4_)]) hx hb dX12_worse_71 rfl hl (by decide) rfl (fun ls hl => ?_)
            refine lv_iinc (v := (x4_ + 1)) (lv' := [(4, .int (x4_ + 1)), (3, .int x5), (0, .ref (aM 0)), (1, .int p1)]) hx hb dX12_worse_72 hl (k := 3) rfl rfl (by decide) rfl (fun ls hl => ?_)
            refine lv_goto (tgt := 35) hx hb dX12_worse_75 (by decide) ?_
            exact ih35 x5 (x4_ + 1) _ _ _ h hP hD hS (lv_sub hl [2, 3, 1, 0] rfl)
          · have c4 : ¬ (ml 5 x4_.toNatClampNeg) ≤ 0 := fun q => c4 ((lg_cmp_le _ _).mpr q)
            have h := h.2 c4
            refine lv_iconst (v := 1) hx hb dX12_worse_65 (by decide) ?_
            refine lv_goto (tgt := 70) hx hb dX12_worse_66 (by decide) ?_
            refine lv_iadd hx hb dX12_worse_70 ?_
            refine lv_topi (fun x6 ex6 => ?_)
            have h := h x6 ex6
            refine lv_istore_n (lv' := [(3, .int x6), (0, .ref (aM 0)), (1, .int p1), (4, .int x4_)]) hx hb dX12_worse_71 rfl hl (by decide) rfl (fun ls hl => ?_)
            refine lv_iinc (v := (x4_ + 1)) (lv' := [(4, .int (x4_ + 1)), (3, .int x6), (0, .ref (aM 0)), (1, .int p1)]) hx hb dX12_worse_72 hl (k := 3) rfl rfl (by decide) rfl (fun ls hl => ?_)
            refine lv_goto (tgt := 35) hx hb dX12_worse_75 (by decide) ?_
            exact ih35 x6 (x4_ + 1) _ _ _ h hP hD hS (lv_sub hl [2, 3, 1, 0] rfl)
  refine lv_aload_n hx hb dX12_worse_0 rfl (lv_at hl 0 rfl) ?_
  refine lv_iconst (v := 0) hx hb dX12_worse_1 (by decide) ?_
  refine va_put (D := D) (ci := 12) (v := .int 0) (ty := .int) (C := RX12) (T := TX12) (N := 51) hx hb hw inW_X12 tyX12 tyX12_ok nmX12 hown hK hP hD hS 0 rfl rfl 0 (by decide) (hw _ mw_6_43) (fun _ h9 => h9) rfl (by decide +kernel) rfl rfl (Nat.le_of_ble_eq_true rfl) dX12_worse_2 (fun H locs hP hD hS => ?_)
  refine lv_aload_n hx hb dX12_worse_5 rfl (lv_at hl 0 rfl) ?_
  refine lv_iload_n hx hb dX12_worse_6 rfl (lv_at hl 1 rfl) ?_
  have hP : va_P D vwCl (List.flatten (wM aM C (va_up ms 0 0) mw ma ml)) H := hP
  have hD : va_D A (List.flatten (wM aM C (va_up ms 0 0) mw ma ml)) := hD
  refine cGoAI (cRunAV (As := [.int p1]) (rest := []) ⟨hx, hb, hml, hown, hw⟩ hK hN hP hD (k_X12_isBike l D C _ aM  (va_up ms 0 0) mw ma ml p1 h) (cwV 1 hw (goodV mw_7_143 mw_7_145 mw_s133 mw_1_13 mw_7_146) rfl rfl rfl (by decide +kernel) ⟨Nat.le_of_ble_eq_true rfl, Nat.le_of_ble_eq_true rfl⟩) rfl rfl rfl hl.1 rfl (Nat.le_of_ble_eq_true rfl) dX12_worse_7 ⟨Nat.zero_le _, Nat.zero_le _⟩) hP hD hS hA (fun r7 u H locs h hP hD hS => ?_)
  have hP : va_P D vwCl (List.flatten (wM aM C (va_up ms 0 0) mw ma ml)) H := hP
  have hD : va_D A (List.flatten (wM aM C (va_up ms 0 0) mw ma ml)) := hD
  refine lv_if_eq (tgt := 21) hx hb dX12_worse_10 (by decide) (fun c8 => ?_) (fun c8 => ?_)
  · have h := h.1 c8
    refine lv_bipush (v := (-2)) hx hb dX12_worse_21 (by decide) ?_
    rw [← hQ]
    exact cRetI (v := (-2)) ((va_up ms 0 0), ma, ml) hx hb hr hlocks hS hP hD h dX12_worse_23
  · have h := h.2 c8
    refine lv_aload_n hx hb dX12_worse_13 rfl (lv_at hl 0 rfl) ?_
    refine lv_iload_n hx hb dX12_worse_14 rfl (lv_at hl 2 rfl) ?_
    refine cGoAI (cRunAV (As := [.int p2]) (rest := []) ⟨hx, hb, hml, hown, hw⟩ hK hN hP hD (k_X12_isOption l D C _ aM  (va_up ms 0 0) mw ma ml p2 h) (cwV 1 hw (goodV mw_8_36 mw_8_38 mw_s152 mw_1_13 mw_8_39) rfl rfl rfl (by decide +kernel) ⟨Nat.le_of_ble_eq_true rfl, Nat.le_of_ble_eq_true rfl⟩) rfl rfl rfl hl.1 rfl (Nat.le_of_ble_eq_true rfl) dX12_worse_15 ⟨Nat.zero_le _, Nat.zero_le _⟩) hP hD hS hA (fun r9 u H locs h hP hD hS => ?_)
    have hP : va_P D vwCl (List.flatten (wM aM C (va_up ms 0 0) mw ma ml)) H := hP
    have hD : va_D A (List.flatten (wM aM C (va_up ms 0 0) mw ma ml)) := hD
    refine lv_if_ne (tgt := 24) hx hb dX12_worse_18 (by decide) (fun c10 => ?_) (fun c10 => ?_)
    · have h := h.1 c10
      refine lv_aload_n hx hb dX12_worse_24 rfl (lv_at hl 0 rfl) ?_
      refine lv_iload_n hx hb dX12_worse_25 rfl (lv_at hl 1 rfl) ?_
      refine lv_iload_n hx hb dX12_worse_26 rfl (lv_at hl 2 rfl) ?_
      refine cGoAV (cRunAV (As := [.int p1, .int p2]) (rest := []) ⟨hx, hb, hml, hown, hw⟩ hK hN hP hD (k_X12_laysGrowth l D C _ aM  (va_up ms 0 0) mw ma ml p1 p2 h) (cwV 2 hw (goodV mw_8_139 mw_8_141 mw_s166 mw_1_13 mw_8_142) rfl rfl rfl (by decide +kernel) ⟨Nat.le_of_ble_eq_true rfl, Nat.le_of_ble_eq_true rfl⟩) rfl rfl rfl hl.1 rfl (Nat.le_of_ble_eq_true rfl) dX12_worse_27 ⟨Nat.zero_le _, Nat.zero_le _⟩) hP hD hS hA (fun u H locs h hP hD hS => ?_)
      obtain ⟨ms_11, ma_12, ml_13⟩ := u
      have hP : va_P D vwCl (List.flatten (wM aM C ms_11 mw ma_12 ml_13)) H := hP
      have hD : va_D A (List.flatten (wM aM C ms_11 mw ma_12 ml_13)) := hD
      refine lv_iconst (v := 0) hx hb dX12_worse_30 (by decide) ?_
      refine lv_istore_n (lv' := [(3, .int 0), (0, .ref (aM 0)), (1, .int p1), (2, .int p2)]) hx hb dX12_worse_31 rfl hl (by decide) rfl (fun ls hl => ?_)
      refine lv_iconst (v := 0) hx hb dX12_worse_32 (by decide) ?_
      refine lv_istore (lv' := [(4, .int 0), (3, .int 0), (0, .ref (aM 0)), (1, .int p1), (2, .int p2)]) hx hb dX12_worse_33 hl (by decide) rfl (fun ls hl => ?_)
      obtain ⟨n, h⟩ := h
      exact N35 ms_11 ma_12 ml_13 n 0 0 _ _ _ h hP hD hS (lv_sub hl [2, 3, 1, 0] rfl)
    · have h := h.2 c10
      refine lv_bipush (v := (-2)) hx hb dX12_worse_21 (by decide) ?_
      rw [← hQ]
      exact cRetI (v := (-2)) ((va_up ms 0 0), ma, ml) hx hb hr hlocks hS hP hD h dX12_worse_23
abbrev vsX12_next_ : List Cond := Cond.code yX12_next_ cX12_next_ 7 (some .int) :: WS
abbrev rmX12_next_ : Room := { frames := 6, cells := 0, slots := 0, locals := 143 }
set_option maxHeartbeats 4000000 in
set_option maxRecDepth 100000 in
theorem k_X12_next_ (l : Launch) (D : va_G) (C : Nat → ClassId) (sz : Nat) (aM : Nat → Nat)  (ms : Nat → Int32) (mw : Nat → Int64) (ma : Nat → Nat → Int32) (ml : Nat → Nat → Int64) (p1 : Int32) (p2 : Int32) {post : Int32 → (Nat → Int32) → (Nat → Nat → Int32) → (Nat → Nat → Int64) → Prop} (h : P_X12_next_ ms ma ml p1 p2 post) : Met l yX12_next_ vsX12_next_ rmX12_next_ (cPre D C [.ref (aM 0), .int p1, .int p2] sz (wM aM C ms mw ma ml)) (cQi D (fun (r : Int32) (u : (Nat → Int32) × (Nat → Nat → Int32) × (Nat → Nat → Int64)) => post r u.1 u.2.1 u.2.2) (fun u => wM aM C u.1 mw u.2.1 u.2.2) (va_A (List.flatten (wM aM C ms mw ma ml)) sz)) 0 0 (va_A (List.flatten (wM aM C ms mw ma ml)) sz) := by
  refine cStart (QA := fun A => cQi D (fun (r : Int32) (u : (Nat → Int32) × (Nat → Nat → Int32) × (Nat → Nat → Int64)) => post r u.1 u.2.1 u.2.2) (fun u => wM aM C u.1 mw u.2.1 u.2.2) A) (cc := cX12_next_) (maxL := 7) (ret := (some .int)) (by decide) (Nat.le_of_ble_eq_true rfl) ?_
  intro p e s m args below meth c A ls hx hb hr hml hown hw hlocks hname hK hN hA hP hD hS hl
  generalize hQ : MQ below _ args s 0 0 A = Q
  have hl : lv_has ls 7 [(0, .ref (aM 0)), (1, .int p1), (2, .int p2)] := hl
  obtain ⟨H, hH⟩ : ∃ H, H = s.heap := ⟨_, rfl⟩
  obtain ⟨locs, hlo⟩ : ∃ z : List Loc, z = [] := ⟨_, rfl⟩
  have hP : va_P D vwCl (List.flatten (wM aM C ms mw ma ml)) H := by rw [hH]; exact hP
  have hS : va_S A s.heap H locs := by rw [hH, hlo]; exact hS
  rw [show W p l e rmX12_next_ s m args below meth c s.heap [] 0 0 Q (F0 m 0 ls []) = W p l e rmX12_next_ s m args below meth c H locs 0 0 Q (F0 m 0 ls []) from by rw [hH, hlo]]
  have N38 : ∀ (ms : Nat → Int32) (ma : Nat → Nat → Int32) (ml : Nat → Nat → Int64) (n38 : Nat) (x3_ : Int32) (x4_ : Int64) (x6_ : Int32) (H : Heap) (locs : List Loc) (ls : Array Slot), P_X12_next__38 p1 p2 post  ms ma ml n38 x3_ x4_ x6_ → va_P D vwCl (List.flatten (wM aM C ms mw ma ml)) H → va_D A (List.flatten (wM aM C ms mw ma ml)) → va_S A s.heap H locs → lv_has ls 7 [(0, .ref (aM 0)), (1, .int p1), (3, .int x3_), (4, .long x4_), (6, .int x6_)] → W p l e rmX12_next_ s m args below meth c H locs 0 0 Q (F0 m 38 ls []) := by
    intro ms ma ml
    intro n38
    induction n38 with
    | zero => intro x3_ x4_ x6_ H locs ls h hP hD hS hl; exact False.elim h
    | succ n38 ih38 =>
      intro x3_ x4_ x6_ H locs ls h hP hD hS hl
      refine lv_iload hx hb dX12_next__38 (lv_at hl 4 rfl) ?_
      refine lv_aload_n hx hb dX12_next__40 rfl (lv_at hl 0 rfl) ?_
      refine va_get (D := D) (ci := 12) (v := .ref (aM 13)) (C := RX12) (T := TX12) (N := 51) hx hb hw inW_X12 hown hK hP 0 rfl rfl 23 (by decide) (hw _ mw_6_66) (fun _ h9 => h9) rfl dX12_next__41 ?_
      refine lv_iconst (v := 0) hx hb dX12_next__44 (by decide) ?_
      refine cIald hx hb hK hP 13 0 rfl rfl 0 (by decide +kernel) (cIn (by decide +kernel)) dX12_next__45 ?_
      refine lv_icmp_ge (tgt := 89) hx hb dX12_next__46 (by decide) (fun c1 => ?_) (fun c1 => ?_)
      · have h := h.1 c1
        refine lv_iload_n hx hb dX12_next__89 rfl (lv_at hl 2 rfl) ?_
        rw [← hQ]
        exact cRetI (v := x3_) (ms, ma, ml) hx hb hr hlocks hS hP hD h dX12_next__90
      · have h := h.2 c1
        refine lv_iload hx hb dX12_next__49 (lv_at hl 4 rfl) ?_
        refine lv_iload_n hx hb dX12_next__51 rfl (lv_at hl 1 rfl) ?_
        refine lv_icmp_eq (tgt := 83) hx hb dX12_next__52 (by decide) (fun c2 => ?_) (fun c2 => ?_)
        · have h := h.1 c2
          refine lv_iinc (v := (x6_ + 1)) (lv' := [(6, .int (x6_ + 1)), (0, .ref (aM 0)), (1, .int p1), (3, .int x3_), (4, .long x4_)]) hx hb dX12_next__83 hl (k := 4) rfl rfl (by decide) rfl (fun ls hl => ?_)
          refine lv_goto (tgt := 38) hx hb dX12_next__86 (by decide) ?_
          exact ih38 x3_ x4_ (x6_ + 1) _ _ _ h hP hD hS (lv_sub hl [1, 2, 3, 4, 0] rfl)
        · have h := h.2 c2
          refine lv_aload_n hx hb dX12_next__55 rfl (lv_at hl 0 rfl) ?_
          refine va_get (D := D) (ci := 12) (v := .ref (aM 27)) (C := RX12) (T := TX12) (N := 51) hx hb hw inW_X12 hown hK hP 0 rfl rfl 42 (by decide) (hw _ mw_6_85) (fun _ h9 => h9) rfl dX12_next__56 ?_
          refine lv_iload hx hb dX12_next__59 (lv_at hl 4 rfl) ?_
          refine cLald hx hb hK hP 27 1 rfl rfl x6_.toNatClampNeg rfl h.1 dX12_next__61 ?_
          have h := h.2
          refine lv_lload hx hb dX12_next__62 (lv_at hl 3 rfl) ?_
          refine W.lcmp hx hb dX12_next__64 ?_
          refine lv_if_gt (tgt := 71) hx hb dX12_next__65 (by decide) (fun c3 => ?_) (fun c3 => ?_)
          · have c3 : x4_ < (ml 5 x6_.toNatClampNeg) := (lg_cmp_gt _ _).mp c3
            have h := h.1 c3
            refine lv_iload hx hb dX12_next__71 (lv_at hl 4 rfl) ?_
            refine lv_istore_n (lv' := [(3, .int x6_), (0, .ref (aM 0)), (1, .int p1), (4, .long x4_), (6, .int x6_)]) hx hb dX12_next__73 rfl hl (by decide) rfl (fun ls hl => ?_)
            refine lv_aload_n hx hb dX12_next__74 rfl (lv_at hl 1 rfl) ?_
            refine va_get (D := D) (ci := 12) (v := .ref (aM 27)) (C := RX12) (T := TX12) (N := 51) hx hb hw inW_X12 hown hK hP 0 rfl rfl 42 (by decide) (hw _ mw_6_85) (fun _ h9 => h9) rfl dX12_next__75 ?_
            refine lv_iload hx hb dX12_next__78 (lv_at hl 4 rfl) ?_
            refine cLald hx hb hK hP 27 1 rfl rfl x6_.toNatClampNeg rfl h.1 dX12_next__80 ?_
            have h := h.2
            refine lv_topl (fun x4 ex4 => ?_)
            have h := h x4 ex4
            refine lv_lstore (lv' := [(4, .long x4), (3, .int x6_), (0, .ref (aM 0)), (1, .int p1), (6, .int x6_)]) hx hb dX12_next__81 hl (by decide) rfl (fun ls hl => ?_)
            refine lv_iinc (v := (x6_ + 1)) (lv' := [(6, .int (x6_ + 1)), (4, .long x4), (3, .int x6_), (0, .ref (aM 0)), (1, .int p1)]) hx hb dX12_next__83 hl (k := 4) rfl rfl (by decide) rfl (fun ls hl => ?_)
            refine lv_goto (tgt := 38) hx hb dX12_next__86 (by decide) ?_
            exact ih38 x6_ x4 (x6_ + 1) _ _ _ h hP hD hS (lv_sub hl [3, 4, 2, 1, 0] rfl)
          · have c3 : ¬ x4_ < (ml 5 x6_.toNatClampNeg) := fun q => c3 ((lg_cmp_gt _ _).mpr q)
            have h := h.2 c3
            refine lv_goto (tgt := 83) hx hb dX12_next__68 (by decide) ?_
            refine lv_iinc (v := (x6_ + 1)) (lv' := [(6, .int (x6_ + 1)), (0, .ref (aM 0)), (1, .int p1), (3, .int x3_), (4, .long x4_)]) hx hb dX12_next__83 hl (k := 4) rfl rfl (by decide) rfl (fun ls hl => ?_)
            refine lv_goto (tgt := 38) hx hb dX12_next__86 (by decide) ?_
            exact ih38 x3_ x4_ (x6_ + 1) _ _ _ h hP hD hS (lv_sub hl [1, 2, 3, 4, 0] rfl)
  refine lv_aload_n hx hb dX12_next__0 rfl (lv_at hl 0 rfl) ?_
  refine lv_iconst (v := 0) hx hb dX12_next__1 (by decide) ?_
  refine va_put (D := D) (ci := 12) (v := .int 0) (ty := .int) (C := RX12) (T := TX12) (N := 51) hx hb hw inW_X12 tyX12 tyX12_ok nmX12 hown hK hP hD hS 0 rfl rfl 0 (by decide) (hw _ mw_6_43) (fun _ h9 => h9) rfl (by decide +kernel) rfl rfl (Nat.le_of_ble_eq_true rfl) dX12_next__2 (fun H locs hP hD hS => ?_)
  refine lv_aload_n hx hb dX12_next__5 rfl (lv_at hl 0 rfl) ?_
  refine lv_iload_n hx hb dX12_next__6 rfl (lv_at hl 1 rfl) ?_
  have hP : va_P D vwCl (List.flatten (wM aM C (va_up ms 0 0) mw ma ml)) H := hP
  have hD : va_D A (List.flatten (wM aM C (va_up ms 0 0) mw ma ml)) := hD
  refine cGoAI (cRunAV (As := [.int p1]) (rest := []) ⟨hx, hb, hml, hown, hw⟩ hK hN hP hD (k_X12_isBike l D C _ aM  (va_up ms 0 0) mw ma ml p1 h) (cwV 1 hw (goodV mw_7_143 mw_7_145 mw_s133 mw_1_13 mw_7_146) rfl rfl rfl (by decide +kernel) ⟨Nat.le_of_ble_eq_true rfl, Nat.le_of_ble_eq_true rfl⟩) rfl rfl rfl hl.1 rfl (Nat.le_of_ble_eq_true rfl) dX12_next__7 ⟨Nat.zero_le _, Nat.zero_le _⟩) hP hD hS hA (fun r5 u H locs h hP hD hS => ?_)
  have hP : va_P D vwCl (List.flatten (wM aM C (va_up ms 0 0) mw ma ml)) H := hP
  have hD : va_D A (List.flatten (wM aM C (va_up ms 0 0) mw ma ml)) := hD
  refine lv_if_eq (tgt := 21) hx hb dX12_next__10 (by decide) (fun c6 => ?_) (fun c6 => ?_)
  · have h := h.1 c6
    refine lv_bipush (v := (-2)) hx hb dX12_next__21 (by decide) ?_
    rw [← hQ]
    exact cRetI (v := (-2)) ((va_up ms 0 0), ma, ml) hx hb hr hlocks hS hP hD h dX12_next__23
  · have h := h.2 c6
    refine lv_aload_n hx hb dX12_next__13 rfl (lv_at hl 0 rfl) ?_
    refine lv_iload_n hx hb dX12_next__14 rfl (lv_at hl 2 rfl) ?_
    refine cGoAI (cRunAV (As := [.int p2]) (rest := []) ⟨hx, hb, hml, hown, hw⟩ hK hN hP hD (k_X12_isOption l D C _ aM  (va_up ms 0 0) mw ma ml p2 h) (cwV 1 hw (goodV mw_8_36 mw_8_38 mw_s152 mw_1_13 mw_8_39) rfl rfl rfl (by decide +kernel) ⟨Nat.le_of_ble_eq_true rfl, Nat.le_of_ble_eq_true rfl⟩) rfl rfl rfl hl.1 rfl (Nat.le_of_ble_eq_true rfl) dX12_next__15 ⟨Nat.zero_le _, Nat.zero_le _⟩) hP hD hS hA (fun r7 u H locs h hP hD hS => ?_)
    have hP : va_P D vwCl (List.flatten (wM aM C (va_up ms 0 0) mw ma ml)) H := hP
    have hD : va_D A (List.flatten (wM aM C (va_up ms 0 0) mw ma ml)) := hD
    refine lv_if_ne (tgt := 24) hx hb dX12_next__18 (by decide) (fun c8 => ?_) (fun c8 => ?_)
    · have h := h.1 c8
      refine lv_aload_n hx hb dX12_next__24 rfl (lv_at hl 0 rfl) ?_
      refine lv_iload_n hx hb dX12_next__25 rfl (lv_at hl 1 rfl) ?_
      refine lv_iload_n hx hb dX12_next__26 rfl (lv_at hl 2 rfl) ?_
      refine cGoAV (cRunAV (As := [.int p1, .int p2]) (rest := []) ⟨hx, hb, hml, hown, hw⟩ hK hN hP hD (k_X12_laysGrowth l D C _ aM  (va_up ms 0 0) mw ma ml p1 p2 h) (cwV 2 hw (goodV mw_8_139 mw_8_141 mw_s166 mw_1_13 mw_8_142) rfl rfl rfl (by decide +kernel) ⟨Nat.le_of_ble_eq_true rfl, Nat.le_of_ble_eq_true rfl⟩) rfl rfl rfl hl.1 rfl (Nat.le_of_ble_eq_true rfl) dX12_next__27 ⟨Nat.zero_le _, Nat.zero_le _⟩) hP hD hS hA (fun u H locs h hP hD hS => ?_)
      obtain ⟨ms_9, ma_10, ml_11⟩ := u
      have hP : va_P D vwCl (List.flatten (wM aM C ms_9 mw ma_10 ml_11)) H := hP
      have hD : va_D A (List.flatten (wM aM C ms_9 mw ma_10 ml_11)) := hD
      refine lv_iconst (v := (-1)) hx hb dX12_next__30 (by decide) ?_
      refine lv_istore_n (lv' := [(3, .int (-1)), (0, .ref (aM 0)), (1, .int p1), (2, .int p2)]) hx hb dX12_next__31 rfl hl (by decide) rfl (fun ls hl => ?_)
      refine lv_lconst (v := 0) hx hb dX12_next__32 (by decide) ?_
      refine lv_lstore (lv' := [(4, .long 0), (3, .int (-1)), (0, .ref (aM 0)), (1, .int p1), (2, .int p2)]) hx hb dX12_next__33 hl (by decide) rfl (fun ls hl => ?_)
      refine lv_iconst (v := 0) hx hb dX12_next__35 (by decide) ?_
      refine lv_istore (lv' := [(6, .int 0), (4, .long 0), (3, .int (-1)), (0, .ref (aM 0)), (1, .int p1), (2, .int p2)]) hx hb dX12_next__36 hl (by decide) rfl (fun ls hl => ?_)
      obtain ⟨n, h⟩ := h
      exact N38 ms_9 ma_10 ml_11 n (-1) 0 0 _ _ _ h hP hD hS (lv_sub hl [3, 4, 2, 1, 0] rfl)
    · have h := h.2 c8
      refine lv_bipush (v := (-2)) hx hb dX12_next__21 (by decide) ?_
      rw [← hQ]
      exact cRetI (v := (-2)) ((va_up ms 0 0), ma, ml) hx hb hr hlocks hS hP hD h dX12_next__23
abbrev vsX12_standsAt : List Cond := Cond.code yX12_standsAt cX12_standsAt 3 (some .int) :: WS
abbrev rmX12_standsAt : Room := { frames := 1, cells := 0, slots := 0, locals := 21 }
set_option maxHeartbeats 4000000 in
set_option maxRecDepth 100000 in
theorem k_X12_standsAt (l : Launch) (D : va_G) (C : Nat → ClassId) (sz : Nat) (aM : Nat → Nat)  (ms : Nat → Int32) (mw : Nat → Int64) (ma : Nat → Nat → Int32) (ml : Nat → Nat → Int64) (p1 : Int32) {post : Int32 → Prop} (h : P_X12_standsAt ma p1 post) : Met l yX12_standsAt vsX12_standsAt rmX12_standsAt (cPre D C [.ref (aM 0), .int p1] sz (wM aM C ms mw ma ml)) (cQi D (fun (r : Int32) (u : Unit) => post r ) (fun u => wM aM C ms mw ma ml) (va_A (List.flatten (wM aM C ms mw ma ml)) sz)) 0 0 (va_A (List.flatten (wM aM C ms mw ma ml)) sz) := by
  refine cStart (QA := fun A => cQi D (fun (r : Int32) (u : Unit) => post r ) (fun u => wM aM C ms mw ma ml) A) (cc := cX12_standsAt) (maxL := 3) (ret := (some .int)) (by decide) (Nat.le_of_ble_eq_true rfl) ?_
  intro p e s m args below meth c A ls hx hb hr hml hown hw hlocks hname hK hN hA hP hD hS hl
  generalize hQ : MQ below _ args s 0 0 A = Q
  have hl : lv_has ls 3 [(0, .ref (aM 0)), (1, .int p1)] := hl
  obtain ⟨H, hH⟩ : ∃ H, H = s.heap := ⟨_, rfl⟩
  obtain ⟨locs, hlo⟩ : ∃ z : List Loc, z = [] := ⟨_, rfl⟩
  have hP : va_P D vwCl (List.flatten (wM aM C ms mw ma ml)) H := by rw [hH]; exact hP
  have hS : va_S A s.heap H locs := by rw [hH, hlo]; exact hS
  rw [show W p l e rmX12_standsAt s m args below meth c s.heap [] 0 0 Q (F0 m 0 ls []) = W p l e rmX12_standsAt s m args below meth c H locs 0 0 Q (F0 m 0 ls []) from by rw [hH, hlo]]
  have N2 : ∀  (n2 : Nat) (x2_ : Int32) (H : Heap) (locs : List Loc) (ls : Array Slot), P_X12_standsAt_2 ma p1 post   n2 x2_ → va_P D vwCl (List.flatten (wM aM C ms mw ma ml)) H → va_D A (List.flatten (wM aM C ms mw ma ml)) → va_S A s.heap H locs → lv_has ls 3 [(0, .ref (aM 0)), (1, .int p1), (2, .int x2_)] → W p l e rmX12_standsAt s m args below meth c H locs 0 0 Q (F0 m 2 ls []) := by
    intro n2
    induction n2 with
    | zero => intro x2_ H locs ls h hP hD hS hl; exact False.elim h
    | succ n2 ih2 =>
      intro x2_ H locs ls h hP hD hS hl
      refine lv_iload_n hx hb dX12_standsAt_2 rfl (lv_at hl 2 rfl) ?_
      refine lv_aload_n hx hb dX12_standsAt_3 rfl (lv_at hl 0 rfl) ?_
      refine va_get (D := D) (ci := 12) (v := .ref (aM 13)) (C := RX12) (T := TX12) (N := 51) hx hb hw inW_X12 hown hK hP 0 rfl rfl 23 (by decide) (hw _ mw_6_66) (fun _ h9 => h9) rfl dX12_standsAt_4 ?_
      refine lv_iconst (v := 0) hx hb dX12_standsAt_7 (by decide) ?_
      refine cIald hx hb hK hP 13 0 rfl rfl 0 (by decide +kernel) (cIn (by decide +kernel)) dX12_standsAt_8 ?_
      refine lv_icmp_ge (tgt := 36) hx hb dX12_standsAt_9 (by decide) (fun c1 => ?_) (fun c1 => ?_)
      · have h := h.1 c1
        refine lv_iconst (v := (-1)) hx hb dX12_standsAt_36 (by decide) ?_
        rw [← hQ]
        exact cRetI (v := (-1)) () hx hb hr hlocks hS hP hD h dX12_standsAt_37
      · have h := h.2 c1
        refine lv_aload_n hx hb dX12_standsAt_12 rfl (lv_at hl 0 rfl) ?_
        refine va_get (D := D) (ci := 12) (v := .ref (aM 14)) (C := RX12) (T := TX12) (N := 51) hx hb hw inW_X12 hown hK hP 0 rfl rfl 24 (by decide) (hw _ mw_6_67) (fun _ h9 => h9) rfl dX12_standsAt_13 ?_
        refine lv_iconst (v := 0) hx hb dX12_standsAt_16 (by decide) ?_
        refine lv_iload_n hx hb dX12_standsAt_17 rfl (lv_at hl 2 rfl) ?_
        refine cGoEI (cRunES (As := [.int 0, .int x2_]) (rest := [.ref (aM 14)]) ⟨hx, hb, hml, hown, hw⟩ hK hN hP hD (k_X12_at l D C _    0 x2_ h) (va_cwS 2 hw (goodS mw_7_148 mw_7_149 mw_1_13 mw_7_150) rfl rfl rfl (by decide +kernel) ⟨Nat.le_of_ble_eq_true rfl, Nat.le_of_ble_eq_true rfl⟩) rfl hl.1 rfl (Nat.le_of_ble_eq_true rfl) dX12_standsAt_18 ⟨Nat.zero_le _, Nat.zero_le _⟩) hP hD hS hA (fun r2 u H locs h hP hD hS => ?_)
        have hP : va_P D vwCl (List.flatten (wM aM C ms mw ma ml)) H := hP
        have hD : va_D A (List.flatten (wM aM C ms mw ma ml)) := hD
        refine lv_iconst (v := 2) hx hb dX12_standsAt_21 (by decide) ?_
        refine lv_iadd hx hb dX12_standsAt_22 ?_
        refine cIald hx hb hK hP 14 0 rfl rfl ((r2 + 2).toNatClampNeg) rfl h.1 dX12_standsAt_23 ?_
        have h := h.2
        refine lv_iload_n hx hb dX12_standsAt_24 rfl (lv_at hl 1 rfl) ?_
        refine lv_icmp_ne (tgt := 30) hx hb dX12_standsAt_25 (by decide) (fun c3 => ?_) (fun c3 => ?_)
        · have h := h.1 c3
          refine lv_iinc (v := (x2_ + 1)) (lv' := [(2, .int (x2_ + 1)), (0, .ref (aM 0)), (1, .int p1)]) hx hb dX12_standsAt_30 hl (k := 2) rfl rfl (by decide) rfl (fun ls hl => ?_)
          refine lv_goto (tgt := 2) hx hb dX12_standsAt_33 (by decide) ?_
          exact ih2 (x2_ + 1) _ _ _ h hP hD hS (lv_sub hl [1, 2, 0] rfl)
        · have h := h.2 c3
          refine lv_iload_n hx hb dX12_standsAt_28 rfl (lv_at hl 2 rfl) ?_
          rw [← hQ]
          exact cRetI (v := x2_) () hx hb hr hlocks hS hP hD h dX12_standsAt_29
  refine lv_iconst (v := 0) hx hb dX12_standsAt_0 (by decide) ?_
  refine lv_istore_n (lv' := [(2, .int 0), (0, .ref (aM 0)), (1, .int p1)]) hx hb dX12_standsAt_1 rfl hl (by decide) rfl (fun ls hl => ?_)
  obtain ⟨n, h⟩ := h
  exact N2  n 0 _ _ _ h hP hD hS (lv_sub hl [1, 2, 0] rfl)
abbrev vsX12_move : List Cond := Cond.code yX12_move cX12_move 5 (some .int) :: WS
abbrev rmX12_move : Room := { frames := 2, cells := 0, slots := 0, locals := 46 }
set_option maxHeartbeats 4000000 in
set_option maxRecDepth 100000 in
theorem k_X12_move (l : Launch) (D : va_G) (C : Nat → ClassId) (sz : Nat) (aM : Nat → Nat)  (ms : Nat → Int32) (mw : Nat → Int64) (ma : Nat → Nat → Int32) (ml : Nat → Nat → Int64) (p1 : Int32) (p2 : Int32) {post : Int32 → (Nat → Int32) → (Nat → Nat → Int32) → Prop} (h : P_X12_move ms ma p1 p2 post) : Met l yX12_move vsX12_move rmX12_move (cPre D C [.ref (aM 0), .int p1, .int p2] sz (wM aM C ms mw ma ml)) (cQi D (fun (r : Int32) (u : (Nat → Int32) × (Nat → Nat → Int32)) => post r u.1 u.2) (fun u => wM aM C u.1 mw u.2 ml) (va_A (List.flatten (wM aM C ms mw ma ml)) sz)) 0 0 (va_A (List.flatten (wM aM C ms mw ma ml)) sz) := by
  refine cStart (QA := fun A => cQi D (fun (r : Int32) (u : (Nat → Int32) × (Nat → Nat → Int32)) => post r u.1 u.2) (fun u => wM aM C u.1 mw u.2 ml) A) (cc := cX12_move) (maxL := 5) (ret := (some .int)) (by decide) (Nat.le_of_ble_eq_true rfl) ?_
  intro p e s m args below meth c A ls hx hb hr hml hown hw hlocks hname hK hN hA hP hD hS hl
  generalize hQ : MQ below _ args s 0 0 A = Q
  have hl : lv_has ls 5 [(0, .ref (aM 0)), (1, .int p1), (2, .int p2)] := hl
  obtain ⟨H, hH⟩ : ∃ H, H = s.heap := ⟨_, rfl⟩
  obtain ⟨locs, hlo⟩ : ∃ z : List Loc, z = [] := ⟨_, rfl⟩
  have hP : va_P D vwCl (List.flatten (wM aM C ms mw ma ml)) H := by rw [hH]; exact hP
  have hS : va_S A s.heap H locs := by rw [hH, hlo]; exact hS
  rw [show W p l e rmX12_move s m args below meth c s.heap [] 0 0 Q (F0 m 0 ls []) = W p l e rmX12_move s m args below meth c H locs 0 0 Q (F0 m 0 ls []) from by rw [hH, hlo]]
  have N43 : ∀ (ms : Nat → Int32) (ma : Nat → Nat → Int32) (H : Heap) (locs : List Loc) (ls : Array Slot), P_X12_move_43 p1 p2 post  ms ma → va_P D vwCl (List.flatten (wM aM C ms mw ma ml)) H → va_D A (List.flatten (wM aM C ms mw ma ml)) → va_S A s.heap H locs → lv_has ls 5 [(0, .ref (aM 0)), (1, .int p1), (2, .int p2)] → W p l e rmX12_move s m args below meth c H locs 0 0 Q (F0 m 43 ls []) := by
    intro ms ma H locs ls h hP hD hS hl
    refine lv_aload_n hx hb dX12_move_43 rfl (lv_at hl 0 rfl) ?_
    refine va_get (D := D) (ci := 12) (v := .ref (aM 14)) (C := RX12) (T := TX12) (N := 51) hx hb hw inW_X12 hown hK hP 0 rfl rfl 24 (by decide) (hw _ mw_6_67) (fun _ h9 => h9) rfl dX12_move_44 ?_
    refine lv_iconst (v := 0) hx hb dX12_move_47 (by decide) ?_
    refine lv_iload_n hx hb dX12_move_48 rfl (lv_at hl 1 rfl) ?_
    refine cGoEI (cRunES (As := [.int 0, .int p1]) (rest := [.ref (aM 14)]) ⟨hx, hb, hml, hown, hw⟩ hK hN hP hD (k_X12_at l D C _    0 p1 h) (va_cwS 2 hw (goodS mw_7_148 mw_7_149 mw_1_13 mw_7_150) rfl rfl rfl (by decide +kernel) ⟨Nat.le_of_ble_eq_true rfl, Nat.le_of_ble_eq_true rfl⟩) rfl hl.1 rfl (Nat.le_of_ble_eq_true rfl) dX12_move_49 ⟨Nat.zero_le _, Nat.zero_le _⟩) hP hD hS hA (fun r1 u H locs h hP hD hS => ?_)
    have hP : va_P D vwCl (List.flatten (wM aM C ms mw ma ml)) H := hP
    have hD : va_D A (List.flatten (wM aM C ms mw ma ml)) := hD
    refine lv_iconst (v := 2) hx hb dX12_move_52 (by decide) ?_
    refine lv_iadd hx hb dX12_move_53 ?_
    refine cIald hx hb hK hP 14 0 rfl rfl ((r1 + 2).toNatClampNeg) rfl h.1 dX12_move_54 ?_
    have h := h.2
    refine lv_topi (fun x2 ex2 => ?_)
    have h := h x2 ex2
    refine lv_istore (lv' := [(4, .int x2), (0, .ref (aM 0)), (1, .int p1), (2, .int p2)]) hx hb dX12_move_55 hl (by decide) rfl (fun ls hl => ?_)
    refine lv_aload_n hx hb dX12_move_57 rfl (lv_at hl 1 rfl) ?_
    refine va_get (D := D) (ci := 12) (v := .ref (aM 14)) (C := RX12) (T := TX12) (N := 51) hx hb hw inW_X12 hown hK hP 0 rfl rfl 24 (by decide) (hw _ mw_6_67) (fun _ h9 => h9) rfl dX12_move_58 ?_
    refine lv_iconst (v := 0) hx hb dX12_move_61 (by decide) ?_
    refine lv_iload_n hx hb dX12_move_62 rfl (lv_at hl 2 rfl) ?_
    refine cGoEI (cRunES (As := [.int 0, .int p1]) (rest := [.ref (aM 14)]) ⟨hx, hb, hml, hown, hw⟩ hK hN hP hD (k_X12_at l D C _    0 p1 h) (va_cwS 2 hw (goodS mw_7_148 mw_7_149 mw_1_13 mw_7_150) rfl rfl rfl (by decide +kernel) ⟨Nat.le_of_ble_eq_true rfl, Nat.le_of_ble_eq_true rfl⟩) rfl hl.1 rfl (Nat.le_of_ble_eq_true rfl) dX12_move_63 ⟨Nat.zero_le _, Nat.zero_le _⟩) hP hD hS hA (fun r3 u H locs h hP hD hS => ?_)
    have hP : va_P D vwCl (List.flatten (wM aM C ms mw ma ml)) H := hP
    have hD : va_D A (List.flatten (wM aM C ms mw ma ml)) := hD
    refine lv_iconst (v := 2) hx hb dX12_move_66 (by decide) ?_
    refine lv_iadd hx hb dX12_move_67 ?_
    refine lv_iload_n hx hb dX12_move_68 rfl (lv_at hl 3 rfl) ?_
    refine cIast hx hb hK hP hD hS 14 0 rfl rfl ((r3 + 2).toNatClampNeg) rfl h.1 dX12_move_69 (fun H locs hP hD hS => ?_)
    have h := h.2
    refine lv_iload hx hb dX12_move_70 (lv_at hl 0 rfl) ?_
    have hP : va_P D vwCl (List.flatten (wM aM C ms mw (va_up ma 11 (upd (ma 11) ((r3 + 2).toNatClampNeg) p2)) ml)) H := hP
    have hD : va_D A (List.flatten (wM aM C ms mw (va_up ma 11 (upd (ma 11) ((r3 + 2).toNatClampNeg) p2)) ml)) := hD
    rw [← hQ]
    exact cRetI (v := x2) (ms, (va_up ma 11 (upd (ma 11) ((r3 + 2).toNatClampNeg) p2))) hx hb hr hlocks hS hP hD h dX12_move_72
  refine lv_aload_n hx hb dX12_move_0 rfl (lv_at hl 0 rfl) ?_
  refine lv_iconst (v := 0) hx hb dX12_move_1 (by decide) ?_
  refine va_put (D := D) (ci := 12) (v := .int 0) (ty := .int) (C := RX12) (T := TX12) (N := 51) hx hb hw inW_X12 tyX12 tyX12_ok nmX12 hown hK hP hD hS 0 rfl rfl 0 (by decide) (hw _ mw_6_43) (fun _ h9 => h9) rfl (by decide +kernel) rfl rfl (Nat.le_of_ble_eq_true rfl) dX12_move_2 (fun H locs hP hD hS => ?_)
  refine lv_aload_n hx hb dX12_move_5 rfl (lv_at hl 0 rfl) ?_
  refine lv_iload_n hx hb dX12_move_6 rfl (lv_at hl 1 rfl) ?_
  have hP : va_P D vwCl (List.flatten (wM aM C (va_up ms 0 0) mw ma ml)) H := hP
  have hD : va_D A (List.flatten (wM aM C (va_up ms 0 0) mw ma ml)) := hD
  refine cGoAI (cRunAV (As := [.int p1]) (rest := []) ⟨hx, hb, hml, hown, hw⟩ hK hN hP hD (k_X12_isBike l D C _ aM  (va_up ms 0 0) mw ma ml p1 h) (cwV 1 hw (goodV mw_7_143 mw_7_145 mw_s133 mw_1_13 mw_7_146) rfl rfl rfl (by decide +kernel) ⟨Nat.le_of_ble_eq_true rfl, Nat.le_of_ble_eq_true rfl⟩) rfl rfl rfl hl.1 rfl (Nat.le_of_ble_eq_true rfl) dX12_move_7 ⟨Nat.zero_le _, Nat.zero_le _⟩) hP hD hS hA (fun r4 u H locs h hP hD hS => ?_)
  have hP : va_P D vwCl (List.flatten (wM aM C (va_up ms 0 0) mw ma ml)) H := hP
  have hD : va_D A (List.flatten (wM aM C (va_up ms 0 0) mw ma ml)) := hD
  refine lv_if_eq (tgt := 21) hx hb dX12_move_10 (by decide) (fun c5 => ?_) (fun c5 => ?_)
  · have h := h.1 c5
    refine lv_bipush (v := (-2)) hx hb dX12_move_21 (by decide) ?_
    rw [← hQ]
    exact cRetI (v := (-2)) ((va_up ms 0 0), ma) hx hb hr hlocks hS hP hD h dX12_move_23
  · have h := h.2 c5
    refine lv_aload_n hx hb dX12_move_13 rfl (lv_at hl 0 rfl) ?_
    refine lv_iload_n hx hb dX12_move_14 rfl (lv_at hl 2 rfl) ?_
    refine cGoAI (cRunAV (As := [.int p2]) (rest := []) ⟨hx, hb, hml, hown, hw⟩ hK hN hP hD (k_X12_isPlace l D C _ aM  (va_up ms 0 0) mw ma ml p2 h) (cwV 1 hw (goodV mw_7_125 mw_7_127 mw_s131 mw_1_13 mw_7_128) rfl rfl rfl (by decide +kernel) ⟨Nat.le_of_ble_eq_true rfl, Nat.le_of_ble_eq_true rfl⟩) rfl rfl rfl hl.1 rfl (Nat.le_of_ble_eq_true rfl) dX12_move_15 ⟨Nat.zero_le _, Nat.zero_le _⟩) hP hD hS hA (fun r6 u H locs h hP hD hS => ?_)
    have hP : va_P D vwCl (List.flatten (wM aM C (va_up ms 0 0) mw ma ml)) H := hP
    have hD : va_D A (List.flatten (wM aM C (va_up ms 0 0) mw ma ml)) := hD
    refine lv_if_ne (tgt := 24) hx hb dX12_move_18 (by decide) (fun c7 => ?_) (fun c7 => ?_)
    · have h := h.1 c7
      refine lv_aload_n hx hb dX12_move_24 rfl (lv_at hl 0 rfl) ?_
      refine lv_iload_n hx hb dX12_move_25 rfl (lv_at hl 2 rfl) ?_
      refine cGoAI (cRunAV (As := [.int p2]) (rest := []) ⟨hx, hb, hml, hown, hw⟩ hK hN hP hD (k_X12_standsAt l D C _ aM  (va_up ms 0 0) mw ma ml p2 h) (cwV 1 hw (goodV mw_8_155 mw_8_157 mw_s167 mw_1_13 mw_8_158) rfl rfl rfl (by decide +kernel) ⟨Nat.le_of_ble_eq_true rfl, Nat.le_of_ble_eq_true rfl⟩) rfl rfl rfl hl.1 rfl (Nat.le_of_ble_eq_true rfl) dX12_move_26 ⟨Nat.zero_le _, Nat.zero_le _⟩) hP hD hS hA (fun r8 u H locs h hP hD hS => ?_)
      have hP : va_P D vwCl (List.flatten (wM aM C (va_up ms 0 0) mw ma ml)) H := hP
      have hD : va_D A (List.flatten (wM aM C (va_up ms 0 0) mw ma ml)) := hD
      refine lv_istore_n (lv' := [(3, .int r8), (0, .ref (aM 0)), (1, .int p1), (2, .int p2)]) hx hb dX12_move_29 rfl hl (by decide) rfl (fun ls hl => ?_)
      refine lv_iload_n hx hb dX12_move_30 rfl (lv_at hl 0 rfl) ?_
      refine lv_iconst (v := (-1)) hx hb dX12_move_31 (by decide) ?_
      refine lv_icmp_eq (tgt := 43) hx hb dX12_move_32 (by decide) (fun c9 => ?_) (fun c9 => ?_)
      · have h := h.1 c9
        exact N43 (va_up ms 0 0) ma _ _ _ h hP hD hS (lv_sub hl [1, 2, 3] rfl)
      · have h := h.2 c9
        refine lv_iload_n hx hb dX12_move_35 rfl (lv_at hl 0 rfl) ?_
        refine lv_iload_n hx hb dX12_move_36 rfl (lv_at hl 2 rfl) ?_
        refine lv_icmp_eq (tgt := 43) hx hb dX12_move_37 (by decide) (fun c10 => ?_) (fun c10 => ?_)
        · have h := h.1 c10
          exact N43 (va_up ms 0 0) ma _ _ _ h hP hD hS (lv_sub hl [1, 2, 3] rfl)
        · have h := h.2 c10
          refine lv_bipush (v := (-5)) hx hb dX12_move_40 (by decide) ?_
          rw [← hQ]
          exact cRetI (v := (-5)) ((va_up ms 0 0), ma) hx hb hr hlocks hS hP hD h dX12_move_42
    · have h := h.2 c7
      refine lv_bipush (v := (-2)) hx hb dX12_move_21 (by decide) ?_
      rw [← hQ]
      exact cRetI (v := (-2)) ((va_up ms 0 0), ma) hx hb hr hlocks hS hP hD h dX12_move_23
abbrev vsX12_swap : List Cond := Cond.code yX12_swap cX12_swap 6 (some .int) :: WS
abbrev rmX12_swap : Room := { frames := 6, cells := 0, slots := 0, locals := 143 }
set_option maxHeartbeats 4000000 in
set_option maxRecDepth 100000 in
theorem k_X12_swap (l : Launch) (D : va_G) (C : Nat → ClassId) (sz : Nat) (aM : Nat → Nat)  (ms : Nat → Int32) (mw : Nat → Int64) (ma : Nat → Nat → Int32) (ml : Nat → Nat → Int64) (p1 : Int32) (p2 : Int32) {post : Int32 → (Nat → Int32) → (Nat → Nat → Int32) → (Nat → Nat → Int64) → Prop} (h : P_X12_swap ms ma ml p1 p2 post) : Met l yX12_swap vsX12_swap rmX12_swap (cPre D C [.ref (aM 0), .int p1, .int p2] sz (wM aM C ms mw ma ml)) (cQi D (fun (r : Int32) (u : (Nat → Int32) × (Nat → Nat → Int32) × (Nat → Nat → Int64)) => post r u.1 u.2.1 u.2.2) (fun u => wM aM C u.1 mw u.2.1 u.2.2) (va_A (List.flatten (wM aM C ms mw ma ml)) sz)) 0 0 (va_A (List.flatten (wM aM C ms mw ma ml)) sz) := by
  refine cStart (QA := fun A => cQi D (fun (r : Int32) (u : (Nat → Int32) × (Nat → Nat → Int32) × (Nat → Nat → Int64)) => post r u.1 u.2.1 u.2.2) (fun u => wM aM C u.1 mw u.2.1 u.2.2) A) (cc := cX12_swap) (maxL := 6) (ret := (some .int)) (by decide) (Nat.le_of_ble_eq_true rfl) ?_
  intro p e s m args below meth c A ls hx hb hr hml hown hw hlocks hname hK hN hA hP hD hS hl
  generalize hQ : MQ below _ args s 0 0 A = Q
  have hl : lv_has ls 6 [(0, .ref (aM 0)), (1, .int p1), (2, .int p2)] := hl
  obtain ⟨H, hH⟩ : ∃ H, H = s.heap := ⟨_, rfl⟩
  obtain ⟨locs, hlo⟩ : ∃ z : List Loc, z = [] := ⟨_, rfl⟩
  have hP : va_P D vwCl (List.flatten (wM aM C ms mw ma ml)) H := by rw [hH]; exact hP
  have hS : va_S A s.heap H locs := by rw [hH, hlo]; exact hS
  rw [show W p l e rmX12_swap s m args below meth c s.heap [] 0 0 Q (F0 m 0 ls []) = W p l e rmX12_swap s m args below meth c H locs 0 0 Q (F0 m 0 ls []) from by rw [hH, hlo]]
  unfold P_X12_swap at h
  refine lv_aload_n hx hb dX12_swap_0 rfl (lv_at hl 0 rfl) ?_
  refine lv_iconst (v := 0) hx hb dX12_swap_1 (by decide) ?_
  refine va_put (D := D) (ci := 12) (v := .int 0) (ty := .int) (C := RX12) (T := TX12) (N := 51) hx hb hw inW_X12 tyX12 tyX12_ok nmX12 hown hK hP hD hS 0 rfl rfl 0 (by decide) (hw _ mw_6_43) (fun _ h9 => h9) rfl (by decide +kernel) rfl rfl (Nat.le_of_ble_eq_true rfl) dX12_swap_2 (fun H locs hP hD hS => ?_)
  refine lv_aload_n hx hb dX12_swap_5 rfl (lv_at hl 0 rfl) ?_
  refine lv_iload_n hx hb dX12_swap_6 rfl (lv_at hl 1 rfl) ?_
  refine lv_iload_n hx hb dX12_swap_7 rfl (lv_at hl 2 rfl) ?_
  have hP : va_P D vwCl (List.flatten (wM aM C (va_up ms 0 0) mw ma ml)) H := hP
  have hD : va_D A (List.flatten (wM aM C (va_up ms 0 0) mw ma ml)) := hD
  refine cGoAI (cRunAV (As := [.int p1, .int p2]) (rest := []) ⟨hx, hb, hml, hown, hw⟩ hK hN hP hD (k_X12_areTwo l D C _ aM  (va_up ms 0 0) mw ma ml p1 p2 h) (cwV 2 hw (goodV mw_8_126 mw_8_128 mw_s165 mw_1_13 mw_8_129) rfl rfl rfl (by decide +kernel) ⟨Nat.le_of_ble_eq_true rfl, Nat.le_of_ble_eq_true rfl⟩) rfl rfl rfl hl.1 rfl (Nat.le_of_ble_eq_true rfl) dX12_swap_8 ⟨Nat.zero_le _, Nat.zero_le _⟩) hP hD hS hA (fun r1 u H locs h hP hD hS => ?_)
  have hP : va_P D vwCl (List.flatten (wM aM C (va_up ms 0 0) mw ma ml)) H := hP
  have hD : va_D A (List.flatten (wM aM C (va_up ms 0 0) mw ma ml)) := hD
  refine lv_if_ne (tgt := 17) hx hb dX12_swap_11 (by decide) (fun c2 => ?_) (fun c2 => ?_)
  · have h := h.1 c2
    refine lv_aload_n hx hb dX12_swap_17 rfl (lv_at hl 0 rfl) ?_
    refine lv_iconst (v := 1) hx hb dX12_swap_18 (by decide) ?_
    refine cGoAL (cRunAV (As := [.int 1]) (rest := []) ⟨hx, hb, hml, hown, hw⟩ hK hN hP hD (k_X12_allNow l D C _ aM  (va_up ms 0 0) mw ma ml 1 h) (cwV 1 hw (goodV mw_8_28 mw_8_30 mw_s151 mw_1_13 mw_8_31) rfl rfl rfl (by decide +kernel) ⟨Nat.le_of_ble_eq_true rfl, Nat.le_of_ble_eq_true rfl⟩) rfl rfl rfl hl.1 rfl (Nat.le_of_ble_eq_true rfl) dX12_swap_19 ⟨Nat.zero_le _, Nat.zero_le _⟩) hP hD hS hA (fun r6 u H locs h hP hD hS => ?_)
    obtain ⟨ms_3, ma_4, ml_5⟩ := u
    have hP : va_P D vwCl (List.flatten (wM aM C ms_3 mw ma_4 ml_5)) H := hP
    have hD : va_D A (List.flatten (wM aM C ms_3 mw ma_4 ml_5)) := hD
    refine lv_lstore_n (lv' := [(3, .long r6), (0, .ref (aM 0)), (1, .int p1), (2, .int p2)]) hx hb dX12_swap_22 rfl hl (by decide) rfl (fun ls hl => ?_)
    refine lv_aload_n hx hb dX12_swap_23 rfl (lv_at hl 1 rfl) ?_
    refine va_get (D := D) (ci := 12) (v := .ref (aM 14)) (C := RX12) (T := TX12) (N := 51) hx hb hw inW_X12 hown hK hP 0 rfl rfl 24 (by decide) (hw _ mw_6_67) (fun _ h9 => h9) rfl dX12_swap_24 ?_
    refine lv_iconst (v := 0) hx hb dX12_swap_27 (by decide) ?_
    refine lv_iload_n hx hb dX12_swap_28 rfl (lv_at hl 2 rfl) ?_
    refine cGoEI (cRunES (As := [.int 0, .int p1]) (rest := [.ref (aM 14)]) ⟨hx, hb, hml, hown, hw⟩ hK hN hP hD (k_X12_at l D C _    0 p1 h) (va_cwS 2 hw (goodS mw_7_148 mw_7_149 mw_1_13 mw_7_150) rfl rfl rfl (by decide +kernel) ⟨Nat.le_of_ble_eq_true rfl, Nat.le_of_ble_eq_true rfl⟩) rfl hl.1 rfl (Nat.le_of_ble_eq_true rfl) dX12_swap_29 ⟨Nat.zero_le _, Nat.zero_le _⟩) hP hD hS hA (fun r7 u H locs h hP hD hS => ?_)
    have hP : va_P D vwCl (List.flatten (wM aM C ms_3 mw ma_4 ml_5)) H := hP
    have hD : va_D A (List.flatten (wM aM C ms_3 mw ma_4 ml_5)) := hD
    refine lv_iconst (v := 2) hx hb dX12_swap_32 (by decide) ?_
    refine lv_iadd hx hb dX12_swap_33 ?_
    try dsimp only at h
    obtain ⟨kk_8, hkk_8⟩ : ∃ z : Nat, (r7 + 2).toNatClampNeg = z := ⟨_, rfl⟩
    rw [hkk_8] at h
    refine cIald hx hb hK hP 14 0 rfl rfl kk_8 hkk_8 h.1 dX12_swap_34 ?_
    have h := h.2
    refine lv_topi (fun x9 ex9 => ?_)
    have h := h x9 ex9
    refine lv_istore (lv' := [(5, .int x9), (3, .long r6), (0, .ref (aM 0)), (1, .int p1), (2, .int p2)]) hx hb dX12_swap_35 hl (by decide) rfl (fun ls hl => ?_)
    refine lv_aload_n hx hb dX12_swap_37 rfl (lv_at hl 2 rfl) ?_
    refine va_get (D := D) (ci := 12) (v := .ref (aM 14)) (C := RX12) (T := TX12) (N := 51) hx hb hw inW_X12 hown hK hP 0 rfl rfl 24 (by decide) (hw _ mw_6_67) (fun _ h9 => h9) rfl dX12_swap_38 ?_
    refine lv_iconst (v := 0) hx hb dX12_swap_41 (by decide) ?_
    refine lv_iload_n hx hb dX12_swap_42 rfl (lv_at hl 3 rfl) ?_
    refine cGoEI (cRunES (As := [.int 0, .int p1]) (rest := [.ref (aM 14)]) ⟨hx, hb, hml, hown, hw⟩ hK hN hP hD (k_X12_at l D C _    0 p1 h) (va_cwS 2 hw (goodS mw_7_148 mw_7_149 mw_1_13 mw_7_150) rfl rfl rfl (by decide +kernel) ⟨Nat.le_of_ble_eq_true rfl, Nat.le_of_ble_eq_true rfl⟩) rfl hl.1 rfl (Nat.le_of_ble_eq_true rfl) dX12_swap_43 ⟨Nat.zero_le _, Nat.zero_le _⟩) hP hD hS hA (fun r10 u H locs h hP hD hS => ?_)
    have hP : va_P D vwCl (List.flatten (wM aM C ms_3 mw ma_4 ml_5)) H := hP
    have hD : va_D A (List.flatten (wM aM C ms_3 mw ma_4 ml_5)) := hD
    refine lv_iconst (v := 2) hx hb dX12_swap_46 (by decide) ?_
    refine lv_iadd hx hb dX12_swap_47 ?_
    refine lv_aload_n hx hb dX12_swap_48 rfl (lv_at hl 2 rfl) ?_
    refine va_get (D := D) (ci := 12) (v := .ref (aM 14)) (C := RX12) (T := TX12) (N := 51) hx hb hw inW_X12 hown hK hP 0 rfl rfl 24 (by decide) (hw _ mw_6_67) (fun _ h9 => h9) rfl dX12_swap_49 ?_
    refine lv_iconst (v := 0) hx hb dX12_swap_52 (by decide) ?_
    refine lv_iload_n hx hb dX12_swap_53 rfl (lv_at hl 4 rfl) ?_
    refine cGoEI (cRunES (As := [.int 0, .int p2]) (rest := [.ref (aM 14), .int (r10 + 2), .ref (aM 14)]) ⟨hx, hb, hml, hown, hw⟩ hK hN hP hD (k_X12_at l D C _    0 p2 h) (va_cwS 2 hw (goodS mw_7_148 mw_7_149 mw_1_13 mw_7_150) rfl rfl rfl (by decide +kernel) ⟨Nat.le_of_ble_eq_true rfl, Nat.le_of_ble_eq_true rfl⟩) rfl hl.1 rfl (Nat.le_of_ble_eq_true rfl) dX12_swap_54 ⟨Nat.zero_le _, Nat.zero_le _⟩) hP hD hS hA (fun r11 u H locs h hP hD hS => ?_)
    have hP : va_P D vwCl (List.flatten (wM aM C ms_3 mw ma_4 ml_5)) H := hP
    have hD : va_D A (List.flatten (wM aM C ms_3 mw ma_4 ml_5)) := hD
    refine lv_iconst (v := 2) hx hb dX12_swap_57 (by decide) ?_
    refine lv_iadd hx hb dX12_swap_58 ?_
    try dsimp only at h
    obtain ⟨kk_12, hkk_12⟩ : ∃ z : Nat, (r11 + 2).toNatClampNeg = z := ⟨_, rfl⟩
    rw [hkk_12] at h
    refine cIald hx hb hK hP 14 0 rfl rfl kk_12 hkk_12 h.1 dX12_swap_59 ?_
    have h := h.2
    try dsimp only at h
    obtain ⟨kk_13, hkk_13⟩ : ∃ z : Nat, (r10 + 2).toNatClampNeg = z := ⟨_, rfl⟩
    rw [hkk_13] at h
    refine cIast hx hb hK hP hD hS 14 0 rfl rfl kk_13 hkk_13 h.1 dX12_swap_60 (fun H locs hP hD hS => ?_)
    have h := h.2
    refine lv_aload_n hx hb dX12_swap_61 rfl (lv_at hl 2 rfl) ?_
    refine va_get (D := D) (ci := 12) (v := .ref (aM 14)) (C := RX12) (T := TX12) (N := 51) hx hb hw inW_X12 hown hK hP 0 rfl rfl 24 (by decide) (hw _ mw_6_67) (fun _ h9 => h9) rfl dX12_swap_62 ?_
    refine lv_iconst (v := 0) hx hb dX12_swap_65 (by decide) ?_
    refine lv_iload_n hx hb dX12_swap_66 rfl (lv_at hl 4 rfl) ?_
    have hP : va_P D vwCl (List.flatten (wM aM C ms_3 mw (va_up ma_4 11 (upd (ma_4 11) kk_13 (ma_4 11 kk_12))) ml_5)) H := hP
    have hD : va_D A (List.flatten (wM aM C ms_3 mw (va_up ma_4 11 (upd (ma_4 11) kk_13 (ma_4 11 kk_12))) ml_5)) := hD
    refine cGoEI (cRunES (As := [.int 0, .int p2]) (rest := [.ref (aM 14)]) ⟨hx, hb, hml, hown, hw⟩ hK hN hP hD (k_X12_at l D C _    0 p2 h) (va_cwS 2 hw (goodS mw_7_148 mw_7_149 mw_1_13 mw_7_150) rfl rfl rfl (by decide +kernel) ⟨Nat.le_of_ble_eq_true rfl, Nat.le_of_ble_eq_true rfl⟩) rfl hl.1 rfl (Nat.le_of_ble_eq_true rfl) dX12_swap_67 ⟨Nat.zero_le _, Nat.zero_le _⟩) hP hD hS hA (fun r14 u H locs h hP hD hS => ?_)
    have hP : va_P D vwCl (List.flatten (wM aM C ms_3 mw (va_up ma_4 11 (upd (ma_4 11) kk_13 (ma_4 11 kk_12))) ml_5)) H := hP
    have hD : va_D A (List.flatten (wM aM C ms_3 mw (va_up ma_4 11 (upd (ma_4 11) kk_13 (ma_4 11 kk_12))) ml_5)) := hD
    refine lv_iconst (v := 2) hx hb dX12_swap_70 (by decide) ?_
    refine lv_iadd hx hb dX12_swap_71 ?_
    refine lv_iload hx hb dX12_swap_72 (lv_at hl 0 rfl) ?_
    try dsimp only at h
    obtain ⟨kk_15, hkk_15⟩ : ∃ z : Nat, (r14 + 2).toNatClampNeg = z := ⟨_, rfl⟩
    rw [hkk_15] at h
    refine cIast hx hb hK hP hD hS 14 0 rfl rfl kk_15 hkk_15 h.1 dX12_swap_74 (fun H locs hP hD hS => ?_)
    have h := h.2
    refine lv_aload_n hx hb dX12_swap_75 rfl (lv_at hl 2 rfl) ?_
    refine lv_iconst (v := 1) hx hb dX12_swap_76 (by decide) ?_
    have hP : va_P D vwCl (List.flatten (wM aM C ms_3 mw (va_up ma_4 11 (upd (upd (ma_4 11) kk_13 (ma_4 11 kk_12)) kk_15 x9)) ml_5)) H := hP
    have hD : va_D A (List.flatten (wM aM C ms_3 mw (va_up ma_4 11 (upd (upd (ma_4 11) kk_13 (ma_4 11 kk_12)) kk_15 x9)) ml_5)) := hD
    refine cGoAL (cRunAV (As := [.int 1]) (rest := []) ⟨hx, hb, hml, hown, hw⟩ hK hN hP hD (k_X12_allNow l D C _ aM  ms_3 mw (va_up ma_4 11 (upd (upd (ma_4 11) kk_13 (ma_4 11 kk_12)) kk_15 x9)) ml_5 1 h) (cwV 1 hw (goodV mw_8_28 mw_8_30 mw_s151 mw_1_13 mw_8_31) rfl rfl rfl (by decide +kernel) ⟨Nat.le_of_ble_eq_true rfl, Nat.le_of_ble_eq_true rfl⟩) rfl rfl rfl hl.1 rfl (Nat.le_of_ble_eq_true rfl) dX12_swap_77 ⟨Nat.zero_le _, Nat.zero_le _⟩) hP hD hS hA (fun r19 u H locs h hP hD hS => ?_)
    obtain ⟨ms_16, ma_17, ml_18⟩ := u
    have hP : va_P D vwCl (List.flatten (wM aM C ms_16 mw ma_17 ml_18)) H := hP
    have hD : va_D A (List.flatten (wM aM C ms_16 mw ma_17 ml_18)) := hD
    refine lv_lload_n hx hb dX12_swap_80 rfl (lv_at hl 1 rfl) ?_
    refine W.lcmp hx hb dX12_swap_81 ?_
    refine lv_if_ge (tgt := 89) hx hb dX12_swap_82 (by decide) (fun c20 => ?_) (fun c20 => ?_)
    · have c20 : r6 ≤ r19 := (lg_cmp_ge _ _).mp c20
      have h := h.1 c20
      refine lv_iconst (v := 0) hx hb dX12_swap_89 (by decide) ?_
      rw [← hQ]
      exact cRetI (v := 0) (ms_16, ma_17, ml_18) hx hb hr hlocks hS hP hD h dX12_swap_90
    · have c20 : ¬ r6 ≤ r19 := fun q => c20 ((lg_cmp_ge _ _).mpr q)
      have h := h.2 c20
      refine lv_iconst (v := 1) hx hb dX12_swap_85 (by decide) ?_
      refine lv_goto (tgt := 90) hx hb dX12_swap_86 (by decide) ?_
      rw [← hQ]
      exact cRetI (v := 1) (ms_16, ma_17, ml_18) hx hb hr hlocks hS hP hD h dX12_swap_90
  · have h := h.2 c2
    refine lv_bipush (v := (-2)) hx hb dX12_swap_14 (by decide) ?_
    rw [← hQ]
    exact cRetI (v := (-2)) ((va_up ms 0 0), ma, ml) hx hb hr hlocks hS hP hD h dX12_swap_16
abbrev vsX12_where : List Cond := Cond.code yX12_where cX12_where 10 (some .int) :: WS
abbrev rmX12_where : Room := { frames := 6, cells := 0, slots := 0, locals := 140 }
set_option maxHeartbeats 4000000 in
set_option maxRecDepth 100000 in
theorem k_X12_where (l : Launch) (D : va_G) (C : Nat → ClassId) (sz : Nat) (aM : Nat → Nat)  (ms : Nat → Int32) (mw : Nat → Int64) (ma : Nat → Nat → Int32) (ml : Nat → Nat → Int64) (p1 : Int32) {post : Int32 → (Nat → Int32) → (Nat → Nat → Int32) → (Nat → Nat → Int64) → Prop} (h : P_X12_where ms ma ml p1 post) : Met l yX12_where vsX12_where rmX12_where (cPre D C [.ref (aM 0), .int p1] sz (wM aM C ms mw ma ml)) (cQi D (fun (r : Int32) (u : (Nat → Int32) × (Nat → Nat → Int32) × (Nat → Nat → Int64)) => post r u.1 u.2.1 u.2.2) (fun u => wM aM C u.1 mw u.2.1 u.2.2) (va_A (List.flatten (wM aM C ms mw ma ml)) sz)) 0 0 (va_A (List.flatten (wM aM C ms mw ma ml)) sz) := by
  refine cStart (QA := fun A => cQi D (fun (r : Int32) (u : (Nat → Int32) × (Nat → Nat → Int32) × (Nat → Nat → Int64)) => post r u.1 u.2.1 u.2.2) (fun u => wM aM C u.1 mw u.2.1 u.2.2) A) (cc := cX12_where) (maxL := 10) (ret := (some .int)) (by decide) (Nat.le_of_ble_eq_true rfl) ?_
  intro p e s m args below meth c A ls hx hb hr hml hown hw hlocks hname hK hN hA hP hD hS hl
  generalize hQ : MQ below _ args s 0 0 A = Q
  have hl : lv_has ls 10 [(0, .ref (aM 0)), (1, .int p1)] := hl
  obtain ⟨H, hH⟩ : ∃ H, H = s.heap := ⟨_, rfl⟩
  obtain ⟨locs, hlo⟩ : ∃ z : List Loc, z = [] := ⟨_, rfl⟩
  have hP : va_P D vwCl (List.flatten (wM aM C ms mw ma ml)) H := by rw [hH]; exact hP
  have hS : va_S A s.heap H locs := by rw [hH, hlo]; exact hS
  rw [show W p l e rmX12_where s m args below meth c s.heap [] 0 0 Q (F0 m 0 ls []) = W p l e rmX12_where s m args below meth c H locs 0 0 Q (F0 m 0 ls []) from by rw [hH, hlo]]
  have N134 : ∀ (x2_ : Int32) (x3_ : Int32) (ms : Nat → Int32) (ma : Nat → Nat → Int32) (ml : Nat → Nat → Int64) (H : Heap) (locs : List Loc) (ls : Array Slot), P_X12_where_134 p1 post  x2_ x3_ ms ma ml → va_P D vwCl (List.flatten (wM aM C ms mw ma ml)) H → va_D A (List.flatten (wM aM C ms mw ma ml)) → va_S A s.heap H locs → lv_has ls 10 [(0, .ref (aM 0)), (1, .int p1), (2, .int x2_), (3, .int x3_)] → W p l e rmX12_where s m args below meth c H locs 0 0 Q (F0 m 134 ls []) := by
    intro x2_ x3_ ms ma ml H locs ls h hP hD hS hl
    unfold P_X12_where_134 at h
    refine lv_aload_n hx hb dX12_where_134 rfl (lv_at hl 0 rfl) ?_
    refine va_get (D := D) (ci := 12) (v := .ref (aM 14)) (C := RX12) (T := TX12) (N := 51) hx hb hw inW_X12 hown hK hP 0 rfl rfl 24 (by decide) (hw _ mw_6_67) (fun _ h9 => h9) rfl dX12_where_135 ?_
    refine lv_iconst (v := 0) hx hb dX12_where_138 (by decide) ?_
    refine lv_iload_n hx hb dX12_where_139 rfl (lv_at hl 1 rfl) ?_
    refine cGoEI (cRunES (As := [.int 0, .int p1]) (rest := [.ref (aM 14)]) ⟨hx, hb, hml, hown, hw⟩ hK hN hP hD (k_X12_at l D C _    0 p1 h) (va_cwS 2 hw (goodS mw_7_148 mw_7_149 mw_1_13 mw_7_150) rfl rfl rfl (by decide +kernel) ⟨Nat.le_of_ble_eq_true rfl, Nat.le_of_ble_eq_true rfl⟩) rfl hl.1 rfl (Nat.le_of_ble_eq_true rfl) dX12_where_140 ⟨Nat.zero_le _, Nat.zero_le _⟩) hP hD hS hA (fun r9 u H locs h hP hD hS => ?_)
    have hP : va_P D vwCl (List.flatten (wM aM C ms mw ma ml)) H := hP
    have hD : va_D A (List.flatten (wM aM C ms mw ma ml)) := hD
    refine lv_iconst (v := 2) hx hb dX12_where_143 (by decide) ?_
    refine lv_iadd hx hb dX12_where_144 ?_
    refine lv_iload_n hx hb dX12_where_145 rfl (lv_at hl 2 rfl) ?_
    try dsimp only at h
    obtain ⟨kk_10, hkk_10⟩ : ∃ z : Nat, (r9 + 2).toNatClampNeg = z := ⟨_, rfl⟩
    rw [hkk_10] at h
    refine cIast hx hb hK hP hD hS 14 0 rfl rfl kk_10 hkk_10 h.1 dX12_where_146 (fun H locs hP hD hS => ?_)
    have h := h.2
    refine lv_iload_n hx hb dX12_where_147 rfl (lv_at hl 3 rfl) ?_
    have hP : va_P D vwCl (List.flatten (wM aM C ms mw (va_up ma 11 (upd (ma 11) kk_10 x2_)) ml)) H := hP
    have hD : va_D A (List.flatten (wM aM C ms mw (va_up ma 11 (upd (ma 11) kk_10 x2_)) ml)) := hD
    rw [← hQ]
    exact cRetI (v := x3_) (ms, (va_up ma 11 (upd (ma 11) kk_10 x2_)), ml) hx hb hr hlocks hS hP hD h dX12_where_148
  have N37 : ∀ (x2_ : Int32) (n37 : Nat) (x3_ : Int32) (x4_ : Int64) (x6_ : Int32) (ms : Nat → Int32) (ma : Nat → Nat → Int32) (ml : Nat → Nat → Int64) (H : Heap) (locs : List Loc) (ls : Array Slot), P_X12_where_37 p1 post (fun (x2_ : Int32) (x3_ : Int32) (ms : Nat → Int32) (ma : Nat → Nat → Int32) (ml : Nat → Nat → Int64) => P_X12_where_134 p1 post  x2_ x3_ ms ma ml) x2_ n37 x3_ x4_ x6_ ms ma ml → va_P D vwCl (List.flatten (wM aM C ms mw ma ml)) H → va_D A (List.flatten (wM aM C ms mw ma ml)) → va_S A s.heap H locs → lv_has ls 10 [(0, .ref (aM 0)), (1, .int p1), (2, .int x2_), (3, .int x3_), (4, .long x4_), (6, .int x6_)] → W p l e rmX12_where s m args below meth c H locs 0 0 Q (F0 m 37 ls []) := by
    intro x2_
    intro n37
    induction n37 with
    | zero => intro x3_ x4_ x6_ ms ma ml H locs ls h hP hD hS hl; exact False.elim h
    | succ n37 ih37 =>
      have N84 : ∀ (x3_ : Int32) (x4_ : Int64) (x6_ : Int32) (ms : Nat → Int32) (ma : Nat → Nat → Int32) (ml : Nat → Nat → Int64) (H : Heap) (locs : List Loc) (ls : Array Slot), P_X12_where_84 p1 x2_ post (P_X12_where_37 p1 post (fun (x2_ : Int32) (x3_ : Int32) (ms : Nat → Int32) (ma : Nat → Nat → Int32) (ml : Nat → Nat → Int64) => P_X12_where_134 p1 post  x2_ x3_ ms ma ml) x2_ n37) x3_ x4_ x6_ ms ma ml → va_P D vwCl (List.flatten (wM aM C ms mw ma ml)) H → va_D A (List.flatten (wM aM C ms mw ma ml)) → va_S A s.heap H locs → lv_has ls 10 [(0, .ref (aM 0)), (1, .int p1), (2, .int x2_), (3, .int x3_), (4, .long x4_), (6, .int x6_)] → W p l e rmX12_where s m args below meth c H locs 0 0 Q (F0 m 84 ls []) := by
        intro x3_ x4_ x6_ ms ma ml H locs ls h hP hD hS hl
        unfold P_X12_where_84 at h
        refine lv_aload_n hx hb dX12_where_84 rfl (lv_at hl 0 rfl) ?_
        refine va_get (D := D) (ci := 12) (v := .ref (aM 14)) (C := RX12) (T := TX12) (N := 51) hx hb hw inW_X12 hown hK hP 0 rfl rfl 24 (by decide) (hw _ mw_6_67) (fun _ h9 => h9) rfl dX12_where_85 ?_
        refine lv_iconst (v := 0) hx hb dX12_where_88 (by decide) ?_
        refine lv_iload_n hx hb dX12_where_89 rfl (lv_at hl 1 rfl) ?_
        refine cGoEI (cRunES (As := [.int 0, .int p1]) (rest := [.ref (aM 14)]) ⟨hx, hb, hml, hown, hw⟩ hK hN hP hD (k_X12_at l D C _    0 p1 h) (va_cwS 2 hw (goodS mw_7_148 mw_7_149 mw_1_13 mw_7_150) rfl rfl rfl (by decide +kernel) ⟨Nat.le_of_ble_eq_true rfl, Nat.le_of_ble_eq_true rfl⟩) rfl hl.1 rfl (Nat.le_of_ble_eq_true rfl) dX12_where_90 ⟨Nat.zero_le _, Nat.zero_le _⟩) hP hD hS hA (fun r1 u H locs h hP hD hS => ?_)
        have hP : va_P D vwCl (List.flatten (wM aM C ms mw ma ml)) H := hP
        have hD : va_D A (List.flatten (wM aM C ms mw ma ml)) := hD
        refine lv_iconst (v := 2) hx hb dX12_where_93 (by decide) ?_
        refine lv_iadd hx hb dX12_where_94 ?_
        refine lv_iload hx hb dX12_where_95 (lv_at hl 5 rfl) ?_
        try dsimp only at h
        obtain ⟨kk_2, hkk_2⟩ : ∃ z : Nat, (r1 + 2).toNatClampNeg = z := ⟨_, rfl⟩
        rw [hkk_2] at h
        refine cIast hx hb hK hP hD hS 14 0 rfl rfl kk_2 hkk_2 h.1 dX12_where_97 (fun H locs hP hD hS => ?_)
        have h := h.2
        refine lv_aload_n hx hb dX12_where_98 rfl (lv_at hl 0 rfl) ?_
        refine lv_iload_n hx hb dX12_where_99 rfl (lv_at hl 1 rfl) ?_
        have hP : va_P D vwCl (List.flatten (wM aM C ms mw (va_up ma 11 (upd (ma 11) kk_2 x6_)) ml)) H := hP
        have hD : va_D A (List.flatten (wM aM C ms mw (va_up ma 11 (upd (ma 11) kk_2 x6_)) ml)) := hD
        refine cGoAL (cRunAV (As := [.int p1]) (rest := []) ⟨hx, hb, hml, hown, hw⟩ hK hN hP hD (k_X12_costNow l D C _ aM  ms mw (va_up ma 11 (upd (ma 11) kk_2 x6_)) ml p1 h) (cwV 1 hw (goodV mw_8_60 mw_8_62 mw_s157 mw_1_13 mw_8_63) rfl rfl rfl (by decide +kernel) ⟨Nat.le_of_ble_eq_true rfl, Nat.le_of_ble_eq_true rfl⟩) rfl rfl rfl hl.1 rfl (Nat.le_of_ble_eq_true rfl) dX12_where_100 ⟨Nat.zero_le _, Nat.zero_le _⟩) hP hD hS hA (fun r6 u H locs h hP hD hS => ?_)
        obtain ⟨ms_3, ma_4, ml_5⟩ := u
        have hP : va_P D vwCl (List.flatten (wM aM C ms_3 mw ma_4 ml_5)) H := hP
        have hD : va_D A (List.flatten (wM aM C ms_3 mw ma_4 ml_5)) := hD
        refine lv_lstore (lv' := [(8, .long r6), (0, .ref (aM 0)), (1, .int p1), (2, .int x2_), (3, .int x3_), (4, .long x4_), (6, .int x6_)]) hx hb dX12_where_103 hl (by decide) rfl (fun ls hl => ?_)
        refine lv_iload_n hx hb dX12_where_105 rfl (lv_at hl 4 rfl) ?_
        refine lv_iconst (v := (-1)) hx hb dX12_where_106 (by decide) ?_
        refine lv_icmp_eq (tgt := 121) hx hb dX12_where_107 (by decide) (fun c7 => ?_) (fun c7 => ?_)
        · have h := h.1 c7
          refine lv_iload hx hb dX12_where_121 (lv_at hl 6 rfl) ?_
          refine lv_istore_n (lv' := [(3, .int x6_), (8, .long r6), (0, .ref (aM 0)), (1, .int p1), (2, .int x2_), (4, .long x4_), (6, .int x6_)]) hx hb dX12_where_123 rfl hl (by decide) rfl (fun ls hl => ?_)
          refine lv_lload hx hb dX12_where_124 (lv_at hl 1 rfl) ?_
          refine lv_lstore (lv' := [(4, .long r6), (3, .int x6_), (8, .long r6), (0, .ref (aM 0)), (1, .int p1), (2, .int x2_), (6, .int x6_)]) hx hb dX12_where_126 hl (by decide) rfl (fun ls hl => ?_)
          refine lv_iinc (v := (x6_ + 1)) (lv' := [(6, .int (x6_ + 1)), (4, .long r6), (3, .int x6_), (8, .long r6), (0, .ref (aM 0)), (1, .int p1), (2, .int x2_)]) hx hb dX12_where_128 hl (k := 6) rfl rfl (by decide) rfl (fun ls hl => ?_)
          refine lv_goto (tgt := 37) hx hb dX12_where_131 (by decide) ?_
          exact ih37 x6_ r6 (x6_ + 1) ms_3 ma_4 ml_5 _ _ _ h hP hD hS (lv_sub hl [4, 5, 6, 2, 1, 0] rfl)
        · have h := h.2 c7
          refine lv_lload hx hb dX12_where_110 (lv_at hl 0 rfl) ?_
          refine lv_lload hx hb dX12_where_112 (lv_at hl 5 rfl) ?_
          refine W.lcmp hx hb dX12_where_114 ?_
          refine lv_if_lt (tgt := 121) hx hb dX12_where_115 (by decide) (fun c8 => ?_) (fun c8 => ?_)
          · have c8 : r6 < x4_ := (lg_cmp_lt _ _).mp c8
            have h := h.1 c8
            refine lv_iload hx hb dX12_where_121 (lv_at hl 6 rfl) ?_
            refine lv_istore_n (lv' := [(3, .int x6_), (8, .long r6), (0, .ref (aM 0)), (1, .int p1), (2, .int x2_), (4, .long x4_), (6, .int x6_)]) hx hb dX12_where_123 rfl hl (by decide) rfl (fun ls hl => ?_)
            refine lv_lload hx hb dX12_where_124 (lv_at hl 1 rfl) ?_
            refine lv_lstore (lv' := [(4, .long r6), (3, .int x6_), (8, .long r6), (0, .ref (aM 0)), (1, .int p1), (2, .int x2_), (6, .int x6_)]) hx hb dX12_where_126 hl (by decide) rfl (fun ls hl => ?_)
            refine lv_iinc (v := (x6_ + 1)) (lv' := [(6, .int (x6_ + 1)), (4, .long r6), (3, .int x6_), (8, .long r6), (0, .ref (aM 0)), (1, .int p1), (2, .int x2_)]) hx hb dX12_where_128 hl (k := 6) rfl rfl (by decide) rfl (fun ls hl => ?_)
            refine lv_goto (tgt := 37) hx hb dX12_where_131 (by decide) ?_
            exact ih37 x6_ r6 (x6_ + 1) ms_3 ma_4 ml_5 _ _ _ h hP hD hS (lv_sub hl [4, 5, 6, 2, 1, 0] rfl)
          · have c8 : ¬ r6 < x4_ := fun q => c8 ((lg_cmp_lt _ _).mpr q)
            have h := h.2 c8
            refine lv_goto (tgt := 128) hx hb dX12_where_118 (by decide) ?_
            refine lv_iinc (v := (x6_ + 1)) (lv' := [(6, .int (x6_ + 1)), (8, .long r6), (0, .ref (aM 0)), (1, .int p1), (2, .int x2_), (3, .int x3_), (4, .long x4_)]) hx hb dX12_where_128 hl (k := 6) rfl rfl (by decide) rfl (fun ls hl => ?_)
            refine lv_goto (tgt := 37) hx hb dX12_where_131 (by decide) ?_
            exact ih37 x3_ x4_ (x6_ + 1) ms_3 ma_4 ml_5 _ _ _ h hP hD hS (lv_sub hl [2, 3, 4, 5, 6, 0] rfl)
      intro x3_ x4_ x6_ ms ma ml H locs ls h hP hD hS hl
      have h : P_X12_where_37_b p1 post (fun (x2_ : Int32) (x3_ : Int32) (ms : Nat → Int32) (ma : Nat → Nat → Int32) (ml : Nat → Nat → Int64) => P_X12_where_134 p1 post  x2_ x3_ ms ma ml) x2_ (P_X12_where_37 p1 post (fun (x2_ : Int32) (x3_ : Int32) (ms : Nat → Int32) (ma : Nat → Nat → Int32) (ml : Nat → Nat → Int64) => P_X12_where_134 p1 post  x2_ x3_ ms ma ml) x2_ n37) x3_ x4_ x6_ ms ma ml := h
      unfold P_X12_where_37_b at h
      refine lv_iload hx hb dX12_where_37 (lv_at hl 5 rfl) ?_
      refine lv_aload_n hx hb dX12_where_39 rfl (lv_at hl 0 rfl) ?_
      refine va_get (D := D) (ci := 12) (v := .ref (aM 7)) (C := RX12) (T := TX12) (N := 51) hx hb hw inW_X12 hown hK hP 0 rfl rfl 17 (by decide) (hw _ mw_6_60) (fun _ h9 => h9) rfl dX12_where_40 ?_
      refine lv_iconst (v := 0) hx hb dX12_where_43 (by decide) ?_
      refine cIald hx hb hK hP 7 0 rfl rfl 0 (by decide +kernel) (cIn (by decide +kernel)) dX12_where_44 ?_
      refine lv_icmp_ge (tgt := 134) hx hb dX12_where_45 (by decide) (fun c11 => ?_) (fun c11 => ?_)
      · have h := h.1 c11
        exact N134 x2_ x3_ ms ma ml _ _ _ h hP hD hS (lv_sub hl [0, 1, 2, 3] rfl)
      · have h := h.2 c11
        refine lv_aload_n hx hb dX12_where_48 rfl (lv_at hl 0 rfl) ?_
        refine va_get (D := D) (ci := 12) (v := .ref (aM 14)) (C := RX12) (T := TX12) (N := 51) hx hb hw inW_X12 hown hK hP 0 rfl rfl 24 (by decide) (hw _ mw_6_67) (fun _ h9 => h9) rfl dX12_where_49 ?_
        refine lv_iconst (v := 0) hx hb dX12_where_52 (by decide) ?_
        refine lv_iload_n hx hb dX12_where_53 rfl (lv_at hl 1 rfl) ?_
        refine cGoEI (cRunES (As := [.int 0, .int p1]) (rest := [.ref (aM 14)]) ⟨hx, hb, hml, hown, hw⟩ hK hN hP hD (k_X12_at l D C _    0 p1 h) (va_cwS 2 hw (goodS mw_7_148 mw_7_149 mw_1_13 mw_7_150) rfl rfl rfl (by decide +kernel) ⟨Nat.le_of_ble_eq_true rfl, Nat.le_of_ble_eq_true rfl⟩) rfl hl.1 rfl (Nat.le_of_ble_eq_true rfl) dX12_where_54 ⟨Nat.zero_le _, Nat.zero_le _⟩) hP hD hS hA (fun r12 u H locs h hP hD hS => ?_)
        have hP : va_P D vwCl (List.flatten (wM aM C ms mw ma ml)) H := hP
        have hD : va_D A (List.flatten (wM aM C ms mw ma ml)) := hD
        refine lv_iconst (v := 2) hx hb dX12_where_57 (by decide) ?_
        refine lv_iadd hx hb dX12_where_58 ?_
        refine lv_iload_n hx hb dX12_where_59 rfl (lv_at hl 2 rfl) ?_
        try dsimp only at h
        obtain ⟨kk_13, hkk_13⟩ : ∃ z : Nat, (r12 + 2).toNatClampNeg = z := ⟨_, rfl⟩
        rw [hkk_13] at h
        refine cIast hx hb hK hP hD hS 14 0 rfl rfl kk_13 hkk_13 h.1 dX12_where_60 (fun H locs hP hD hS => ?_)
        have h := h.2
        refine lv_aload_n hx hb dX12_where_61 rfl (lv_at hl 0 rfl) ?_
        refine lv_iload hx hb dX12_where_62 (lv_at hl 5 rfl) ?_
        have hP : va_P D vwCl (List.flatten (wM aM C ms mw (va_up ma 11 (upd (ma 11) kk_13 x2_)) ml)) H := hP
        have hD : va_D A (List.flatten (wM aM C ms mw (va_up ma 11 (upd (ma 11) kk_13 x2_)) ml)) := hD
        refine cGoAI (cRunAV (As := [.int x6_]) (rest := []) ⟨hx, hb, hml, hown, hw⟩ hK hN hP hD (k_X12_standsAt l D C _ aM  ms mw (va_up ma 11 (upd (ma 11) kk_13 x2_)) ml x6_ h) (cwV 1 hw (goodV mw_8_155 mw_8_157 mw_s167 mw_1_13 mw_8_158) rfl rfl rfl (by decide +kernel) ⟨Nat.le_of_ble_eq_true rfl, Nat.le_of_ble_eq_true rfl⟩) rfl rfl rfl hl.1 rfl (Nat.le_of_ble_eq_true rfl) dX12_where_64 ⟨Nat.zero_le _, Nat.zero_le _⟩) hP hD hS hA (fun r14 u H locs h hP hD hS => ?_)
        have hP : va_P D vwCl (List.flatten (wM aM C ms mw (va_up ma 11 (upd (ma 11) kk_13 x2_)) ml)) H := hP
        have hD : va_D A (List.flatten (wM aM C ms mw (va_up ma 11 (upd (ma 11) kk_13 x2_)) ml)) := hD
        refine lv_istore (lv' := [(7, .int r14), (0, .ref (aM 0)), (1, .int p1), (2, .int x2_), (3, .int x3_), (4, .long x4_), (6, .int x6_)]) hx hb dX12_where_67 hl (by decide) rfl (fun ls hl => ?_)
        refine lv_iload hx hb dX12_where_69 (lv_at hl 0 rfl) ?_
        refine lv_iconst (v := (-1)) hx hb dX12_where_71 (by decide) ?_
        refine lv_icmp_eq (tgt := 84) hx hb dX12_where_72 (by decide) (fun c15 => ?_) (fun c15 => ?_)
        · have h := h.1 c15
          exact N84 x3_ x4_ x6_ ms (va_up ma 11 (upd (ma 11) kk_13 x2_)) ml _ _ _ h hP hD hS (lv_sub hl [1, 2, 3, 4, 5, 6] rfl)
        · have h := h.2 c15
          refine lv_iload hx hb dX12_where_75 (lv_at hl 0 rfl) ?_
          refine lv_iload_n hx hb dX12_where_77 rfl (lv_at hl 2 rfl) ?_
          refine lv_icmp_eq (tgt := 84) hx hb dX12_where_78 (by decide) (fun c16 => ?_) (fun c16 => ?_)
          · have h := h.1 c16
            exact N84 x3_ x4_ x6_ ms (va_up ma 11 (upd (ma 11) kk_13 x2_)) ml _ _ _ h hP hD hS (lv_sub hl [1, 2, 3, 4, 5, 6] rfl)
          · have h := h.2 c16
            refine lv_goto (tgt := 128) hx hb dX12_where_81 (by decide) ?_
            refine lv_iinc (v := (x6_ + 1)) (lv' := [(6, .int (x6_ + 1)), (7, .int r14), (0, .ref (aM 0)), (1, .int p1), (2, .int x2_), (3, .int x3_), (4, .long x4_)]) hx hb dX12_where_128 hl (k := 6) rfl rfl (by decide) rfl (fun ls hl => ?_)
            refine lv_goto (tgt := 37) hx hb dX12_where_131 (by decide) ?_
            exact ih37 x3_ x4_ (x6_ + 1) ms (va_up ma 11 (upd (ma 11) kk_13 x2_)) ml _ _ _ h hP hD hS (lv_sub hl [2, 3, 4, 5, 6, 0] rfl)
  unfold P_X12_where at h
  refine lv_aload_n hx hb dX12_where_0 rfl (lv_at hl 0 rfl) ?_
  refine lv_iconst (v := 0) hx hb dX12_where_1 (by decide) ?_
  refine va_put (D := D) (ci := 12) (v := .int 0) (ty := .int) (C := RX12) (T := TX12) (N := 51) hx hb hw inW_X12 tyX12 tyX12_ok nmX12 hown hK hP hD hS 0 rfl rfl 0 (by decide) (hw _ mw_6_43) (fun _ h9 => h9) rfl (by decide +kernel) rfl rfl (Nat.le_of_ble_eq_true rfl) dX12_where_2 (fun H locs hP hD hS => ?_)
  refine lv_aload_n hx hb dX12_where_5 rfl (lv_at hl 0 rfl) ?_
  refine lv_iload_n hx hb dX12_where_6 rfl (lv_at hl 1 rfl) ?_
  have hP : va_P D vwCl (List.flatten (wM aM C (va_up ms 0 0) mw ma ml)) H := hP
  have hD : va_D A (List.flatten (wM aM C (va_up ms 0 0) mw ma ml)) := hD
  refine cGoAI (cRunAV (As := [.int p1]) (rest := []) ⟨hx, hb, hml, hown, hw⟩ hK hN hP hD (k_X12_isBike l D C _ aM  (va_up ms 0 0) mw ma ml p1 h) (cwV 1 hw (goodV mw_7_143 mw_7_145 mw_s133 mw_1_13 mw_7_146) rfl rfl rfl (by decide +kernel) ⟨Nat.le_of_ble_eq_true rfl, Nat.le_of_ble_eq_true rfl⟩) rfl rfl rfl hl.1 rfl (Nat.le_of_ble_eq_true rfl) dX12_where_7 ⟨Nat.zero_le _, Nat.zero_le _⟩) hP hD hS hA (fun r17 u H locs h hP hD hS => ?_)
  have hP : va_P D vwCl (List.flatten (wM aM C (va_up ms 0 0) mw ma ml)) H := hP
  have hD : va_D A (List.flatten (wM aM C (va_up ms 0 0) mw ma ml)) := hD
  refine lv_if_ne (tgt := 16) hx hb dX12_where_10 (by decide) (fun c18 => ?_) (fun c18 => ?_)
  · have h := h.1 c18
    refine lv_aload_n hx hb dX12_where_16 rfl (lv_at hl 0 rfl) ?_
    refine va_get (D := D) (ci := 12) (v := .ref (aM 14)) (C := RX12) (T := TX12) (N := 51) hx hb hw inW_X12 hown hK hP 0 rfl rfl 24 (by decide) (hw _ mw_6_67) (fun _ h9 => h9) rfl dX12_where_17 ?_
    refine lv_iconst (v := 0) hx hb dX12_where_20 (by decide) ?_
    refine lv_iload_n hx hb dX12_where_21 rfl (lv_at hl 1 rfl) ?_
    refine cGoEI (cRunES (As := [.int 0, .int p1]) (rest := [.ref (aM 14)]) ⟨hx, hb, hml, hown, hw⟩ hK hN hP hD (k_X12_at l D C _    0 p1 h) (va_cwS 2 hw (goodS mw_7_148 mw_7_149 mw_1_13 mw_7_150) rfl rfl rfl (by decide +kernel) ⟨Nat.le_of_ble_eq_true rfl, Nat.le_of_ble_eq_true rfl⟩) rfl hl.1 rfl (Nat.le_of_ble_eq_true rfl) dX12_where_22 ⟨Nat.zero_le _, Nat.zero_le _⟩) hP hD hS hA (fun r19 u H locs h hP hD hS => ?_)
    have hP : va_P D vwCl (List.flatten (wM aM C (va_up ms 0 0) mw ma ml)) H := hP
    have hD : va_D A (List.flatten (wM aM C (va_up ms 0 0) mw ma ml)) := hD
    refine lv_iconst (v := 2) hx hb dX12_where_25 (by decide) ?_
    refine lv_iadd hx hb dX12_where_26 ?_
    try dsimp only at h
    obtain ⟨kk_20, hkk_20⟩ : ∃ z : Nat, (r19 + 2).toNatClampNeg = z := ⟨_, rfl⟩
    rw [hkk_20] at h
    refine cIald hx hb hK hP 14 0 rfl rfl kk_20 hkk_20 h.1 dX12_where_27 ?_
    have h := h.2
    refine lv_topi (fun x21 ex21 => ?_)
    have h := h x21 ex21
    refine lv_istore_n (lv' := [(2, .int x21), (0, .ref (aM 0)), (1, .int p1)]) hx hb dX12_where_28 rfl hl (by decide) rfl (fun ls hl => ?_)
    refine lv_iconst (v := (-1)) hx hb dX12_where_29 (by decide) ?_
    refine lv_istore_n (lv' := [(3, .int (-1)), (2, .int x21), (0, .ref (aM 0)), (1, .int p1)]) hx hb dX12_where_30 rfl hl (by decide) rfl (fun ls hl => ?_)
    refine lv_lconst (v := 0) hx hb dX12_where_31 (by decide) ?_
    refine lv_lstore (lv' := [(4, .long 0), (3, .int (-1)), (2, .int x21), (0, .ref (aM 0)), (1, .int p1)]) hx hb dX12_where_32 hl (by decide) rfl (fun ls hl => ?_)
    refine lv_iconst (v := 0) hx hb dX12_where_34 (by decide) ?_
    refine lv_istore (lv' := [(6, .int 0), (4, .long 0), (3, .int (-1)), (2, .int x21), (0, .ref (aM 0)), (1, .int p1)]) hx hb dX12_where_35 hl (by decide) rfl (fun ls hl => ?_)
    obtain ⟨n, h⟩ := h
    exact N37 x21 n (-1) 0 0 (va_up ms 0 0) ma ml _ _ _ h hP hD hS (lv_sub hl [4, 5, 3, 2, 1, 0] rfl)
  · have h := h.2 c18
    refine lv_bipush (v := (-2)) hx hb dX12_where_13 (by decide) ?_
    rw [← hQ]
    exact cRetI (v := (-2)) ((va_up ms 0 0), ma, ml) hx hb hr hlocks hS hP hD h dX12_where_15
abbrev vsX12_litBy : List Cond := Cond.code yX12_litBy cX12_litBy 5 (some .long) :: WS
abbrev rmX12_litBy : Room := { frames := 6, cells := 0, slots := 0, locals := 143 }
set_option maxHeartbeats 4000000 in
set_option maxRecDepth 100000 in
theorem k_X12_litBy (l : Launch) (D : va_G) (C : Nat → ClassId) (sz : Nat) (aM : Nat → Nat)  (ms : Nat → Int32) (mw : Nat → Int64) (ma : Nat → Nat → Int32) (ml : Nat → Nat → Int64) (p1 : Int32) (p2 : Int32) {post : Int64 → (Nat → Int32) → (Nat → Nat → Int32) → (Nat → Nat → Int64) → Prop} (h : P_X12_litBy ms ma ml p1 p2 post) : Met l yX12_litBy vsX12_litBy rmX12_litBy (cPre D C [.ref (aM 0), .int p1, .int p2] sz (wM aM C ms mw ma ml)) (cQl D (fun (r : Int64) (u : (Nat → Int32) × (Nat → Nat → Int32) × (Nat → Nat → Int64)) => post r u.1 u.2.1 u.2.2) (fun u => wM aM C u.1 mw u.2.1 u.2.2) (va_A (List.flatten (wM aM C ms mw ma ml)) sz)) 0 0 (va_A (List.flatten (wM aM C ms mw ma ml)) sz) := by
  refine cStart (QA := fun A => cQl D (fun (r : Int64) (u : (Nat → Int32) × (Nat → Nat → Int32) × (Nat → Nat → Int64)) => post r u.1 u.2.1 u.2.2) (fun u => wM aM C u.1 mw u.2.1 u.2.2) A) (cc := cX12_litBy) (maxL := 5) (ret := (some .long)) (by decide) (Nat.le_of_ble_eq_true rfl) ?_
  intro p e s m args below meth c A ls hx hb hr hml hown hw hlocks hname hK hN hA hP hD hS hl
  generalize hQ : MQ below _ args s 0 0 A = Q
  have hl : lv_has ls 5 [(0, .ref (aM 0)), (1, .int p1), (2, .int p2)] := hl
  obtain ⟨H, hH⟩ : ∃ H, H = s.heap := ⟨_, rfl⟩
  obtain ⟨locs, hlo⟩ : ∃ z : List Loc, z = [] := ⟨_, rfl⟩
  have hP : va_P D vwCl (List.flatten (wM aM C ms mw ma ml)) H := by rw [hH]; exact hP
  have hS : va_S A s.heap H locs := by rw [hH, hlo]; exact hS
  rw [show W p l e rmX12_litBy s m args below meth c s.heap [] 0 0 Q (F0 m 0 ls []) = W p l e rmX12_litBy s m args below meth c H locs 0 0 Q (F0 m 0 ls []) from by rw [hH, hlo]]
  refine lv_aload_n hx hb dX12_litBy_0 rfl (lv_at hl 0 rfl) ?_
  refine lv_iload_n hx hb dX12_litBy_1 rfl (lv_at hl 1 rfl) ?_
  refine va_put (D := D) (ci := 12) (v := .int p1) (ty := .int) (C := RX12) (T := TX12) (N := 51) hx hb hw inW_X12 tyX12 tyX12_ok nmX12 hown hK hP hD hS 0 rfl rfl 31 (by decide) (hw _ mw_6_74) (fun _ h9 => h9) rfl (by decide +kernel) rfl rfl (Nat.le_of_ble_eq_true rfl) dX12_litBy_2 (fun H locs hP hD hS => ?_)
  refine lv_aload_n hx hb dX12_litBy_5 rfl (lv_at hl 0 rfl) ?_
  refine lv_iload_n hx hb dX12_litBy_6 rfl (lv_at hl 2 rfl) ?_
  refine va_put (D := D) (ci := 12) (v := .int p2) (ty := .int) (C := RX12) (T := TX12) (N := 51) hx hb hw inW_X12 tyX12 tyX12_ok nmX12 hown hK hP hD hS 0 rfl rfl 32 (by decide) (hw _ mw_6_75) (fun _ h9 => h9) rfl (by decide +kernel) rfl rfl (Nat.le_of_ble_eq_true rfl) dX12_litBy_7 (fun H locs hP hD hS => ?_)
  refine lv_aload_n hx hb dX12_litBy_10 rfl (lv_at hl 0 rfl) ?_
  refine lv_iconst (v := 1) hx hb dX12_litBy_11 (by decide) ?_
  have hP : va_P D vwCl (List.flatten (wM aM C (va_up (va_up ms 10 p1) 11 p2) mw ma ml)) H := hP
  have hD : va_D A (List.flatten (wM aM C (va_up (va_up ms 10 p1) 11 p2) mw ma ml)) := hD
  refine cGoAL (cRunAV (As := [.int 1]) (rest := []) ⟨hx, hb, hml, hown, hw⟩ hK hN hP hD (k_X12_allNow l D C _ aM  (va_up (va_up ms 10 p1) 11 p2) mw ma ml 1 h) (cwV 1 hw (goodV mw_8_28 mw_8_30 mw_s151 mw_1_13 mw_8_31) rfl rfl rfl (by decide +kernel) ⟨Nat.le_of_ble_eq_true rfl, Nat.le_of_ble_eq_true rfl⟩) rfl rfl rfl hl.1 rfl (Nat.le_of_ble_eq_true rfl) dX12_litBy_12 ⟨Nat.zero_le _, Nat.zero_le _⟩) hP hD hS hA (fun r4 u H locs h hP hD hS => ?_)
  obtain ⟨ms_1, ma_2, ml_3⟩ := u
  have hP : va_P D vwCl (List.flatten (wM aM C ms_1 mw ma_2 ml_3)) H := hP
  have hD : va_D A (List.flatten (wM aM C ms_1 mw ma_2 ml_3)) := hD
  refine lv_lstore_n (lv' := [(3, .long r4), (0, .ref (aM 0)), (1, .int p1), (2, .int p2)]) hx hb dX12_litBy_15 rfl hl (by decide) rfl (fun ls hl => ?_)
  refine lv_aload_n hx hb dX12_litBy_16 rfl (lv_at hl 1 rfl) ?_
  refine lv_iconst (v := 0) hx hb dX12_litBy_17 (by decide) ?_
  refine va_put (D := D) (ci := 12) (v := .int 0) (ty := .int) (C := RX12) (T := TX12) (N := 51) hx hb hw inW_X12 tyX12 tyX12_ok nmX12 hown hK hP hD hS 0 rfl rfl 32 (by decide) (hw _ mw_6_75) (fun _ h9 => h9) rfl (by decide +kernel) rfl rfl (Nat.le_of_ble_eq_true rfl) dX12_litBy_18 (fun H locs hP hD hS => ?_)
  refine lv_aload_n hx hb dX12_litBy_21 rfl (lv_at hl 1 rfl) ?_
  refine lv_iconst (v := 0) hx hb dX12_litBy_22 (by decide) ?_
  refine va_put (D := D) (ci := 12) (v := .int 0) (ty := .int) (C := RX12) (T := TX12) (N := 51) hx hb hw inW_X12 tyX12 tyX12_ok nmX12 hown hK hP hD hS 0 rfl rfl 31 (by decide) (hw _ mw_6_74) (fun _ h9 => h9) rfl (by decide +kernel) rfl rfl (Nat.le_of_ble_eq_true rfl) dX12_litBy_23 (fun H locs hP hD hS => ?_)
  refine lv_lload_n hx hb dX12_litBy_26 rfl (lv_at hl 0 rfl) ?_
  have hP : va_P D vwCl (List.flatten (wM aM C (va_up (va_up ms_1 10 0) 11 0) mw ma_2 ml_3)) H := hP
  have hD : va_D A (List.flatten (wM aM C (va_up (va_up ms_1 10 0) 11 0) mw ma_2 ml_3)) := hD
  rw [← hQ]
  exact cRetL (v := r4) ((va_up (va_up ms_1 10 0) 11 0), ma_2, ml_3) hx hb hr hlocks hS hP hD h dX12_litBy_27
abbrev vsX12_isBright : List Cond := Cond.code yX12_isBright cX12_isBright 1 (some .boolean) :: WS
abbrev rmX12_isBright : Room := { frames := 1, cells := 0, slots := 0, locals := 25 }
set_option maxHeartbeats 4000000 in
set_option maxRecDepth 100000 in
theorem k_X12_isBright (l : Launch) (D : va_G) (C : Nat → ClassId) (sz : Nat)    (p1 : Int32) {post : Int32 → Prop} (h : P_X12_isBright p1 post) : Met l yX12_isBright vsX12_isBright rmX12_isBright (cPre D C [.int p1] sz (([] : List va_W))) (cQi D (fun (r : Int32) (u : Unit) => post r ) (fun u => ([] : List va_W)) (va_A (List.flatten (([] : List va_W))) sz)) 0 0 (va_A (List.flatten (([] : List va_W))) sz) := by
  refine cStart (QA := fun A => cQi D (fun (r : Int32) (u : Unit) => post r ) (fun u => ([] : List va_W)) A) (cc := cX12_isBright) (maxL := 1) (ret := (some .boolean)) (by decide) (Nat.le_of_ble_eq_true rfl) ?_
  intro p e s m args below meth c A ls hx hb hr hml hown hw hlocks hname hK hN hA hP hD hS hl
  generalize hQ : MQ below _ args s 0 0 A = Q
  have hl : lv_has ls 1 [(0, .int p1)] := hl
  obtain ⟨H, hH⟩ : ∃ H, H = s.heap := ⟨_, rfl⟩
  obtain ⟨locs, hlo⟩ : ∃ z : List Loc, z = [] := ⟨_, rfl⟩
  have hP : va_P D vwCl (List.flatten (([] : List va_W))) H := by rw [hH]; exact hP
  have hS : va_S A s.heap H locs := by rw [hH, hlo]; exact hS
  rw [show W p l e rmX12_isBright s m args below meth c s.heap [] 0 0 Q (F0 m 0 ls []) = W p l e rmX12_isBright s m args below meth c H locs 0 0 Q (F0 m 0 ls []) from by rw [hH, hlo]]
  refine lv_iload_n hx hb dX12_isBright_0 rfl (lv_at hl 0 rfl) ?_
  refine lv_i2l hx hb dX12_isBright_1 rfl ?_
  refine lv_lconst (v := 0) hx hb dX12_isBright_2 (by decide) ?_
  refine lv_ldc2 (v := 99) hx hb hown (hw _ mw_8_174) dX12_isBright_3 ?_
  refine cGoI (wo := fun u => ([] : List va_W)) (cRunS (As := [.long p1.toInt64, .long 0, .long 99]) (rest := []) ⟨hx, hb, hml, hown, hw⟩ hK hN hP hD [] rfl rfl (k_X12_in l D C _    p1.toInt64 0 99 h) (va_cwS 3 hw (goodS mw_6_205 mw_6_206 mw_1_13 mw_6_207) rfl rfl rfl (by decide +kernel) ⟨Nat.le_of_ble_eq_true rfl, Nat.le_of_ble_eq_true rfl⟩) rfl hl.1 rfl (Nat.le_of_ble_eq_true rfl) dX12_isBright_6 ⟨Nat.zero_le _, Nat.zero_le _⟩) hP hD hS hA [] [] [] rfl rfl rfl (by decide) rfl (fun _ => rfl) (fun r1 u H locs h hP hD hS => ?_)
  have hP : va_P D vwCl (List.flatten (([] : List va_W))) H := hP
  have hD : va_D A (List.flatten (([] : List va_W))) := hD
  rw [← hQ]
  exact cRetZ (v := r1) () hx hb hr hlocks hS hP hD h.1 h.2 dX12_isBright_9
