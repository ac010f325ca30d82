abbrev vsX12_asks : List Cond := Cond.code yX12_asks cX12_asks 3 none :: WS
abbrev rmX12_asks : Room := { frames := 3, cells := 0, slots := 0, locals := 66 }
set_option maxHeartbeats 4000000 in
set_option maxRecDepth 100000 in
theorem k_X12_asks (l : Launch) (D : va_G) (C : Nat → ClassId) (sz : Nat) (aM : Nat → Nat)  (ms : Nat → Int32) (mw : Nat → Int64) (ma : Nat → Nat → Int32) (ml : Nat → Nat → Int64) (p1 : Int64) {post : (Nat → Int32) → (Nat → Int64) → Prop} (h : P_X12_asks ms mw ma p1 post) : Met l yX12_asks vsX12_asks rmX12_asks (cPre D C [.ref (aM 0), .long p1] sz (wM aM C ms mw ma ml)) (cQv D (fun (u : (Nat → Int32) × (Nat → Int64)) => post u.1 u.2) (fun u => wM aM C u.1 u.2 ma ml) (va_A (List.flatten (wM aM C ms mw ma ml)) sz)) 0 0 (va_A (List.flatten (wM aM C ms mw ma ml)) sz) := by
  refine cStart (QA := fun A => cQv D (fun (u : (Nat → Int32) × (Nat → Int64)) => post u.1 u.2) (fun u => wM aM C u.1 u.2 ma ml) A) (cc := cX12_asks) (maxL := 3) (ret := none) (by decide) (Nat.le_of_ble_eq_true rfl) ?_
  intro p e s m args below meth c A ls hx hb hr hml hown hw hlocks hname hK hN hA hP hD hS hl
  generalize hQ : MQ below _ args s 0 0 A = Q
  have hl : lv_has ls 3 [(0, .ref (aM 0)), (1, .long p1)] := hl
  obtain ⟨H, hH⟩ : ∃ H, H = s.heap := ⟨_, rfl⟩
  obtain ⟨locs, hlo⟩ : ∃ z : List Loc, z = [] := ⟨_, rfl⟩
  have hP : va_P D vwCl (List.flatten (wM aM C ms mw ma ml)) H := by rw [hH]; exact hP
  have hS : va_S A s.heap H locs := by rw [hH, hlo]; exact hS
  rw [show W p l e rmX12_asks s m args below meth c s.heap [] 0 0 Q (F0 m 0 ls []) = W p l e rmX12_asks s m args below meth c H locs 0 0 Q (F0 m 0 ls []) from by rw [hH, hlo]]
  refine lv_aload_n hx hb dX12_asks_0 rfl (lv_at hl 0 rfl) ?_
  refine lv_lload_n hx hb dX12_asks_1 rfl (lv_at hl 1 rfl) ?_
  refine cGoI (wo := fun u => wM aM C u.1 u.2 ma ml) (cRunV (As := [.long p1]) (rest := []) ⟨hx, hb, hml, hown, hw⟩ hK hN hP hD [0, 1, 2, 3, 4, 5, 6, 7, 8, 9, 10, 11, 12, 13, 14, 15, 16, 17, 18, 19, 20, 21, 22, 23, 24, 25, 26, 27, 28, 29, 30, 31, 32] rfl rfl (k_X12_takes l D C _ aM  ms mw ma ml p1 h) (cwV 1 hw (goodV mw_7_33 mw_7_35 mw_s116 mw_1_13 mw_7_36) rfl rfl rfl (by decide +kernel) ⟨Nat.le_of_ble_eq_true rfl, Nat.le_of_ble_eq_true rfl⟩) rfl rfl rfl hl.1 rfl (Nat.le_of_ble_eq_true rfl) dX12_asks_2 ⟨Nat.zero_le _, Nat.zero_le _⟩) hP hD hS hA [0, 1, 2, 3, 4, 5, 6, 7, 8, 9, 10, 11, 12, 13, 14, 15, 16, 17, 18, 19, 20, 21, 22, 23, 24, 25, 26, 27, 28, 29, 30, 31, 32] [] [0, 1, 2, 3, 4, 5, 6, 7, 8, 9, 10, 11, 12, 13, 14, 15, 16, 17, 18, 19, 20, 21, 22, 23, 24, 25, 26, 27, 28, 29, 30, 31, 32] rfl rfl rfl (by decide) rfl (fun _ => rfl) (fun r3 u H locs h hP hD hS => ?_)
  obtain ⟨ms_1, mw_2⟩ := u
  have hP : va_P D vwCl (List.flatten (wM aM C ms_1 mw_2 ma ml)) H := hP
  have hD : va_D A (List.flatten (wM aM C ms_1 mw_2 ma ml)) := hD
  refine lv_if_ne (tgt := 13) hx hb dX12_asks_5 (by decide) (fun c4 => ?_) (fun c4 => ?_)
  · have h := h.1 c4
    rw [← hQ]
    exact cRetV (ms_1, mw_2) hx hb hr hlocks hS hP hD h dX12_asks_13
  · have h := h.2 c4
    refine lv_aload_n hx hb dX12_asks_8 rfl (lv_at hl 0 rfl) ?_
    refine lv_iconst (v := 1) hx hb dX12_asks_9 (by decide) ?_
    refine cGoV (wo := fun u => wM aM C u mw_2 ma ml) (cRunV (As := [.int 1]) (rest := []) ⟨hx, hb, hml, hown, hw⟩ hK hN hP hD [0, 1, 2, 3, 4, 5, 6, 7, 8, 9, 10, 11, 12, 13, 14, 15, 16, 17, 18, 19, 20, 21, 22, 23, 24, 25, 26, 27, 28, 29, 30, 31, 32] rfl rfl (k_X12_fails l D C _ aM  ms_1 mw_2 ma ml 1 h) (cwV 1 hw (goodV mw_7_41 mw_7_43 mw_s118 mw_1_13 mw_7_44) rfl rfl rfl (by decide +kernel) ⟨Nat.le_of_ble_eq_true rfl, Nat.le_of_ble_eq_true rfl⟩) rfl rfl rfl hl.1 rfl (Nat.le_of_ble_eq_true rfl) dX12_asks_10 ⟨Nat.zero_le _, Nat.zero_le _⟩) hP hD hS hA [0, 1, 2, 3, 4, 5, 6, 7, 8, 9, 10, 11, 12, 13, 14, 15, 16, 17, 18, 19, 20, 21, 22, 23, 24, 25, 26, 27, 28, 29, 30, 31, 32] [] [0, 1, 2, 3, 4, 5, 6, 7, 8, 9, 10, 11, 12, 13, 14, 15, 16, 17, 18, 19, 20, 21, 22, 23, 24, 25, 26, 27, 28, 29, 30, 31, 32] rfl rfl rfl (by decide) rfl (fun _ => rfl) (fun ms_5 H locs h hP hD hS => ?_)
    have hP : va_P D vwCl (List.flatten (wM aM C ms_5 mw_2 ma ml)) H := hP
    have hD : va_D A (List.flatten (wM aM C ms_5 mw_2 ma ml)) := hD
    rw [← hQ]
    exact cRetV (ms_5, mw_2) hx hb hr hlocks hS hP hD h dX12_asks_13
abbrev vsX12_number : List Cond := Cond.code yX12_number cX12_number 4 (some .int) :: WS
abbrev rmX12_number : Room := { frames := 2, cells := 0, slots := 0, locals := 44 }
set_option maxHeartbeats 4000000 in
set_option maxRecDepth 100000 in
theorem k_X12_number (l : Launch) (D : va_G) (C : Nat → ClassId) (sz : Nat) (aM : Nat → Nat)  (ms : Nat → Int32) (mw : Nat → Int64) (ma : Nat → Nat → Int32) (ml : Nat → Nat → Int64) (p1 : Int32) (p2 : Int32) {post : Int32 → (Nat → Int32) → (Nat → Int64) → Prop} (h : P_X12_number ms mw ma p1 p2 post) : Met l yX12_number vsX12_number rmX12_number (cPre D C [.ref (aM 0), .int p1, .int p2] sz (wM aM C ms mw ma ml)) (cQi D (fun (r : Int32) (u : (Nat → Int32) × (Nat → Int64)) => post r u.1 u.2) (fun u => wM aM C u.1 u.2 ma ml) (va_A (List.flatten (wM aM C ms mw ma ml)) sz)) 0 0 (va_A (List.flatten (wM aM C ms mw ma ml)) sz) := by
  refine cStart (QA := fun A => cQi D (fun (r : Int32) (u : (Nat → Int32) × (Nat → Int64)) => post r u.1 u.2) (fun u => wM aM C u.1 u.2 ma ml) A) (cc := cX12_number) (maxL := 4) (ret := (some .int)) (by decide) (Nat.le_of_ble_eq_true rfl) ?_
  intro p e s m args below meth c A ls hx hb hr hml hown hw hlocks hname hK hN hA hP hD hS hl
  generalize hQ : MQ below _ args s 0 0 A = Q
  have hl : lv_has ls 4 [(0, .ref (aM 0)), (1, .int p1), (2, .int p2)] := hl
  obtain ⟨H, hH⟩ : ∃ H, H = s.heap := ⟨_, rfl⟩
  obtain ⟨locs, hlo⟩ : ∃ z : List Loc, z = [] := ⟨_, rfl⟩
  have hP : va_P D vwCl (List.flatten (wM aM C ms mw ma ml)) H := by rw [hH]; exact hP
  have hS : va_S A s.heap H locs := by rw [hH, hlo]; exact hS
  rw [show W p l e rmX12_number s m args below meth c s.heap [] 0 0 Q (F0 m 0 ls []) = W p l e rmX12_number s m args below meth c H locs 0 0 Q (F0 m 0 ls []) from by rw [hH, hlo]]
  refine lv_aload_n hx hb dX12_number_0 rfl (lv_at hl 0 rfl) ?_
  refine va_get (D := D) (ci := 12) (v := .int (ms 6)) (C := RX12) (T := TX12) (N := 51) hx hb hw inW_X12 hown hK hP 0 rfl rfl 12 (by decide) (hw _ mw_6_55) (fun _ h9 => h9) rfl dX12_number_1 ?_
  refine lv_if_eq (tgt := 9) hx hb dX12_number_4 (by decide) (fun c1 => ?_) (fun c1 => ?_)
  · have h := h.1 c1
    refine lv_aload_n hx hb dX12_number_9 rfl (lv_at hl 0 rfl) ?_
    refine va_get (D := D) (ci := 12) (v := .int (ms 3)) (C := RX12) (T := TX12) (N := 51) hx hb hw inW_X12 hown hK hP 0 rfl rfl 8 (by decide) (hw _ mw_6_51) (fun _ h9 => h9) rfl dX12_number_10 ?_
    refine lv_iconst (v := 2) hx hb dX12_number_13 (by decide) ?_
    refine lv_icmp_eq (tgt := 24) hx hb dX12_number_14 (by decide) (fun c2 => ?_) (fun c2 => ?_)
    · have h := h.1 c2
      refine lv_aload_n hx hb dX12_number_24 rfl (lv_at hl 0 rfl) ?_
      refine va_get (D := D) (ci := 12) (v := .int (ms 5)) (C := RX12) (T := TX12) (N := 51) hx hb hw inW_X12 hown hK hP 0 rfl rfl 10 (by decide) (hw _ mw_6_53) (fun _ h9 => h9) rfl dX12_number_25 ?_
      refine lv_i2l hx hb dX12_number_28 rfl ?_
      refine lv_iload_n hx hb dX12_number_29 rfl (lv_at hl 1 rfl) ?_
      refine lv_i2l hx hb dX12_number_30 rfl ?_
      refine lv_iload_n hx hb dX12_number_31 rfl (lv_at hl 2 rfl) ?_
      refine lv_i2l hx hb dX12_number_32 rfl ?_
      refine cGoI (wo := fun u => wM aM C ms mw ma ml) (cRunS (As := [.long ((ms 5).toInt64), .long p1.toInt64, .long p2.toInt64]) (rest := []) ⟨hx, hb, hml, hown, hw⟩ hK hN hP hD [] rfl rfl (k_X12_in l D C _    ((ms 5).toInt64) p1.toInt64 p2.toInt64 h) (va_cwS 3 hw (goodS mw_6_205 mw_6_206 mw_1_13 mw_6_207) rfl rfl rfl (by decide +kernel) ⟨Nat.le_of_ble_eq_true rfl, Nat.le_of_ble_eq_true rfl⟩) rfl hl.1 rfl (Nat.le_of_ble_eq_true rfl) dX12_number_33 ⟨Nat.zero_le _, Nat.zero_le _⟩) hP hD hS hA [] [0, 1, 2, 3, 4, 5, 6, 7, 8, 9, 10, 11, 12, 13, 14, 15, 16, 17, 18, 19, 20, 21, 22, 23, 24, 25, 26, 27, 28, 29, 30, 31, 32] [0, 1, 2, 3, 4, 5, 6, 7, 8, 9, 10, 11, 12, 13, 14, 15, 16, 17, 18, 19, 20, 21, 22, 23, 24, 25, 26, 27, 28, 29, 30, 31, 32] rfl rfl rfl (by decide) rfl (fun _ => rfl) (fun r3 u H locs h hP hD hS => ?_)
      have hP : va_P D vwCl (List.flatten (wM aM C ms mw ma ml)) H := hP
      have hD : va_D A (List.flatten (wM aM C ms mw ma ml)) := hD
      refine lv_if_ne (tgt := 46) hx hb dX12_number_36 (by decide) (fun c4 => ?_) (fun c4 => ?_)
      · have h := h.1 c4
        refine lv_aload_n hx hb dX12_number_46 rfl (lv_at hl 0 rfl) ?_
        refine va_get (D := D) (ci := 12) (v := .int (ms 5)) (C := RX12) (T := TX12) (N := 51) hx hb hw inW_X12 hown hK hP 0 rfl rfl 10 (by decide) (hw _ mw_6_53) (fun _ h9 => h9) rfl dX12_number_47 ?_
        refine lv_topi (fun x5 ex5 => ?_)
        have h := h x5 ex5
        refine lv_istore_n (lv' := [(3, .int x5), (0, .ref (aM 0)), (1, .int p1), (2, .int p2)]) hx hb dX12_number_50 rfl hl (by decide) rfl (fun ls hl => ?_)
        refine lv_aload_n hx hb dX12_number_51 rfl (lv_at hl 1 rfl) ?_
        refine cGoV (wo := fun u => wM aM C u.1 u.2 ma ml) (cRunV (As := []) (rest := []) ⟨hx, hb, hml, hown, hw⟩ hK hN hP hD [0, 1, 2, 3, 4, 5, 6, 7, 8, 9, 10, 11, 12, 13, 14, 15, 16, 17, 18, 19, 20, 21, 22, 23, 24, 25, 26, 27, 28, 29, 30, 31, 32] rfl rfl (k_X12_next l D C _ aM  ms mw ma ml  h) (cwV 0 hw (goodV mw_7_7 mw_7_9 mw_s111 mw_1_13 mw_7_10) rfl rfl rfl (by decide +kernel) ⟨Nat.le_of_ble_eq_true rfl, Nat.le_of_ble_eq_true rfl⟩) rfl rfl rfl hl.1 rfl (Nat.le_of_ble_eq_true rfl) dX12_number_52 ⟨Nat.zero_le _, Nat.zero_le _⟩) hP hD hS hA [0, 1, 2, 3, 4, 5, 6, 7, 8, 9, 10, 11, 12, 13, 14, 15, 16, 17, 18, 19, 20, 21, 22, 23, 24, 25, 26, 27, 28, 29, 30, 31, 32] [] [0, 1, 2, 3, 4, 5, 6, 7, 8, 9, 10, 11, 12, 13, 14, 15, 16, 17, 18, 19, 20, 21, 22, 23, 24, 25, 26, 27, 28, 29, 30, 31, 32] rfl rfl rfl (by decide) rfl (fun _ => rfl) (fun u H locs h hP hD hS => ?_)
        obtain ⟨ms_6, mw_7⟩ := u
        have hP : va_P D vwCl (List.flatten (wM aM C ms_6 mw_7 ma ml)) H := hP
        have hD : va_D A (List.flatten (wM aM C ms_6 mw_7 ma ml)) := hD
        refine lv_iload_n hx hb dX12_number_55 rfl (lv_at hl 0 rfl) ?_
        rw [← hQ]
        exact cRetI (v := x5) (ms_6, mw_7) hx hb hr hlocks hS hP hD h dX12_number_56
      · have h := h.2 c4
        refine lv_aload_n hx hb dX12_number_39 rfl (lv_at hl 0 rfl) ?_
        refine lv_iconst (v := 2) hx hb dX12_number_40 (by decide) ?_
        refine cGoV (wo := fun u => wM aM C u mw ma ml) (cRunV (As := [.int 2]) (rest := []) ⟨hx, hb, hml, hown, hw⟩ hK hN hP hD [0, 1, 2, 3, 4, 5, 6, 7, 8, 9, 10, 11, 12, 13, 14, 15, 16, 17, 18, 19, 20, 21, 22, 23, 24, 25, 26, 27, 28, 29, 30, 31, 32] rfl rfl (k_X12_fails l D C _ aM  ms mw ma ml 2 h) (cwV 1 hw (goodV mw_7_41 mw_7_43 mw_s118 mw_1_13 mw_7_44) rfl rfl rfl (by decide +kernel) ⟨Nat.le_of_ble_eq_true rfl, Nat.le_of_ble_eq_true rfl⟩) rfl rfl rfl hl.1 rfl (Nat.le_of_ble_eq_true rfl) dX12_number_41 ⟨Nat.zero_le _, Nat.zero_le _⟩) hP hD hS hA [0, 1, 2, 3, 4, 5, 6, 7, 8, 9, 10, 11, 12, 13, 14, 15, 16, 17, 18, 19, 20, 21, 22, 23, 24, 25, 26, 27, 28, 29, 30, 31, 32] [] [0, 1, 2, 3, 4, 5, 6, 7, 8, 9, 10, 11, 12, 13, 14, 15, 16, 17, 18, 19, 20, 21, 22, 23, 24, 25, 26, 27, 28, 29, 30, 31, 32] rfl rfl rfl (by decide) rfl (fun _ => rfl) (fun ms_8 H locs h hP hD hS => ?_)
        have hP : va_P D vwCl (List.flatten (wM aM C ms_8 mw ma ml)) H := hP
        have hD : va_D A (List.flatten (wM aM C ms_8 mw ma ml)) := hD
        refine lv_iload_n hx hb dX12_number_44 rfl (lv_at hl 1 rfl) ?_
        rw [← hQ]
        exact cRetI (v := p1) (ms_8, mw) hx hb hr hlocks hS hP hD h dX12_number_45
    · have h := h.2 c2
      refine lv_aload_n hx hb dX12_number_17 rfl (lv_at hl 0 rfl) ?_
      refine lv_iconst (v := 1) hx hb dX12_number_18 (by decide) ?_
      refine cGoV (wo := fun u => wM aM C u mw ma ml) (cRunV (As := [.int 1]) (rest := []) ⟨hx, hb, hml, hown, hw⟩ hK hN hP hD [0, 1, 2, 3, 4, 5, 6, 7, 8, 9, 10, 11, 12, 13, 14, 15, 16, 17, 18, 19, 20, 21, 22, 23, 24, 25, 26, 27, 28, 29, 30, 31, 32] rfl rfl (k_X12_fails l D C _ aM  ms mw ma ml 1 h) (cwV 1 hw (goodV mw_7_41 mw_7_43 mw_s118 mw_1_13 mw_7_44) rfl rfl rfl (by decide +kernel) ⟨Nat.le_of_ble_eq_true rfl, Nat.le_of_ble_eq_true rfl⟩) rfl rfl rfl hl.1 rfl (Nat.le_of_ble_eq_true rfl) dX12_number_19 ⟨Nat.zero_le _, Nat.zero_le _⟩) hP hD hS hA [0, 1, 2, 3, 4, 5, 6, 7, 8, 9, 10, 11, 12, 13, 14, 15, 16, 17, 18, 19, 20, 21, 22, 23, 24, 25, 26, 27, 28, 29, 30, 31, 32] [] [0, 1, 2, 3, 4, 5, 6, 7, 8, 9, 10, 11, 12, 13, 14, 15, 16, 17, 18, 19, 20, 21, 22, 23, 24, 25, 26, 27, 28, 29, 30, 31, 32] rfl rfl rfl (by decide) rfl (fun _ => rfl) (fun ms_9 H locs h hP hD hS => ?_)
      have hP : va_P D vwCl (List.flatten (wM aM C ms_9 mw ma ml)) H := hP
      have hD : va_D A (List.flatten (wM aM C ms_9 mw ma ml)) := hD
      refine lv_iload_n hx hb dX12_number_22 rfl (lv_at hl 1 rfl) ?_
      rw [← hQ]
      exact cRetI (v := p1) (ms_9, mw) hx hb hr hlocks hS hP hD h dX12_number_23
  · have h := h.2 c1
    refine lv_iload_n hx hb dX12_number_7 rfl (lv_at hl 1 rfl) ?_
    rw [← hQ]
    exact cRetI (v := p1) (ms, mw) hx hb hr hlocks hS hP hD h dX12_number_8
abbrev vsX12_number_ : List Cond := Cond.code yX12_number_ cX12_number_ 5 (some .int) :: WS
abbrev rmX12_number_ : Room := { frames := 4, cells := 0, slots := 0, locals := 88 }
set_option maxHeartbeats 4000000 in
set_option maxRecDepth 100000 in
theorem k_X12_number_ (l : Launch) (D : va_G) (C : Nat → ClassId) (sz : Nat) (aM : Nat → Nat)  (ms : Nat → Int32) (mw : Nat → Int64) (ma : Nat → Nat → Int32) (ml : Nat → Nat → Int64) (p1 : Int64) (p2 : Int32) (p3 : Int32) {post : Int32 → (Nat → Int32) → (Nat → Int64) → Prop} (h : P_X12_number_ ms mw ma p1 p2 p3 post) : Met l yX12_number_ vsX12_number_ rmX12_number_ (cPre D C [.ref (aM 0), .long p1, .int p2, .int p3] sz (wM aM C ms mw ma ml)) (cQi D (fun (r : Int32) (u : (Nat → Int32) × (Nat → Int64)) => post r u.1 u.2) (fun u => wM aM C u.1 u.2 ma ml) (va_A (List.flatten (wM aM C ms mw ma ml)) sz)) 0 0 (va_A (List.flatten (wM aM C ms mw ma ml)) sz) := by
  refine cStart (QA := fun A => cQi D (fun (r : Int32) (u : (Nat → Int32) × (Nat → Int64)) => post r u.1 u.2) (fun u => wM aM C u.1 u.2 ma ml) A) (cc := cX12_number_) (maxL := 5) (ret := (some .int)) (by decide) (Nat.le_of_ble_eq_true rfl) ?_
  intro p e s m args below meth c A ls hx hb hr hml hown hw hlocks hname hK hN hA hP hD hS hl
  generalize hQ : MQ below _ args s 0 0 A = Q
  have hl : lv_has ls 5 [(0, .ref (aM 0)), (1, .long p1), (3, .int p2), (4, .int p3)] := hl
  obtain ⟨H, hH⟩ : ∃ H, H = s.heap := ⟨_, rfl⟩
  obtain ⟨locs, hlo⟩ : ∃ z : List Loc, z = [] := ⟨_, rfl⟩
  have hP : va_P D vwCl (List.flatten (wM aM C ms mw ma ml)) H := by rw [hH]; exact hP
  have hS : va_S A s.heap H locs := by rw [hH, hlo]; exact hS
  rw [show W p l e rmX12_number_ s m args below meth c s.heap [] 0 0 Q (F0 m 0 ls []) = W p l e rmX12_number_ s m args below meth c H locs 0 0 Q (F0 m 0 ls []) from by rw [hH, hlo]]
  refine lv_aload_n hx hb dX12_number__0 rfl (lv_at hl 0 rfl) ?_
  refine lv_lload_n hx hb dX12_number__1 rfl (lv_at hl 1 rfl) ?_
  refine cGoV (wo := fun u => wM aM C u.1 u.2 ma ml) (cRunV (As := [.long p1]) (rest := []) ⟨hx, hb, hml, hown, hw⟩ hK hN hP hD [0, 1, 2, 3, 4, 5, 6, 7, 8, 9, 10, 11, 12, 13, 14, 15, 16, 17, 18, 19, 20, 21, 22, 23, 24, 25, 26, 27, 28, 29, 30, 31, 32] rfl rfl (k_X12_asks l D C _ aM  ms mw ma ml p1 h) (cwV 1 hw (goodV mw_7_29 mw_7_31 mw_s115 mw_1_13 mw_7_32) rfl rfl rfl (by decide +kernel) ⟨Nat.le_of_ble_eq_true rfl, Nat.le_of_ble_eq_true rfl⟩) rfl rfl rfl hl.1 rfl (Nat.le_of_ble_eq_true rfl) dX12_number__2 ⟨Nat.zero_le _, Nat.zero_le _⟩) hP hD hS hA [0, 1, 2, 3, 4, 5, 6, 7, 8, 9, 10, 11, 12, 13, 14, 15, 16, 17, 18, 19, 20, 21, 22, 23, 24, 25, 26, 27, 28, 29, 30, 31, 32] [] [0, 1, 2, 3, 4, 5, 6, 7, 8, 9, 10, 11, 12, 13, 14, 15, 16, 17, 18, 19, 20, 21, 22, 23, 24, 25, 26, 27, 28, 29, 30, 31, 32] rfl rfl rfl (by decide) rfl (fun _ => rfl) (fun u H locs h hP hD hS => ?_)
  obtain ⟨ms_1, mw_2⟩ := u
  have hP : va_P D vwCl (List.flatten (wM aM C ms_1 mw_2 ma ml)) H := hP
  have hD : va_D A (List.flatten (wM aM C ms_1 mw_2 ma ml)) := hD
  refine lv_aload_n hx hb dX12_number__5 rfl (lv_at hl 0 rfl) ?_
  refine lv_iload_n hx hb dX12_number__6 rfl (lv_at hl 2 rfl) ?_
  refine lv_iload hx hb dX12_number__7 (lv_at hl 3 rfl) ?_
  refine cGoI (wo := fun u => wM aM C u.1 u.2 ma ml) (cRunV (As := [.int p2, .int p3]) (rest := []) ⟨hx, hb, hml, hown, hw⟩ hK hN hP hD [0, 1, 2, 3, 4, 5, 6, 7, 8, 9, 10, 11, 12, 13, 14, 15, 16, 17, 18, 19, 20, 21, 22, 23, 24, 25, 26, 27, 28, 29, 30, 31, 32] rfl rfl (k_X12_number l D C _ aM  ms_1 mw_2 ma ml p2 p3 h) (cwV 2 hw (goodV mw_7_50 mw_7_52 mw_s120 mw_1_13 mw_7_53) rfl rfl rfl (by decide +kernel) ⟨Nat.le_of_ble_eq_true rfl, Nat.le_of_ble_eq_true rfl⟩) rfl rfl rfl hl.1 rfl (Nat.le_of_ble_eq_true rfl) dX12_number__9 ⟨Nat.zero_le _, Nat.zero_le _⟩) hP hD hS hA [0, 1, 2, 3, 4, 5, 6, 7, 8, 9, 10, 11, 12, 13, 14, 15, 16, 17, 18, 19, 20, 21, 22, 23, 24, 25, 26, 27, 28, 29, 30, 31, 32] [] [0, 1, 2, 3, 4, 5, 6, 7, 8, 9, 10, 11, 12, 13, 14, 15, 16, 17, 18, 19, 20, 21, 22, 23, 24, 25, 26, 27, 28, 29, 30, 31, 32] rfl rfl rfl (by decide) rfl (fun _ => rfl) (fun r5 u H locs h hP hD hS => ?_)
  obtain ⟨ms_3, mw_4⟩ := u
  have hP : va_P D vwCl (List.flatten (wM aM C ms_3 mw_4 ma ml)) H := hP
  have hD : va_D A (List.flatten (wM aM C ms_3 mw_4 ma ml)) := hD
  rw [← hQ]
  exact cRetI (v := r5) (ms_3, mw_4) hx hb hr hlocks hS hP hD h dX12_number__12
abbrev vsX12_ends : List Cond := Cond.code yX12_ends cX12_ends 1 none :: WS
abbrev rmX12_ends : Room := { frames := 2, cells := 0, slots := 0, locals := 44 }
set_option maxHeartbeats 4000000 in
set_option maxRecDepth 100000 in
theorem k_X12_ends (l : Launch) (D : va_G) (C : Nat → ClassId) (sz : Nat) (aM : Nat → Nat)  (ms : Nat → Int32) (mw : Nat → Int64) (ma : Nat → Nat → Int32) (ml : Nat → Nat → Int64)  {post : (Nat → Int32) → (Nat → Int64) → Prop} (h : P_X12_ends ms mw ma post) : Met l yX12_ends vsX12_ends rmX12_ends (cPre D C [.ref (aM 0)] sz (wM aM C ms mw ma ml)) (cQv D (fun (u : (Nat → Int32) × (Nat → Int64)) => post u.1 u.2) (fun u => wM aM C u.1 u.2 ma ml) (va_A (List.flatten (wM aM C ms mw ma ml)) sz)) 0 0 (va_A (List.flatten (wM aM C ms mw ma ml)) sz) := by
  refine cStart (QA := fun A => cQv D (fun (u : (Nat → Int32) × (Nat → Int64)) => post u.1 u.2) (fun u => wM aM C u.1 u.2 ma ml) A) (cc := cX12_ends) (maxL := 1) (ret := none) (by decide) (Nat.le_of_ble_eq_true rfl) ?_
  intro p e s m args below meth c A ls hx hb hr hml hown hw hlocks hname hK hN hA hP hD hS hl
  generalize hQ : MQ below _ args s 0 0 A = Q
  have hl : lv_has ls 1 [(0, .ref (aM 0))] := hl
  obtain ⟨H, hH⟩ : ∃ H, H = s.heap := ⟨_, rfl⟩
  obtain ⟨locs, hlo⟩ : ∃ z : List Loc, z = [] := ⟨_, rfl⟩
  have hP : va_P D vwCl (List.flatten (wM aM C ms mw ma ml)) H := by rw [hH]; exact hP
  have hS : va_S A s.heap H locs := by rw [hH, hlo]; exact hS
  rw [show W p l e rmX12_ends s m args below meth c s.heap [] 0 0 Q (F0 m 0 ls []) = W p l e rmX12_ends s m args below meth c H locs 0 0 Q (F0 m 0 ls []) from by rw [hH, hlo]]
  have N13 : ∀ (ms : Nat → Int32) (mw : Nat → Int64) (H : Heap) (locs : List Loc) (ls : Array Slot), P_X12_ends_13 ma post  ms mw → va_P D vwCl (List.flatten (wM aM C ms mw ma ml)) H → va_D A (List.flatten (wM aM C ms mw ma ml)) → va_S A s.heap H locs → lv_has ls 1 [(0, .ref (aM 0))] → W p l e rmX12_ends s m args below meth c H locs 0 0 Q (F0 m 13 ls []) := by
    intro ms mw H locs ls h hP hD hS hl
    refine lv_aload_n hx hb dX12_ends_13 rfl (lv_at hl 0 rfl) ?_
    refine va_get (D := D) (ci := 12) (v := .int (ms 6)) (C := RX12) (T := TX12) (N := 51) hx hb hw inW_X12 hown hK hP 0 rfl rfl 12 (by decide) (hw _ mw_6_55) (fun _ h9 => h9) rfl dX12_ends_14 ?_
    refine lv_if_ne (tgt := 24) hx hb dX12_ends_17 (by decide) (fun c1 => ?_) (fun c1 => ?_)
    · have h := h.1 c1
      rw [← hQ]
      exact cRetV (ms, mw) hx hb hr hlocks hS hP hD h dX12_ends_24
    · have h := h.2 c1
      refine lv_aload_n hx hb dX12_ends_20 rfl (lv_at hl 0 rfl) ?_
      refine cGoV (wo := fun u => wM aM C u.1 u.2 ma ml) (cRunV (As := []) (rest := []) ⟨hx, hb, hml, hown, hw⟩ hK hN hP hD [0, 1, 2, 3, 4, 5, 6, 7, 8, 9, 10, 11, 12, 13, 14, 15, 16, 17, 18, 19, 20, 21, 22, 23, 24, 25, 26, 27, 28, 29, 30, 31, 32] rfl rfl (k_X12_next l D C _ aM  ms mw ma ml  h) (cwV 0 hw (goodV mw_7_7 mw_7_9 mw_s111 mw_1_13 mw_7_10) rfl rfl rfl (by decide +kernel) ⟨Nat.le_of_ble_eq_true rfl, Nat.le_of_ble_eq_true rfl⟩) rfl rfl rfl hl.1 rfl (Nat.le_of_ble_eq_true rfl) dX12_ends_21 ⟨Nat.zero_le _, Nat.zero_le _⟩) hP hD hS hA [0, 1, 2, 3, 4, 5, 6, 7, 8, 9, 10, 11, 12, 13, 14, 15, 16, 17, 18, 19, 20, 21, 22, 23, 24, 25, 26, 27, 28, 29, 30, 31, 32] [] [0, 1, 2, 3, 4, 5, 6, 7, 8, 9, 10, 11, 12, 13, 14, 15, 16, 17, 18, 19, 20, 21, 22, 23, 24, 25, 26, 27, 28, 29, 30, 31, 32] rfl rfl rfl (by decide) rfl (fun _ => rfl) (fun u H locs h hP hD hS => ?_)
      obtain ⟨ms_2, mw_3⟩ := u
      have hP : va_P D vwCl (List.flatten (wM aM C ms_2 mw_3 ma ml)) H := hP
      have hD : va_D A (List.flatten (wM aM C ms_2 mw_3 ma ml)) := hD
      rw [← hQ]
      exact cRetV (ms_2, mw_3) hx hb hr hlocks hS hP hD h dX12_ends_24
  refine lv_aload_n hx hb dX12_ends_0 rfl (lv_at hl 0 rfl) ?_
  refine va_get (D := D) (ci := 12) (v := .int (ms 3)) (C := RX12) (T := TX12) (N := 51) hx hb hw inW_X12 hown hK hP 0 rfl rfl 8 (by decide) (hw _ mw_6_51) (fun _ h9 => h9) rfl dX12_ends_1 ?_
  refine lv_iconst (v := 3) hx hb dX12_ends_4 (by decide) ?_
  refine lv_icmp_eq (tgt := 13) hx hb dX12_ends_5 (by decide) (fun c4 => ?_) (fun c4 => ?_)
  · have h := h.1 c4
    exact N13 ms mw _ _ _ h hP hD hS (lv_sub hl [0] rfl)
  · have h := h.2 c4
    refine lv_aload_n hx hb dX12_ends_8 rfl (lv_at hl 0 rfl) ?_
    refine lv_iconst (v := 1) hx hb dX12_ends_9 (by decide) ?_
    refine cGoV (wo := fun u => wM aM C u mw ma ml) (cRunV (As := [.int 1]) (rest := []) ⟨hx, hb, hml, hown, hw⟩ hK hN hP hD [0, 1, 2, 3, 4, 5, 6, 7, 8, 9, 10, 11, 12, 13, 14, 15, 16, 17, 18, 19, 20, 21, 22, 23, 24, 25, 26, 27, 28, 29, 30, 31, 32] rfl rfl (k_X12_fails l D C _ aM  ms mw ma ml 1 h) (cwV 1 hw (goodV mw_7_41 mw_7_43 mw_s118 mw_1_13 mw_7_44) rfl rfl rfl (by decide +kernel) ⟨Nat.le_of_ble_eq_true rfl, Nat.le_of_ble_eq_true rfl⟩) rfl rfl rfl hl.1 rfl (Nat.le_of_ble_eq_true rfl) dX12_ends_10 ⟨Nat.zero_le _, Nat.zero_le _⟩) hP hD hS hA [0, 1, 2, 3, 4, 5, 6, 7, 8, 9, 10, 11, 12, 13, 14, 15, 16, 17, 18, 19, 20, 21, 22, 23, 24, 25, 26, 27, 28, 29, 30, 31, 32] [] [0, 1, 2, 3, 4, 5, 6, 7, 8, 9, 10, 11, 12, 13, 14, 15, 16, 17, 18, 19, 20, 21, 22, 23, 24, 25, 26, 27, 28, 29, 30, 31, 32] rfl rfl rfl (by decide) rfl (fun _ => rfl) (fun ms_5 H locs h hP hD hS => ?_)
    have hP : va_P D vwCl (List.flatten (wM aM C ms_5 mw ma ml)) H := hP
    have hD : va_D A (List.flatten (wM aM C ms_5 mw ma ml)) := hD
    exact N13 ms_5 mw _ _ _ h hP hD hS (lv_sub hl [0] rfl)
abbrev vsX12_begins : List Cond := Cond.code yX12_begins cX12_begins 1 none :: WS
abbrev rmX12_begins : Room := { frames := 2, cells := 0, slots := 0, locals := 44 }
set_option maxHeartbeats 4000000 in
set_option maxRecDepth 100000 in
theorem k_X12_begins (l : Launch) (D : va_G) (C : Nat → ClassId) (sz : Nat) (aM : Nat → Nat)  (ms : Nat → Int32) (mw : Nat → Int64) (ma : Nat → Nat → Int32) (ml : Nat → Nat → Int64)  {post : (Nat → Int32) → (Nat → Int64) → Prop} (h : P_X12_begins ms mw ma post) : Met l yX12_begins vsX12_begins rmX12_begins (cPre D C [.ref (aM 0)] sz (wM aM C ms mw ma ml)) (cQv D (fun (u : (Nat → Int32) × (Nat → Int64)) => post u.1 u.2) (fun u => wM aM C u.1 u.2 ma ml) (va_A (List.flatten (wM aM C ms mw ma ml)) sz)) 0 0 (va_A (List.flatten (wM aM C ms mw ma ml)) sz) := by
  refine cStart (QA := fun A => cQv D (fun (u : (Nat → Int32) × (Nat → Int64)) => post u.1 u.2) (fun u => wM aM C u.1 u.2 ma ml) A) (cc := cX12_begins) (maxL := 1) (ret := none) (by decide) (Nat.le_of_ble_eq_true rfl) ?_
  intro p e s m args below meth c A ls hx hb hr hml hown hw hlocks hname hK hN hA hP hD hS hl
  generalize hQ : MQ below _ args s 0 0 A = Q
  have hl : lv_has ls 1 [(0, .ref (aM 0))] := hl
  obtain ⟨H, hH⟩ : ∃ H, H = s.heap := ⟨_, rfl⟩
  obtain ⟨locs, hlo⟩ : ∃ z : List Loc, z = [] := ⟨_, rfl⟩
  have hP : va_P D vwCl (List.flatten (wM aM C ms mw ma ml)) H := by rw [hH]; exact hP
  have hS : va_S A s.heap H locs := by rw [hH, hlo]; exact hS
  rw [show W p l e rmX12_begins s m args below meth c s.heap [] 0 0 Q (F0 m 0 ls []) = W p l e rmX12_begins s m args below meth c H locs 0 0 Q (F0 m 0 ls []) from by rw [hH, hlo]]
  refine lv_aload_n hx hb dX12_begins_0 rfl (lv_at hl 0 rfl) ?_
  refine lv_iconst (v := 0) hx hb dX12_begins_1 (by decide) ?_
  refine va_put (D := D) (ci := 12) (v := .int 0) (ty := .int) (C := RX12) (T := TX12) (N := 51) hx hb hw inW_X12 tyX12 tyX12_ok nmX12 hown hK hP hD hS 0 rfl rfl 12 (by decide) (hw _ mw_6_55) (fun _ h9 => h9) rfl (by decide +kernel) rfl rfl (Nat.le_of_ble_eq_true rfl) dX12_begins_2 (fun H locs hP hD hS => ?_)
  refine lv_aload_n hx hb dX12_begins_5 rfl (lv_at hl 0 rfl) ?_
  refine lv_iconst (v := (-1)) hx hb dX12_begins_6 (by decide) ?_
  refine va_put (D := D) (ci := 12) (v := .int (-1)) (ty := .int) (C := RX12) (T := TX12) (N := 51) hx hb hw inW_X12 tyX12 tyX12_ok nmX12 hown hK hP hD hS 0 rfl rfl 13 (by decide) (hw _ mw_6_56) (fun _ h9 => h9) rfl (by decide +kernel) rfl rfl (Nat.le_of_ble_eq_true rfl) dX12_begins_7 (fun H locs hP hD hS => ?_)
  refine lv_aload_n hx hb dX12_begins_10 rfl (lv_at hl 0 rfl) ?_
  refine lv_iconst (v := 0) hx hb dX12_begins_11 (by decide) ?_
  refine va_put (D := D) (ci := 12) (v := .int 0) (ty := .int) (C := RX12) (T := TX12) (N := 51) hx hb hw inW_X12 tyX12 tyX12_ok nmX12 hown hK hP hD hS 0 rfl rfl 7 (by decide) (hw _ mw_6_50) (fun _ h9 => h9) rfl (by decide +kernel) rfl rfl (Nat.le_of_ble_eq_true rfl) dX12_begins_12 (fun H locs hP hD hS => ?_)
  refine lv_aload_n hx hb dX12_begins_15 rfl (lv_at hl 0 rfl) ?_
  have hP : va_P D vwCl (List.flatten (wM aM C (va_up (va_up (va_up ms 2 0) 6 0) 7 (-1)) mw ma ml)) H := hP
  have hD : va_D A (List.flatten (wM aM C (va_up (va_up (va_up ms 2 0) 6 0) 7 (-1)) mw ma ml)) := hD
  refine cGoV (wo := fun u => wM aM C u.1 u.2 ma ml) (cRunV (As := []) (rest := []) ⟨hx, hb, hml, hown, hw⟩ hK hN hP hD [0, 1, 2, 3, 4, 5, 6, 7, 8, 9, 10, 11, 12, 13, 14, 15, 16, 17, 18, 19, 20, 21, 22, 23, 24, 25, 26, 27, 28, 29, 30, 31, 32] rfl rfl (k_X12_next l D C _ aM  (va_up (va_up (va_up ms 2 0) 6 0) 7 (-1)) mw ma ml  h) (cwV 0 hw (goodV mw_7_7 mw_7_9 mw_s111 mw_1_13 mw_7_10) rfl rfl rfl (by decide +kernel) ⟨Nat.le_of_ble_eq_true rfl, Nat.le_of_ble_eq_true rfl⟩) rfl rfl rfl hl.1 rfl (Nat.le_of_ble_eq_true rfl) dX12_begins_16 ⟨Nat.zero_le _, Nat.zero_le _⟩) hP hD hS hA [0, 1, 2, 3, 4, 5, 6, 7, 8, 9, 10, 11, 12, 13, 14, 15, 16, 17, 18, 19, 20, 21, 22, 23, 24, 25, 26, 27, 28, 29, 30, 31, 32] [] [0, 1, 2, 3, 4, 5, 6, 7, 8, 9, 10, 11, 12, 13, 14, 15, 16, 17, 18, 19, 20, 21, 22, 23, 24, 25, 26, 27, 28, 29, 30, 31, 32] rfl rfl rfl (by decide) rfl (fun _ => rfl) (fun u H locs h hP hD hS => ?_)
  obtain ⟨ms_1, mw_2⟩ := u
  have hP : va_P D vwCl (List.flatten (wM aM C ms_1 mw_2 ma ml)) H := hP
  have hD : va_D A (List.flatten (wM aM C ms_1 mw_2 ma ml)) := hD
  rw [← hQ]
  exact cRetV (ms_1, mw_2) hx hb hr hlocks hS hP hD h dX12_begins_19

