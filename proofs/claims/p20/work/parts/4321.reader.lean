abbrev vsX5_fail : List Cond := Cond.code yX5_fail cX5_fail 2 none :: WS
abbrev rmX5_fail : Room := { frames := 0, cells := 0, slots := 0, locals := 0 }
set_option maxHeartbeats 4000000 in
set_option maxRecDepth 100000 in
theorem k_X5_fail (l : Launch) (D : va_G) (C : Nat → ClassId) (sz : Nat) (aU : Nat → Nat)  (us : Nat → Int32) (ua : Nat → Nat → Int32) (p1 : Int32) {post : (Nat → Int32) → Prop} (h : P_X5_fail us p1 post) : Met l yX5_fail vsX5_fail rmX5_fail (cPre D C [.ref (aU 0), .int p1] sz (wReader aU C us ua)) (cQv D (fun (u : (Nat → Int32)) => post u) (fun u => wReader aU C u ua) (va_A (List.flatten (wReader aU C us ua)) sz)) 0 0 (va_A (List.flatten (wReader aU C us ua)) sz) := by
  refine cStart (QA := fun A => cQv D (fun (u : (Nat → Int32)) => post u) (fun u => wReader aU C u ua) A) (cc := cX5_fail) (maxL := 2) (ret := none) (by decide) (Nat.le_of_ble_eq_true rfl) ?_
  intro p e s m args below meth c A ls hx hb hr hml hown hw hlocks hname hK hN hA hP hD hS hl
  generalize hQ : MQ below _ args s 0 0 A = Q
  have hl : lv_has ls 2 [(0, .ref (aU 0)), (1, .int p1)] := hl
  have hn217 : (Cond.fieldLinkNest "LockRail$Reader" 217 "LockRail$Tape" "spot" "I" "LockRail").before args s = true := hN.f 1 rfl
  obtain ⟨H, hH⟩ : ∃ H, H = s.heap := ⟨_, rfl⟩
  obtain ⟨locs, hlo⟩ : ∃ z : List Loc, z = [] := ⟨_, rfl⟩
  have hP : va_P D vwCl (List.flatten (wReader aU C us ua)) H := by rw [hH]; exact hP
  have hS : va_S A s.heap H locs := by rw [hH, hlo]; exact hS
  rw [show W p l e rmX5_fail s m args below meth c s.heap [] 0 0 Q (F0 m 0 ls []) = W p l e rmX5_fail s m args below meth c H locs 0 0 Q (F0 m 0 ls []) from by rw [hH, hlo]]
  refine lv_aload_n hx hb dX5_fail_0 rfl (lv_at hl 0 rfl) ?_
  refine va_get (D := D) (ci := 5) (v := .int (us 0)) (C := RX5) (T := TX5) (N := 3) hx hb hw inW_X5 hown hK hP 0 rfl rfl 1 (by decide) (hw _ mw_1_67) (fun _ h9 => h9) rfl dX5_fail_1 ?_
  refine lv_if_ne (tgt := 23) hx hb dX5_fail_4 (by decide) (fun c1 => ?_) (fun c1 => ?_)
  · have h := h.1 c1
    rw [← hQ]
    exact cRetV (us) hx hb hr hlocks hS hP hD h dX5_fail_23
  · have h := h.2 c1
    refine lv_aload_n hx hb dX5_fail_7 rfl (lv_at hl 0 rfl) ?_
    refine lv_iload_n hx hb dX5_fail_8 rfl (lv_at hl 1 rfl) ?_
    refine va_put (D := D) (ci := 5) (v := .int p1) (ty := .int) (C := RX5) (T := TX5) (N := 3) hx hb hw inW_X5 tyX5 tyX5_ok nmX5 hown hK hP hD hS 0 rfl rfl 1 (by decide) (hw _ mw_1_67) (fun _ h9 => h9) rfl (by decide +kernel) rfl rfl (Nat.le_of_ble_eq_true rfl) dX5_fail_9 (fun H locs hP hD hS => ?_)
    refine lv_aload_n hx hb dX5_fail_12 rfl (lv_at hl 0 rfl) ?_
    refine lv_aload_n hx hb dX5_fail_13 rfl (lv_at hl 0 rfl) ?_
    refine va_get (D := D) (ci := 5) (v := .ref (aU 1)) (C := RX5) (T := TX5) (N := 3) hx hb hw inW_X5 hown hK hP 0 rfl rfl 0 (by decide) (hw _ mw_1_65) (fun _ h9 => h9) rfl dX5_fail_14 ?_
    refine va_getN (D := D) (ci := 8) (v := .int (us 3)) (C := RX8) (T := TX8) (N := 6) hx hb hw inW_X8 hown hK hP 1 rfl rfl 2 (by decide) hn217 (fun _ h9 => h9) rfl dX5_fail_17 ?_
    refine lv_topi (fun x2 ex2 => ?_)
    have h := h x2 ex2
    refine va_put (D := D) (ci := 5) (v := .int x2) (ty := .int) (C := RX5) (T := TX5) (N := 3) hx hb hw inW_X5 tyX5 tyX5_ok nmX5 hown hK hP hD hS 0 rfl rfl 2 (by decide) (hw _ mw_1_69) (fun _ h9 => h9) rfl (by decide +kernel) rfl rfl (Nat.le_of_ble_eq_true rfl) dX5_fail_20 (fun H locs hP hD hS => ?_)
    have hP : va_P D vwCl (List.flatten (wReader aU C (va_up (va_up us 0 p1) 1 x2) ua)) H := hP
    have hD : va_D A (List.flatten (wReader aU C (va_up (va_up us 0 p1) 1 x2) ua)) := hD
    rw [← hQ]
    exact cRetV ((va_up (va_up us 0 p1) 1 x2)) hx hb hr hlocks hS hP hD h dX5_fail_23
abbrev vsX5_readNumber : List Cond := Cond.code yX5_readNumber cX5_readNumber 4 (some .int) :: WS
abbrev rmX5_readNumber : Room := { frames := 2, cells := 0, slots := 0, locals := 44 }
set_option maxHeartbeats 4000000 in
set_option maxRecDepth 100000 in
theorem k_X5_readNumber (l : Launch) (D : va_G) (C : Nat → ClassId) (sz : Nat) (aU : Nat → Nat)  (us : Nat → Int32) (ua : Nat → Nat → Int32) (p1 : Int32) (p2 : Int32) {post : Int32 → (Nat → Int32) → Prop} (h : P_X5_readNumber us ua p1 p2 post) : Met l yX5_readNumber vsX5_readNumber rmX5_readNumber (cPre D C [.ref (aU 0), .int p1, .int p2] sz (wReader aU C us ua)) (cQi D (fun (r : Int32) (u : (Nat → Int32)) => post r u) (fun u => wReader aU C u ua) (va_A (List.flatten (wReader aU C us ua)) sz)) 0 0 (va_A (List.flatten (wReader aU C us ua)) sz) := by
  refine cStart (QA := fun A => cQi D (fun (r : Int32) (u : (Nat → Int32)) => post r u) (fun u => wReader aU C u ua) A) (cc := cX5_readNumber) (maxL := 4) (ret := (some .int)) (by decide) (Nat.le_of_ble_eq_true rfl) ?_
  intro p e s m args below meth c A ls hx hb hr hml hown hw hlocks hname hK hN hA hP hD hS hl
  generalize hQ : MQ below _ args s 0 0 A = Q
  have hl : lv_has ls 4 [(0, .ref (aU 0)), (1, .int p1), (2, .int p2)] := hl
  have hn168 : (Cond.fieldLinkNest "LockRail$Reader" 168 "LockRail$Tape" "number" "I" "LockRail").before args s = true := hN.f 3 rfl
  have hn33 : (Cond.fieldLinkNest "LockRail$Reader" 33 "LockRail$Tape" "kind" "I" "LockRail").before args s = true := hN.f 2 rfl
  obtain ⟨H, hH⟩ : ∃ H, H = s.heap := ⟨_, rfl⟩
  obtain ⟨locs, hlo⟩ : ∃ z : List Loc, z = [] := ⟨_, rfl⟩
  have hP : va_P D vwCl (List.flatten (wReader aU C us ua)) H := by rw [hH]; exact hP
  have hS : va_S A s.heap H locs := by rw [hH, hlo]; exact hS
  rw [show W p l e rmX5_readNumber s m args below meth c s.heap [] 0 0 Q (F0 m 0 ls []) = W p l e rmX5_readNumber s m args below meth c H locs 0 0 Q (F0 m 0 ls []) from by rw [hH, hlo]]
  have N46 : ∀ (us : Nat → Int32) (H : Heap) (locs : List Loc) (ls : Array Slot), P_X5_readNumber_46 ua p1 p2 post  us → va_P D vwCl (List.flatten (wReader aU C us ua)) H → va_D A (List.flatten (wReader aU C us ua)) → va_S A s.heap H locs → lv_has ls 4 [(0, .ref (aU 0)), (1, .int p1)] → W p l e rmX5_readNumber s m args below meth c H locs 0 0 Q (F0 m 46 ls []) := by
    intro us H locs ls h hP hD hS hl
    refine lv_aload_n hx hb dX5_readNumber_46 rfl (lv_at hl 0 rfl) ?_
    refine va_get (D := D) (ci := 5) (v := .int (us 0)) (C := RX5) (T := TX5) (N := 3) hx hb hw inW_X5 hown hK hP 0 rfl rfl 1 (by decide) (hw _ mw_1_67) (fun _ h9 => h9) rfl dX5_readNumber_47 ?_
    refine lv_if_eq (tgt := 55) hx hb dX5_readNumber_50 (by decide) (fun c1 => ?_) (fun c1 => ?_)
    · have h := h.1 c1
      refine lv_aload_n hx hb dX5_readNumber_55 rfl (lv_at hl 0 rfl) ?_
      refine va_get (D := D) (ci := 5) (v := .ref (aU 1)) (C := RX5) (T := TX5) (N := 3) hx hb hw inW_X5 hown hK hP 0 rfl rfl 0 (by decide) (hw _ mw_1_65) (fun _ h9 => h9) rfl dX5_readNumber_56 ?_
      refine va_getN (D := D) (ci := 8) (v := .int (us 6)) (C := RX8) (T := TX8) (N := 6) hx hb hw inW_X8 hown hK hP 1 rfl rfl 5 (by decide) hn168 (fun _ h9 => h9) rfl dX5_readNumber_59 ?_
      refine lv_topi (fun x2 ex2 => ?_)
      have h := h x2 ex2
      refine lv_istore_n (lv' := [(3, .int x2), (0, .ref (aU 0)), (1, .int p1)]) hx hb dX5_readNumber_62 rfl hl (by decide) rfl (fun ls hl => ?_)
      refine lv_aload_n hx hb dX5_readNumber_63 rfl (lv_at hl 1 rfl) ?_
      refine va_get (D := D) (ci := 5) (v := .ref (aU 1)) (C := RX5) (T := TX5) (N := 3) hx hb hw inW_X5 hown hK hP 0 rfl rfl 0 (by decide) (hw _ mw_1_65) (fun _ h9 => h9) rfl dX5_readNumber_64 ?_
      refine cGoV (wo := fun u => wReader aU C (va_up (va_up (va_up (va_up us 3 u.1) 4 u.2.1) 5 u.2.2.1) 6 u.2.2.2) ua) (cRunVN (As := []) (rest := []) ⟨hx, hb, hml, hown, hw⟩ hK hN hP hD [1] rfl rfl (k_X8_step l D C _ (aU 1) (aU 2)  (ua 0) (us 2) (us 3) (us 4) (us 5) (us 6)  h) ⟨va_cnB 0 hw (goodN mw_2_199) rfl rfl rfl (hN.m 17 rfl) (hw _ mw_1_3) (by decide +kernel) ⟨Nat.le_of_ble_eq_true rfl, Nat.le_of_ble_eq_true rfl⟩, hw _ mw_2_198, hw _ mw_s4⟩ rfl rfl rfl hl.1 rfl (Nat.le_of_ble_eq_true rfl) dX5_readNumber_67 ⟨Nat.zero_le _, Nat.zero_le _⟩) hP hD hS hA [1] [0] [0, 1] rfl rfl rfl (by decide) rfl (fun _ => rfl) (fun u H locs h hP hD hS => ?_)
      obtain ⟨spo_3, beh_4, kin_5, num_6⟩ := u
      have hP : va_P D vwCl (List.flatten (wReader aU C (va_up (va_up (va_up (va_up us 3 spo_3) 4 beh_4) 5 kin_5) 6 num_6) ua)) H := hP
      have hD : va_D A (List.flatten (wReader aU C (va_up (va_up (va_up (va_up us 3 spo_3) 4 beh_4) 5 kin_5) 6 num_6) ua)) := hD
      refine lv_iload_n hx hb dX5_readNumber_70 rfl (lv_at hl 0 rfl) ?_
      rw [← hQ]
      exact cRetI (v := x2) ((va_up (va_up (va_up (va_up us 3 spo_3) 4 beh_4) 5 kin_5) 6 num_6)) hx hb hr hlocks hS hP hD h dX5_readNumber_71
    · have h := h.2 c1
      refine lv_iload_n hx hb dX5_readNumber_53 rfl (lv_at hl 1 rfl) ?_
      rw [← hQ]
      exact cRetI (v := p1) (us) hx hb hr hlocks hS hP hD h dX5_readNumber_54
  have N41 : ∀ (us : Nat → Int32) (H : Heap) (locs : List Loc) (ls : Array Slot), P_X5_readNumber_41 ua p1 p2 post  us → va_P D vwCl (List.flatten (wReader aU C us ua)) H → va_D A (List.flatten (wReader aU C us ua)) → va_S A s.heap H locs → lv_has ls 4 [(0, .ref (aU 0)), (1, .int p1)] → W p l e rmX5_readNumber s m args below meth c H locs 0 0 Q (F0 m 41 ls []) := by
    intro us H locs ls h hP hD hS hl
    refine lv_aload_n hx hb dX5_readNumber_41 rfl (lv_at hl 0 rfl) ?_
    refine lv_iconst (v := 2) hx hb dX5_readNumber_42 (by decide) ?_
    refine cGoAV (cRunAV (As := [.int 2]) (rest := []) ⟨hx, hb, hml, hown, hw⟩ hK hN hP hD (k_X5_fail l D C _ aU  us ua 2 h) (cwV 1 hw (goodV mw_3_34 mw_3_36 mw_s10 mw_1_2 mw_3_37) rfl rfl rfl (by decide +kernel) ⟨Nat.le_of_ble_eq_true rfl, Nat.le_of_ble_eq_true rfl⟩) rfl rfl rfl hl.1 rfl (Nat.le_of_ble_eq_true rfl) dX5_readNumber_43 ⟨Nat.zero_le _, Nat.zero_le _⟩) hP hD hS hA (fun us_7 H locs h hP hD hS => ?_)
    have hP : va_P D vwCl (List.flatten (wReader aU C us_7 ua)) H := hP
    have hD : va_D A (List.flatten (wReader aU C us_7 ua)) := hD
    exact N46 us_7 _ _ _ h hP hD hS (lv_sub hl [0, 1] rfl)
  refine lv_aload_n hx hb dX5_readNumber_0 rfl (lv_at hl 0 rfl) ?_
  refine va_get (D := D) (ci := 5) (v := .ref (aU 1)) (C := RX5) (T := TX5) (N := 3) hx hb hw inW_X5 hown hK hP 0 rfl rfl 0 (by decide) (hw _ mw_1_65) (fun _ h9 => h9) rfl dX5_readNumber_1 ?_
  refine va_getN (D := D) (ci := 8) (v := .int (us 5)) (C := RX8) (T := TX8) (N := 6) hx hb hw inW_X8 hown hK hP 1 rfl rfl 4 (by decide) hn33 (fun _ h9 => h9) rfl dX5_readNumber_4 ?_
  refine lv_iconst (v := 2) hx hb dX5_readNumber_7 (by decide) ?_
  refine lv_icmp_eq (tgt := 19) hx hb dX5_readNumber_8 (by decide) (fun c8 => ?_) (fun c8 => ?_)
  · have h := h.1 c8
    refine lv_aload_n hx hb dX5_readNumber_19 rfl (lv_at hl 0 rfl) ?_
    refine va_get (D := D) (ci := 5) (v := .ref (aU 1)) (C := RX5) (T := TX5) (N := 3) hx hb hw inW_X5 hown hK hP 0 rfl rfl 0 (by decide) (hw _ mw_1_65) (fun _ h9 => h9) rfl dX5_readNumber_20 ?_
    refine va_getN (D := D) (ci := 8) (v := .int (us 6)) (C := RX8) (T := TX8) (N := 6) hx hb hw inW_X8 hown hK hP 1 rfl rfl 5 (by decide) hn168 (fun _ h9 => h9) rfl dX5_readNumber_23 ?_
    refine lv_iload_n hx hb dX5_readNumber_26 rfl (lv_at hl 1 rfl) ?_
    refine lv_icmp_lt (tgt := 41) hx hb dX5_readNumber_27 (by decide) (fun c9 => ?_) (fun c9 => ?_)
    · have h := h.1 c9
      exact N41 us _ _ _ h hP hD hS (lv_sub hl [0, 1] rfl)
    · have h := h.2 c9
      refine lv_aload_n hx hb dX5_readNumber_30 rfl (lv_at hl 0 rfl) ?_
      refine va_get (D := D) (ci := 5) (v := .ref (aU 1)) (C := RX5) (T := TX5) (N := 3) hx hb hw inW_X5 hown hK hP 0 rfl rfl 0 (by decide) (hw _ mw_1_65) (fun _ h9 => h9) rfl dX5_readNumber_31 ?_
      refine va_getN (D := D) (ci := 8) (v := .int (us 6)) (C := RX8) (T := TX8) (N := 6) hx hb hw inW_X8 hown hK hP 1 rfl rfl 5 (by decide) hn168 (fun _ h9 => h9) rfl dX5_readNumber_34 ?_
      refine lv_iload_n hx hb dX5_readNumber_37 rfl (lv_at hl 2 rfl) ?_
      refine lv_icmp_le (tgt := 46) hx hb dX5_readNumber_38 (by decide) (fun c10 => ?_) (fun c10 => ?_)
      · have h := h.1 c10
        exact N46 us _ _ _ h hP hD hS (lv_sub hl [0, 1] rfl)
      · have h := h.2 c10
        exact N41 us _ _ _ h hP hD hS (lv_sub hl [0, 1] rfl)
  · have h := h.2 c8
    refine lv_aload_n hx hb dX5_readNumber_11 rfl (lv_at hl 0 rfl) ?_
    refine lv_iconst (v := 1) hx hb dX5_readNumber_12 (by decide) ?_
    refine cGoAV (cRunAV (As := [.int 1]) (rest := []) ⟨hx, hb, hml, hown, hw⟩ hK hN hP hD (k_X5_fail l D C _ aU  us ua 1 h) (cwV 1 hw (goodV mw_3_34 mw_3_36 mw_s10 mw_1_2 mw_3_37) rfl rfl rfl (by decide +kernel) ⟨Nat.le_of_ble_eq_true rfl, Nat.le_of_ble_eq_true rfl⟩) rfl rfl rfl hl.1 rfl (Nat.le_of_ble_eq_true rfl) dX5_readNumber_13 ⟨Nat.zero_le _, Nat.zero_le _⟩) hP hD hS hA (fun us_11 H locs h hP hD hS => ?_)
    have hP : va_P D vwCl (List.flatten (wReader aU C us_11 ua)) H := hP
    have hD : va_D A (List.flatten (wReader aU C us_11 ua)) := hD
    refine lv_goto (tgt := 46) hx hb dX5_readNumber_16 (by decide) ?_
    exact N46 us_11 _ _ _ h hP hD hS (lv_sub hl [0, 1] rfl)
abbrev vsX5_readHead : List Cond := Cond.code yX5_readHead cX5_readHead 3 none :: WS
abbrev rmX5_readHead : Room := { frames := 2, cells := 0, slots := 0, locals := 44 }
set_option maxHeartbeats 4000000 in
set_option maxRecDepth 100000 in
theorem k_X5_readHead (l : Launch) (D : va_G) (C : Nat → ClassId) (sz : Nat) (aU : Nat → Nat)  (us : Nat → Int32) (ua : Nat → Nat → Int32) (p1 : Int32) (p2 : Int32) {post : (Nat → Int32) → Prop} (h : P_X5_readHead us ua p1 p2 post) : Met l yX5_readHead vsX5_readHead rmX5_readHead (cPre D C [.ref (aU 0), .int p1, .int p2] sz (wReader aU C us ua)) (cQv D (fun (u : (Nat → Int32)) => post u) (fun u => wReader aU C u ua) (va_A (List.flatten (wReader aU C us ua)) sz)) 0 0 (va_A (List.flatten (wReader aU C us ua)) sz) := by
  refine cStart (QA := fun A => cQv D (fun (u : (Nat → Int32)) => post u) (fun u => wReader aU C u ua) A) (cc := cX5_readHead) (maxL := 3) (ret := none) (by decide) (Nat.le_of_ble_eq_true rfl) ?_
  intro p e s m args below meth c A ls hx hb hr hml hown hw hlocks hname hK hN hA hP hD hS hl
  generalize hQ : MQ below _ args s 0 0 A = Q
  have hl : lv_has ls 3 [(0, .ref (aU 0)), (1, .int p1), (2, .int p2)] := hl
  obtain ⟨H, hH⟩ : ∃ H, H = s.heap := ⟨_, rfl⟩
  obtain ⟨locs, hlo⟩ : ∃ z : List Loc, z = [] := ⟨_, rfl⟩
  have hP : va_P D vwCl (List.flatten (wReader aU C us ua)) H := by rw [hH]; exact hP
  have hS : va_S A s.heap H locs := by rw [hH, hlo]; exact hS
  rw [show W p l e rmX5_readHead s m args below meth c s.heap [] 0 0 Q (F0 m 0 ls []) = W p l e rmX5_readHead s m args below meth c H locs 0 0 Q (F0 m 0 ls []) from by rw [hH, hlo]]
  refine lv_iload_n hx hb dX5_readHead_0 rfl (lv_at hl 1 rfl) ?_
  refine lv_if_eq (tgt := 14) hx hb dX5_readHead_1 (by decide) (fun c1 => ?_) (fun c1 => ?_)
  · have h := h.1 c1
    refine lv_aload_n hx hb dX5_readHead_14 rfl (lv_at hl 0 rfl) ?_
    refine lv_iload_n hx hb dX5_readHead_15 rfl (lv_at hl 2 rfl) ?_
    refine cGoAV (cRunAV (As := [.int p2]) (rest := []) ⟨hx, hb, hml, hown, hw⟩ hK hN hP hD (k_X5_fail l D C _ aU  us ua p2 h) (cwV 1 hw (goodV mw_3_34 mw_3_36 mw_s10 mw_1_2 mw_3_37) rfl rfl rfl (by decide +kernel) ⟨Nat.le_of_ble_eq_true rfl, Nat.le_of_ble_eq_true rfl⟩) rfl rfl rfl hl.1 rfl (Nat.le_of_ble_eq_true rfl) dX5_readHead_16 ⟨Nat.zero_le _, Nat.zero_le _⟩) hP hD hS hA (fun us_2 H locs h hP hD hS => ?_)
    have hP : va_P D vwCl (List.flatten (wReader aU C us_2 ua)) H := hP
    have hD : va_D A (List.flatten (wReader aU C us_2 ua)) := hD
    rw [← hQ]
    exact cRetV (us_2) hx hb hr hlocks hS hP hD h dX5_readHead_19
  · have h := h.2 c1
    refine lv_aload_n hx hb dX5_readHead_4 rfl (lv_at hl 0 rfl) ?_
    refine va_get (D := D) (ci := 5) (v := .ref (aU 1)) (C := RX5) (T := TX5) (N := 3) hx hb hw inW_X5 hown hK hP 0 rfl rfl 0 (by decide) (hw _ mw_1_65) (fun _ h9 => h9) rfl dX5_readHead_5 ?_
    refine cGoV (wo := fun u => wReader aU C (va_up (va_up (va_up (va_up us 3 u.1) 4 u.2.1) 5 u.2.2.1) 6 u.2.2.2) ua) (cRunVN (As := []) (rest := []) ⟨hx, hb, hml, hown, hw⟩ hK hN hP hD [1] rfl rfl (k_X8_step l D C _ (aU 1) (aU 2)  (ua 0) (us 2) (us 3) (us 4) (us 5) (us 6)  h) ⟨va_cnB 0 hw (goodN mw_2_199) rfl rfl rfl (hN.m 17 rfl) (hw _ mw_1_3) (by decide +kernel) ⟨Nat.le_of_ble_eq_true rfl, Nat.le_of_ble_eq_true rfl⟩, hw _ mw_2_198, hw _ mw_s4⟩ rfl rfl rfl hl.1 rfl (Nat.le_of_ble_eq_true rfl) dX5_readHead_8 ⟨Nat.zero_le _, Nat.zero_le _⟩) hP hD hS hA [1] [0] [0, 1] rfl rfl rfl (by decide) rfl (fun _ => rfl) (fun u H locs h hP hD hS => ?_)
    obtain ⟨spo_3, beh_4, kin_5, num_6⟩ := u
    have hP : va_P D vwCl (List.flatten (wReader aU C (va_up (va_up (va_up (va_up us 3 spo_3) 4 beh_4) 5 kin_5) 6 num_6) ua)) H := hP
    have hD : va_D A (List.flatten (wReader aU C (va_up (va_up (va_up (va_up us 3 spo_3) 4 beh_4) 5 kin_5) 6 num_6) ua)) := hD
    refine lv_goto (tgt := 19) hx hb dX5_readHead_11 (by decide) ?_
    rw [← hQ]
    exact cRetV ((va_up (va_up (va_up (va_up us 3 spo_3) 4 beh_4) 5 kin_5) 6 num_6)) hx hb hr hlocks hS hP hD h dX5_readHead_19
abbrev vsX5_readSign : List Cond := Cond.code yX5_readSign cX5_readSign 1 none :: WS
abbrev rmX5_readSign : Room := { frames := 2, cells := 0, slots := 0, locals := 44 }
set_option maxHeartbeats 4000000 in
set_option maxRecDepth 100000 in
theorem k_X5_readSign (l : Launch) (D : va_G) (C : Nat → ClassId) (sz : Nat) (aU : Nat → Nat)  (us : Nat → Int32) (ua : Nat → Nat → Int32)  {post : (Nat → Int32) → Prop} (h : P_X5_readSign us ua post) : Met l yX5_readSign vsX5_readSign rmX5_readSign (cPre D C [.ref (aU 0)] sz (wReader aU C us ua)) (cQv D (fun (u : (Nat → Int32)) => post u) (fun u => wReader aU C u ua) (va_A (List.flatten (wReader aU C us ua)) sz)) 0 0 (va_A (List.flatten (wReader aU C us ua)) sz) := by
  refine cStart (QA := fun A => cQv D (fun (u : (Nat → Int32)) => post u) (fun u => wReader aU C u ua) A) (cc := cX5_readSign) (maxL := 1) (ret := none) (by decide) (Nat.le_of_ble_eq_true rfl) ?_
  intro p e s m args below meth c A ls hx hb hr hml hown hw hlocks hname hK hN hA hP hD hS hl
  generalize hQ : MQ below _ args s 0 0 A = Q
  have hl : lv_has ls 1 [(0, .ref (aU 0))] := hl
  have hn33 : (Cond.fieldLinkNest "LockRail$Reader" 33 "LockRail$Tape" "kind" "I" "LockRail").before args s = true := hN.f 2 rfl
  obtain ⟨H, hH⟩ : ∃ H, H = s.heap := ⟨_, rfl⟩
  obtain ⟨locs, hlo⟩ : ∃ z : List Loc, z = [] := ⟨_, rfl⟩
  have hP : va_P D vwCl (List.flatten (wReader aU C us ua)) H := by rw [hH]; exact hP
  have hS : va_S A s.heap H locs := by rw [hH, hlo]; exact hS
  rw [show W p l e rmX5_readSign s m args below meth c s.heap [] 0 0 Q (F0 m 0 ls []) = W p l e rmX5_readSign s m args below meth c H locs 0 0 Q (F0 m 0 ls []) from by rw [hH, hlo]]
  have N28 : ∀ (us : Nat → Int32) (H : Heap) (locs : List Loc) (ls : Array Slot), P_X5_readSign_28 ua post  us → va_P D vwCl (List.flatten (wReader aU C us ua)) H → va_D A (List.flatten (wReader aU C us ua)) → va_S A s.heap H locs → lv_has ls 1 [(0, .ref (aU 0))] → W p l e rmX5_readSign s m args below meth c H locs 0 0 Q (F0 m 28 ls []) := by
    intro us H locs ls h hP hD hS hl
    refine lv_aload_n hx hb dX5_readSign_28 rfl (lv_at hl 0 rfl) ?_
    refine lv_iconst (v := 1) hx hb dX5_readSign_29 (by decide) ?_
    refine cGoAV (cRunAV (As := [.int 1]) (rest := []) ⟨hx, hb, hml, hown, hw⟩ hK hN hP hD (k_X5_fail l D C _ aU  us ua 1 h) (cwV 1 hw (goodV mw_3_34 mw_3_36 mw_s10 mw_1_2 mw_3_37) rfl rfl rfl (by decide +kernel) ⟨Nat.le_of_ble_eq_true rfl, Nat.le_of_ble_eq_true rfl⟩) rfl rfl rfl hl.1 rfl (Nat.le_of_ble_eq_true rfl) dX5_readSign_30 ⟨Nat.zero_le _, Nat.zero_le _⟩) hP hD hS hA (fun us_1 H locs h hP hD hS => ?_)
    have hP : va_P D vwCl (List.flatten (wReader aU C us_1 ua)) H := hP
    have hD : va_D A (List.flatten (wReader aU C us_1 ua)) := hD
    rw [← hQ]
    exact cRetV (us_1) hx hb hr hlocks hS hP hD h dX5_readSign_33
  refine lv_aload_n hx hb dX5_readSign_0 rfl (lv_at hl 0 rfl) ?_
  refine va_get (D := D) (ci := 5) (v := .int (us 0)) (C := RX5) (T := TX5) (N := 3) hx hb hw inW_X5 hown hK hP 0 rfl rfl 1 (by decide) (hw _ mw_1_67) (fun _ h9 => h9) rfl dX5_readSign_1 ?_
  refine lv_if_ne (tgt := 28) hx hb dX5_readSign_4 (by decide) (fun c2 => ?_) (fun c2 => ?_)
  · have h := h.1 c2
    exact N28 us _ _ _ h hP hD hS (lv_sub hl [0] rfl)
  · have h := h.2 c2
    refine lv_aload_n hx hb dX5_readSign_7 rfl (lv_at hl 0 rfl) ?_
    refine va_get (D := D) (ci := 5) (v := .ref (aU 1)) (C := RX5) (T := TX5) (N := 3) hx hb hw inW_X5 hown hK hP 0 rfl rfl 0 (by decide) (hw _ mw_1_65) (fun _ h9 => h9) rfl dX5_readSign_8 ?_
    refine va_getN (D := D) (ci := 8) (v := .int (us 5)) (C := RX8) (T := TX8) (N := 6) hx hb hw inW_X8 hown hK hP 1 rfl rfl 4 (by decide) hn33 (fun _ h9 => h9) rfl dX5_readSign_11 ?_
    refine lv_iconst (v := 3) hx hb dX5_readSign_14 (by decide) ?_
    refine lv_icmp_ne (tgt := 28) hx hb dX5_readSign_15 (by decide) (fun c3 => ?_) (fun c3 => ?_)
    · have h := h.1 c3
      exact N28 us _ _ _ h hP hD hS (lv_sub hl [0] rfl)
    · have h := h.2 c3
      refine lv_aload_n hx hb dX5_readSign_18 rfl (lv_at hl 0 rfl) ?_
      refine va_get (D := D) (ci := 5) (v := .ref (aU 1)) (C := RX5) (T := TX5) (N := 3) hx hb hw inW_X5 hown hK hP 0 rfl rfl 0 (by decide) (hw _ mw_1_65) (fun _ h9 => h9) rfl dX5_readSign_19 ?_
      refine cGoV (wo := fun u => wReader aU C (va_up (va_up (va_up (va_up us 3 u.1) 4 u.2.1) 5 u.2.2.1) 6 u.2.2.2) ua) (cRunVN (As := []) (rest := []) ⟨hx, hb, hml, hown, hw⟩ hK hN hP hD [1] rfl rfl (k_X8_step l D C _ (aU 1) (aU 2)  (ua 0) (us 2) (us 3) (us 4) (us 5) (us 6)  h) ⟨va_cnB 0 hw (goodN mw_2_199) rfl rfl rfl (hN.m 17 rfl) (hw _ mw_1_3) (by decide +kernel) ⟨Nat.le_of_ble_eq_true rfl, Nat.le_of_ble_eq_true rfl⟩, hw _ mw_2_198, hw _ mw_s4⟩ rfl rfl rfl hl.1 rfl (Nat.le_of_ble_eq_true rfl) dX5_readSign_22 ⟨Nat.zero_le _, Nat.zero_le _⟩) hP hD hS hA [1] [0] [0, 1] rfl rfl rfl (by decide) rfl (fun _ => rfl) (fun u H locs h hP hD hS => ?_)
      obtain ⟨spo_4, beh_5, kin_6, num_7⟩ := u
      have hP : va_P D vwCl (List.flatten (wReader aU C (va_up (va_up (va_up (va_up us 3 spo_4) 4 beh_5) 5 kin_6) 6 num_7) ua)) H := hP
      have hD : va_D A (List.flatten (wReader aU C (va_up (va_up (va_up (va_up us 3 spo_4) 4 beh_5) 5 kin_6) 6 num_7) ua)) := hD
      refine lv_goto (tgt := 33) hx hb dX5_readSign_25 (by decide) ?_
      rw [← hQ]
      exact cRetV ((va_up (va_up (va_up (va_up us 3 spo_4) 4 beh_5) 5 kin_6) 6 num_7)) hx hb hr hlocks hS hP hD h dX5_readSign_33
