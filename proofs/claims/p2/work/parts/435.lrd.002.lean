abbrev vsX11_taken : List Cond := Cond.code yX11_taken cX11_taken 2 (some .int) :: WS
abbrev rmX11_taken : Room := { frames := 1, cells := 0, slots := 0, locals := 21 }
set_option maxHeartbeats 4000000 in
set_option maxRecDepth 100000 in
theorem k_X11_taken (l : Launch) (D : va_G) (C : Nat → ClassId) (sz : Nat) (L0 : Nat) (aU : Nat → Nat) (aR : Nat → Nat) (aR2 : Nat → Nat) (aS : Nat → Nat) (n0 : Nat) (aN : Nat → Nat) (y0 : Nat) (y1 : Nat) (y2 : Nat) (o0 : Nat) (h_images : Nat) (us : Nat → Int32) (ua : Nat → Nat → Int32) (rs : Nat → Int32) (ra : Nat → Nat → Int32) (rs2 : Nat → Int32) (ra2 : Nat → Nat → Int32) (sa : Nat → Nat → Int32) (sl : Nat → Nat → Int64) (ns : Nat → Int32) (na : Nat → Nat → Int32) (nl : Nat → Nat → Int64) (y_isThere : Int32) (y_taken : Nat → Int32) (y_took : Nat → Int32) (o_of : Nat → Int64) (p1 : Int32) {post : Int32 → Prop} (h : P_X11_taken rs ra p1 post) : Met l yX11_taken vsX11_taken rmX11_taken (cPre D C [.ref L0, .int p1] sz ([cLockRail L0 (aU 0) (aR 0) (aR2 0) h_images (aS 0) n0 y0 o0 C ] ++ (wReader aU C us ua ++ (wRail aR C rs ra ++ (wRail aR2 C rs2 ra2 ++ (wSlots aS C sa sl ++ (wNight n0 aN C ns na nl ++ ([cYear y0 y1 y2 C y_isThere y_taken y_took] ++ ([cOb o0 C o_of]))))))))) (cQi D (fun (r : Int32) (u : Unit) => post r ) (fun u => [cLockRail L0 (aU 0) (aR 0) (aR2 0) h_images (aS 0) n0 y0 o0 C ] ++ (wReader aU C us ua ++ (wRail aR C rs ra ++ (wRail aR2 C rs2 ra2 ++ (wSlots aS C sa sl ++ (wNight n0 aN C ns na nl ++ ([cYear y0 y1 y2 C y_isThere y_taken y_took] ++ ([cOb o0 C o_of])))))))) (va_A (List.flatten ([cLockRail L0 (aU 0) (aR 0) (aR2 0) h_images (aS 0) n0 y0 o0 C ] ++ (wReader aU C us ua ++ (wRail aR C rs ra ++ (wRail aR2 C rs2 ra2 ++ (wSlots aS C sa sl ++ (wNight n0 aN C ns na nl ++ ([cYear y0 y1 y2 C y_isThere y_taken y_took] ++ ([cOb o0 C o_of]))))))))) sz)) 0 0 (va_A (List.flatten ([cLockRail L0 (aU 0) (aR 0) (aR2 0) h_images (aS 0) n0 y0 o0 C ] ++ (wReader aU C us ua ++ (wRail aR C rs ra ++ (wRail aR2 C rs2 ra2 ++ (wSlots aS C sa sl ++ (wNight n0 aN C ns na nl ++ ([cYear y0 y1 y2 C y_isThere y_taken y_took] ++ ([cOb o0 C o_of]))))))))) sz) := by
  refine cStart (QA := fun A => cQi D (fun (r : Int32) (u : Unit) => post r ) (fun u => [cLockRail L0 (aU 0) (aR 0) (aR2 0) h_images (aS 0) n0 y0 o0 C ] ++ (wReader aU C us ua ++ (wRail aR C rs ra ++ (wRail aR2 C rs2 ra2 ++ (wSlots aS C sa sl ++ (wNight n0 aN C ns na nl ++ ([cYear y0 y1 y2 C y_isThere y_taken y_took] ++ ([cOb o0 C o_of])))))))) A) (cc := cX11_taken) (maxL := 2) (ret := (some .int)) (by decide) (Nat.le_of_ble_eq_true rfl) ?_
  intro p e s m args below meth c A ls hx hb hr hml hown hw hlocks hname hK hN hA hP hD hS hl
  generalize hQ : MQ below _ args s 0 0 A = Q
  have hl : lv_has ls 2 [(0, .ref L0), (1, .int p1)] := hl
  have hn325 : (Cond.fieldLinkNest "LockRail" 325 "LockRail$Rail" "year" "LLockRail$Year;" "LockRail").before args s = true := hN.f 74 rfl
  have hn357 : (Cond.fieldLinkNest "LockRail" 357 "LockRail$Year" "isThere" "Z" "LockRail").before args s = true := hN.f 42 rfl
  have hn360 : (Cond.fieldLinkNest "LockRail" 360 "LockRail$Year" "taken" "[I" "LockRail").before args s = true := hN.f 45 rfl
  obtain ⟨H, hH⟩ : ∃ H, H = s.heap := ⟨_, rfl⟩
  obtain ⟨locs, hlo⟩ : ∃ z : List Loc, z = [] := ⟨_, rfl⟩
  have hP : va_P D vwCl (List.flatten ([cLockRail L0 (aU 0) (aR 0) (aR2 0) h_images (aS 0) n0 y0 o0 C ] ++ (wReader aU C us ua ++ (wRail aR C rs ra ++ (wRail aR2 C rs2 ra2 ++ (wSlots aS C sa sl ++ (wNight n0 aN C ns na nl ++ ([cYear y0 y1 y2 C y_isThere y_taken y_took] ++ ([cOb o0 C o_of]))))))))) H := by rw [hH]; exact hP
  have hS : va_S A s.heap H locs := by rw [hH, hlo]; exact hS
  rw [show W p l e rmX11_taken s m args below meth c s.heap [] 0 0 Q (F0 m 0 ls []) = W p l e rmX11_taken s m args below meth c H locs 0 0 Q (F0 m 0 ls []) from by rw [hH, hlo]]
  refine lv_aload_n hx hb dX11_taken_0 rfl (lv_at hl 0 rfl) ?_
  refine va_get (D := D) (ci := 11) (v := .ref (aR 0)) (C := RX11) (T := TX11) (N := 8) hx hb hw inW_X11 hown hK hP 0 rfl rfl 1 (by decide) (hw _ mw_2_144) (fun _ h9 => h9) rfl dX11_taken_1 ?_
  refine lv_iload_n hx hb dX11_taken_4 rfl (lv_at hl 1 rfl) ?_
  refine cGoI (wo := fun u => [cLockRail L0 (aU 0) (aR 0) (aR2 0) h_images (aS 0) n0 y0 o0 C ] ++ (wReader aU C us ua ++ (wRail aR C rs ra ++ (wRail aR2 C rs2 ra2 ++ (wSlots aS C sa sl ++ (wNight n0 aN C ns na nl ++ ([cYear y0 y1 y2 C y_isThere y_taken y_took] ++ ([cOb o0 C o_of])))))))) (cRunVN (As := [.int p1]) (rest := []) ⟨hx, hb, hml, hown, hw⟩ hK hN hP hD [3, 4, 5, 6, 7, 8] rfl rfl (k_X4_hasBike l D C _ aR  rs ra p1 h) ⟨va_cnB 1 hw (goodN mw_3_183) rfl rfl rfl (hN.m 31 rfl) (hw _ mw_1_4) (by decide +kernel) ⟨Nat.le_of_ble_eq_true rfl, Nat.le_of_ble_eq_true rfl⟩, hw _ mw_3_182, hw _ mw_s34⟩ rfl rfl rfl hl.1 rfl (Nat.le_of_ble_eq_true rfl) dX11_taken_5 ⟨Nat.zero_le _, Nat.zero_le _⟩) hP hD hS hA [3, 4, 5, 6, 7, 8] [0, 1, 2, 9, 10, 11, 12, 13, 14, 15, 16, 17, 18, 19, 20] [0, 1, 2, 15, 16, 17, 18, 19, 20, 3, 4, 5, 6, 7, 8, 9, 10, 11, 12, 13, 14] rfl rfl rfl (by decide) rfl (fun _ => rfl) (fun r1 u H locs h hP hD hS => ?_)
  have hP : va_P D vwCl (List.flatten ([cLockRail L0 (aU 0) (aR 0) (aR2 0) h_images (aS 0) n0 y0 o0 C ] ++ (wReader aU C us ua ++ (wRail aR C rs ra ++ (wRail aR2 C rs2 ra2 ++ (wSlots aS C sa sl ++ (wNight n0 aN C ns na nl ++ ([cYear y0 y1 y2 C y_isThere y_taken y_took] ++ ([cOb o0 C o_of]))))))))) H := hP
  have hD : va_D A (List.flatten ([cLockRail L0 (aU 0) (aR 0) (aR2 0) h_images (aS 0) n0 y0 o0 C ] ++ (wReader aU C us ua ++ (wRail aR C rs ra ++ (wRail aR2 C rs2 ra2 ++ (wSlots aS C sa sl ++ (wNight n0 aN C ns na nl ++ ([cYear y0 y1 y2 C y_isThere y_taken y_took] ++ ([cOb o0 C o_of]))))))))) := hD
  refine lv_if_ne (tgt := 14) hx hb dX11_taken_8 (by decide) (fun c2 => ?_) (fun c2 => ?_)
  · have h := h.1 c2
    refine lv_aload_n hx hb dX11_taken_14 rfl (lv_at hl 0 rfl) ?_
    refine va_get (D := D) (ci := 11) (v := .ref (aR 0)) (C := RX11) (T := TX11) (N := 8) hx hb hw inW_X11 hown hK hP 0 rfl rfl 1 (by decide) (hw _ mw_2_144) (fun _ h9 => h9) rfl dX11_taken_15 ?_
    refine va_getN (D := D) (ci := 4) (v := .ref (aR 19)) (C := RX4) (T := TX4) (N := 16) hx hb hw inW_X4 hown hK hP 4 rfl rfl 15 (by decide) hn325 (fun _ h9 => h9) rfl dX11_taken_18 ?_
    refine va_getN (D := D) (ci := 10) (v := .int (rs 15)) (C := RX10) (T := TX10) (N := 3) hx hb hw inW_X10 hown hK hP 23 rfl rfl 0 (by decide) hn357 (fun _ h9 => h9) rfl dX11_taken_21 ?_
    refine lv_if_eq (tgt := 42) hx hb dX11_taken_24 (by decide) (fun c3 => ?_) (fun c3 => ?_)
    · have h := h.1 c3
      refine lv_iconst (v := (-1)) hx hb dX11_taken_42 (by decide) ?_
      rw [← hQ]
      exact cRetI (v := (-1)) () hx hb hr hlocks hS hP hD h dX11_taken_43
    · have h := h.2 c3
      refine lv_aload_n hx hb dX11_taken_27 rfl (lv_at hl 0 rfl) ?_
      refine va_get (D := D) (ci := 11) (v := .ref (aR 0)) (C := RX11) (T := TX11) (N := 8) hx hb hw inW_X11 hown hK hP 0 rfl rfl 1 (by decide) (hw _ mw_2_144) (fun _ h9 => h9) rfl dX11_taken_28 ?_
      refine va_getN (D := D) (ci := 4) (v := .ref (aR 19)) (C := RX4) (T := TX4) (N := 16) hx hb hw inW_X4 hown hK hP 4 rfl rfl 15 (by decide) hn325 (fun _ h9 => h9) rfl dX11_taken_31 ?_
      refine va_getN (D := D) (ci := 10) (v := .ref (aR 20)) (C := RX10) (T := TX10) (N := 3) hx hb hw inW_X10 hown hK hP 23 rfl rfl 1 (by decide) hn360 (fun _ h9 => h9) rfl dX11_taken_34 ?_
      refine lv_iload_n hx hb dX11_taken_37 rfl (lv_at hl 1 rfl) ?_
      refine cIald hx hb hK hP 24 0 rfl rfl p1.toNatClampNeg rfl h.1 dX11_taken_38 ?_
      have h := h.2
      refine lv_goto (tgt := 43) hx hb dX11_taken_39 (by decide) ?_
      rw [← hQ]
      exact cRetI (v := (ra 14 p1.toNatClampNeg)) () hx hb hr hlocks hS hP hD h dX11_taken_43
  · have h := h.2 c2
    refine lv_bipush (v := (-2)) hx hb dX11_taken_11 (by decide) ?_
    rw [← hQ]
    exact cRetI (v := (-2)) () hx hb hr hlocks hS hP hD h dX11_taken_13
abbrev vsX11_took : List Cond := Cond.code yX11_took cX11_took 2 (some .int) :: WS
abbrev rmX11_took : Room := { frames := 1, cells := 0, slots := 0, locals := 21 }
set_option maxHeartbeats 4000000 in
set_option maxRecDepth 100000 in
theorem k_X11_took (l : Launch) (D : va_G) (C : Nat → ClassId) (sz : Nat) (L0 : Nat) (aU : Nat → Nat) (aR : Nat → Nat) (aR2 : Nat → Nat) (aS : Nat → Nat) (n0 : Nat) (aN : Nat → Nat) (y0 : Nat) (y1 : Nat) (y2 : Nat) (o0 : Nat) (h_images : Nat) (us : Nat → Int32) (ua : Nat → Nat → Int32) (rs : Nat → Int32) (ra : Nat → Nat → Int32) (rs2 : Nat → Int32) (ra2 : Nat → Nat → Int32) (sa : Nat → Nat → Int32) (sl : Nat → Nat → Int64) (ns : Nat → Int32) (na : Nat → Nat → Int32) (nl : Nat → Nat → Int64) (y_isThere : Int32) (y_taken : Nat → Int32) (y_took : Nat → Int32) (o_of : Nat → Int64) (p1 : Int32) {post : Int32 → Prop} (h : P_X11_took rs ra p1 post) : Met l yX11_took vsX11_took rmX11_took (cPre D C [.ref L0, .int p1] sz ([cLockRail L0 (aU 0) (aR 0) (aR2 0) h_images (aS 0) n0 y0 o0 C ] ++ (wReader aU C us ua ++ (wRail aR C rs ra ++ (wRail aR2 C rs2 ra2 ++ (wSlots aS C sa sl ++ (wNight n0 aN C ns na nl ++ ([cYear y0 y1 y2 C y_isThere y_taken y_took] ++ ([cOb o0 C o_of]))))))))) (cQi D (fun (r : Int32) (u : Unit) => post r ) (fun u => [cLockRail L0 (aU 0) (aR 0) (aR2 0) h_images (aS 0) n0 y0 o0 C ] ++ (wReader aU C us ua ++ (wRail aR C rs ra ++ (wRail aR2 C rs2 ra2 ++ (wSlots aS C sa sl ++ (wNight n0 aN C ns na nl ++ ([cYear y0 y1 y2 C y_isThere y_taken y_took] ++ ([cOb o0 C o_of])))))))) (va_A (List.flatten ([cLockRail L0 (aU 0) (aR 0) (aR2 0) h_images (aS 0) n0 y0 o0 C ] ++ (wReader aU C us ua ++ (wRail aR C rs ra ++ (wRail aR2 C rs2 ra2 ++ (wSlots aS C sa sl ++ (wNight n0 aN C ns na nl ++ ([cYear y0 y1 y2 C y_isThere y_taken y_took] ++ ([cOb o0 C o_of]))))))))) sz)) 0 0 (va_A (List.flatten ([cLockRail L0 (aU 0) (aR 0) (aR2 0) h_images (aS 0) n0 y0 o0 C ] ++ (wReader aU C us ua ++ (wRail aR C rs ra ++ (wRail aR2 C rs2 ra2 ++ (wSlots aS C sa sl ++ (wNight n0 aN C ns na nl ++ ([cYear y0 y1 y2 C y_isThere y_taken y_took] ++ ([cOb o0 C o_of]))))))))) sz) := by
  refine cStart (QA := fun A => cQi D (fun (r : Int32) (u : Unit) => post r ) (fun u => [cLockRail L0 (aU 0) (aR 0) (aR2 0) h_images (aS 0) n0 y0 o0 C ] ++ (wReader aU C us ua ++ (wRail aR C rs ra ++ (wRail aR2 C rs2 ra2 ++ (wSlots aS C sa sl ++ (wNight n0 aN C ns na nl ++ ([cYear y0 y1 y2 C y_isThere y_taken y_took] ++ ([cOb o0 C o_of])))))))) A) (cc := cX11_took) (maxL := 2) (ret := (some .int)) (by decide) (Nat.le_of_ble_eq_true rfl) ?_
  intro p e s m args below meth c A ls hx hb hr hml hown hw hlocks hname hK hN hA hP hD hS hl
  generalize hQ : MQ below _ args s 0 0 A = Q
  have hl : lv_has ls 2 [(0, .ref L0), (1, .int p1)] := hl
  have hn325 : (Cond.fieldLinkNest "LockRail" 325 "LockRail$Rail" "year" "LLockRail$Year;" "LockRail").before args s = true := hN.f 74 rfl
  have hn357 : (Cond.fieldLinkNest "LockRail" 357 "LockRail$Year" "isThere" "Z" "LockRail").before args s = true := hN.f 42 rfl
  have hn363 : (Cond.fieldLinkNest "LockRail" 363 "LockRail$Year" "took" "[I" "LockRail").before args s = true := hN.f 47 rfl
  obtain ⟨H, hH⟩ : ∃ H, H = s.heap := ⟨_, rfl⟩
  obtain ⟨locs, hlo⟩ : ∃ z : List Loc, z = [] := ⟨_, rfl⟩
  have hP : va_P D vwCl (List.flatten ([cLockRail L0 (aU 0) (aR 0) (aR2 0) h_images (aS 0) n0 y0 o0 C ] ++ (wReader aU C us ua ++ (wRail aR C rs ra ++ (wRail aR2 C rs2 ra2 ++ (wSlots aS C sa sl ++ (wNight n0 aN C ns na nl ++ ([cYear y0 y1 y2 C y_isThere y_taken y_took] ++ ([cOb o0 C o_of]))))))))) H := by rw [hH]; exact hP
  have hS : va_S A s.heap H locs := by rw [hH, hlo]; exact hS
  rw [show W p l e rmX11_took s m args below meth c s.heap [] 0 0 Q (F0 m 0 ls []) = W p l e rmX11_took s m args below meth c H locs 0 0 Q (F0 m 0 ls []) from by rw [hH, hlo]]
  refine lv_aload_n hx hb dX11_took_0 rfl (lv_at hl 0 rfl) ?_
  refine va_get (D := D) (ci := 11) (v := .ref (aR 0)) (C := RX11) (T := TX11) (N := 8) hx hb hw inW_X11 hown hK hP 0 rfl rfl 1 (by decide) (hw _ mw_2_144) (fun _ h9 => h9) rfl dX11_took_1 ?_
  refine lv_iload_n hx hb dX11_took_4 rfl (lv_at hl 1 rfl) ?_
  refine cGoI (wo := fun u => [cLockRail L0 (aU 0) (aR 0) (aR2 0) h_images (aS 0) n0 y0 o0 C ] ++ (wReader aU C us ua ++ (wRail aR C rs ra ++ (wRail aR2 C rs2 ra2 ++ (wSlots aS C sa sl ++ (wNight n0 aN C ns na nl ++ ([cYear y0 y1 y2 C y_isThere y_taken y_took] ++ ([cOb o0 C o_of])))))))) (cRunVN (As := [.int p1]) (rest := []) ⟨hx, hb, hml, hown, hw⟩ hK hN hP hD [3, 4, 5, 6, 7, 8] rfl rfl (k_X4_hasThief l D C _ aR  rs ra p1 h) ⟨va_cnB 1 hw (goodN mw_3_191) rfl rfl rfl (hN.m 32 rfl) (hw _ mw_1_4) (by decide +kernel) ⟨Nat.le_of_ble_eq_true rfl, Nat.le_of_ble_eq_true rfl⟩, hw _ mw_3_190, hw _ mw_s35⟩ rfl rfl rfl hl.1 rfl (Nat.le_of_ble_eq_true rfl) dX11_took_5 ⟨Nat.zero_le _, Nat.zero_le _⟩) hP hD hS hA [3, 4, 5, 6, 7, 8] [0, 1, 2, 9, 10, 11, 12, 13, 14, 15, 16, 17, 18, 19, 20] [0, 1, 2, 15, 16, 17, 18, 19, 20, 3, 4, 5, 6, 7, 8, 9, 10, 11, 12, 13, 14] rfl rfl rfl (by decide) rfl (fun _ => rfl) (fun r1 u H locs h hP hD hS => ?_)
  have hP : va_P D vwCl (List.flatten ([cLockRail L0 (aU 0) (aR 0) (aR2 0) h_images (aS 0) n0 y0 o0 C ] ++ (wReader aU C us ua ++ (wRail aR C rs ra ++ (wRail aR2 C rs2 ra2 ++ (wSlots aS C sa sl ++ (wNight n0 aN C ns na nl ++ ([cYear y0 y1 y2 C y_isThere y_taken y_took] ++ ([cOb o0 C o_of]))))))))) H := hP
  have hD : va_D A (List.flatten ([cLockRail L0 (aU 0) (aR 0) (aR2 0) h_images (aS 0) n0 y0 o0 C ] ++ (wReader aU C us ua ++ (wRail aR C rs ra ++ (wRail aR2 C rs2 ra2 ++ (wSlots aS C sa sl ++ (wNight n0 aN C ns na nl ++ ([cYear y0 y1 y2 C y_isThere y_taken y_took] ++ ([cOb o0 C o_of]))))))))) := hD
  refine lv_if_ne (tgt := 14) hx hb dX11_took_8 (by decide) (fun c2 => ?_) (fun c2 => ?_)
  · have h := h.1 c2
    refine lv_aload_n hx hb dX11_took_14 rfl (lv_at hl 0 rfl) ?_
    refine va_get (D := D) (ci := 11) (v := .ref (aR 0)) (C := RX11) (T := TX11) (N := 8) hx hb hw inW_X11 hown hK hP 0 rfl rfl 1 (by decide) (hw _ mw_2_144) (fun _ h9 => h9) rfl dX11_took_15 ?_
    refine va_getN (D := D) (ci := 4) (v := .ref (aR 19)) (C := RX4) (T := TX4) (N := 16) hx hb hw inW_X4 hown hK hP 4 rfl rfl 15 (by decide) hn325 (fun _ h9 => h9) rfl dX11_took_18 ?_
    refine va_getN (D := D) (ci := 10) (v := .int (rs 15)) (C := RX10) (T := TX10) (N := 3) hx hb hw inW_X10 hown hK hP 23 rfl rfl 0 (by decide) hn357 (fun _ h9 => h9) rfl dX11_took_21 ?_
    refine lv_if_eq (tgt := 42) hx hb dX11_took_24 (by decide) (fun c3 => ?_) (fun c3 => ?_)
    · have h := h.1 c3
      refine lv_iconst (v := (-1)) hx hb dX11_took_42 (by decide) ?_
      rw [← hQ]
      exact cRetI (v := (-1)) () hx hb hr hlocks hS hP hD h dX11_took_43
    · have h := h.2 c3
      refine lv_aload_n hx hb dX11_took_27 rfl (lv_at hl 0 rfl) ?_
      refine va_get (D := D) (ci := 11) (v := .ref (aR 0)) (C := RX11) (T := TX11) (N := 8) hx hb hw inW_X11 hown hK hP 0 rfl rfl 1 (by decide) (hw _ mw_2_144) (fun _ h9 => h9) rfl dX11_took_28 ?_
      refine va_getN (D := D) (ci := 4) (v := .ref (aR 19)) (C := RX4) (T := TX4) (N := 16) hx hb hw inW_X4 hown hK hP 4 rfl rfl 15 (by decide) hn325 (fun _ h9 => h9) rfl dX11_took_31 ?_
      refine va_getN (D := D) (ci := 10) (v := .ref (aR 21)) (C := RX10) (T := TX10) (N := 3) hx hb hw inW_X10 hown hK hP 23 rfl rfl 2 (by decide) hn363 (fun _ h9 => h9) rfl dX11_took_34 ?_
      refine lv_iload_n hx hb dX11_took_37 rfl (lv_at hl 1 rfl) ?_
      refine cIald hx hb hK hP 25 0 rfl rfl p1.toNatClampNeg rfl h.1 dX11_took_38 ?_
      have h := h.2
      refine lv_goto (tgt := 43) hx hb dX11_took_39 (by decide) ?_
      rw [← hQ]
      exact cRetI (v := (ra 15 p1.toNatClampNeg)) () hx hb hr hlocks hS hP hD h dX11_took_43
  · have h := h.2 c2
    refine lv_bipush (v := (-2)) hx hb dX11_took_11 (by decide) ?_
    rw [← hQ]
    exact cRetI (v := (-2)) () hx hb hr hlocks hS hP hD h dX11_took_13
abbrev vsX11_years : List Cond := Cond.code yX11_years cX11_years 12 (some .long) :: WS
abbrev rmX11_years : Room := { frames := 4, cells := 0, slots := 0, locals := 98 }
set_option maxHeartbeats 4000000 in
set_option maxRecDepth 100000 in
theorem k_X11_years (l : Launch) (D : va_G) (C : Nat → ClassId) (sz : Nat) (L0 : Nat) (aU : Nat → Nat) (aR : Nat → Nat) (aR2 : Nat → Nat) (aS : Nat → Nat) (n0 : Nat) (aN : Nat → Nat) (y0 : Nat) (y1 : Nat) (y2 : Nat) (o0 : Nat) (h_images : Nat) (us : Nat → Int32) (ua : Nat → Nat → Int32) (rs : Nat → Int32) (ra : Nat → Nat → Int32) (rs2 : Nat → Int32) (ra2 : Nat → Nat → Int32) (sa : Nat → Nat → Int32) (sl : Nat → Nat → Int64) (ns : Nat → Int32) (na : Nat → Nat → Int32) (nl : Nat → Nat → Int64) (y_isThere : Int32) (y_taken : Nat → Int32) (y_took : Nat → Int32) (o_of : Nat → Int64) (p1 : Int32) (p2 : Int32) (p3 : Int32) {post : Int64 → (Nat → Int32) → (Nat → Nat → Int32) → (Int32) → (Nat → Int32) → (Nat → Int32) → Prop} (h : P_X11_years rs ra ns na y_isThere y_taken y_took p1 p2 p3 post) : Met l yX11_years vsX11_years rmX11_years (cPre D C [.ref L0, .int p1, .int p2, .int p3] sz ([cLockRail L0 (aU 0) (aR 0) (aR2 0) h_images (aS 0) n0 y0 o0 C ] ++ (wReader aU C us ua ++ (wRail aR C rs ra ++ (wRail aR2 C rs2 ra2 ++ (wSlots aS C sa sl ++ (wNight n0 aN C ns na nl ++ ([cYear y0 y1 y2 C y_isThere y_taken y_took] ++ ([cOb o0 C o_of]))))))))) (cQl D (fun (r : Int64) (u : (Nat → Int32) × (Nat → Nat → Int32) × (Int32) × (Nat → Int32) × (Nat → Int32)) => post r u.1 u.2.1 u.2.2.1 u.2.2.2.1 u.2.2.2.2) (fun u => [cLockRail L0 (aU 0) (aR 0) (aR2 0) h_images (aS 0) n0 y0 o0 C ] ++ (wReader aU C us ua ++ (wRail aR C rs ra ++ (wRail aR2 C rs2 ra2 ++ (wSlots aS C sa sl ++ (wNight n0 aN C u.1 u.2.1 nl ++ ([cYear y0 y1 y2 C u.2.2.1 u.2.2.2.1 u.2.2.2.2] ++ ([cOb o0 C o_of])))))))) (va_A (List.flatten ([cLockRail L0 (aU 0) (aR 0) (aR2 0) h_images (aS 0) n0 y0 o0 C ] ++ (wReader aU C us ua ++ (wRail aR C rs ra ++ (wRail aR2 C rs2 ra2 ++ (wSlots aS C sa sl ++ (wNight n0 aN C ns na nl ++ ([cYear y0 y1 y2 C y_isThere y_taken y_took] ++ ([cOb o0 C o_of]))))))))) sz)) 0 0 (va_A (List.flatten ([cLockRail L0 (aU 0) (aR 0) (aR2 0) h_images (aS 0) n0 y0 o0 C ] ++ (wReader aU C us ua ++ (wRail aR C rs ra ++ (wRail aR2 C rs2 ra2 ++ (wSlots aS C sa sl ++ (wNight n0 aN C ns na nl ++ ([cYear y0 y1 y2 C y_isThere y_taken y_took] ++ ([cOb o0 C o_of]))))))))) sz) := by
  refine cStart (QA := fun A => cQl D (fun (r : Int64) (u : (Nat → Int32) × (Nat → Nat → Int32) × (Int32) × (Nat → Int32) × (Nat → Int32)) => post r u.1 u.2.1 u.2.2.1 u.2.2.2.1 u.2.2.2.2) (fun u => [cLockRail L0 (aU 0) (aR 0) (aR2 0) h_images (aS 0) n0 y0 o0 C ] ++ (wReader aU C us ua ++ (wRail aR C rs ra ++ (wRail aR2 C rs2 ra2 ++ (wSlots aS C sa sl ++ (wNight n0 aN C u.1 u.2.1 nl ++ ([cYear y0 y1 y2 C u.2.2.1 u.2.2.2.1 u.2.2.2.2] ++ ([cOb o0 C o_of])))))))) A) (cc := cX11_years) (maxL := 12) (ret := (some .long)) (by decide) (Nat.le_of_ble_eq_true rfl) ?_
  intro p e s m args below meth c A ls hx hb hr hml hown hw hlocks hname hK hN hA hP hD hS hl
  generalize hQ : MQ below _ args s 0 0 A = Q
  have hl : lv_has ls 12 [(0, .ref L0), (1, .int p1), (2, .int p2), (3, .int p3)] := hl
  obtain ⟨H, hH⟩ : ∃ H, H = s.heap := ⟨_, rfl⟩
  obtain ⟨locs, hlo⟩ : ∃ z : List Loc, z = [] := ⟨_, rfl⟩
  have hP : va_P D vwCl (List.flatten ([cLockRail L0 (aU 0) (aR 0) (aR2 0) h_images (aS 0) n0 y0 o0 C ] ++ (wReader aU C us ua ++ (wRail aR C rs ra ++ (wRail aR2 C rs2 ra2 ++ (wSlots aS C sa sl ++ (wNight n0 aN C ns na nl ++ ([cYear y0 y1 y2 C y_isThere y_taken y_took] ++ ([cOb o0 C o_of]))))))))) H := by rw [hH]; exact hP
  have hS : va_S A s.heap H locs := by rw [hH, hlo]; exact hS
  rw [show W p l e rmX11_years s m args below meth c s.heap [] 0 0 Q (F0 m 0 ls []) = W p l e rmX11_years s m args below meth c H locs 0 0 Q (F0 m 0 ls []) from by rw [hH, hlo]]
  have N131 : ∀ (x4_ : Int64) (x6_ : Int64) (x8_ : Int64) (ns : Nat → Int32) (na : Nat → Nat → Int32) (y_isThere : Int32) (y_taken : Nat → Int32) (y_took : Nat → Int32) (H : Heap) (locs : List Loc) (ls : Array Slot), P_X11_years_131 rs ra p1 p2 p3 post  x4_ x6_ x8_ ns na y_isThere y_taken y_took → va_P D vwCl (List.flatten ([cLockRail L0 (aU 0) (aR 0) (aR2 0) h_images (aS 0) n0 y0 o0 C ] ++ (wReader aU C us ua ++ (wRail aR C rs ra ++ (wRail aR2 C rs2 ra2 ++ (wSlots aS C sa sl ++ (wNight n0 aN C ns na nl ++ ([cYear y0 y1 y2 C y_isThere y_taken y_took] ++ ([cOb o0 C o_of]))))))))) H → va_D A (List.flatten ([cLockRail L0 (aU 0) (aR 0) (aR2 0) h_images (aS 0) n0 y0 o0 C ] ++ (wReader aU C us ua ++ (wRail aR C rs ra ++ (wRail aR2 C rs2 ra2 ++ (wSlots aS C sa sl ++ (wNight n0 aN C ns na nl ++ ([cYear y0 y1 y2 C y_isThere y_taken y_took] ++ ([cOb o0 C o_of]))))))))) → va_S A s.heap H locs → lv_has ls 12 [(3, .int p3), (4, .long x4_), (6, .long x6_), (8, .long x8_)] → W p l e rmX11_years s m args below meth c H locs 0 0 Q (F0 m 131 ls []) := by
    intro x4_ x6_ x8_ ns na y_isThere y_taken y_took H locs ls h hP hD hS hl
    refine lv_iload_n hx hb dX11_years_131 rfl (lv_at hl 0 rfl) ?_
    refine lv_if_ne (tgt := 140) hx hb dX11_years_132 (by decide) (fun c1 => ?_) (fun c1 => ?_)
    · have h := h.1 c1
      refine lv_iload_n hx hb dX11_years_140 rfl (lv_at hl 0 rfl) ?_
      refine lv_iconst (v := 1) hx hb dX11_years_141 (by decide) ?_
      refine lv_icmp_ne (tgt := 150) hx hb dX11_years_142 (by decide) (fun c2 => ?_) (fun c2 => ?_)
      · have h := h.1 c2
        refine lv_lload hx hb dX11_years_150 (lv_at hl 3 rfl) ?_
        rw [← hQ]
        exact cRetL (v := x8_) (ns, na, y_isThere, y_taken, y_took) hx hb hr hlocks hS hP hD h dX11_years_152
      · have h := h.2 c2
        refine lv_lload hx hb dX11_years_145 (lv_at hl 2 rfl) ?_
        refine lv_goto (tgt := 152) hx hb dX11_years_147 (by decide) ?_
        rw [← hQ]
        exact cRetL (v := x6_) (ns, na, y_isThere, y_taken, y_took) hx hb hr hlocks hS hP hD h dX11_years_152
    · have h := h.2 c1
      refine lv_lload hx hb dX11_years_135 (lv_at hl 1 rfl) ?_
      refine lv_goto (tgt := 152) hx hb dX11_years_137 (by decide) ?_
      rw [← hQ]
      exact cRetL (v := x4_) (ns, na, y_isThere, y_taken, y_took) hx hb hr hlocks hS hP hD h dX11_years_152
  have N64 : ∀ (ns : Nat → Int32) (na : Nat → Nat → Int32) (n64 : Nat) (x4_ : Int64) (x6_ : Int64) (x8_ : Int64) (x10_ : Int32) (y_isThere : Int32) (y_taken : Nat → Int32) (y_took : Nat → Int32) (H : Heap) (locs : List Loc) (ls : Array Slot), P_X11_years_64 rs ra p1 p2 p3 post (fun (x4_ : Int64) (x6_ : Int64) (x8_ : Int64) (ns : Nat → Int32) (na : Nat → Nat → Int32) (y_isThere : Int32) (y_taken : Nat → Int32) (y_took : Nat → Int32) => P_X11_years_131 rs ra p1 p2 p3 post  x4_ x6_ x8_ ns na y_isThere y_taken y_took) ns na n64 x4_ x6_ x8_ x10_ y_isThere y_taken y_took → va_P D vwCl (List.flatten ([cLockRail L0 (aU 0) (aR 0) (aR2 0) h_images (aS 0) n0 y0 o0 C ] ++ (wReader aU C us ua ++ (wRail aR C rs ra ++ (wRail aR2 C rs2 ra2 ++ (wSlots aS C sa sl ++ (wNight n0 aN C ns na nl ++ ([cYear y0 y1 y2 C y_isThere y_taken y_took] ++ ([cOb o0 C o_of]))))))))) H → va_D A (List.flatten ([cLockRail L0 (aU 0) (aR 0) (aR2 0) h_images (aS 0) n0 y0 o0 C ] ++ (wReader aU C us ua ++ (wRail aR C rs ra ++ (wRail aR2 C rs2 ra2 ++ (wSlots aS C sa sl ++ (wNight n0 aN C ns na nl ++ ([cYear y0 y1 y2 C y_isThere y_taken y_took] ++ ([cOb o0 C o_of]))))))))) → va_S A s.heap H locs → lv_has ls 12 [(0, .ref L0), (1, .int p1), (2, .int p2), (3, .int p3), (4, .long x4_), (6, .long x6_), (8, .long x8_), (10, .int x10_)] → W p l e rmX11_years s m args below meth c H locs 0 0 Q (F0 m 64 ls []) := by
    intro ns na
    intro n64
    induction n64 with
    | zero => intro x4_ x6_ x8_ x10_ y_isThere y_taken y_took H locs ls h hP hD hS hl; exact False.elim h
    | succ n64 ih64 =>
      intro x4_ x6_ x8_ x10_ y_isThere y_taken y_took H locs ls h hP hD hS hl
      refine lv_iload hx hb dX11_years_64 (lv_at hl 7 rfl) ?_
      refine lv_iload_n hx hb dX11_years_66 rfl (lv_at hl 2 rfl) ?_
      refine lv_icmp_ge (tgt := 131) hx hb dX11_years_67 (by decide) (fun c3 => ?_) (fun c3 => ?_)
      · have h := h.1 c3
        exact N131 x4_ x6_ x8_ ns na y_isThere y_taken y_took _ _ _ h hP hD hS (lv_sub hl [3, 4, 5, 6] rfl)
      · have h := h.2 c3
        refine lv_aload_n hx hb dX11_years_70 rfl (lv_at hl 0 rfl) ?_
        refine va_get (D := D) (ci := 11) (v := .ref n0) (C := RX11) (T := TX11) (N := 8) hx hb hw inW_X11 hown hK hP 0 rfl rfl 5 (by decide) (hw _ mw_2_148) (fun _ h9 => h9) rfl dX11_years_71 ?_
        refine lv_aload_n hx hb dX11_years_74 rfl (lv_at hl 0 rfl) ?_
        refine va_get (D := D) (ci := 11) (v := .ref (aR 0)) (C := RX11) (T := TX11) (N := 8) hx hb hw inW_X11 hown hK hP 0 rfl rfl 1 (by decide) (hw _ mw_2_144) (fun _ h9 => h9) rfl dX11_years_75 ?_
        refine lv_iload_n hx hb dX11_years_78 rfl (lv_at hl 1 rfl) ?_
        refine lv_iload hx hb dX11_years_79 (lv_at hl 7 rfl) ?_
        refine lv_iadd hx hb dX11_years_81 ?_
        refine lv_aload_n hx hb dX11_years_82 rfl (lv_at hl 0 rfl) ?_
        refine va_get (D := D) (ci := 11) (v := .ref y0) (C := RX11) (T := TX11) (N := 8) hx hb hw inW_X11 hown hK hP 0 rfl rfl 6 (by decide) (hw _ mw_2_149) (fun _ h9 => h9) rfl dX11_years_83 ?_
        refine cGoI (wo := fun u => [cLockRail L0 (aU 0) (aR 0) (aR2 0) h_images (aS 0) n0 y0 o0 C ] ++ (wReader aU C us ua ++ (wRail aR C rs ra ++ (wRail aR2 C rs2 ra2 ++ (wSlots aS C sa sl ++ (wNight n0 aN C ns na nl ++ ([cYear y0 y1 y2 C u.1 u.2.1 u.2.2] ++ ([cOb o0 C o_of])))))))) (cRunVN (As := [.ref (aR 0), .int (p1 + x10_), .ref y0]) (rest := []) ⟨hx, hb, hml, hown, hw⟩ hK hN hP hD [16, 17, 18, 3, 4, 5, 6, 7, 8, 19] rfl rfl (k_X3_drawYear l D C _ n0 aN aR y0 y1 y2  ns na nl rs ra y_isThere y_taken y_took (p1 + x10_) h) ⟨va_cnB 3 hw (goodN mw_5_164) rfl rfl rfl (hN.m 71 rfl) (hw _ mw_1_11) (by decide +kernel) ⟨Nat.le_of_ble_eq_true rfl, Nat.le_of_ble_eq_true rfl⟩, hw _ mw_5_163, hw _ mw_s93⟩ rfl rfl rfl hl.1 rfl (Nat.le_of_ble_eq_true rfl) dX11_years_86 ⟨Nat.zero_le _, Nat.zero_le _⟩) hP hD hS hA [16, 17, 18, 3, 4, 5, 6, 7, 8, 19] [0, 1, 2, 9, 10, 11, 12, 13, 14, 15, 20] [0, 1, 2, 14, 15, 16, 17, 18, 19, 3, 4, 5, 6, 7, 8, 9, 11, 12, 13, 20, 10] rfl rfl rfl (by decide) rfl (fun _ => rfl) (fun r7 u H locs h hP hD hS => ?_)
        obtain ⟨isT_4, tak_5, too_6⟩ := u
        have hP : va_P D vwCl (List.flatten ([cLockRail L0 (aU 0) (aR 0) (aR2 0) h_images (aS 0) n0 y0 o0 C ] ++ (wReader aU C us ua ++ (wRail aR C rs ra ++ (wRail aR2 C rs2 ra2 ++ (wSlots aS C sa sl ++ (wNight n0 aN C ns na nl ++ ([cYear y0 y1 y2 C isT_4 tak_5 too_6] ++ ([cOb o0 C o_of]))))))))) H := hP
        have hD : va_D A (List.flatten ([cLockRail L0 (aU 0) (aR 0) (aR2 0) h_images (aS 0) n0 y0 o0 C ] ++ (wReader aU C us ua ++ (wRail aR C rs ra ++ (wRail aR2 C rs2 ra2 ++ (wSlots aS C sa sl ++ (wNight n0 aN C ns na nl ++ ([cYear y0 y1 y2 C isT_4 tak_5 too_6] ++ ([cOb o0 C o_of]))))))))) := hD
        refine lv_istore (lv' := [(11, .int r7), (0, .ref L0), (1, .int p1), (2, .int p2), (3, .int p3), (4, .long x4_), (6, .long x6_), (8, .long x8_), (10, .int x10_)]) hx hb dX11_years_89 hl (by decide) rfl (fun ls hl => ?_)
        refine lv_lload hx hb dX11_years_91 (lv_at hl 5 rfl) ?_
        refine lv_iload hx hb dX11_years_93 (lv_at hl 0 rfl) ?_
        refine lv_i2l hx hb dX11_years_95 rfl ?_
        refine lv_ladd hx hb dX11_years_96 ?_
        refine lv_topl (fun x8 ex8 => ?_)
        have h := h x8 ex8
        refine lv_lstore (lv' := [(4, .long x8), (11, .int r7), (0, .ref L0), (1, .int p1), (2, .int p2), (3, .int p3), (6, .long x6_), (8, .long x8_), (10, .int x10_)]) hx hb dX11_years_97 hl (by decide) rfl (fun ls hl => ?_)
        refine lv_lload hx hb dX11_years_99 (lv_at hl 6 rfl) ?_
        refine lv_iload hx hb dX11_years_101 (lv_at hl 1 rfl) ?_
        refine lv_i2l hx hb dX11_years_103 rfl ?_
        refine va_mmax_long hx hb (hml.trans hl.1.symm) hown (hw _ mw_5_216) (hw _ mw_5_217) (hw _ mw_1_14) (hw _ mw_5_218) (Nat.le_of_ble_eq_true rfl) (Nat.le_of_ble_eq_true rfl) (Nat.zero_le _) (Nat.zero_le _) dX11_years_104 ?_
        refine lv_topl (fun x9 ex9 => ?_)
        have h := h x9 ex9
        refine lv_lstore (lv' := [(6, .long x9), (4, .long x8), (11, .int r7), (0, .ref L0), (1, .int p1), (2, .int p2), (3, .int p3), (8, .long x8_), (10, .int x10_)]) hx hb dX11_years_107 hl (by decide) rfl (fun ls hl => ?_)
        refine lv_lload hx hb dX11_years_109 (lv_at hl 7 rfl) ?_
        refine lv_aload_n hx hb dX11_years_111 rfl (lv_at hl 3 rfl) ?_
        refine va_get (D := D) (ci := 11) (v := .ref (aR 0)) (C := RX11) (T := TX11) (N := 8) hx hb hw inW_X11 hown hK hP 0 rfl rfl 1 (by decide) (hw _ mw_2_144) (fun _ h9 => h9) rfl dX11_years_112 ?_
        refine lv_aload_n hx hb dX11_years_115 rfl (lv_at hl 3 rfl) ?_
        refine va_get (D := D) (ci := 11) (v := .ref y0) (C := RX11) (T := TX11) (N := 8) hx hb hw inW_X11 hown hK hP 0 rfl rfl 6 (by decide) (hw _ mw_2_149) (fun _ h9 => h9) rfl dX11_years_116 ?_
        refine cGoL (wo := fun u => [cLockRail L0 (aU 0) (aR 0) (aR2 0) h_images (aS 0) n0 y0 o0 C ] ++ (wReader aU C us ua ++ (wRail aR C rs ra ++ (wRail aR2 C rs2 ra2 ++ (wSlots aS C sa sl ++ (wNight n0 aN C ns na nl ++ ([cYear y0 y1 y2 C isT_4 tak_5 too_6] ++ ([cOb o0 C o_of])))))))) (cRunVN (As := [.ref y0]) (rest := [.long x8_]) ⟨hx, hb, hml, hown, hw⟩ hK hN hP hD [3, 4, 5, 6, 7, 8, 19] rfl rfl (k_X4_worthTaken l D C _ aR y0 y1 y2  rs ra isT_4 tak_5 too_6  h) ⟨va_cnB 1 hw (goodN mw_5_222) rfl rfl rfl (hN.m 80 rfl) (hw _ mw_1_4) (by decide +kernel) ⟨Nat.le_of_ble_eq_true rfl, Nat.le_of_ble_eq_true rfl⟩, hw _ mw_5_221, hw _ mw_s101⟩ rfl rfl rfl hl.1 rfl (Nat.le_of_ble_eq_true rfl) dX11_years_119 ⟨Nat.zero_le _, Nat.zero_le _⟩) hP hD hS hA [3, 4, 5, 6, 7, 8, 19] [0, 1, 2, 9, 10, 11, 12, 13, 14, 15, 16, 17, 18, 20] [0, 1, 2, 14, 15, 16, 17, 18, 19, 3, 4, 5, 6, 7, 8, 9, 10, 11, 12, 20, 13] rfl rfl rfl (by decide) rfl (fun _ => rfl) (fun r10 u H locs h hP hD hS => ?_)
        have hP : va_P D vwCl (List.flatten ([cLockRail L0 (aU 0) (aR 0) (aR2 0) h_images (aS 0) n0 y0 o0 C ] ++ (wReader aU C us ua ++ (wRail aR C rs ra ++ (wRail aR2 C rs2 ra2 ++ (wSlots aS C sa sl ++ (wNight n0 aN C ns na nl ++ ([cYear y0 y1 y2 C isT_4 tak_5 too_6] ++ ([cOb o0 C o_of]))))))))) H := hP
        have hD : va_D A (List.flatten ([cLockRail L0 (aU 0) (aR 0) (aR2 0) h_images (aS 0) n0 y0 o0 C ] ++ (wReader aU C us ua ++ (wRail aR C rs ra ++ (wRail aR2 C rs2 ra2 ++ (wSlots aS C sa sl ++ (wNight n0 aN C ns na nl ++ ([cYear y0 y1 y2 C isT_4 tak_5 too_6] ++ ([cOb o0 C o_of]))))))))) := hD
        refine lv_ladd hx hb dX11_years_122 ?_
        refine lv_topl (fun x11 ex11 => ?_)
        have h := h x11 ex11
        refine lv_lstore (lv' := [(8, .long x11), (6, .long x9), (4, .long x8), (11, .int r7), (0, .ref L0), (1, .int p1), (2, .int p2), (3, .int p3), (10, .int x10_)]) hx hb dX11_years_123 hl (by decide) rfl (fun ls hl => ?_)
        refine lv_iinc (v := (x10_ + 1)) (lv' := [(10, .int (x10_ + 1)), (8, .long x11), (6, .long x9), (4, .long x8), (11, .int r7), (0, .ref L0), (1, .int p1), (2, .int p2), (3, .int p3)]) hx hb dX11_years_125 hl (k := 8) rfl rfl (by decide) rfl (fun ls hl => ?_)
        refine lv_goto (tgt := 64) hx hb dX11_years_128 (by decide) ?_
        exact ih64 x8 x9 x11 (x10_ + 1) isT_4 tak_5 too_6 _ _ _ h hP hD hS (lv_sub hl [5, 6, 7, 8, 3, 2, 1, 0] rfl)
  refine lv_aload_n hx hb dX11_years_0 rfl (lv_at hl 0 rfl) ?_
  refine va_get (D := D) (ci := 11) (v := .ref (aR 0)) (C := RX11) (T := TX11) (N := 8) hx hb hw inW_X11 hown hK hP 0 rfl rfl 1 (by decide) (hw _ mw_2_144) (fun _ h9 => h9) rfl dX11_years_1 ?_
  refine cGoI (wo := fun u => [cLockRail L0 (aU 0) (aR 0) (aR2 0) h_images (aS 0) n0 y0 o0 C ] ++ (wReader aU C us ua ++ (wRail aR C rs ra ++ (wRail aR2 C rs2 ra2 ++ (wSlots aS C sa sl ++ (wNight n0 aN C ns na nl ++ ([cYear y0 y1 y2 C y_isThere y_taken y_took] ++ ([cOb o0 C o_of])))))))) (cRunVN (As := []) (rest := []) ⟨hx, hb, hml, hown, hw⟩ hK hN hP hD [3, 4, 5, 6, 7, 8] rfl rfl (k_X4_isTold l D C _ aR  rs ra  h) ⟨va_cnB 0 hw (goodN mw_4_19) rfl rfl rfl (hN.m 44 rfl) (hw _ mw_1_4) (by decide +kernel) ⟨Nat.le_of_ble_eq_true rfl, Nat.le_of_ble_eq_true rfl⟩, hw _ mw_4_18, hw _ mw_s47⟩ rfl rfl rfl hl.1 rfl (Nat.le_of_ble_eq_true rfl) dX11_years_4 ⟨Nat.zero_le _, Nat.zero_le _⟩) hP hD hS hA [3, 4, 5, 6, 7, 8] [0, 1, 2, 9, 10, 11, 12, 13, 14, 15, 16, 17, 18, 19, 20] [0, 1, 2, 15, 16, 17, 18, 19, 20, 3, 4, 5, 6, 7, 8, 9, 10, 11, 12, 13, 14] rfl rfl rfl (by decide) rfl (fun _ => rfl) (fun r12 u H locs h hP hD hS => ?_)
  have hP : va_P D vwCl (List.flatten ([cLockRail L0 (aU 0) (aR 0) (aR2 0) h_images (aS 0) n0 y0 o0 C ] ++ (wReader aU C us ua ++ (wRail aR C rs ra ++ (wRail aR2 C rs2 ra2 ++ (wSlots aS C sa sl ++ (wNight n0 aN C ns na nl ++ ([cYear y0 y1 y2 C y_isThere y_taken y_took] ++ ([cOb o0 C o_of]))))))))) H := hP
  have hD : va_D A (List.flatten ([cLockRail L0 (aU 0) (aR 0) (aR2 0) h_images (aS 0) n0 y0 o0 C ] ++ (wReader aU C us ua ++ (wRail aR C rs ra ++ (wRail aR2 C rs2 ra2 ++ (wSlots aS C sa sl ++ (wNight n0 aN C ns na nl ++ ([cYear y0 y1 y2 C y_isThere y_taken y_took] ++ ([cOb o0 C o_of]))))))))) := hD
  refine lv_if_eq (tgt := 37) hx hb dX11_years_7 (by decide) (fun c13 => ?_) (fun c13 => ?_)
  · have h := h.1 c13
    refine lv_ldc2 (v := (-2)) hx hb hown (hw _ mw_4_20) dX11_years_37 ?_
    rw [← hQ]
    exact cRetL (v := (-2)) (ns, na, y_isThere, y_taken, y_took) hx hb hr hlocks hS hP hD h dX11_years_40
  · have h := h.2 c13
    refine lv_iload_n hx hb dX11_years_10 rfl (lv_at hl 1 rfl) ?_
    refine cGoI (wo := fun u => [cLockRail L0 (aU 0) (aR 0) (aR2 0) h_images (aS 0) n0 y0 o0 C ] ++ (wReader aU C us ua ++ (wRail aR C rs ra ++ (wRail aR2 C rs2 ra2 ++ (wSlots aS C sa sl ++ (wNight n0 aN C ns na nl ++ ([cYear y0 y1 y2 C y_isThere y_taken y_took] ++ ([cOb o0 C o_of])))))))) (cRunS (As := [.int p1]) (rest := []) ⟨hx, hb, hml, hown, hw⟩ hK hN hP hD [] rfl rfl (k_X11_isSeed l D C _    p1 h) (va_cwS 1 hw (goodS mw_5_157 mw_5_158 mw_1_1 mw_5_159) rfl rfl rfl (by decide +kernel) ⟨Nat.le_of_ble_eq_true rfl, Nat.le_of_ble_eq_true rfl⟩) rfl hl.1 rfl (Nat.le_of_ble_eq_true rfl) dX11_years_11 ⟨Nat.zero_le _, Nat.zero_le _⟩) hP hD hS hA [] [0, 1, 2, 3, 4, 5, 6, 7, 8, 9, 10, 11, 12, 13, 14, 15, 16, 17, 18, 19, 20] [0, 1, 2, 3, 4, 5, 6, 7, 8, 9, 10, 11, 12, 13, 14, 15, 16, 17, 18, 19, 20] rfl rfl rfl (by decide) rfl (fun _ => rfl) (fun r14 u H locs h hP hD hS => ?_)
    have hP : va_P D vwCl (List.flatten ([cLockRail L0 (aU 0) (aR 0) (aR2 0) h_images (aS 0) n0 y0 o0 C ] ++ (wReader aU C us ua ++ (wRail aR C rs ra ++ (wRail aR2 C rs2 ra2 ++ (wSlots aS C sa sl ++ (wNight n0 aN C ns na nl ++ ([cYear y0 y1 y2 C y_isThere y_taken y_took] ++ ([cOb o0 C o_of]))))))))) H := hP
    have hD : va_D A (List.flatten ([cLockRail L0 (aU 0) (aR 0) (aR2 0) h_images (aS 0) n0 y0 o0 C ] ++ (wReader aU C us ua ++ (wRail aR C rs ra ++ (wRail aR2 C rs2 ra2 ++ (wSlots aS C sa sl ++ (wNight n0 aN C ns na nl ++ ([cYear y0 y1 y2 C y_isThere y_taken y_took] ++ ([cOb o0 C o_of]))))))))) := hD
    refine lv_if_eq (tgt := 37) hx hb dX11_years_14 (by decide) (fun c15 => ?_) (fun c15 => ?_)
    · have h := h.1 c15
      refine lv_ldc2 (v := (-2)) hx hb hown (hw _ mw_4_20) dX11_years_37 ?_
      rw [← hQ]
      exact cRetL (v := (-2)) (ns, na, y_isThere, y_taken, y_took) hx hb hr hlocks hS hP hD h dX11_years_40
    · have h := h.2 c15
      refine lv_iload_n hx hb dX11_years_17 rfl (lv_at hl 2 rfl) ?_
      refine lv_iconst (v := 1) hx hb dX11_years_18 (by decide) ?_
      refine lv_icmp_lt (tgt := 37) hx hb dX11_years_19 (by decide) (fun c16 => ?_) (fun c16 => ?_)
      · have h := h.1 c16
        refine lv_ldc2 (v := (-2)) hx hb hown (hw _ mw_4_20) dX11_years_37 ?_
        rw [← hQ]
        exact cRetL (v := (-2)) (ns, na, y_isThere, y_taken, y_took) hx hb hr hlocks hS hP hD h dX11_years_40
      · have h := h.2 c16
        refine lv_iload_n hx hb dX11_years_22 rfl (lv_at hl 2 rfl) ?_
        refine lv_bipush (v := 100) hx hb dX11_years_23 (by decide) ?_
        refine lv_icmp_gt (tgt := 37) hx hb dX11_years_25 (by decide) (fun c17 => ?_) (fun c17 => ?_)
        · have h := h.1 c17
          refine lv_ldc2 (v := (-2)) hx hb hown (hw _ mw_4_20) dX11_years_37 ?_
          rw [← hQ]
          exact cRetL (v := (-2)) (ns, na, y_isThere, y_taken, y_took) hx hb hr hlocks hS hP hD h dX11_years_40
        · have h := h.2 c17
          refine lv_iload_n hx hb dX11_years_28 rfl (lv_at hl 3 rfl) ?_
          refine lv_if_lt (tgt := 37) hx hb dX11_years_29 (by decide) (fun c18 => ?_) (fun c18 => ?_)
          · have h := h.1 c18
            refine lv_ldc2 (v := (-2)) hx hb hown (hw _ mw_4_20) dX11_years_37 ?_
            rw [← hQ]
            exact cRetL (v := (-2)) (ns, na, y_isThere, y_taken, y_took) hx hb hr hlocks hS hP hD h dX11_years_40
          · have h := h.2 c18
            refine lv_iload_n hx hb dX11_years_32 rfl (lv_at hl 3 rfl) ?_
            refine lv_iconst (v := 2) hx hb dX11_years_33 (by decide) ?_
            refine lv_icmp_le (tgt := 41) hx hb dX11_years_34 (by decide) (fun c19 => ?_) (fun c19 => ?_)
            · have h := h.1 c19
              refine lv_aload_n hx hb dX11_years_41 rfl (lv_at hl 0 rfl) ?_
              refine va_get (D := D) (ci := 11) (v := .ref n0) (C := RX11) (T := TX11) (N := 8) hx hb hw inW_X11 hown hK hP 0 rfl rfl 5 (by decide) (hw _ mw_2_148) (fun _ h9 => h9) rfl dX11_years_42 ?_
              refine lv_aload_n hx hb dX11_years_45 rfl (lv_at hl 0 rfl) ?_
              refine va_get (D := D) (ci := 11) (v := .ref (aR 0)) (C := RX11) (T := TX11) (N := 8) hx hb hw inW_X11 hown hK hP 0 rfl rfl 1 (by decide) (hw _ mw_2_144) (fun _ h9 => h9) rfl dX11_years_46 ?_
              refine cGoV (wo := fun u => [cLockRail L0 (aU 0) (aR 0) (aR2 0) h_images (aS 0) n0 y0 o0 C ] ++ (wReader aU C us ua ++ (wRail aR C rs ra ++ (wRail aR2 C rs2 ra2 ++ (wSlots aS C sa sl ++ (wNight n0 aN C u.1 u.2 nl ++ ([cYear y0 y1 y2 C y_isThere y_taken y_took] ++ ([cOb o0 C o_of])))))))) (cRunVN (As := [.ref (aR 0)]) (rest := []) ⟨hx, hb, hml, hown, hw⟩ hK hN hP hD [16, 17, 18, 3, 4, 5, 6, 7, 8] rfl rfl (k_X3_lookAt l D C _ n0 aN aR  ns na nl rs ra  h) ⟨va_cnB 1 hw (goodN mw_3_219) rfl rfl rfl (hN.m 37 rfl) (hw _ mw_1_11) (by decide +kernel) ⟨Nat.le_of_ble_eq_true rfl, Nat.le_of_ble_eq_true rfl⟩, hw _ mw_3_218, hw _ mw_s40⟩ rfl rfl rfl hl.1 rfl (Nat.le_of_ble_eq_true rfl) dX11_years_49 ⟨Nat.zero_le _, Nat.zero_le _⟩) hP hD hS hA [16, 17, 18, 3, 4, 5, 6, 7, 8] [0, 1, 2, 9, 10, 11, 12, 13, 14, 15, 19, 20] [0, 1, 2, 15, 16, 17, 18, 19, 20, 3, 4, 5, 6, 7, 8, 9, 12, 13, 14, 10, 11] rfl rfl rfl (by decide) rfl (fun _ => rfl) (fun u H locs h hP hD hS => ?_)
              obtain ⟨ns_20, na_21⟩ := u
              have hP : va_P D vwCl (List.flatten ([cLockRail L0 (aU 0) (aR 0) (aR2 0) h_images (aS 0) n0 y0 o0 C ] ++ (wReader aU C us ua ++ (wRail aR C rs ra ++ (wRail aR2 C rs2 ra2 ++ (wSlots aS C sa sl ++ (wNight n0 aN C ns_20 na_21 nl ++ ([cYear y0 y1 y2 C y_isThere y_taken y_took] ++ ([cOb o0 C o_of]))))))))) H := hP
              have hD : va_D A (List.flatten ([cLockRail L0 (aU 0) (aR 0) (aR2 0) h_images (aS 0) n0 y0 o0 C ] ++ (wReader aU C us ua ++ (wRail aR C rs ra ++ (wRail aR2 C rs2 ra2 ++ (wSlots aS C sa sl ++ (wNight n0 aN C ns_20 na_21 nl ++ ([cYear y0 y1 y2 C y_isThere y_taken y_took] ++ ([cOb o0 C o_of]))))))))) := hD
              refine lv_lconst (v := 0) hx hb dX11_years_52 (by decide) ?_
              refine lv_lstore (lv' := [(4, .long 0), (0, .ref L0), (1, .int p1), (2, .int p2), (3, .int p3)]) hx hb dX11_years_53 hl (by decide) rfl (fun ls hl => ?_)
              refine lv_lconst (v := 0) hx hb dX11_years_55 (by decide) ?_
              refine lv_lstore (lv' := [(6, .long 0), (4, .long 0), (0, .ref L0), (1, .int p1), (2, .int p2), (3, .int p3)]) hx hb dX11_years_56 hl (by decide) rfl (fun ls hl => ?_)
              refine lv_lconst (v := 0) hx hb dX11_years_58 (by decide) ?_
              refine lv_lstore (lv' := [(8, .long 0), (6, .long 0), (4, .long 0), (0, .ref L0), (1, .int p1), (2, .int p2), (3, .int p3)]) hx hb dX11_years_59 hl (by decide) rfl (fun ls hl => ?_)
              refine lv_iconst (v := 0) hx hb dX11_years_61 (by decide) ?_
              refine lv_istore (lv' := [(10, .int 0), (8, .long 0), (6, .long 0), (4, .long 0), (0, .ref L0), (1, .int p1), (2, .int p2), (3, .int p3)]) hx hb dX11_years_62 hl (by decide) rfl (fun ls hl => ?_)
              obtain ⟨n, h⟩ := h
              exact N64 ns_20 na_21 n 0 0 0 0 y_isThere y_taken y_took _ _ _ h hP hD hS (lv_sub hl [4, 5, 6, 7, 3, 2, 1, 0] rfl)
            · have h := h.2 c19
              refine lv_ldc2 (v := (-2)) hx hb hown (hw _ mw_4_20) dX11_years_37 ?_
              rw [← hQ]
              exact cRetL (v := (-2)) (ns, na, y_isThere, y_taken, y_took) hx hb hr hlocks hS hP hD h dX11_years_40
abbrev vsX11_count : List Cond := Cond.code yX11_count cX11_count 2 (some .int) :: WS
abbrev rmX11_count : Room := { frames := 2, cells := 0, slots := 0, locals := 43 }
set_option maxHeartbeats 4000000 in
set_option maxRecDepth 100000 in
theorem k_X11_count (l : Launch) (D : va_G) (C : Nat → ClassId) (sz : Nat) (L0 : Nat) (aU : Nat → Nat) (aR : Nat → Nat) (aR2 : Nat → Nat) (aS : Nat → Nat) (n0 : Nat) (aN : Nat → Nat) (y0 : Nat) (y1 : Nat) (y2 : Nat) (o0 : Nat) (h_images : Nat) (us : Nat → Int32) (ua : Nat → Nat → Int32) (rs : Nat → Int32) (ra : Nat → Nat → Int32) (rs2 : Nat → Int32) (ra2 : Nat → Nat → Int32) (sa : Nat → Nat → Int32) (sl : Nat → Nat → Int64) (ns : Nat → Int32) (na : Nat → Nat → Int32) (nl : Nat → Nat → Int64) (y_isThere : Int32) (y_taken : Nat → Int32) (y_took : Nat → Int32) (o_of : Nat → Int64) (p1 : Int32) {post : Int32 → Prop} (h : P_X11_count us rs ra sa p1 post) : Met l yX11_count vsX11_count rmX11_count (cPre D C [.ref L0, .int p1] sz ([cLockRail L0 (aU 0) (aR 0) (aR2 0) h_images (aS 0) n0 y0 o0 C ] ++ (wReader aU C us ua ++ (wRail aR C rs ra ++ (wRail aR2 C rs2 ra2 ++ (wSlots aS C sa sl ++ (wNight n0 aN C ns na nl ++ ([cYear y0 y1 y2 C y_isThere y_taken y_took] ++ ([cOb o0 C o_of]))))))))) (cQi D (fun (r : Int32) (u : Unit) => post r ) (fun u => [cLockRail L0 (aU 0) (aR 0) (aR2 0) h_images (aS 0) n0 y0 o0 C ] ++ (wReader aU C us ua ++ (wRail aR C rs ra ++ (wRail aR2 C rs2 ra2 ++ (wSlots aS C sa sl ++ (wNight n0 aN C ns na nl ++ ([cYear y0 y1 y2 C y_isThere y_taken y_took] ++ ([cOb o0 C o_of])))))))) (va_A (List.flatten ([cLockRail L0 (aU 0) (aR 0) (aR2 0) h_images (aS 0) n0 y0 o0 C ] ++ (wReader aU C us ua ++ (wRail aR C rs ra ++ (wRail aR2 C rs2 ra2 ++ (wSlots aS C sa sl ++ (wNight n0 aN C ns na nl ++ ([cYear y0 y1 y2 C y_isThere y_taken y_took] ++ ([cOb o0 C o_of]))))))))) sz)) 0 0 (va_A (List.flatten ([cLockRail L0 (aU 0) (aR 0) (aR2 0) h_images (aS 0) n0 y0 o0 C ] ++ (wReader aU C us ua ++ (wRail aR C rs ra ++ (wRail aR2 C rs2 ra2 ++ (wSlots aS C sa sl ++ (wNight n0 aN C ns na nl ++ ([cYear y0 y1 y2 C y_isThere y_taken y_took] ++ ([cOb o0 C o_of]))))))))) sz) := by
  refine cStart (QA := fun A => cQi D (fun (r : Int32) (u : Unit) => post r ) (fun u => [cLockRail L0 (aU 0) (aR 0) (aR2 0) h_images (aS 0) n0 y0 o0 C ] ++ (wReader aU C us ua ++ (wRail aR C rs ra ++ (wRail aR2 C rs2 ra2 ++ (wSlots aS C sa sl ++ (wNight n0 aN C ns na nl ++ ([cYear y0 y1 y2 C y_isThere y_taken y_took] ++ ([cOb o0 C o_of])))))))) A) (cc := cX11_count) (maxL := 2) (ret := (some .int)) (by decide) (Nat.le_of_ble_eq_true rfl) ?_
  intro p e s m args below meth c A ls hx hb hr hml hown hw hlocks hname hK hN hA hP hD hS hl
  generalize hQ : MQ below _ args s 0 0 A = Q
  have hl : lv_has ls 2 [(0, .ref L0), (1, .int p1)] := hl
  have hn232 : (Cond.fieldLinkNest "LockRail" 232 "LockRail$Rail" "places" "I" "LockRail").before args s = true := hN.f 49 rfl
  have hn338 : (Cond.fieldLinkNest "LockRail" 338 "LockRail$Rail" "nights" "I" "LockRail").before args s = true := hN.f 52 rfl
  have hn374 : (Cond.fieldLinkNest "LockRail" 374 "LockRail$Rail" "lamps" "LLockRail$Lamps;" "LockRail").before args s = true := hN.f 56 rfl
  have hn378 : (Cond.fieldLinkNest "LockRail" 378 "LockRail$Lamps" "count" "I" "LockRail").before args s = true := hN.f 9 rfl
  have hn306 : (Cond.fieldLinkNest "LockRail" 306 "LockRail$Rail" "locks" "LLockRail$Locks;" "LockRail").before args s = true := hN.f 58 rfl
  have hn310 : (Cond.fieldLinkNest "LockRail" 310 "LockRail$Locks" "count" "I" "LockRail").before args s = true := hN.f 14 rfl
  have hn97 : (Cond.fieldLinkNest "LockRail" 97 "LockRail$Rail" "bikes" "LLockRail$Bikes;" "LockRail").before args s = true := hN.f 61 rfl
  have hn161 : (Cond.fieldLinkNest "LockRail" 161 "LockRail$Bikes" "count" "I" "LockRail").before args s = true := hN.f 20 rfl
  have hn279 : (Cond.fieldLinkNest "LockRail" 279 "LockRail$Rail" "thieves" "LLockRail$Thieves;" "LockRail").before args s = true := hN.f 64 rfl
  have hn283 : (Cond.fieldLinkNest "LockRail" 283 "LockRail$Thieves" "count" "I" "LockRail").before args s = true := hN.f 35 rfl
  have hn77 : (Cond.fieldLinkNest "LockRail" 77 "LockRail$Rail" "lines" "I" "LockRail").before args s = true := hN.f 54 rfl
  have hn55 : (Cond.fieldLinkNest "LockRail" 55 "LockRail$Reader" "tape" "LLockRail$Tape;" "LockRail").before args s = true := hN.f 4 rfl
  have hn59 : (Cond.fieldLinkNest "LockRail" 59 "LockRail$Tape" "length" "I" "LockRail").before args s = true := hN.f 0 rfl
  have hn245 : (Cond.fieldLinkNest "LockRail" 245 "LockRail$Rail" "watched" "Z" "LockRail").before args s = true := hN.f 73 rfl
  have hn325 : (Cond.fieldLinkNest "LockRail" 325 "LockRail$Rail" "year" "LLockRail$Year;" "LockRail").before args s = true := hN.f 74 rfl
  have hn357 : (Cond.fieldLinkNest "LockRail" 357 "LockRail$Year" "isThere" "Z" "LockRail").before args s = true := hN.f 42 rfl
  obtain ⟨H, hH⟩ : ∃ H, H = s.heap := ⟨_, rfl⟩
  obtain ⟨locs, hlo⟩ : ∃ z : List Loc, z = [] := ⟨_, rfl⟩
  have hP : va_P D vwCl (List.flatten ([cLockRail L0 (aU 0) (aR 0) (aR2 0) h_images (aS 0) n0 y0 o0 C ] ++ (wReader aU C us ua ++ (wRail aR C rs ra ++ (wRail aR2 C rs2 ra2 ++ (wSlots aS C sa sl ++ (wNight n0 aN C ns na nl ++ ([cYear y0 y1 y2 C y_isThere y_taken y_took] ++ ([cOb o0 C o_of]))))))))) H := by rw [hH]; exact hP
  have hS : va_S A s.heap H locs := by rw [hH, hlo]; exact hS
  rw [show W p l e rmX11_count s m args below meth c s.heap [] 0 0 Q (F0 m 0 ls []) = W p l e rmX11_count s m args below meth c H locs 0 0 Q (F0 m 0 ls []) from by rw [hH, hlo]]
  refine lv_iload_n hx hb dX11_count_0 rfl (lv_at hl 1 rfl) ?_
  by_cases c1_0 : p1 = 0
  · refine lv_tableIn (tgt := 68) hx hb dX11_count_1 (by rw [c1_0] <;> decide) (by rw [c1_0] <;> decide) (by rw [c1_0] <;> rfl) (by decide) ?_
    have h := h.1 c1_0
    refine lv_aload_n hx hb dX11_count_68 rfl (lv_at hl 0 rfl) ?_
    refine va_get (D := D) (ci := 11) (v := .ref (aR 0)) (C := RX11) (T := TX11) (N := 8) hx hb hw inW_X11 hown hK hP 0 rfl rfl 1 (by decide) (hw _ mw_2_144) (fun _ h9 => h9) rfl dX11_count_69 ?_
    refine va_getN (D := D) (ci := 4) (v := .int (rs 0)) (C := RX4) (T := TX4) (N := 16) hx hb hw inW_X4 hown hK hP 4 rfl rfl 0 (by decide) hn232 (fun _ h9 => h9) rfl dX11_count_72 ?_
    rw [← hQ]
    exact cRetI (v := (rs 0)) () hx hb hr hlocks hS hP hD h dX11_count_75
  by_cases c1_1 : p1 = 1
  · refine lv_tableIn (tgt := 76) hx hb dX11_count_1 (by rw [c1_1] <;> decide) (by rw [c1_1] <;> decide) (by rw [c1_1] <;> rfl) (by decide) ?_
    have h := h.2.1 c1_1
    refine lv_aload_n hx hb dX11_count_76 rfl (lv_at hl 0 rfl) ?_
    refine va_get (D := D) (ci := 11) (v := .ref (aR 0)) (C := RX11) (T := TX11) (N := 8) hx hb hw inW_X11 hown hK hP 0 rfl rfl 1 (by decide) (hw _ mw_2_144) (fun _ h9 => h9) rfl dX11_count_77 ?_
    refine va_getN (D := D) (ci := 4) (v := .int (rs 1)) (C := RX4) (T := TX4) (N := 16) hx hb hw inW_X4 hown hK hP 4 rfl rfl 1 (by decide) hn338 (fun _ h9 => h9) rfl dX11_count_80 ?_
    rw [← hQ]
    exact cRetI (v := (rs 1)) () hx hb hr hlocks hS hP hD h dX11_count_83
  by_cases c1_2 : p1 = 2
  · refine lv_tableIn (tgt := 84) hx hb dX11_count_1 (by rw [c1_2] <;> decide) (by rw [c1_2] <;> decide) (by rw [c1_2] <;> rfl) (by decide) ?_
    have h := h.2.2.1 c1_2
    refine lv_aload_n hx hb dX11_count_84 rfl (lv_at hl 0 rfl) ?_
    refine va_get (D := D) (ci := 11) (v := .ref (aR 0)) (C := RX11) (T := TX11) (N := 8) hx hb hw inW_X11 hown hK hP 0 rfl rfl 1 (by decide) (hw _ mw_2_144) (fun _ h9 => h9) rfl dX11_count_85 ?_
    refine va_getN (D := D) (ci := 4) (v := .ref (aR 1)) (C := RX4) (T := TX4) (N := 16) hx hb hw inW_X4 hown hK hP 4 rfl rfl 3 (by decide) hn374 (fun _ h9 => h9) rfl dX11_count_88 ?_
    refine va_getN (D := D) (ci := 1) (v := .int (rs 11)) (C := RX1) (T := TX1) (N := 3) hx hb hw inW_X1 hown hK hP 5 rfl rfl 0 (by decide) hn378 (fun _ h9 => h9) rfl dX11_count_91 ?_
    rw [← hQ]
    exact cRetI (v := (rs 11)) () hx hb hr hlocks hS hP hD h dX11_count_94
  by_cases c1_3 : p1 = 3
  · refine lv_tableIn (tgt := 95) hx hb dX11_count_1 (by rw [c1_3] <;> decide) (by rw [c1_3] <;> decide) (by rw [c1_3] <;> rfl) (by decide) ?_
    have h := h.2.2.2.1 c1_3
    refine lv_aload_n hx hb dX11_count_95 rfl (lv_at hl 0 rfl) ?_
    refine va_get (D := D) (ci := 11) (v := .ref (aR 0)) (C := RX11) (T := TX11) (N := 8) hx hb hw inW_X11 hown hK hP 0 rfl rfl 1 (by decide) (hw _ mw_2_144) (fun _ h9 => h9) rfl dX11_count_96 ?_
    refine va_getN (D := D) (ci := 4) (v := .ref (aR 4)) (C := RX4) (T := TX4) (N := 16) hx hb hw inW_X4 hown hK hP 4 rfl rfl 4 (by decide) hn306 (fun _ h9 => h9) rfl dX11_count_99 ?_
    refine va_getN (D := D) (ci := 2) (v := .int (rs 12)) (C := RX2) (T := TX2) (N := 3) hx hb hw inW_X2 hown hK hP 8 rfl rfl 0 (by decide) hn310 (fun _ h9 => h9) rfl dX11_count_102 ?_
    rw [← hQ]
    exact cRetI (v := (rs 12)) () hx hb hr hlocks hS hP hD h dX11_count_105
  by_cases c1_4 : p1 = 4
  · refine lv_tableIn (tgt := 106) hx hb dX11_count_1 (by rw [c1_4] <;> decide) (by rw [c1_4] <;> decide) (by rw [c1_4] <;> rfl) (by decide) ?_
    have h := h.2.2.2.2.1 c1_4
    refine lv_aload_n hx hb dX11_count_106 rfl (lv_at hl 0 rfl) ?_
    refine va_get (D := D) (ci := 11) (v := .ref (aR 0)) (C := RX11) (T := TX11) (N := 8) hx hb hw inW_X11 hown hK hP 0 rfl rfl 1 (by decide) (hw _ mw_2_144) (fun _ h9 => h9) rfl dX11_count_107 ?_
    refine va_getN (D := D) (ci := 4) (v := .ref (aR 7)) (C := RX4) (T := TX4) (N := 16) hx hb hw inW_X4 hown hK hP 4 rfl rfl 5 (by decide) hn97 (fun _ h9 => h9) rfl dX11_count_110 ?_
    refine va_getN (D := D) (ci := 0) (v := .int (rs 13)) (C := RX0) (T := TX0) (N := 6) hx hb hw inW_X0 hown hK hP 11 rfl rfl 0 (by decide) hn161 (fun _ h9 => h9) rfl dX11_count_113 ?_
    rw [← hQ]
    exact cRetI (v := (rs 13)) () hx hb hr hlocks hS hP hD h dX11_count_116
  by_cases c1_5 : p1 = 5
  · refine lv_tableIn (tgt := 117) hx hb dX11_count_1 (by rw [c1_5] <;> decide) (by rw [c1_5] <;> decide) (by rw [c1_5] <;> rfl) (by decide) ?_
    have h := h.2.2.2.2.2.1 c1_5
    refine lv_aload_n hx hb dX11_count_117 rfl (lv_at hl 0 rfl) ?_
    refine va_get (D := D) (ci := 11) (v := .ref (aR 0)) (C := RX11) (T := TX11) (N := 8) hx hb hw inW_X11 hown hK hP 0 rfl rfl 1 (by decide) (hw _ mw_2_144) (fun _ h9 => h9) rfl dX11_count_118 ?_
    refine va_getN (D := D) (ci := 4) (v := .ref (aR 13)) (C := RX4) (T := TX4) (N := 16) hx hb hw inW_X4 hown hK hP 4 rfl rfl 6 (by decide) hn279 (fun _ h9 => h9) rfl dX11_count_121 ?_
    refine va_getN (D := D) (ci := 9) (v := .int (rs 14)) (C := RX9) (T := TX9) (N := 6) hx hb hw inW_X9 hown hK hP 17 rfl rfl 0 (by decide) hn283 (fun _ h9 => h9) rfl dX11_count_124 ?_
    rw [← hQ]
    exact cRetI (v := (rs 14)) () hx hb hr hlocks hS hP hD h dX11_count_127
  by_cases c1_6 : p1 = 6
  · refine lv_tableIn (tgt := 128) hx hb dX11_count_1 (by rw [c1_6] <;> decide) (by rw [c1_6] <;> decide) (by rw [c1_6] <;> rfl) (by decide) ?_
    have h := h.2.2.2.2.2.2.1 c1_6
    refine lv_aload_n hx hb dX11_count_128 rfl (lv_at hl 0 rfl) ?_
    refine va_get (D := D) (ci := 11) (v := .ref (aR 0)) (C := RX11) (T := TX11) (N := 8) hx hb hw inW_X11 hown hK hP 0 rfl rfl 1 (by decide) (hw _ mw_2_144) (fun _ h9 => h9) rfl dX11_count_129 ?_
    refine va_getN (D := D) (ci := 4) (v := .int (rs 2)) (C := RX4) (T := TX4) (N := 16) hx hb hw inW_X4 hown hK hP 4 rfl rfl 2 (by decide) hn77 (fun _ h9 => h9) rfl dX11_count_132 ?_
    rw [← hQ]
    exact cRetI (v := (rs 2)) () hx hb hr hlocks hS hP hD h dX11_count_135
  by_cases c1_7 : p1 = 7
  · refine lv_tableIn (tgt := 136) hx hb dX11_count_1 (by rw [c1_7] <;> decide) (by rw [c1_7] <;> decide) (by rw [c1_7] <;> rfl) (by decide) ?_
    have h := h.2.2.2.2.2.2.2.1 c1_7
    refine lv_aload_n hx hb dX11_count_136 rfl (lv_at hl 0 rfl) ?_
    refine va_get (D := D) (ci := 11) (v := .ref (aU 0)) (C := RX11) (T := TX11) (N := 8) hx hb hw inW_X11 hown hK hP 0 rfl rfl 0 (by decide) (hw _ mw_2_143) (fun _ h9 => h9) rfl dX11_count_137 ?_
    refine va_getN (D := D) (ci := 5) (v := .ref (aU 1)) (C := RX5) (T := TX5) (N := 3) hx hb hw inW_X5 hown hK hP 1 rfl rfl 0 (by decide) hn55 (fun _ h9 => h9) rfl dX11_count_140 ?_
    refine va_getN (D := D) (ci := 8) (v := .int (us 2)) (C := RX8) (T := TX8) (N := 6) hx hb hw inW_X8 hown hK hP 2 rfl rfl 1 (by decide) hn59 (fun _ h9 => h9) rfl dX11_count_143 ?_
    rw [← hQ]
    exact cRetI (v := (us 2)) () hx hb hr hlocks hS hP hD h dX11_count_146
  by_cases c1_8 : p1 = 8
  · refine lv_tableIn (tgt := 147) hx hb dX11_count_1 (by rw [c1_8] <;> decide) (by rw [c1_8] <;> decide) (by rw [c1_8] <;> rfl) (by decide) ?_
    have h := h.2.2.2.2.2.2.2.2.1 c1_8
    refine lv_aload_n hx hb dX11_count_147 rfl (lv_at hl 0 rfl) ?_
    refine va_get (D := D) (ci := 11) (v := .ref (aR 0)) (C := RX11) (T := TX11) (N := 8) hx hb hw inW_X11 hown hK hP 0 rfl rfl 1 (by decide) (hw _ mw_2_144) (fun _ h9 => h9) rfl dX11_count_148 ?_
    refine va_getN (D := D) (ci := 4) (v := .ref (aR 7)) (C := RX4) (T := TX4) (N := 16) hx hb hw inW_X4 hown hK hP 4 rfl rfl 5 (by decide) hn97 (fun _ h9 => h9) rfl dX11_count_151 ?_
    refine cGoI (wo := fun u => [cLockRail L0 (aU 0) (aR 0) (aR2 0) h_images (aS 0) n0 y0 o0 C ] ++ (wReader aU C us ua ++ (wRail aR C rs ra ++ (wRail aR2 C rs2 ra2 ++ (wSlots aS C sa sl ++ (wNight n0 aN C ns na nl ++ ([cYear y0 y1 y2 C y_isThere y_taken y_took] ++ ([cOb o0 C o_of])))))))) (cRunVN (As := []) (rest := []) ⟨hx, hb, hml, hown, hw⟩ hK hN hP hD [6] rfl rfl (k_X0_markedOnes l D C _ (aR 7) (aR 8) (aR 9) (aR 10) (aR 11) (aR 12)  (rs 13) (ra 4) (ra 5) (ra 6) (ra 7) (ra 8)  h) ⟨va_cnB 0 hw (goodN mw_3_203) rfl rfl rfl (hN.m 34 rfl) (hw _ mw_1_7) (by decide +kernel) ⟨Nat.le_of_ble_eq_true rfl, Nat.le_of_ble_eq_true rfl⟩, hw _ mw_3_202, hw _ mw_s37⟩ rfl rfl rfl hl.1 rfl (Nat.le_of_ble_eq_true rfl) dX11_count_154 ⟨Nat.zero_le _, Nat.zero_le _⟩) hP hD hS hA [6] [0, 1, 2, 3, 4, 5, 7, 8, 9, 10, 11, 12, 13, 14, 15, 16, 17, 18, 19, 20] [0, 1, 2, 3, 4, 5, 20, 6, 7, 8, 9, 10, 11, 12, 13, 14, 15, 16, 17, 18, 19] rfl rfl rfl (by decide) rfl (fun _ => rfl) (fun r2 u H locs h hP hD hS => ?_)
    have hP : va_P D vwCl (List.flatten ([cLockRail L0 (aU 0) (aR 0) (aR2 0) h_images (aS 0) n0 y0 o0 C ] ++ (wReader aU C us ua ++ (wRail aR C rs ra ++ (wRail aR2 C rs2 ra2 ++ (wSlots aS C sa sl ++ (wNight n0 aN C ns na nl ++ ([cYear y0 y1 y2 C y_isThere y_taken y_took] ++ ([cOb o0 C o_of]))))))))) H := hP
    have hD : va_D A (List.flatten ([cLockRail L0 (aU 0) (aR 0) (aR2 0) h_images (aS 0) n0 y0 o0 C ] ++ (wReader aU C us ua ++ (wRail aR C rs ra ++ (wRail aR2 C rs2 ra2 ++ (wSlots aS C sa sl ++ (wNight n0 aN C ns na nl ++ ([cYear y0 y1 y2 C y_isThere y_taken y_took] ++ ([cOb o0 C o_of]))))))))) := hD
    rw [← hQ]
    exact cRetI (v := r2) () hx hb hr hlocks hS hP hD h dX11_count_157
  by_cases c1_9 : p1 = 9
  · refine lv_tableIn (tgt := 158) hx hb dX11_count_1 (by rw [c1_9] <;> decide) (by rw [c1_9] <;> decide) (by rw [c1_9] <;> rfl) (by decide) ?_
    have h := h.2.2.2.2.2.2.2.2.2.1 c1_9
    refine lv_aload_n hx hb dX11_count_158 rfl (lv_at hl 0 rfl) ?_
    refine va_get (D := D) (ci := 11) (v := .ref (aR 0)) (C := RX11) (T := TX11) (N := 8) hx hb hw inW_X11 hown hK hP 0 rfl rfl 1 (by decide) (hw _ mw_2_144) (fun _ h9 => h9) rfl dX11_count_159 ?_
    refine va_getN (D := D) (ci := 4) (v := .int (rs 10)) (C := RX4) (T := TX4) (N := 16) hx hb hw inW_X4 hown hK hP 4 rfl rfl 14 (by decide) hn245 (fun _ h9 => h9) rfl dX11_count_162 ?_
    refine lv_if_eq (tgt := 172) hx hb dX11_count_165 (by decide) (fun c3 => ?_) (fun c3 => ?_)
    · have h := h.1 c3
      refine lv_iconst (v := 0) hx hb dX11_count_172 (by decide) ?_
      rw [← hQ]
      exact cRetI (v := 0) () hx hb hr hlocks hS hP hD h dX11_count_173
    · have h := h.2 c3
      refine lv_iconst (v := 1) hx hb dX11_count_168 (by decide) ?_
      refine lv_goto (tgt := 173) hx hb dX11_count_169 (by decide) ?_
      rw [← hQ]
      exact cRetI (v := 1) () hx hb hr hlocks hS hP hD h dX11_count_173
  by_cases c1_10 : p1 = 10
  · refine lv_tableIn (tgt := 174) hx hb dX11_count_1 (by rw [c1_10] <;> decide) (by rw [c1_10] <;> decide) (by rw [c1_10] <;> rfl) (by decide) ?_
    have h := h.2.2.2.2.2.2.2.2.2.2.1 c1_10
    refine lv_aload_n hx hb dX11_count_174 rfl (lv_at hl 0 rfl) ?_
    refine va_get (D := D) (ci := 11) (v := .ref (aR 0)) (C := RX11) (T := TX11) (N := 8) hx hb hw inW_X11 hown hK hP 0 rfl rfl 1 (by decide) (hw _ mw_2_144) (fun _ h9 => h9) rfl dX11_count_175 ?_
    refine cGoI (wo := fun u => [cLockRail L0 (aU 0) (aR 0) (aR2 0) h_images (aS 0) n0 y0 o0 C ] ++ (wReader aU C us ua ++ (wRail aR C rs ra ++ (wRail aR2 C rs2 ra2 ++ (wSlots aS C sa sl ++ (wNight n0 aN C ns na nl ++ ([cYear y0 y1 y2 C y_isThere y_taken y_took] ++ ([cOb o0 C o_of])))))))) (cRunVN (As := []) (rest := []) ⟨hx, hb, hml, hown, hw⟩ hK hN hP hD [3, 4, 5, 6, 7, 8] rfl rfl (k_X4_options l D C _ aR  rs ra  h) ⟨va_cnB 0 hw (goodN mw_4_144) rfl rfl rfl (hN.m 59 rfl) (hw _ mw_1_4) (by decide +kernel) ⟨Nat.le_of_ble_eq_true rfl, Nat.le_of_ble_eq_true rfl⟩, hw _ mw_4_143, hw _ mw_s66⟩ rfl rfl rfl hl.1 rfl (Nat.le_of_ble_eq_true rfl) dX11_count_178 ⟨Nat.zero_le _, Nat.zero_le _⟩) hP hD hS hA [3, 4, 5, 6, 7, 8] [0, 1, 2, 9, 10, 11, 12, 13, 14, 15, 16, 17, 18, 19, 20] [0, 1, 2, 15, 16, 17, 18, 19, 20, 3, 4, 5, 6, 7, 8, 9, 10, 11, 12, 13, 14] rfl rfl rfl (by decide) rfl (fun _ => rfl) (fun r4 u H locs h hP hD hS => ?_)
    have hP : va_P D vwCl (List.flatten ([cLockRail L0 (aU 0) (aR 0) (aR2 0) h_images (aS 0) n0 y0 o0 C ] ++ (wReader aU C us ua ++ (wRail aR C rs ra ++ (wRail aR2 C rs2 ra2 ++ (wSlots aS C sa sl ++ (wNight n0 aN C ns na nl ++ ([cYear y0 y1 y2 C y_isThere y_taken y_took] ++ ([cOb o0 C o_of]))))))))) H := hP
    have hD : va_D A (List.flatten ([cLockRail L0 (aU 0) (aR 0) (aR2 0) h_images (aS 0) n0 y0 o0 C ] ++ (wReader aU C us ua ++ (wRail aR C rs ra ++ (wRail aR2 C rs2 ra2 ++ (wSlots aS C sa sl ++ (wNight n0 aN C ns na nl ++ ([cYear y0 y1 y2 C y_isThere y_taken y_took] ++ ([cOb o0 C o_of]))))))))) := hD
    rw [← hQ]
    exact cRetI (v := r4) () hx hb hr hlocks hS hP hD h dX11_count_181
  by_cases c1_11 : p1 = 11
  · refine lv_tableIn (tgt := 182) hx hb dX11_count_1 (by rw [c1_11] <;> decide) (by rw [c1_11] <;> decide) (by rw [c1_11] <;> rfl) (by decide) ?_
    have h := h.2.2.2.2.2.2.2.2.2.2.2.1 c1_11
    refine lv_aload_n hx hb dX11_count_182 rfl (lv_at hl 0 rfl) ?_
    refine va_get (D := D) (ci := 11) (v := .ref (aR 0)) (C := RX11) (T := TX11) (N := 8) hx hb hw inW_X11 hown hK hP 0 rfl rfl 1 (by decide) (hw _ mw_2_144) (fun _ h9 => h9) rfl dX11_count_183 ?_
    refine va_getN (D := D) (ci := 4) (v := .ref (aR 19)) (C := RX4) (T := TX4) (N := 16) hx hb hw inW_X4 hown hK hP 4 rfl rfl 15 (by decide) hn325 (fun _ h9 => h9) rfl dX11_count_186 ?_
    refine va_getN (D := D) (ci := 10) (v := .int (rs 15)) (C := RX10) (T := TX10) (N := 3) hx hb hw inW_X10 hown hK hP 23 rfl rfl 0 (by decide) hn357 (fun _ h9 => h9) rfl dX11_count_189 ?_
    refine lv_if_eq (tgt := 199) hx hb dX11_count_192 (by decide) (fun c5 => ?_) (fun c5 => ?_)
    · have h := h.1 c5
      refine lv_iconst (v := 0) hx hb dX11_count_199 (by decide) ?_
      rw [← hQ]
      exact cRetI (v := 0) () hx hb hr hlocks hS hP hD h dX11_count_200
    · have h := h.2 c5
      refine lv_iconst (v := 1) hx hb dX11_count_195 (by decide) ?_
      refine lv_goto (tgt := 200) hx hb dX11_count_196 (by decide) ?_
      rw [← hQ]
      exact cRetI (v := 1) () hx hb hr hlocks hS hP hD h dX11_count_200
  by_cases c1_12 : p1 = 12
  · refine lv_tableIn (tgt := 201) hx hb dX11_count_1 (by rw [c1_12] <;> decide) (by rw [c1_12] <;> decide) (by rw [c1_12] <;> rfl) (by decide) ?_
    have h := h.2.2.2.2.2.2.2.2.2.2.2.2.1 c1_12
    refine lv_aload_n hx hb dX11_count_201 rfl (lv_at hl 0 rfl) ?_
    refine va_get (D := D) (ci := 11) (v := .ref (aS 0)) (C := RX11) (T := TX11) (N := 8) hx hb hw inW_X11 hown hK hP 0 rfl rfl 4 (by decide) (hw _ mw_2_147) (fun _ h9 => h9) rfl dX11_count_202 ?_
    refine cGoI (wo := fun u => [cLockRail L0 (aU 0) (aR 0) (aR2 0) h_images (aS 0) n0 y0 o0 C ] ++ (wReader aU C us ua ++ (wRail aR C rs ra ++ (wRail aR2 C rs2 ra2 ++ (wSlots aS C sa sl ++ (wNight n0 aN C ns na nl ++ ([cYear y0 y1 y2 C y_isThere y_taken y_took] ++ ([cOb o0 C o_of])))))))) (cRunVN (As := []) (rest := []) ⟨hx, hb, hml, hown, hw⟩ hK hN hP hD [15] rfl rfl (k_X6_rows l D C _ aS  sa sl  h) ⟨va_cnB 0 hw (goodN mw_5_230) rfl rfl rfl (hN.m 81 rfl) (hw _ mw_1_10) (by decide +kernel) ⟨Nat.le_of_ble_eq_true rfl, Nat.le_of_ble_eq_true rfl⟩, hw _ mw_5_229, hw _ mw_s102⟩ rfl rfl rfl hl.1 rfl (Nat.le_of_ble_eq_true rfl) dX11_count_205 ⟨Nat.zero_le _, Nat.zero_le _⟩) hP hD hS hA [15] [0, 1, 2, 3, 4, 5, 6, 7, 8, 9, 10, 11, 12, 13, 14, 16, 17, 18, 19, 20] [0, 1, 2, 3, 4, 5, 6, 7, 8, 9, 10, 11, 12, 13, 14, 20, 15, 16, 17, 18, 19] rfl rfl rfl (by decide) rfl (fun _ => rfl) (fun r6 u H locs h hP hD hS => ?_)
    have hP : va_P D vwCl (List.flatten ([cLockRail L0 (aU 0) (aR 0) (aR2 0) h_images (aS 0) n0 y0 o0 C ] ++ (wReader aU C us ua ++ (wRail aR C rs ra ++ (wRail aR2 C rs2 ra2 ++ (wSlots aS C sa sl ++ (wNight n0 aN C ns na nl ++ ([cYear y0 y1 y2 C y_isThere y_taken y_took] ++ ([cOb o0 C o_of]))))))))) H := hP
    have hD : va_D A (List.flatten ([cLockRail L0 (aU 0) (aR 0) (aR2 0) h_images (aS 0) n0 y0 o0 C ] ++ (wReader aU C us ua ++ (wRail aR C rs ra ++ (wRail aR2 C rs2 ra2 ++ (wSlots aS C sa sl ++ (wNight n0 aN C ns na nl ++ ([cYear y0 y1 y2 C y_isThere y_taken y_took] ++ ([cOb o0 C o_of]))))))))) := hD
    rw [← hQ]
    exact cRetI (v := r6) () hx hb hr hlocks hS hP hD h dX11_count_208
  refine lv_tableOut (tgt := 209) hx hb dX11_count_1 (sw_out13 c1_0 c1_1 c1_2 c1_3 c1_4 c1_5 c1_6 c1_7 c1_8 c1_9 c1_10 c1_11 c1_12) (by decide) ?_
  have h := h.2.2.2.2.2.2.2.2.2.2.2.2.2 c1_0 c1_1 c1_2 c1_3 c1_4 c1_5 c1_6 c1_7 c1_8 c1_9 c1_10 c1_11 c1_12
  refine lv_iconst (v := (-1)) hx hb dX11_count_209 (by decide) ?_
  rw [← hQ]
  exact cRetI (v := (-1)) () hx hb hr hlocks hS hP hD h dX11_count_210
abbrev vsX11_row : List Cond := Cond.code yX11_row cX11_row 4 (some .int) :: WS
abbrev rmX11_row : Room := { frames := 1, cells := 0, slots := 0, locals := 24 }
set_option maxHeartbeats 4000000 in
set_option maxRecDepth 100000 in
theorem k_X11_row (l : Launch) (D : va_G) (C : Nat → ClassId) (sz : Nat) (L0 : Nat) (aU : Nat → Nat) (aR : Nat → Nat) (aR2 : Nat → Nat) (aS : Nat → Nat) (n0 : Nat) (aN : Nat → Nat) (y0 : Nat) (y1 : Nat) (y2 : Nat) (o0 : Nat) (h_images : Nat) (us : Nat → Int32) (ua : Nat → Nat → Int32) (rs : Nat → Int32) (ra : Nat → Nat → Int32) (rs2 : Nat → Int32) (ra2 : Nat → Nat → Int32) (sa : Nat → Nat → Int32) (sl : Nat → Nat → Int64) (ns : Nat → Int32) (na : Nat → Nat → Int32) (nl : Nat → Nat → Int64) (y_isThere : Int32) (y_taken : Nat → Int32) (y_took : Nat → Int32) (o_of : Nat → Int64) (p1 : Int32) (p2 : Int32) (p3 : Int32) {post : Int32 → (Nat → Nat → Int32) → (Nat → Nat → Int64) → Prop} (h : P_X11_row sa sl p1 p2 p3 post) : Met l yX11_row vsX11_row rmX11_row (cPre D C [.ref L0, .int p1, .int p2, .int p3] sz ([cLockRail L0 (aU 0) (aR 0) (aR2 0) h_images (aS 0) n0 y0 o0 C ] ++ (wReader aU C us ua ++ (wRail aR C rs ra ++ (wRail aR2 C rs2 ra2 ++ (wSlots aS C sa sl ++ (wNight n0 aN C ns na nl ++ ([cYear y0 y1 y2 C y_isThere y_taken y_took] ++ ([cOb o0 C o_of]))))))))) (cQi D (fun (r : Int32) (u : (Nat → Nat → Int32) × (Nat → Nat → Int64)) => post r u.1 u.2) (fun u => [cLockRail L0 (aU 0) (aR 0) (aR2 0) h_images (aS 0) n0 y0 o0 C ] ++ (wReader aU C us ua ++ (wRail aR C rs ra ++ (wRail aR2 C rs2 ra2 ++ (wSlots aS C u.1 u.2 ++ (wNight n0 aN C ns na nl ++ ([cYear y0 y1 y2 C y_isThere y_taken y_took] ++ ([cOb o0 C o_of])))))))) (va_A (List.flatten ([cLockRail L0 (aU 0) (aR 0) (aR2 0) h_images (aS 0) n0 y0 o0 C ] ++ (wReader aU C us ua ++ (wRail aR C rs ra ++ (wRail aR2 C rs2 ra2 ++ (wSlots aS C sa sl ++ (wNight n0 aN C ns na nl ++ ([cYear y0 y1 y2 C y_isThere y_taken y_took] ++ ([cOb o0 C o_of]))))))))) sz)) 0 0 (va_A (List.flatten ([cLockRail L0 (aU 0) (aR 0) (aR2 0) h_images (aS 0) n0 y0 o0 C ] ++ (wReader aU C us ua ++ (wRail aR C rs ra ++ (wRail aR2 C rs2 ra2 ++ (wSlots aS C sa sl ++ (wNight n0 aN C ns na nl ++ ([cYear y0 y1 y2 C y_isThere y_taken y_took] ++ ([cOb o0 C o_of]))))))))) sz) := by
  refine cStart (QA := fun A => cQi D (fun (r : Int32) (u : (Nat → Nat → Int32) × (Nat → Nat → Int64)) => post r u.1 u.2) (fun u => [cLockRail L0 (aU 0) (aR 0) (aR2 0) h_images (aS 0) n0 y0 o0 C ] ++ (wReader aU C us ua ++ (wRail aR C rs ra ++ (wRail aR2 C rs2 ra2 ++ (wSlots aS C u.1 u.2 ++ (wNight n0 aN C ns na nl ++ ([cYear y0 y1 y2 C y_isThere y_taken y_took] ++ ([cOb o0 C o_of])))))))) A) (cc := cX11_row) (maxL := 4) (ret := (some .int)) (by decide) (Nat.le_of_ble_eq_true rfl) ?_
  intro p e s m args below meth c A ls hx hb hr hml hown hw hlocks hname hK hN hA hP hD hS hl
  generalize hQ : MQ below _ args s 0 0 A = Q
  have hl : lv_has ls 4 [(0, .ref L0), (1, .int p1), (2, .int p2), (3, .int p3)] := hl
  obtain ⟨H, hH⟩ : ∃ H, H = s.heap := ⟨_, rfl⟩
  obtain ⟨locs, hlo⟩ : ∃ z : List Loc, z = [] := ⟨_, rfl⟩
  have hP : va_P D vwCl (List.flatten ([cLockRail L0 (aU 0) (aR 0) (aR2 0) h_images (aS 0) n0 y0 o0 C ] ++ (wReader aU C us ua ++ (wRail aR C rs ra ++ (wRail aR2 C rs2 ra2 ++ (wSlots aS C sa sl ++ (wNight n0 aN C ns na nl ++ ([cYear y0 y1 y2 C y_isThere y_taken y_took] ++ ([cOb o0 C o_of]))))))))) H := by rw [hH]; exact hP
  have hS : va_S A s.heap H locs := by rw [hH, hlo]; exact hS
  rw [show W p l e rmX11_row s m args below meth c s.heap [] 0 0 Q (F0 m 0 ls []) = W p l e rmX11_row s m args below meth c H locs 0 0 Q (F0 m 0 ls []) from by rw [hH, hlo]]
  refine lv_aload_n hx hb dX11_row_0 rfl (lv_at hl 0 rfl) ?_
  refine va_get (D := D) (ci := 11) (v := .ref (aS 0)) (C := RX11) (T := TX11) (N := 8) hx hb hw inW_X11 hown hK hP 0 rfl rfl 4 (by decide) (hw _ mw_2_147) (fun _ h9 => h9) rfl dX11_row_1 ?_
  refine lv_iload_n hx hb dX11_row_4 rfl (lv_at hl 1 rfl) ?_
  refine cGoI (wo := fun u => [cLockRail L0 (aU 0) (aR 0) (aR2 0) h_images (aS 0) n0 y0 o0 C ] ++ (wReader aU C us ua ++ (wRail aR C rs ra ++ (wRail aR2 C rs2 ra2 ++ (wSlots aS C sa sl ++ (wNight n0 aN C ns na nl ++ ([cYear y0 y1 y2 C y_isThere y_taken y_took] ++ ([cOb o0 C o_of])))))))) (cRunVN (As := [.int p1]) (rest := []) ⟨hx, hb, hml, hown, hw⟩ hK hN hP hD [15] rfl rfl (k_X6_isSlot l D C _ aS  sa sl p1 h) ⟨va_cnB 1 hw (goodN mw_5_184) rfl rfl rfl (hN.m 73 rfl) (hw _ mw_1_10) (by decide +kernel) ⟨Nat.le_of_ble_eq_true rfl, Nat.le_of_ble_eq_true rfl⟩, hw _ mw_5_183, hw _ mw_s96⟩ rfl rfl rfl hl.1 rfl (Nat.le_of_ble_eq_true rfl) dX11_row_5 ⟨Nat.zero_le _, Nat.zero_le _⟩) hP hD hS hA [15] [0, 1, 2, 3, 4, 5, 6, 7, 8, 9, 10, 11, 12, 13, 14, 16, 17, 18, 19, 20] [0, 1, 2, 3, 4, 5, 6, 7, 8, 9, 10, 11, 12, 13, 14, 20, 15, 16, 17, 18, 19] rfl rfl rfl (by decide) rfl (fun _ => rfl) (fun r1 u H locs h hP hD hS => ?_)
  have hP : va_P D vwCl (List.flatten ([cLockRail L0 (aU 0) (aR 0) (aR2 0) h_images (aS 0) n0 y0 o0 C ] ++ (wReader aU C us ua ++ (wRail aR C rs ra ++ (wRail aR2 C rs2 ra2 ++ (wSlots aS C sa sl ++ (wNight n0 aN C ns na nl ++ ([cYear y0 y1 y2 C y_isThere y_taken y_took] ++ ([cOb o0 C o_of]))))))))) H := hP
  have hD : va_D A (List.flatten ([cLockRail L0 (aU 0) (aR 0) (aR2 0) h_images (aS 0) n0 y0 o0 C ] ++ (wReader aU C us ua ++ (wRail aR C rs ra ++ (wRail aR2 C rs2 ra2 ++ (wSlots aS C sa sl ++ (wNight n0 aN C ns na nl ++ ([cYear y0 y1 y2 C y_isThere y_taken y_took] ++ ([cOb o0 C o_of]))))))))) := hD
  refine lv_if_eq (tgt := 26) hx hb dX11_row_8 (by decide) (fun c2 => ?_) (fun c2 => ?_)
  · have h := h.1 c2
    refine lv_bipush (v := (-2)) hx hb dX11_row_26 (by decide) ?_
    rw [← hQ]
    exact cRetI (v := (-2)) (sa, sl) hx hb hr hlocks hS hP hD h dX11_row_28
  · have h := h.2 c2
    refine lv_iload_n hx hb dX11_row_11 rfl (lv_at hl 2 rfl) ?_
    refine lv_if_lt (tgt := 26) hx hb dX11_row_12 (by decide) (fun c3 => ?_) (fun c3 => ?_)
    · have h := h.1 c3
      refine lv_bipush (v := (-2)) hx hb dX11_row_26 (by decide) ?_
      rw [← hQ]
      exact cRetI (v := (-2)) (sa, sl) hx hb hr hlocks hS hP hD h dX11_row_28
    · have h := h.2 c3
      refine lv_iload_n hx hb dX11_row_15 rfl (lv_at hl 2 rfl) ?_
      refine lv_iconst (v := 4) hx hb dX11_row_16 (by decide) ?_
      refine lv_icmp_ge (tgt := 26) hx hb dX11_row_17 (by decide) (fun c4 => ?_) (fun c4 => ?_)
      · have h := h.1 c4
        refine lv_bipush (v := (-2)) hx hb dX11_row_26 (by decide) ?_
        rw [← hQ]
        exact cRetI (v := (-2)) (sa, sl) hx hb hr hlocks hS hP hD h dX11_row_28
      · have h := h.2 c4
        refine lv_iload_n hx hb dX11_row_20 rfl (lv_at hl 3 rfl) ?_
        refine lv_bipush (v := 60) hx hb dX11_row_21 (by decide) ?_
        refine lv_icmp_le (tgt := 29) hx hb dX11_row_23 (by decide) (fun c5 => ?_) (fun c5 => ?_)
        · have h := h.1 c5
          refine lv_iload_n hx hb dX11_row_29 rfl (lv_at hl 3 rfl) ?_
          refine lv_if_ge (tgt := 36) hx hb dX11_row_30 (by decide) (fun c6 => ?_) (fun c6 => ?_)
          · have h := h.1 c6
            refine lv_aload_n hx hb dX11_row_36 rfl (lv_at hl 0 rfl) ?_
            refine va_get (D := D) (ci := 11) (v := .ref (aS 0)) (C := RX11) (T := TX11) (N := 8) hx hb hw inW_X11 hown hK hP 0 rfl rfl 4 (by decide) (hw _ mw_2_147) (fun _ h9 => h9) rfl dX11_row_37 ?_
            refine lv_iload_n hx hb dX11_row_40 rfl (lv_at hl 1 rfl) ?_
            refine lv_iload_n hx hb dX11_row_41 rfl (lv_at hl 2 rfl) ?_
            refine lv_iload_n hx hb dX11_row_42 rfl (lv_at hl 3 rfl) ?_
            refine cGoV (wo := fun u => [cLockRail L0 (aU 0) (aR 0) (aR2 0) h_images (aS 0) n0 y0 o0 C ] ++ (wReader aU C us ua ++ (wRail aR C rs ra ++ (wRail aR2 C rs2 ra2 ++ (wSlots aS C u.1 u.2 ++ (wNight n0 aN C ns na nl ++ ([cYear y0 y1 y2 C y_isThere y_taken y_took] ++ ([cOb o0 C o_of])))))))) (cRunVN (As := [.int p1, .int p2, .int p3]) (rest := []) ⟨hx, hb, hml, hown, hw⟩ hK hN hP hD [15] rfl rfl (k_X6_make l D C _ aS  sa sl p1 p2 p3 h) ⟨va_cnB 3 hw (goodN mw_6_7) rfl rfl rfl (hN.m 82 rfl) (hw _ mw_1_10) (by decide +kernel) ⟨Nat.le_of_ble_eq_true rfl, Nat.le_of_ble_eq_true rfl⟩, hw _ mw_6_6, hw _ mw_s103⟩ rfl rfl rfl hl.1 rfl (Nat.le_of_ble_eq_true rfl) dX11_row_43 ⟨Nat.zero_le _, Nat.zero_le _⟩) hP hD hS hA [15] [0, 1, 2, 3, 4, 5, 6, 7, 8, 9, 10, 11, 12, 13, 14, 16, 17, 18, 19, 20] [0, 1, 2, 3, 4, 5, 6, 7, 8, 9, 10, 11, 12, 13, 14, 20, 15, 16, 17, 18, 19] rfl rfl rfl (by decide) rfl (fun _ => rfl) (fun u H locs h hP hD hS => ?_)
            obtain ⟨sa_7, sl_8⟩ := u
            have hP : va_P D vwCl (List.flatten ([cLockRail L0 (aU 0) (aR 0) (aR2 0) h_images (aS 0) n0 y0 o0 C ] ++ (wReader aU C us ua ++ (wRail aR C rs ra ++ (wRail aR2 C rs2 ra2 ++ (wSlots aS C sa_7 sl_8 ++ (wNight n0 aN C ns na nl ++ ([cYear y0 y1 y2 C y_isThere y_taken y_took] ++ ([cOb o0 C o_of]))))))))) H := hP
            have hD : va_D A (List.flatten ([cLockRail L0 (aU 0) (aR 0) (aR2 0) h_images (aS 0) n0 y0 o0 C ] ++ (wReader aU C us ua ++ (wRail aR C rs ra ++ (wRail aR2 C rs2 ra2 ++ (wSlots aS C sa_7 sl_8 ++ (wNight n0 aN C ns na nl ++ ([cYear y0 y1 y2 C y_isThere y_taken y_took] ++ ([cOb o0 C o_of]))))))))) := hD
            refine lv_iconst (v := 0) hx hb dX11_row_46 (by decide) ?_
            rw [← hQ]
            exact cRetI (v := 0) (sa_7, sl_8) hx hb hr hlocks hS hP hD h dX11_row_47
          · have h := h.2 c6
            refine lv_bipush (v := (-3)) hx hb dX11_row_33 (by decide) ?_
            rw [← hQ]
            exact cRetI (v := (-3)) (sa, sl) hx hb hr hlocks hS hP hD h dX11_row_35
        · have h := h.2 c5
          refine lv_bipush (v := (-2)) hx hb dX11_row_26 (by decide) ?_
          rw [← hQ]
          exact cRetI (v := (-2)) (sa, sl) hx hb hr hlocks hS hP hD h dX11_row_28
