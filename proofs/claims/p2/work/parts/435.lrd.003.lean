abbrev vsX11_write : List Cond := Cond.code yX11_write cX11_write 5 (some .int) :: WS
abbrev rmX11_write : Room := { frames := 2, cells := 0, slots := 0, locals := 46 }
set_option maxHeartbeats 4000000 in
set_option maxRecDepth 100000 in
theorem k_X11_write (l : Launch) (D : va_G) (C : Nat → ClassId) (sz : Nat) (L0 : Nat) (aU : Nat → Nat) (aR : Nat → Nat) (aR2 : Nat → Nat) (aS : Nat → Nat) (n0 : Nat) (aN : Nat → Nat) (y0 : Nat) (y1 : Nat) (y2 : Nat) (o0 : Nat) (h_images : Nat) (us : Nat → Int32) (ua : Nat → Nat → Int32) (rs : Nat → Int32) (ra : Nat → Nat → Int32) (rs2 : Nat → Int32) (ra2 : Nat → Nat → Int32) (sa : Nat → Nat → Int32) (sl : Nat → Nat → Int64) (ns : Nat → Int32) (na : Nat → Nat → Int32) (nl : Nat → Nat → Int64) (y_isThere : Int32) (y_taken : Nat → Int32) (y_took : Nat → Int32) (o_of : Nat → Int64) (p1 : Int32) (p2 : Int32) (p3 : Int64) {post : Int32 → (Nat → Nat → Int64) → Prop} (h : P_X11_write sa sl p1 p2 p3 post) : Met l yX11_write vsX11_write rmX11_write (cPre D C [.ref L0, .int p1, .int p2, .long p3] sz ([cLockRail L0 (aU 0) (aR 0) (aR2 0) h_images (aS 0) n0 y0 o0 C ] ++ (wReader aU C us ua ++ (wRail aR C rs ra ++ (wRail aR2 C rs2 ra2 ++ (wSlots aS C sa sl ++ (wNight n0 aN C ns na nl ++ ([cYear y0 y1 y2 C y_isThere y_taken y_took] ++ ([cOb o0 C o_of]))))))))) (cQi D (fun (r : Int32) (u : (Nat → Nat → Int64)) => post r u) (fun u => [cLockRail L0 (aU 0) (aR 0) (aR2 0) h_images (aS 0) n0 y0 o0 C ] ++ (wReader aU C us ua ++ (wRail aR C rs ra ++ (wRail aR2 C rs2 ra2 ++ (wSlots aS C sa u ++ (wNight n0 aN C ns na nl ++ ([cYear y0 y1 y2 C y_isThere y_taken y_took] ++ ([cOb o0 C o_of])))))))) (va_A (List.flatten ([cLockRail L0 (aU 0) (aR 0) (aR2 0) h_images (aS 0) n0 y0 o0 C ] ++ (wReader aU C us ua ++ (wRail aR C rs ra ++ (wRail aR2 C rs2 ra2 ++ (wSlots aS C sa sl ++ (wNight n0 aN C ns na nl ++ ([cYear y0 y1 y2 C y_isThere y_taken y_took] ++ ([cOb o0 C o_of]))))))))) sz)) 0 0 (va_A (List.flatten ([cLockRail L0 (aU 0) (aR 0) (aR2 0) h_images (aS 0) n0 y0 o0 C ] ++ (wReader aU C us ua ++ (wRail aR C rs ra ++ (wRail aR2 C rs2 ra2 ++ (wSlots aS C sa sl ++ (wNight n0 aN C ns na nl ++ ([cYear y0 y1 y2 C y_isThere y_taken y_took] ++ ([cOb o0 C o_of]))))))))) sz) := by
  refine cStart (QA := fun A => cQi D (fun (r : Int32) (u : (Nat → Nat → Int64)) => post r u) (fun u => [cLockRail L0 (aU 0) (aR 0) (aR2 0) h_images (aS 0) n0 y0 o0 C ] ++ (wReader aU C us ua ++ (wRail aR C rs ra ++ (wRail aR2 C rs2 ra2 ++ (wSlots aS C sa u ++ (wNight n0 aN C ns na nl ++ ([cYear y0 y1 y2 C y_isThere y_taken y_took] ++ ([cOb o0 C o_of])))))))) A) (cc := cX11_write) (maxL := 5) (ret := (some .int)) (by decide) (Nat.le_of_ble_eq_true rfl) ?_
  intro p e s m args below meth c A ls hx hb hr hml hown hw hlocks hname hK hN hA hP hD hS hl
  generalize hQ : MQ below _ args s 0 0 A = Q
  have hl : lv_has ls 5 [(0, .ref L0), (1, .int p1), (2, .int p2), (3, .long p3)] := hl
  obtain ⟨H, hH⟩ : ∃ H, H = s.heap := ⟨_, rfl⟩
  obtain ⟨locs, hlo⟩ : ∃ z : List Loc, z = [] := ⟨_, rfl⟩
  have hP : va_P D vwCl (List.flatten ([cLockRail L0 (aU 0) (aR 0) (aR2 0) h_images (aS 0) n0 y0 o0 C ] ++ (wReader aU C us ua ++ (wRail aR C rs ra ++ (wRail aR2 C rs2 ra2 ++ (wSlots aS C sa sl ++ (wNight n0 aN C ns na nl ++ ([cYear y0 y1 y2 C y_isThere y_taken y_took] ++ ([cOb o0 C o_of]))))))))) H := by rw [hH]; exact hP
  have hS : va_S A s.heap H locs := by rw [hH, hlo]; exact hS
  rw [show W p l e rmX11_write s m args below meth c s.heap [] 0 0 Q (F0 m 0 ls []) = W p l e rmX11_write s m args below meth c H locs 0 0 Q (F0 m 0 ls []) from by rw [hH, hlo]]
  refine lv_aload_n hx hb dX11_write_0 rfl (lv_at hl 0 rfl) ?_
  refine va_get (D := D) (ci := 11) (v := .ref (aS 0)) (C := RX11) (T := TX11) (N := 8) hx hb hw inW_X11 hown hK hP 0 rfl rfl 4 (by decide) (hw _ mw_2_147) (fun _ h9 => h9) rfl dX11_write_1 ?_
  refine lv_iload_n hx hb dX11_write_4 rfl (lv_at hl 1 rfl) ?_
  refine cGoI (wo := fun u => [cLockRail L0 (aU 0) (aR 0) (aR2 0) h_images (aS 0) n0 y0 o0 C ] ++ (wReader aU C us ua ++ (wRail aR C rs ra ++ (wRail aR2 C rs2 ra2 ++ (wSlots aS C sa sl ++ (wNight n0 aN C ns na nl ++ ([cYear y0 y1 y2 C y_isThere y_taken y_took] ++ ([cOb o0 C o_of])))))))) (cRunVN (As := [.int p1]) (rest := []) ⟨hx, hb, hml, hown, hw⟩ hK hN hP hD [15] rfl rfl (k_X6_isSlot l D C _ aS  sa sl p1 h) ⟨va_cnB 1 hw (goodN mw_5_184) rfl rfl rfl (hN.m 73 rfl) (hw _ mw_1_10) (by decide +kernel) ⟨Nat.le_of_ble_eq_true rfl, Nat.le_of_ble_eq_true rfl⟩, hw _ mw_5_183, hw _ mw_s96⟩ rfl rfl rfl hl.1 rfl (Nat.le_of_ble_eq_true rfl) dX11_write_5 ⟨Nat.zero_le _, Nat.zero_le _⟩) hP hD hS hA [15] [0, 1, 2, 3, 4, 5, 6, 7, 8, 9, 10, 11, 12, 13, 14, 16, 17, 18, 19, 20] [0, 1, 2, 3, 4, 5, 6, 7, 8, 9, 10, 11, 12, 13, 14, 20, 15, 16, 17, 18, 19] rfl rfl rfl (by decide) rfl (fun _ => rfl) (fun r1 u H locs h hP hD hS => ?_)
  have hP : va_P D vwCl (List.flatten ([cLockRail L0 (aU 0) (aR 0) (aR2 0) h_images (aS 0) n0 y0 o0 C ] ++ (wReader aU C us ua ++ (wRail aR C rs ra ++ (wRail aR2 C rs2 ra2 ++ (wSlots aS C sa sl ++ (wNight n0 aN C ns na nl ++ ([cYear y0 y1 y2 C y_isThere y_taken y_took] ++ ([cOb o0 C o_of]))))))))) H := hP
  have hD : va_D A (List.flatten ([cLockRail L0 (aU 0) (aR 0) (aR2 0) h_images (aS 0) n0 y0 o0 C ] ++ (wReader aU C us ua ++ (wRail aR C rs ra ++ (wRail aR2 C rs2 ra2 ++ (wSlots aS C sa sl ++ (wNight n0 aN C ns na nl ++ ([cYear y0 y1 y2 C y_isThere y_taken y_took] ++ ([cOb o0 C o_of]))))))))) := hD
  refine lv_if_ne (tgt := 14) hx hb dX11_write_8 (by decide) (fun c2 => ?_) (fun c2 => ?_)
  · have h := h.1 c2
    refine lv_aload_n hx hb dX11_write_14 rfl (lv_at hl 0 rfl) ?_
    refine va_get (D := D) (ci := 11) (v := .ref (aS 0)) (C := RX11) (T := TX11) (N := 8) hx hb hw inW_X11 hown hK hP 0 rfl rfl 4 (by decide) (hw _ mw_2_147) (fun _ h9 => h9) rfl dX11_write_15 ?_
    refine lv_iload_n hx hb dX11_write_18 rfl (lv_at hl 1 rfl) ?_
    refine cGoI (wo := fun u => [cLockRail L0 (aU 0) (aR 0) (aR2 0) h_images (aS 0) n0 y0 o0 C ] ++ (wReader aU C us ua ++ (wRail aR C rs ra ++ (wRail aR2 C rs2 ra2 ++ (wSlots aS C sa sl ++ (wNight n0 aN C ns na nl ++ ([cYear y0 y1 y2 C y_isThere y_taken y_took] ++ ([cOb o0 C o_of])))))))) (cRunVN (As := [.int p1]) (rest := []) ⟨hx, hb, hml, hown, hw⟩ hK hN hP hD [15] rfl rfl (k_X6_hasRow l D C _ aS  sa sl p1 h) ⟨va_cnB 1 hw (goodN mw_5_188) rfl rfl rfl (hN.m 74 rfl) (hw _ mw_1_10) (by decide +kernel) ⟨Nat.le_of_ble_eq_true rfl, Nat.le_of_ble_eq_true rfl⟩, hw _ mw_5_187, hw _ mw_s97⟩ rfl rfl rfl hl.1 rfl (Nat.le_of_ble_eq_true rfl) dX11_write_19 ⟨Nat.zero_le _, Nat.zero_le _⟩) hP hD hS hA [15] [0, 1, 2, 3, 4, 5, 6, 7, 8, 9, 10, 11, 12, 13, 14, 16, 17, 18, 19, 20] [0, 1, 2, 3, 4, 5, 6, 7, 8, 9, 10, 11, 12, 13, 14, 20, 15, 16, 17, 18, 19] rfl rfl rfl (by decide) rfl (fun _ => rfl) (fun r3 u H locs h hP hD hS => ?_)
    have hP : va_P D vwCl (List.flatten ([cLockRail L0 (aU 0) (aR 0) (aR2 0) h_images (aS 0) n0 y0 o0 C ] ++ (wReader aU C us ua ++ (wRail aR C rs ra ++ (wRail aR2 C rs2 ra2 ++ (wSlots aS C sa sl ++ (wNight n0 aN C ns na nl ++ ([cYear y0 y1 y2 C y_isThere y_taken y_took] ++ ([cOb o0 C o_of]))))))))) H := hP
    have hD : va_D A (List.flatten ([cLockRail L0 (aU 0) (aR 0) (aR2 0) h_images (aS 0) n0 y0 o0 C ] ++ (wReader aU C us ua ++ (wRail aR C rs ra ++ (wRail aR2 C rs2 ra2 ++ (wSlots aS C sa sl ++ (wNight n0 aN C ns na nl ++ ([cYear y0 y1 y2 C y_isThere y_taken y_took] ++ ([cOb o0 C o_of]))))))))) := hD
    refine lv_if_ne (tgt := 28) hx hb dX11_write_22 (by decide) (fun c4 => ?_) (fun c4 => ?_)
    · have h := h.1 c4
      refine lv_iload_n hx hb dX11_write_28 rfl (lv_at hl 2 rfl) ?_
      refine lv_if_lt (tgt := 44) hx hb dX11_write_29 (by decide) (fun c5 => ?_) (fun c5 => ?_)
      · have h := h.1 c5
        refine lv_bipush (v := (-7)) hx hb dX11_write_44 (by decide) ?_
        rw [← hQ]
        exact cRetI (v := (-7)) (sl) hx hb hr hlocks hS hP hD h dX11_write_46
      · have h := h.2 c5
        refine lv_iload_n hx hb dX11_write_32 rfl (lv_at hl 2 rfl) ?_
        refine lv_aload_n hx hb dX11_write_33 rfl (lv_at hl 0 rfl) ?_
        refine va_get (D := D) (ci := 11) (v := .ref (aS 0)) (C := RX11) (T := TX11) (N := 8) hx hb hw inW_X11 hown hK hP 0 rfl rfl 4 (by decide) (hw _ mw_2_147) (fun _ h9 => h9) rfl dX11_write_34 ?_
        refine lv_iload_n hx hb dX11_write_37 rfl (lv_at hl 1 rfl) ?_
        refine cGoI (wo := fun u => [cLockRail L0 (aU 0) (aR 0) (aR2 0) h_images (aS 0) n0 y0 o0 C ] ++ (wReader aU C us ua ++ (wRail aR C rs ra ++ (wRail aR2 C rs2 ra2 ++ (wSlots aS C sa sl ++ (wNight n0 aN C ns na nl ++ ([cYear y0 y1 y2 C y_isThere y_taken y_took] ++ ([cOb o0 C o_of])))))))) (cRunVN (As := [.int p1]) (rest := [.int p2]) ⟨hx, hb, hml, hown, hw⟩ hK hN hP hD [15] rfl rfl (k_X6_sizeOf l D C _ aS  sa sl p1 h) ⟨va_cnB 1 hw (goodN mw_5_201) rfl rfl rfl (hN.m 77 rfl) (hw _ mw_1_10) (by decide +kernel) ⟨Nat.le_of_ble_eq_true rfl, Nat.le_of_ble_eq_true rfl⟩, hw _ mw_5_200, hw _ mw_s100⟩ rfl rfl rfl hl.1 rfl (Nat.le_of_ble_eq_true rfl) dX11_write_38 ⟨Nat.zero_le _, Nat.zero_le _⟩) hP hD hS hA [15] [0, 1, 2, 3, 4, 5, 6, 7, 8, 9, 10, 11, 12, 13, 14, 16, 17, 18, 19, 20] [0, 1, 2, 3, 4, 5, 6, 7, 8, 9, 10, 11, 12, 13, 14, 20, 15, 16, 17, 18, 19] rfl rfl rfl (by decide) rfl (fun _ => rfl) (fun r6 u H locs h hP hD hS => ?_)
        have hP : va_P D vwCl (List.flatten ([cLockRail L0 (aU 0) (aR 0) (aR2 0) h_images (aS 0) n0 y0 o0 C ] ++ (wReader aU C us ua ++ (wRail aR C rs ra ++ (wRail aR2 C rs2 ra2 ++ (wSlots aS C sa sl ++ (wNight n0 aN C ns na nl ++ ([cYear y0 y1 y2 C y_isThere y_taken y_took] ++ ([cOb o0 C o_of]))))))))) H := hP
        have hD : va_D A (List.flatten ([cLockRail L0 (aU 0) (aR 0) (aR2 0) h_images (aS 0) n0 y0 o0 C ] ++ (wReader aU C us ua ++ (wRail aR C rs ra ++ (wRail aR2 C rs2 ra2 ++ (wSlots aS C sa sl ++ (wNight n0 aN C ns na nl ++ ([cYear y0 y1 y2 C y_isThere y_taken y_took] ++ ([cOb o0 C o_of]))))))))) := hD
        refine lv_icmp_lt (tgt := 47) hx hb dX11_write_41 (by decide) (fun c7 => ?_) (fun c7 => ?_)
        · have h := h.1 c7
          refine lv_aload_n hx hb dX11_write_47 rfl (lv_at hl 0 rfl) ?_
          refine va_get (D := D) (ci := 11) (v := .ref (aS 0)) (C := RX11) (T := TX11) (N := 8) hx hb hw inW_X11 hown hK hP 0 rfl rfl 4 (by decide) (hw _ mw_2_147) (fun _ h9 => h9) rfl dX11_write_48 ?_
          refine lv_iload_n hx hb dX11_write_51 rfl (lv_at hl 1 rfl) ?_
          refine lv_iload_n hx hb dX11_write_52 rfl (lv_at hl 2 rfl) ?_
          refine lv_lload_n hx hb dX11_write_53 rfl (lv_at hl 3 rfl) ?_
          refine cGoV (wo := fun u => [cLockRail L0 (aU 0) (aR 0) (aR2 0) h_images (aS 0) n0 y0 o0 C ] ++ (wReader aU C us ua ++ (wRail aR C rs ra ++ (wRail aR2 C rs2 ra2 ++ (wSlots aS C sa u ++ (wNight n0 aN C ns na nl ++ ([cYear y0 y1 y2 C y_isThere y_taken y_took] ++ ([cOb o0 C o_of])))))))) (cRunVN (As := [.int p1, .int p2, .long p3]) (rest := []) ⟨hx, hb, hml, hown, hw⟩ hK hN hP hD [15] rfl rfl (k_X6_put l D C _ aS  sa sl p1 p2 p3 h) ⟨va_cnB 3 hw (goodN mw_6_15) rfl rfl rfl (hN.m 83 rfl) (hw _ mw_1_10) (by decide +kernel) ⟨Nat.le_of_ble_eq_true rfl, Nat.le_of_ble_eq_true rfl⟩, hw _ mw_6_14, hw _ mw_s104⟩ rfl rfl rfl hl.1 rfl (Nat.le_of_ble_eq_true rfl) dX11_write_54 ⟨Nat.zero_le _, Nat.zero_le _⟩) hP hD hS hA [15] [0, 1, 2, 3, 4, 5, 6, 7, 8, 9, 10, 11, 12, 13, 14, 16, 17, 18, 19, 20] [0, 1, 2, 3, 4, 5, 6, 7, 8, 9, 10, 11, 12, 13, 14, 20, 15, 16, 17, 18, 19] rfl rfl rfl (by decide) rfl (fun _ => rfl) (fun sl_8 H locs h hP hD hS => ?_)
          have hP : va_P D vwCl (List.flatten ([cLockRail L0 (aU 0) (aR 0) (aR2 0) h_images (aS 0) n0 y0 o0 C ] ++ (wReader aU C us ua ++ (wRail aR C rs ra ++ (wRail aR2 C rs2 ra2 ++ (wSlots aS C sa sl_8 ++ (wNight n0 aN C ns na nl ++ ([cYear y0 y1 y2 C y_isThere y_taken y_took] ++ ([cOb o0 C o_of]))))))))) H := hP
          have hD : va_D A (List.flatten ([cLockRail L0 (aU 0) (aR 0) (aR2 0) h_images (aS 0) n0 y0 o0 C ] ++ (wReader aU C us ua ++ (wRail aR C rs ra ++ (wRail aR2 C rs2 ra2 ++ (wSlots aS C sa sl_8 ++ (wNight n0 aN C ns na nl ++ ([cYear y0 y1 y2 C y_isThere y_taken y_took] ++ ([cOb o0 C o_of]))))))))) := hD
          refine lv_iconst (v := 0) hx hb dX11_write_57 (by decide) ?_
          rw [← hQ]
          exact cRetI (v := 0) (sl_8) hx hb hr hlocks hS hP hD h dX11_write_58
        · have h := h.2 c7
          refine lv_bipush (v := (-7)) hx hb dX11_write_44 (by decide) ?_
          rw [← hQ]
          exact cRetI (v := (-7)) (sl) hx hb hr hlocks hS hP hD h dX11_write_46
    · have h := h.2 c4
      refine lv_bipush (v := (-6)) hx hb dX11_write_25 (by decide) ?_
      rw [← hQ]
      exact cRetI (v := (-6)) (sl) hx hb hr hlocks hS hP hD h dX11_write_27
  · have h := h.2 c2
    refine lv_bipush (v := (-2)) hx hb dX11_write_11 (by decide) ?_
    rw [← hQ]
    exact cRetI (v := (-2)) (sl) hx hb hr hlocks hS hP hD h dX11_write_13
abbrev vsX11_paste : List Cond := Cond.code yX11_paste cX11_paste 6 (some .int) :: WS
abbrev rmX11_paste : Room := { frames := 2, cells := 0, slots := 0, locals := 65 }
set_option maxHeartbeats 4000000 in
set_option maxRecDepth 100000 in
theorem k_X11_paste (l : Launch) (D : va_G) (C : Nat → ClassId) (sz : Nat) (L0 : Nat) (aU : Nat → Nat) (aR : Nat → Nat) (aR2 : Nat → Nat) (aS : Nat → Nat) (n0 : Nat) (aN : Nat → Nat) (y0 : Nat) (y1 : Nat) (y2 : Nat) (o0 : Nat) (h_images : Nat) (us : Nat → Int32) (ua : Nat → Nat → Int32) (rs : Nat → Int32) (ra : Nat → Nat → Int32) (rs2 : Nat → Int32) (ra2 : Nat → Nat → Int32) (sa : Nat → Nat → Int32) (sl : Nat → Nat → Int64) (ns : Nat → Int32) (na : Nat → Nat → Int32) (nl : Nat → Nat → Int64) (y_isThere : Int32) (y_taken : Nat → Int32) (y_took : Nat → Int32) (o_of : Nat → Int64) (p1 : Int32) (p2 : Int32) (p3 : Int32) (p4 : Int32) (p5 : Int32) {post : Int32 → (Nat → Nat → Int64) → Prop} (h : P_X11_paste sa sl p1 p2 p3 p4 p5 post) : Met l yX11_paste vsX11_paste rmX11_paste (cPre D C [.ref L0, .int p1, .int p2, .int p3, .int p4, .int p5] sz ([cLockRail L0 (aU 0) (aR 0) (aR2 0) h_images (aS 0) n0 y0 o0 C ] ++ (wReader aU C us ua ++ (wRail aR C rs ra ++ (wRail aR2 C rs2 ra2 ++ (wSlots aS C sa sl ++ (wNight n0 aN C ns na nl ++ ([cYear y0 y1 y2 C y_isThere y_taken y_took] ++ ([cOb o0 C o_of]))))))))) (cQi D (fun (r : Int32) (u : (Nat → Nat → Int64)) => post r u) (fun u => [cLockRail L0 (aU 0) (aR 0) (aR2 0) h_images (aS 0) n0 y0 o0 C ] ++ (wReader aU C us ua ++ (wRail aR C rs ra ++ (wRail aR2 C rs2 ra2 ++ (wSlots aS C sa u ++ (wNight n0 aN C ns na nl ++ ([cYear y0 y1 y2 C y_isThere y_taken y_took] ++ ([cOb o0 C o_of])))))))) (va_A (List.flatten ([cLockRail L0 (aU 0) (aR 0) (aR2 0) h_images (aS 0) n0 y0 o0 C ] ++ (wReader aU C us ua ++ (wRail aR C rs ra ++ (wRail aR2 C rs2 ra2 ++ (wSlots aS C sa sl ++ (wNight n0 aN C ns na nl ++ ([cYear y0 y1 y2 C y_isThere y_taken y_took] ++ ([cOb o0 C o_of]))))))))) sz)) 0 0 (va_A (List.flatten ([cLockRail L0 (aU 0) (aR 0) (aR2 0) h_images (aS 0) n0 y0 o0 C ] ++ (wReader aU C us ua ++ (wRail aR C rs ra ++ (wRail aR2 C rs2 ra2 ++ (wSlots aS C sa sl ++ (wNight n0 aN C ns na nl ++ ([cYear y0 y1 y2 C y_isThere y_taken y_took] ++ ([cOb o0 C o_of]))))))))) sz) := by
  refine cStart (QA := fun A => cQi D (fun (r : Int32) (u : (Nat → Nat → Int64)) => post r u) (fun u => [cLockRail L0 (aU 0) (aR 0) (aR2 0) h_images (aS 0) n0 y0 o0 C ] ++ (wReader aU C us ua ++ (wRail aR C rs ra ++ (wRail aR2 C rs2 ra2 ++ (wSlots aS C sa u ++ (wNight n0 aN C ns na nl ++ ([cYear y0 y1 y2 C y_isThere y_taken y_took] ++ ([cOb o0 C o_of])))))))) A) (cc := cX11_paste) (maxL := 6) (ret := (some .int)) (by decide) (Nat.le_of_ble_eq_true rfl) ?_
  intro p e s m args below meth c A ls hx hb hr hml hown hw hlocks hname hK hN hA hP hD hS hl
  generalize hQ : MQ below _ args s 0 0 A = Q
  have hl : lv_has ls 6 [(0, .ref L0), (1, .int p1), (2, .int p2), (3, .int p3), (4, .int p4), (5, .int p5)] := hl
  obtain ⟨H, hH⟩ : ∃ H, H = s.heap := ⟨_, rfl⟩
  obtain ⟨locs, hlo⟩ : ∃ z : List Loc, z = [] := ⟨_, rfl⟩
  have hP : va_P D vwCl (List.flatten ([cLockRail L0 (aU 0) (aR 0) (aR2 0) h_images (aS 0) n0 y0 o0 C ] ++ (wReader aU C us ua ++ (wRail aR C rs ra ++ (wRail aR2 C rs2 ra2 ++ (wSlots aS C sa sl ++ (wNight n0 aN C ns na nl ++ ([cYear y0 y1 y2 C y_isThere y_taken y_took] ++ ([cOb o0 C o_of]))))))))) H := by rw [hH]; exact hP
  have hS : va_S A s.heap H locs := by rw [hH, hlo]; exact hS
  rw [show W p l e rmX11_paste s m args below meth c s.heap [] 0 0 Q (F0 m 0 ls []) = W p l e rmX11_paste s m args below meth c H locs 0 0 Q (F0 m 0 ls []) from by rw [hH, hlo]]
  refine lv_aload_n hx hb dX11_paste_0 rfl (lv_at hl 0 rfl) ?_
  refine va_get (D := D) (ci := 11) (v := .ref (aS 0)) (C := RX11) (T := TX11) (N := 8) hx hb hw inW_X11 hown hK hP 0 rfl rfl 4 (by decide) (hw _ mw_2_147) (fun _ h9 => h9) rfl dX11_paste_1 ?_
  refine lv_iload_n hx hb dX11_paste_4 rfl (lv_at hl 1 rfl) ?_
  refine cGoI (wo := fun u => [cLockRail L0 (aU 0) (aR 0) (aR2 0) h_images (aS 0) n0 y0 o0 C ] ++ (wReader aU C us ua ++ (wRail aR C rs ra ++ (wRail aR2 C rs2 ra2 ++ (wSlots aS C sa sl ++ (wNight n0 aN C ns na nl ++ ([cYear y0 y1 y2 C y_isThere y_taken y_took] ++ ([cOb o0 C o_of])))))))) (cRunVN (As := [.int p1]) (rest := []) ⟨hx, hb, hml, hown, hw⟩ hK hN hP hD [15] rfl rfl (k_X6_isSlot l D C _ aS  sa sl p1 h) ⟨va_cnB 1 hw (goodN mw_5_184) rfl rfl rfl (hN.m 73 rfl) (hw _ mw_1_10) (by decide +kernel) ⟨Nat.le_of_ble_eq_true rfl, Nat.le_of_ble_eq_true rfl⟩, hw _ mw_5_183, hw _ mw_s96⟩ rfl rfl rfl hl.1 rfl (Nat.le_of_ble_eq_true rfl) dX11_paste_5 ⟨Nat.zero_le _, Nat.zero_le _⟩) hP hD hS hA [15] [0, 1, 2, 3, 4, 5, 6, 7, 8, 9, 10, 11, 12, 13, 14, 16, 17, 18, 19, 20] [0, 1, 2, 3, 4, 5, 6, 7, 8, 9, 10, 11, 12, 13, 14, 20, 15, 16, 17, 18, 19] rfl rfl rfl (by decide) rfl (fun _ => rfl) (fun r1 u H locs h hP hD hS => ?_)
  have hP : va_P D vwCl (List.flatten ([cLockRail L0 (aU 0) (aR 0) (aR2 0) h_images (aS 0) n0 y0 o0 C ] ++ (wReader aU C us ua ++ (wRail aR C rs ra ++ (wRail aR2 C rs2 ra2 ++ (wSlots aS C sa sl ++ (wNight n0 aN C ns na nl ++ ([cYear y0 y1 y2 C y_isThere y_taken y_took] ++ ([cOb o0 C o_of]))))))))) H := hP
  have hD : va_D A (List.flatten ([cLockRail L0 (aU 0) (aR 0) (aR2 0) h_images (aS 0) n0 y0 o0 C ] ++ (wReader aU C us ua ++ (wRail aR C rs ra ++ (wRail aR2 C rs2 ra2 ++ (wSlots aS C sa sl ++ (wNight n0 aN C ns na nl ++ ([cYear y0 y1 y2 C y_isThere y_taken y_took] ++ ([cOb o0 C o_of]))))))))) := hD
  refine lv_if_eq (tgt := 22) hx hb dX11_paste_8 (by decide) (fun c2 => ?_) (fun c2 => ?_)
  · have h := h.1 c2
    refine lv_bipush (v := (-2)) hx hb dX11_paste_22 (by decide) ?_
    rw [← hQ]
    exact cRetI (v := (-2)) (sl) hx hb hr hlocks hS hP hD h dX11_paste_24
  · have h := h.2 c2
    refine lv_aload_n hx hb dX11_paste_11 rfl (lv_at hl 0 rfl) ?_
    refine va_get (D := D) (ci := 11) (v := .ref (aS 0)) (C := RX11) (T := TX11) (N := 8) hx hb hw inW_X11 hown hK hP 0 rfl rfl 4 (by decide) (hw _ mw_2_147) (fun _ h9 => h9) rfl dX11_paste_12 ?_
    refine lv_iload_n hx hb dX11_paste_15 rfl (lv_at hl 3 rfl) ?_
    refine cGoI (wo := fun u => [cLockRail L0 (aU 0) (aR 0) (aR2 0) h_images (aS 0) n0 y0 o0 C ] ++ (wReader aU C us ua ++ (wRail aR C rs ra ++ (wRail aR2 C rs2 ra2 ++ (wSlots aS C sa sl ++ (wNight n0 aN C ns na nl ++ ([cYear y0 y1 y2 C y_isThere y_taken y_took] ++ ([cOb o0 C o_of])))))))) (cRunVN (As := [.int p3]) (rest := []) ⟨hx, hb, hml, hown, hw⟩ hK hN hP hD [15] rfl rfl (k_X6_isSlot l D C _ aS  sa sl p3 h) ⟨va_cnB 1 hw (goodN mw_5_184) rfl rfl rfl (hN.m 73 rfl) (hw _ mw_1_10) (by decide +kernel) ⟨Nat.le_of_ble_eq_true rfl, Nat.le_of_ble_eq_true rfl⟩, hw _ mw_5_183, hw _ mw_s96⟩ rfl rfl rfl hl.1 rfl (Nat.le_of_ble_eq_true rfl) dX11_paste_16 ⟨Nat.zero_le _, Nat.zero_le _⟩) hP hD hS hA [15] [0, 1, 2, 3, 4, 5, 6, 7, 8, 9, 10, 11, 12, 13, 14, 16, 17, 18, 19, 20] [0, 1, 2, 3, 4, 5, 6, 7, 8, 9, 10, 11, 12, 13, 14, 20, 15, 16, 17, 18, 19] rfl rfl rfl (by decide) rfl (fun _ => rfl) (fun r3 u H locs h hP hD hS => ?_)
    have hP : va_P D vwCl (List.flatten ([cLockRail L0 (aU 0) (aR 0) (aR2 0) h_images (aS 0) n0 y0 o0 C ] ++ (wReader aU C us ua ++ (wRail aR C rs ra ++ (wRail aR2 C rs2 ra2 ++ (wSlots aS C sa sl ++ (wNight n0 aN C ns na nl ++ ([cYear y0 y1 y2 C y_isThere y_taken y_took] ++ ([cOb o0 C o_of]))))))))) H := hP
    have hD : va_D A (List.flatten ([cLockRail L0 (aU 0) (aR 0) (aR2 0) h_images (aS 0) n0 y0 o0 C ] ++ (wReader aU C us ua ++ (wRail aR C rs ra ++ (wRail aR2 C rs2 ra2 ++ (wSlots aS C sa sl ++ (wNight n0 aN C ns na nl ++ ([cYear y0 y1 y2 C y_isThere y_taken y_took] ++ ([cOb o0 C o_of]))))))))) := hD
    refine lv_if_ne (tgt := 25) hx hb dX11_paste_19 (by decide) (fun c4 => ?_) (fun c4 => ?_)
    · have h := h.1 c4
      refine lv_aload_n hx hb dX11_paste_25 rfl (lv_at hl 0 rfl) ?_
      refine va_get (D := D) (ci := 11) (v := .ref (aS 0)) (C := RX11) (T := TX11) (N := 8) hx hb hw inW_X11 hown hK hP 0 rfl rfl 4 (by decide) (hw _ mw_2_147) (fun _ h9 => h9) rfl dX11_paste_26 ?_
      refine lv_iload_n hx hb dX11_paste_29 rfl (lv_at hl 1 rfl) ?_
      refine cGoI (wo := fun u => [cLockRail L0 (aU 0) (aR 0) (aR2 0) h_images (aS 0) n0 y0 o0 C ] ++ (wReader aU C us ua ++ (wRail aR C rs ra ++ (wRail aR2 C rs2 ra2 ++ (wSlots aS C sa sl ++ (wNight n0 aN C ns na nl ++ ([cYear y0 y1 y2 C y_isThere y_taken y_took] ++ ([cOb o0 C o_of])))))))) (cRunVN (As := [.int p1]) (rest := []) ⟨hx, hb, hml, hown, hw⟩ hK hN hP hD [15] rfl rfl (k_X6_hasRow l D C _ aS  sa sl p1 h) ⟨va_cnB 1 hw (goodN mw_5_188) rfl rfl rfl (hN.m 74 rfl) (hw _ mw_1_10) (by decide +kernel) ⟨Nat.le_of_ble_eq_true rfl, Nat.le_of_ble_eq_true rfl⟩, hw _ mw_5_187, hw _ mw_s97⟩ rfl rfl rfl hl.1 rfl (Nat.le_of_ble_eq_true rfl) dX11_paste_30 ⟨Nat.zero_le _, Nat.zero_le _⟩) hP hD hS hA [15] [0, 1, 2, 3, 4, 5, 6, 7, 8, 9, 10, 11, 12, 13, 14, 16, 17, 18, 19, 20] [0, 1, 2, 3, 4, 5, 6, 7, 8, 9, 10, 11, 12, 13, 14, 20, 15, 16, 17, 18, 19] rfl rfl rfl (by decide) rfl (fun _ => rfl) (fun r5 u H locs h hP hD hS => ?_)
      have hP : va_P D vwCl (List.flatten ([cLockRail L0 (aU 0) (aR 0) (aR2 0) h_images (aS 0) n0 y0 o0 C ] ++ (wReader aU C us ua ++ (wRail aR C rs ra ++ (wRail aR2 C rs2 ra2 ++ (wSlots aS C sa sl ++ (wNight n0 aN C ns na nl ++ ([cYear y0 y1 y2 C y_isThere y_taken y_took] ++ ([cOb o0 C o_of]))))))))) H := hP
      have hD : va_D A (List.flatten ([cLockRail L0 (aU 0) (aR 0) (aR2 0) h_images (aS 0) n0 y0 o0 C ] ++ (wReader aU C us ua ++ (wRail aR C rs ra ++ (wRail aR2 C rs2 ra2 ++ (wSlots aS C sa sl ++ (wNight n0 aN C ns na nl ++ ([cYear y0 y1 y2 C y_isThere y_taken y_took] ++ ([cOb o0 C o_of]))))))))) := hD
      refine lv_if_eq (tgt := 47) hx hb dX11_paste_33 (by decide) (fun c6 => ?_) (fun c6 => ?_)
      · have h := h.1 c6
        refine lv_bipush (v := (-6)) hx hb dX11_paste_47 (by decide) ?_
        rw [← hQ]
        exact cRetI (v := (-6)) (sl) hx hb hr hlocks hS hP hD h dX11_paste_49
      · have h := h.2 c6
        refine lv_aload_n hx hb dX11_paste_36 rfl (lv_at hl 0 rfl) ?_
        refine va_get (D := D) (ci := 11) (v := .ref (aS 0)) (C := RX11) (T := TX11) (N := 8) hx hb hw inW_X11 hown hK hP 0 rfl rfl 4 (by decide) (hw _ mw_2_147) (fun _ h9 => h9) rfl dX11_paste_37 ?_
        refine lv_iload_n hx hb dX11_paste_40 rfl (lv_at hl 3 rfl) ?_
        refine cGoI (wo := fun u => [cLockRail L0 (aU 0) (aR 0) (aR2 0) h_images (aS 0) n0 y0 o0 C ] ++ (wReader aU C us ua ++ (wRail aR C rs ra ++ (wRail aR2 C rs2 ra2 ++ (wSlots aS C sa sl ++ (wNight n0 aN C ns na nl ++ ([cYear y0 y1 y2 C y_isThere y_taken y_took] ++ ([cOb o0 C o_of])))))))) (cRunVN (As := [.int p3]) (rest := []) ⟨hx, hb, hml, hown, hw⟩ hK hN hP hD [15] rfl rfl (k_X6_hasRow l D C _ aS  sa sl p3 h) ⟨va_cnB 1 hw (goodN mw_5_188) rfl rfl rfl (hN.m 74 rfl) (hw _ mw_1_10) (by decide +kernel) ⟨Nat.le_of_ble_eq_true rfl, Nat.le_of_ble_eq_true rfl⟩, hw _ mw_5_187, hw _ mw_s97⟩ rfl rfl rfl hl.1 rfl (Nat.le_of_ble_eq_true rfl) dX11_paste_41 ⟨Nat.zero_le _, Nat.zero_le _⟩) hP hD hS hA [15] [0, 1, 2, 3, 4, 5, 6, 7, 8, 9, 10, 11, 12, 13, 14, 16, 17, 18, 19, 20] [0, 1, 2, 3, 4, 5, 6, 7, 8, 9, 10, 11, 12, 13, 14, 20, 15, 16, 17, 18, 19] rfl rfl rfl (by decide) rfl (fun _ => rfl) (fun r7 u H locs h hP hD hS => ?_)
        have hP : va_P D vwCl (List.flatten ([cLockRail L0 (aU 0) (aR 0) (aR2 0) h_images (aS 0) n0 y0 o0 C ] ++ (wReader aU C us ua ++ (wRail aR C rs ra ++ (wRail aR2 C rs2 ra2 ++ (wSlots aS C sa sl ++ (wNight n0 aN C ns na nl ++ ([cYear y0 y1 y2 C y_isThere y_taken y_took] ++ ([cOb o0 C o_of]))))))))) H := hP
        have hD : va_D A (List.flatten ([cLockRail L0 (aU 0) (aR 0) (aR2 0) h_images (aS 0) n0 y0 o0 C ] ++ (wReader aU C us ua ++ (wRail aR C rs ra ++ (wRail aR2 C rs2 ra2 ++ (wSlots aS C sa sl ++ (wNight n0 aN C ns na nl ++ ([cYear y0 y1 y2 C y_isThere y_taken y_took] ++ ([cOb o0 C o_of]))))))))) := hD
        refine lv_if_ne (tgt := 50) hx hb dX11_paste_44 (by decide) (fun c8 => ?_) (fun c8 => ?_)
        · have h := h.1 c8
          refine lv_aload_n hx hb dX11_paste_50 rfl (lv_at hl 0 rfl) ?_
          refine va_get (D := D) (ci := 11) (v := .ref (aS 0)) (C := RX11) (T := TX11) (N := 8) hx hb hw inW_X11 hown hK hP 0 rfl rfl 4 (by decide) (hw _ mw_2_147) (fun _ h9 => h9) rfl dX11_paste_51 ?_
          refine lv_iload_n hx hb dX11_paste_54 rfl (lv_at hl 1 rfl) ?_
          refine lv_iload_n hx hb dX11_paste_55 rfl (lv_at hl 3 rfl) ?_
          refine cGoI (wo := fun u => [cLockRail L0 (aU 0) (aR 0) (aR2 0) h_images (aS 0) n0 y0 o0 C ] ++ (wReader aU C us ua ++ (wRail aR C rs ra ++ (wRail aR2 C rs2 ra2 ++ (wSlots aS C sa sl ++ (wNight n0 aN C ns na nl ++ ([cYear y0 y1 y2 C y_isThere y_taken y_took] ++ ([cOb o0 C o_of])))))))) (cRunVN (As := [.int p1, .int p3]) (rest := []) ⟨hx, hb, hml, hown, hw⟩ hK hN hP hD [15] rfl rfl (k_X6_areAlike l D C _ aS  sa sl p1 p3 h) ⟨va_cnB 2 hw (goodN mw_6_26) rfl rfl rfl (hN.m 84 rfl) (hw _ mw_1_10) (by decide +kernel) ⟨Nat.le_of_ble_eq_true rfl, Nat.le_of_ble_eq_true rfl⟩, hw _ mw_6_25, hw _ mw_s105⟩ rfl rfl rfl hl.1 rfl (Nat.le_of_ble_eq_true rfl) dX11_paste_56 ⟨Nat.zero_le _, Nat.zero_le _⟩) hP hD hS hA [15] [0, 1, 2, 3, 4, 5, 6, 7, 8, 9, 10, 11, 12, 13, 14, 16, 17, 18, 19, 20] [0, 1, 2, 3, 4, 5, 6, 7, 8, 9, 10, 11, 12, 13, 14, 20, 15, 16, 17, 18, 19] rfl rfl rfl (by decide) rfl (fun _ => rfl) (fun r9 u H locs h hP hD hS => ?_)
          have hP : va_P D vwCl (List.flatten ([cLockRail L0 (aU 0) (aR 0) (aR2 0) h_images (aS 0) n0 y0 o0 C ] ++ (wReader aU C us ua ++ (wRail aR C rs ra ++ (wRail aR2 C rs2 ra2 ++ (wSlots aS C sa sl ++ (wNight n0 aN C ns na nl ++ ([cYear y0 y1 y2 C y_isThere y_taken y_took] ++ ([cOb o0 C o_of]))))))))) H := hP
          have hD : va_D A (List.flatten ([cLockRail L0 (aU 0) (aR 0) (aR2 0) h_images (aS 0) n0 y0 o0 C ] ++ (wReader aU C us ua ++ (wRail aR C rs ra ++ (wRail aR2 C rs2 ra2 ++ (wSlots aS C sa sl ++ (wNight n0 aN C ns na nl ++ ([cYear y0 y1 y2 C y_isThere y_taken y_took] ++ ([cOb o0 C o_of]))))))))) := hD
          refine lv_if_ne (tgt := 65) hx hb dX11_paste_59 (by decide) (fun c10 => ?_) (fun c10 => ?_)
          · have h := h.1 c10
            refine lv_aload_n hx hb dX11_paste_65 rfl (lv_at hl 0 rfl) ?_
            refine va_get (D := D) (ci := 11) (v := .ref (aS 0)) (C := RX11) (T := TX11) (N := 8) hx hb hw inW_X11 hown hK hP 0 rfl rfl 4 (by decide) (hw _ mw_2_147) (fun _ h9 => h9) rfl dX11_paste_66 ?_
            refine lv_iload_n hx hb dX11_paste_69 rfl (lv_at hl 1 rfl) ?_
            refine lv_iload_n hx hb dX11_paste_70 rfl (lv_at hl 2 rfl) ?_
            refine lv_iload hx hb dX11_paste_71 (lv_at hl 5 rfl) ?_
            refine cGoI (wo := fun u => [cLockRail L0 (aU 0) (aR 0) (aR2 0) h_images (aS 0) n0 y0 o0 C ] ++ (wReader aU C us ua ++ (wRail aR C rs ra ++ (wRail aR2 C rs2 ra2 ++ (wSlots aS C sa sl ++ (wNight n0 aN C ns na nl ++ ([cYear y0 y1 y2 C y_isThere y_taken y_took] ++ ([cOb o0 C o_of])))))))) (cRunVN (As := [.int p1, .int p2, .int p5]) (rest := []) ⟨hx, hb, hml, hown, hw⟩ hK hN hP hD [15] rfl rfl (k_X6_hasAll l D C _ aS  sa sl p1 p2 p5 h) ⟨va_cnB 3 hw (goodN mw_6_30) rfl rfl rfl (hN.m 85 rfl) (hw _ mw_1_10) (by decide +kernel) ⟨Nat.le_of_ble_eq_true rfl, Nat.le_of_ble_eq_true rfl⟩, hw _ mw_6_29, hw _ mw_s106⟩ rfl rfl rfl hl.1 rfl (Nat.le_of_ble_eq_true rfl) dX11_paste_73 ⟨Nat.zero_le _, Nat.zero_le _⟩) hP hD hS hA [15] [0, 1, 2, 3, 4, 5, 6, 7, 8, 9, 10, 11, 12, 13, 14, 16, 17, 18, 19, 20] [0, 1, 2, 3, 4, 5, 6, 7, 8, 9, 10, 11, 12, 13, 14, 20, 15, 16, 17, 18, 19] rfl rfl rfl (by decide) rfl (fun _ => rfl) (fun r11 u H locs h hP hD hS => ?_)
            have hP : va_P D vwCl (List.flatten ([cLockRail L0 (aU 0) (aR 0) (aR2 0) h_images (aS 0) n0 y0 o0 C ] ++ (wReader aU C us ua ++ (wRail aR C rs ra ++ (wRail aR2 C rs2 ra2 ++ (wSlots aS C sa sl ++ (wNight n0 aN C ns na nl ++ ([cYear y0 y1 y2 C y_isThere y_taken y_took] ++ ([cOb o0 C o_of]))))))))) H := hP
            have hD : va_D A (List.flatten ([cLockRail L0 (aU 0) (aR 0) (aR2 0) h_images (aS 0) n0 y0 o0 C ] ++ (wReader aU C us ua ++ (wRail aR C rs ra ++ (wRail aR2 C rs2 ra2 ++ (wSlots aS C sa sl ++ (wNight n0 aN C ns na nl ++ ([cYear y0 y1 y2 C y_isThere y_taken y_took] ++ ([cOb o0 C o_of]))))))))) := hD
            refine lv_if_eq (tgt := 94) hx hb dX11_paste_76 (by decide) (fun c12 => ?_) (fun c12 => ?_)
            · have h := h.1 c12
              refine lv_bipush (v := (-7)) hx hb dX11_paste_94 (by decide) ?_
              rw [← hQ]
              exact cRetI (v := (-7)) (sl) hx hb hr hlocks hS hP hD h dX11_paste_96
            · have h := h.2 c12
              refine lv_aload_n hx hb dX11_paste_79 rfl (lv_at hl 0 rfl) ?_
              refine va_get (D := D) (ci := 11) (v := .ref (aS 0)) (C := RX11) (T := TX11) (N := 8) hx hb hw inW_X11 hown hK hP 0 rfl rfl 4 (by decide) (hw _ mw_2_147) (fun _ h9 => h9) rfl dX11_paste_80 ?_
              refine lv_iload_n hx hb dX11_paste_83 rfl (lv_at hl 3 rfl) ?_
              refine lv_iload hx hb dX11_paste_84 (lv_at hl 4 rfl) ?_
              refine lv_iload hx hb dX11_paste_86 (lv_at hl 5 rfl) ?_
              refine cGoI (wo := fun u => [cLockRail L0 (aU 0) (aR 0) (aR2 0) h_images (aS 0) n0 y0 o0 C ] ++ (wReader aU C us ua ++ (wRail aR C rs ra ++ (wRail aR2 C rs2 ra2 ++ (wSlots aS C sa sl ++ (wNight n0 aN C ns na nl ++ ([cYear y0 y1 y2 C y_isThere y_taken y_took] ++ ([cOb o0 C o_of])))))))) (cRunVN (As := [.int p3, .int p4, .int p5]) (rest := []) ⟨hx, hb, hml, hown, hw⟩ hK hN hP hD [15] rfl rfl (k_X6_hasAll l D C _ aS  sa sl p3 p4 p5 h) ⟨va_cnB 3 hw (goodN mw_6_30) rfl rfl rfl (hN.m 85 rfl) (hw _ mw_1_10) (by decide +kernel) ⟨Nat.le_of_ble_eq_true rfl, Nat.le_of_ble_eq_true rfl⟩, hw _ mw_6_29, hw _ mw_s106⟩ rfl rfl rfl hl.1 rfl (Nat.le_of_ble_eq_true rfl) dX11_paste_88 ⟨Nat.zero_le _, Nat.zero_le _⟩) hP hD hS hA [15] [0, 1, 2, 3, 4, 5, 6, 7, 8, 9, 10, 11, 12, 13, 14, 16, 17, 18, 19, 20] [0, 1, 2, 3, 4, 5, 6, 7, 8, 9, 10, 11, 12, 13, 14, 20, 15, 16, 17, 18, 19] rfl rfl rfl (by decide) rfl (fun _ => rfl) (fun r13 u H locs h hP hD hS => ?_)
              have hP : va_P D vwCl (List.flatten ([cLockRail L0 (aU 0) (aR 0) (aR2 0) h_images (aS 0) n0 y0 o0 C ] ++ (wReader aU C us ua ++ (wRail aR C rs ra ++ (wRail aR2 C rs2 ra2 ++ (wSlots aS C sa sl ++ (wNight n0 aN C ns na nl ++ ([cYear y0 y1 y2 C y_isThere y_taken y_took] ++ ([cOb o0 C o_of]))))))))) H := hP
              have hD : va_D A (List.flatten ([cLockRail L0 (aU 0) (aR 0) (aR2 0) h_images (aS 0) n0 y0 o0 C ] ++ (wReader aU C us ua ++ (wRail aR C rs ra ++ (wRail aR2 C rs2 ra2 ++ (wSlots aS C sa sl ++ (wNight n0 aN C ns na nl ++ ([cYear y0 y1 y2 C y_isThere y_taken y_took] ++ ([cOb o0 C o_of]))))))))) := hD
              refine lv_if_ne (tgt := 97) hx hb dX11_paste_91 (by decide) (fun c14 => ?_) (fun c14 => ?_)
              · have h := h.1 c14
                refine lv_aload_n hx hb dX11_paste_97 rfl (lv_at hl 0 rfl) ?_
                refine va_get (D := D) (ci := 11) (v := .ref (aS 0)) (C := RX11) (T := TX11) (N := 8) hx hb hw inW_X11 hown hK hP 0 rfl rfl 4 (by decide) (hw _ mw_2_147) (fun _ h9 => h9) rfl dX11_paste_98 ?_
                refine lv_iload_n hx hb dX11_paste_101 rfl (lv_at hl 1 rfl) ?_
                refine lv_iload_n hx hb dX11_paste_102 rfl (lv_at hl 2 rfl) ?_
                refine lv_iload_n hx hb dX11_paste_103 rfl (lv_at hl 3 rfl) ?_
                refine lv_iload hx hb dX11_paste_104 (lv_at hl 4 rfl) ?_
                refine lv_iload hx hb dX11_paste_106 (lv_at hl 5 rfl) ?_
                refine cGoV (wo := fun u => [cLockRail L0 (aU 0) (aR 0) (aR2 0) h_images (aS 0) n0 y0 o0 C ] ++ (wReader aU C us ua ++ (wRail aR C rs ra ++ (wRail aR2 C rs2 ra2 ++ (wSlots aS C sa u ++ (wNight n0 aN C ns na nl ++ ([cYear y0 y1 y2 C y_isThere y_taken y_took] ++ ([cOb o0 C o_of])))))))) (cRunVN (As := [.int p1, .int p2, .int p3, .int p4, .int p5]) (rest := []) ⟨hx, hb, hml, hown, hw⟩ hK hN hP hD [15] rfl rfl (k_X6_copy l D C _ aS  sa sl p1 p2 p3 p4 p5 h) ⟨va_cnB 5 hw (goodN mw_6_34) rfl rfl rfl (hN.m 86 rfl) (hw _ mw_1_10) (by decide +kernel) ⟨Nat.le_of_ble_eq_true rfl, Nat.le_of_ble_eq_true rfl⟩, hw _ mw_6_33, hw _ mw_s107⟩ rfl rfl rfl hl.1 rfl (Nat.le_of_ble_eq_true rfl) dX11_paste_108 ⟨Nat.zero_le _, Nat.zero_le _⟩) hP hD hS hA [15] [0, 1, 2, 3, 4, 5, 6, 7, 8, 9, 10, 11, 12, 13, 14, 16, 17, 18, 19, 20] [0, 1, 2, 3, 4, 5, 6, 7, 8, 9, 10, 11, 12, 13, 14, 20, 15, 16, 17, 18, 19] rfl rfl rfl (by decide) rfl (fun _ => rfl) (fun sl_15 H locs h hP hD hS => ?_)
                have hP : va_P D vwCl (List.flatten ([cLockRail L0 (aU 0) (aR 0) (aR2 0) h_images (aS 0) n0 y0 o0 C ] ++ (wReader aU C us ua ++ (wRail aR C rs ra ++ (wRail aR2 C rs2 ra2 ++ (wSlots aS C sa sl_15 ++ (wNight n0 aN C ns na nl ++ ([cYear y0 y1 y2 C y_isThere y_taken y_took] ++ ([cOb o0 C o_of]))))))))) H := hP
                have hD : va_D A (List.flatten ([cLockRail L0 (aU 0) (aR 0) (aR2 0) h_images (aS 0) n0 y0 o0 C ] ++ (wReader aU C us ua ++ (wRail aR C rs ra ++ (wRail aR2 C rs2 ra2 ++ (wSlots aS C sa sl_15 ++ (wNight n0 aN C ns na nl ++ ([cYear y0 y1 y2 C y_isThere y_taken y_took] ++ ([cOb o0 C o_of]))))))))) := hD
                refine lv_iconst (v := 0) hx hb dX11_paste_111 (by decide) ?_
                rw [← hQ]
                exact cRetI (v := 0) (sl_15) hx hb hr hlocks hS hP hD h dX11_paste_112
              · have h := h.2 c14
                refine lv_bipush (v := (-7)) hx hb dX11_paste_94 (by decide) ?_
                rw [← hQ]
                exact cRetI (v := (-7)) (sl) hx hb hr hlocks hS hP hD h dX11_paste_96
          · have h := h.2 c10
            refine lv_bipush (v := (-8)) hx hb dX11_paste_62 (by decide) ?_
            rw [← hQ]
            exact cRetI (v := (-8)) (sl) hx hb hr hlocks hS hP hD h dX11_paste_64
        · have h := h.2 c8
          refine lv_bipush (v := (-6)) hx hb dX11_paste_47 (by decide) ?_
          rw [← hQ]
          exact cRetI (v := (-6)) (sl) hx hb hr hlocks hS hP hD h dX11_paste_49
    · have h := h.2 c4
      refine lv_bipush (v := (-2)) hx hb dX11_paste_22 (by decide) ?_
      rw [← hQ]
      exact cRetI (v := (-2)) (sl) hx hb hr hlocks hS hP hD h dX11_paste_24

