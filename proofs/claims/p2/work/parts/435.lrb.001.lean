abbrev vsX11_settles : List Cond := Cond.code yX11_settles cX11_settles 2 (some .int) :: WS
abbrev rmX11_settles : Room := { frames := 6, cells := 0, slots := 0, locals := 161 }
set_option maxHeartbeats 4000000 in
set_option maxRecDepth 100000 in
theorem k_X11_settles (l : Launch) (D : va_G) (C : Nat → ClassId) (sz : Nat) (L0 : Nat) (aU : Nat → Nat) (aR : Nat → Nat) (aR2 : Nat → Nat) (aS : Nat → Nat) (n0 : Nat) (aN : Nat → Nat) (y0 : Nat) (y1 : Nat) (y2 : Nat) (o0 : Nat) (h_images : Nat) (us : Nat → Int32) (ua : Nat → Nat → Int32) (rs : Nat → Int32) (ra : Nat → Nat → Int32) (rs2 : Nat → Int32) (ra2 : Nat → Nat → Int32) (sa : Nat → Nat → Int32) (sl : Nat → Nat → Int64) (ns : Nat → Int32) (na : Nat → Nat → Int32) (nl : Nat → Nat → Int64) (y_isThere : Int32) (y_taken : Nat → Int32) (y_took : Nat → Int32) (o_of : Nat → Int64)  {post : Int32 → (Nat → Int32) → (Nat → Nat → Int32) → (Nat → Int32) → (Nat → Nat → Int32) → (Nat → Nat → Int64) → Prop} (h : P_X11_settles rs ra rs2 ra2 ns na nl post) : Met l yX11_settles vsX11_settles rmX11_settles (cPre D C [.ref L0] sz ([cLockRail L0 (aU 0) (aR 0) (aR2 0) h_images (aS 0) n0 y0 o0 C ] ++ (wReader aU C us ua ++ (wRail aR C rs ra ++ (wRail aR2 C rs2 ra2 ++ (wSlots aS C sa sl ++ (wNight n0 aN C ns na nl ++ ([cYear y0 y1 y2 C y_isThere y_taken y_took] ++ ([cOb o0 C o_of]))))))))) (cQi D (fun (r : Int32) (u : (Nat → Nat) × (Nat → Int32) × (Nat → Nat → Int32) × (Nat → Int32) × (Nat → Nat → Int32) × (Nat → Nat → Int64)) => post r u.2.1 u.2.2.1 u.2.2.2.1 u.2.2.2.2.1 u.2.2.2.2.2) (fun u => [cLockRail L0 (aU 0) (aR 0) (aR2 0) h_images (aS 0) n0 y0 o0 C ] ++ (wReader aU C us ua ++ (wRail aR C rs ra ++ (wRail aR2 C u.2.1 u.2.2.1 ++ (wSlots aS C sa sl ++ (wNight n0 u.1 C u.2.2.2.1 u.2.2.2.2.1 u.2.2.2.2.2 ++ ([cYear y0 y1 y2 C y_isThere y_taken y_took] ++ ([cOb o0 C o_of])))))))) (va_A (List.flatten ([cLockRail L0 (aU 0) (aR 0) (aR2 0) h_images (aS 0) n0 y0 o0 C ] ++ (wReader aU C us ua ++ (wRail aR C rs ra ++ (wRail aR2 C rs2 ra2 ++ (wSlots aS C sa sl ++ (wNight n0 aN C ns na nl ++ ([cYear y0 y1 y2 C y_isThere y_taken y_took] ++ ([cOb o0 C o_of]))))))))) sz)) 0 0 (va_A (List.flatten ([cLockRail L0 (aU 0) (aR 0) (aR2 0) h_images (aS 0) n0 y0 o0 C ] ++ (wReader aU C us ua ++ (wRail aR C rs ra ++ (wRail aR2 C rs2 ra2 ++ (wSlots aS C sa sl ++ (wNight n0 aN C ns na nl ++ ([cYear y0 y1 y2 C y_isThere y_taken y_took] ++ ([cOb o0 C o_of]))))))))) sz) := by
  refine cStart (QA := fun A => cQi D (fun (r : Int32) (u : (Nat → Nat) × (Nat → Int32) × (Nat → Nat → Int32) × (Nat → Int32) × (Nat → Nat → Int32) × (Nat → Nat → Int64)) => post r u.2.1 u.2.2.1 u.2.2.2.1 u.2.2.2.2.1 u.2.2.2.2.2) (fun u => [cLockRail L0 (aU 0) (aR 0) (aR2 0) h_images (aS 0) n0 y0 o0 C ] ++ (wReader aU C us ua ++ (wRail aR C rs ra ++ (wRail aR2 C u.2.1 u.2.2.1 ++ (wSlots aS C sa sl ++ (wNight n0 u.1 C u.2.2.2.1 u.2.2.2.2.1 u.2.2.2.2.2 ++ ([cYear y0 y1 y2 C y_isThere y_taken y_took] ++ ([cOb o0 C o_of])))))))) A) (cc := cX11_settles) (maxL := 2) (ret := (some .int)) (by decide) (Nat.le_of_ble_eq_true rfl) ?_
  intro p e s m args below meth c A ls hx hb hr hml hown hw hlocks hname hK hN hA hP hD hS hl
  generalize hQ : MQ below _ args s 0 0 A = Q
  have hl : lv_has ls 2 [(0, .ref L0)] := hl
  obtain ⟨H, hH⟩ : ∃ H, H = s.heap := ⟨_, rfl⟩
  obtain ⟨locs, hlo⟩ : ∃ z : List Loc, z = [] := ⟨_, rfl⟩
  have hP : va_P D vwCl (List.flatten ([cLockRail L0 (aU 0) (aR 0) (aR2 0) h_images (aS 0) n0 y0 o0 C ] ++ (wReader aU C us ua ++ (wRail aR C rs ra ++ (wRail aR2 C rs2 ra2 ++ (wSlots aS C sa sl ++ (wNight n0 aN C ns na nl ++ ([cYear y0 y1 y2 C y_isThere y_taken y_took] ++ ([cOb o0 C o_of]))))))))) H := by rw [hH]; exact hP
  have hS : va_S A s.heap H locs := by rw [hH, hlo]; exact hS
  rw [show W p l e rmX11_settles s m args below meth c s.heap [] 0 0 Q (F0 m 0 ls []) = W p l e rmX11_settles s m args below meth c H locs 0 0 Q (F0 m 0 ls []) from by rw [hH, hlo]]
  refine lv_aload_n hx hb dX11_settles_0 rfl (lv_at hl 0 rfl) ?_
  refine va_get (D := D) (ci := 11) (v := .ref (aR 0)) (C := RX11) (T := TX11) (N := 8) hx hb hw inW_X11 hown hK hP 0 rfl rfl 1 (by decide) (hw _ mw_2_144) (fun _ h9 => h9) rfl dX11_settles_1 ?_
  refine cGoI (wo := fun u => [cLockRail L0 (aU 0) (aR 0) (aR2 0) h_images (aS 0) n0 y0 o0 C ] ++ (wReader aU C us ua ++ (wRail aR C rs ra ++ (wRail aR2 C rs2 ra2 ++ (wSlots aS C sa sl ++ (wNight n0 aN C ns na nl ++ ([cYear y0 y1 y2 C y_isThere y_taken y_took] ++ ([cOb o0 C o_of])))))))) (cRunVN (As := []) (rest := []) ⟨hx, hb, hml, hown, hw⟩ hK hN hP hD [3, 4, 5, 6, 7, 8] rfl rfl (k_X4_isTold l D C _ aR  rs ra  h) ⟨va_cnB 0 hw (goodN mw_4_19) rfl rfl rfl (hN.m 44 rfl) (hw _ mw_1_4) (by decide +kernel) ⟨Nat.le_of_ble_eq_true rfl, Nat.le_of_ble_eq_true rfl⟩, hw _ mw_4_18, hw _ mw_s47⟩ rfl rfl rfl hl.1 rfl (Nat.le_of_ble_eq_true rfl) dX11_settles_4 ⟨Nat.zero_le _, Nat.zero_le _⟩) hP hD hS hA [3, 4, 5, 6, 7, 8] [0, 1, 2, 9, 10, 11, 12, 13, 14, 15, 16, 17, 18, 19, 20] [0, 1, 2, 15, 16, 17, 18, 19, 20, 3, 4, 5, 6, 7, 8, 9, 10, 11, 12, 13, 14] rfl rfl rfl (by decide) rfl (fun _ => rfl) (fun r1 u H locs h hP hD hS => ?_)
  have hP : va_P D vwCl (List.flatten ([cLockRail L0 (aU 0) (aR 0) (aR2 0) h_images (aS 0) n0 y0 o0 C ] ++ (wReader aU C us ua ++ (wRail aR C rs ra ++ (wRail aR2 C rs2 ra2 ++ (wSlots aS C sa sl ++ (wNight n0 aN C ns na nl ++ ([cYear y0 y1 y2 C y_isThere y_taken y_took] ++ ([cOb o0 C o_of]))))))))) H := hP
  have hD : va_D A (List.flatten ([cLockRail L0 (aU 0) (aR 0) (aR2 0) h_images (aS 0) n0 y0 o0 C ] ++ (wReader aU C us ua ++ (wRail aR C rs ra ++ (wRail aR2 C rs2 ra2 ++ (wSlots aS C sa sl ++ (wNight n0 aN C ns na nl ++ ([cYear y0 y1 y2 C y_isThere y_taken y_took] ++ ([cOb o0 C o_of]))))))))) := hD
  refine lv_if_ne (tgt := 13) hx hb dX11_settles_7 (by decide) (fun c2 => ?_) (fun c2 => ?_)
  · have h := h.1 c2
    refine lv_aload_n hx hb dX11_settles_13 rfl (lv_at hl 0 rfl) ?_
    refine va_get (D := D) (ci := 11) (v := .ref (aR2 0)) (C := RX11) (T := TX11) (N := 8) hx hb hw inW_X11 hown hK hP 0 rfl rfl 2 (by decide) (hw _ mw_2_145) (fun _ h9 => h9) rfl dX11_settles_14 ?_
    refine lv_aload_n hx hb dX11_settles_17 rfl (lv_at hl 0 rfl) ?_
    refine va_get (D := D) (ci := 11) (v := .ref (aR 0)) (C := RX11) (T := TX11) (N := 8) hx hb hw inW_X11 hown hK hP 0 rfl rfl 1 (by decide) (hw _ mw_2_144) (fun _ h9 => h9) rfl dX11_settles_18 ?_
    refine cGoV (wo := fun u => [cLockRail L0 (aU 0) (aR 0) (aR2 0) h_images (aS 0) n0 y0 o0 C ] ++ (wReader aU C us ua ++ (wRail aR C rs ra ++ (wRail aR2 C u.1 u.2 ++ (wSlots aS C sa sl ++ (wNight n0 aN C ns na nl ++ ([cYear y0 y1 y2 C y_isThere y_taken y_took] ++ ([cOb o0 C o_of])))))))) (cRunVN (As := [.ref (aR 0)]) (rest := []) ⟨hx, hb, hml, hown, hw⟩ hK hN hP hD [9, 10, 11, 12, 13, 14, 3, 4, 5, 6, 7, 8] rfl rfl (k_X4_copyFrom l D C _ aR2 aR  rs2 ra2 rs ra  h) ⟨va_cnB 1 hw (goodN mw_3_126) rfl rfl rfl (hN.m 23 rfl) (hw _ mw_1_4) (by decide +kernel) ⟨Nat.le_of_ble_eq_true rfl, Nat.le_of_ble_eq_true rfl⟩, hw _ mw_3_125, hw _ mw_s26⟩ rfl rfl rfl hl.1 rfl (Nat.le_of_ble_eq_true rfl) dX11_settles_21 ⟨Nat.zero_le _, Nat.zero_le _⟩) hP hD hS hA [9, 10, 11, 12, 13, 14, 3, 4, 5, 6, 7, 8] [0, 1, 2, 15, 16, 17, 18, 19, 20] [0, 1, 2, 15, 16, 17, 18, 19, 20, 9, 10, 11, 12, 13, 14, 3, 4, 5, 6, 7, 8] rfl rfl rfl (by decide) rfl (fun _ => rfl) (fun u H locs h hP hD hS => ?_)
    obtain ⟨rs_3, ra_4⟩ := u
    have hP : va_P D vwCl (List.flatten ([cLockRail L0 (aU 0) (aR 0) (aR2 0) h_images (aS 0) n0 y0 o0 C ] ++ (wReader aU C us ua ++ (wRail aR C rs ra ++ (wRail aR2 C rs_3 ra_4 ++ (wSlots aS C sa sl ++ (wNight n0 aN C ns na nl ++ ([cYear y0 y1 y2 C y_isThere y_taken y_took] ++ ([cOb o0 C o_of]))))))))) H := hP
    have hD : va_D A (List.flatten ([cLockRail L0 (aU 0) (aR 0) (aR2 0) h_images (aS 0) n0 y0 o0 C ] ++ (wReader aU C us ua ++ (wRail aR C rs ra ++ (wRail aR2 C rs_3 ra_4 ++ (wSlots aS C sa sl ++ (wNight n0 aN C ns na nl ++ ([cYear y0 y1 y2 C y_isThere y_taken y_took] ++ ([cOb o0 C o_of]))))))))) := hD
    refine lv_aload_n hx hb dX11_settles_24 rfl (lv_at hl 0 rfl) ?_
    refine lv_aload_n hx hb dX11_settles_25 rfl (lv_at hl 0 rfl) ?_
    refine va_get (D := D) (ci := 11) (v := .ref (aR2 0)) (C := RX11) (T := TX11) (N := 8) hx hb hw inW_X11 hown hK hP 0 rfl rfl 2 (by decide) (hw _ mw_2_145) (fun _ h9 => h9) rfl dX11_settles_26 ?_
    refine lv_bipush (v := 30) hx hb dX11_settles_29 (by decide) ?_
    refine cGoI (wo := fun u => [cLockRail L0 (aU 0) (aR 0) (aR2 0) h_images (aS 0) n0 y0 o0 C ] ++ (wReader aU C us ua ++ (wRail aR C rs ra ++ (wRail aR2 C rs_3 u.2.1 ++ (wSlots aS C sa sl ++ (wNight n0 u.1 C u.2.2.1 u.2.2.2.1 u.2.2.2.2 ++ ([cYear y0 y1 y2 C y_isThere y_taken y_took] ++ ([cOb o0 C o_of])))))))) (cRunV (As := [.ref (aR2 0), .int 30]) (rest := []) ⟨hx, hb, hml, hown, hw⟩ hK hN hP hD [0, 9, 10, 11, 12, 13, 14, 16, 17, 18] rfl rfl (k_X11_roundsOn l D C _ L0 aR2 n0 aN (aU 0) (aR 0) (aR2 0) h_images (aS 0) y0 o0  rs_3 ra_4 ns na nl 30 h) (cwV 2 hw (goodV mw_4_180 mw_4_182 mw_s71 mw_1_1 mw_4_183) rfl rfl rfl (by decide +kernel) ⟨Nat.le_of_ble_eq_true rfl, Nat.le_of_ble_eq_true rfl⟩) rfl rfl rfl hl.1 rfl (Nat.le_of_ble_eq_true rfl) dX11_settles_31 ⟨Nat.zero_le _, Nat.zero_le _⟩) hP hD hS hA [0, 9, 10, 11, 12, 13, 14, 16, 17, 18] [1, 2, 3, 4, 5, 6, 7, 8, 15, 19, 20] [11, 0, 1, 2, 3, 4, 5, 6, 7, 12, 13, 14, 15, 16, 17, 8, 18, 19, 20, 9, 10] rfl rfl rfl (by decide) rfl (fun _ => rfl) (fun r10 u H locs h hP hD hS => ?_)
    obtain ⟨aN5, ra_6, ns_7, na_8, nl_9⟩ := u
    have hP : va_P D vwCl (List.flatten ([cLockRail L0 (aU 0) (aR 0) (aR2 0) h_images (aS 0) n0 y0 o0 C ] ++ (wReader aU C us ua ++ (wRail aR C rs ra ++ (wRail aR2 C rs_3 ra_6 ++ (wSlots aS C sa sl ++ (wNight n0 aN5 C ns_7 na_8 nl_9 ++ ([cYear y0 y1 y2 C y_isThere y_taken y_took] ++ ([cOb o0 C o_of]))))))))) H := hP
    have hD : va_D A (List.flatten ([cLockRail L0 (aU 0) (aR 0) (aR2 0) h_images (aS 0) n0 y0 o0 C ] ++ (wReader aU C us ua ++ (wRail aR C rs ra ++ (wRail aR2 C rs_3 ra_6 ++ (wSlots aS C sa sl ++ (wNight n0 aN5 C ns_7 na_8 nl_9 ++ ([cYear y0 y1 y2 C y_isThere y_taken y_took] ++ ([cOb o0 C o_of]))))))))) := hD
    refine lv_istore_n (lv' := [(1, .int r10), (0, .ref L0)]) hx hb dX11_settles_34 rfl hl (by decide) rfl (fun ls hl => ?_)
    refine lv_iload_n hx hb dX11_settles_35 rfl (lv_at hl 0 rfl) ?_
    refine lv_bipush (v := 30) hx hb dX11_settles_36 (by decide) ?_
    refine lv_icmp_le (tgt := 45) hx hb dX11_settles_38 (by decide) (fun c11 => ?_) (fun c11 => ?_)
    · have h := h.1 c11
      refine lv_iload_n hx hb dX11_settles_45 rfl (lv_at hl 0 rfl) ?_
      rw [← hQ]
      exact cRetI (v := r10) (aN5, rs_3, ra_6, ns_7, na_8, nl_9) hx hb hr hlocks hS hP hD h dX11_settles_46
    · have h := h.2 c11
      refine lv_iconst (v := (-1)) hx hb dX11_settles_41 (by decide) ?_
      refine lv_goto (tgt := 46) hx hb dX11_settles_42 (by decide) ?_
      rw [← hQ]
      exact cRetI (v := (-1)) (aN5, rs_3, ra_6, ns_7, na_8, nl_9) hx hb hr hlocks hS hP hD h dX11_settles_46
  · have h := h.2 c2
    refine lv_bipush (v := (-2)) hx hb dX11_settles_10 (by decide) ?_
    rw [← hQ]
    exact cRetI (v := (-2)) (aN, rs2, ra2, ns, na, nl) hx hb hr hlocks hS hP hD h dX11_settles_12
abbrev vsX11_settled : List Cond := Cond.code yX11_settled cX11_settled 2 (some .long) :: WS
abbrev rmX11_settled : Room := { frames := 6, cells := 0, slots := 0, locals := 161 }
set_option maxHeartbeats 4000000 in
set_option maxRecDepth 100000 in
theorem k_X11_settled (l : Launch) (D : va_G) (C : Nat → ClassId) (sz : Nat) (L0 : Nat) (aU : Nat → Nat) (aR : Nat → Nat) (aR2 : Nat → Nat) (aS : Nat → Nat) (n0 : Nat) (aN : Nat → Nat) (y0 : Nat) (y1 : Nat) (y2 : Nat) (o0 : Nat) (h_images : Nat) (us : Nat → Int32) (ua : Nat → Nat → Int32) (rs : Nat → Int32) (ra : Nat → Nat → Int32) (rs2 : Nat → Int32) (ra2 : Nat → Nat → Int32) (sa : Nat → Nat → Int32) (sl : Nat → Nat → Int64) (ns : Nat → Int32) (na : Nat → Nat → Int32) (nl : Nat → Nat → Int64) (y_isThere : Int32) (y_taken : Nat → Int32) (y_took : Nat → Int32) (o_of : Nat → Int64)  {post : Int64 → (Nat → Int32) → (Nat → Nat → Int32) → (Nat → Int32) → (Nat → Nat → Int32) → (Nat → Nat → Int64) → Prop} (h : P_X11_settled rs ra rs2 ra2 ns na nl post) : Met l yX11_settled vsX11_settled rmX11_settled (cPre D C [.ref L0] sz ([cLockRail L0 (aU 0) (aR 0) (aR2 0) h_images (aS 0) n0 y0 o0 C ] ++ (wReader aU C us ua ++ (wRail aR C rs ra ++ (wRail aR2 C rs2 ra2 ++ (wSlots aS C sa sl ++ (wNight n0 aN C ns na nl ++ ([cYear y0 y1 y2 C y_isThere y_taken y_took] ++ ([cOb o0 C o_of]))))))))) (cQl D (fun (r : Int64) (u : (Nat → Nat) × (Nat → Int32) × (Nat → Nat → Int32) × (Nat → Int32) × (Nat → Nat → Int32) × (Nat → Nat → Int64)) => post r u.2.1 u.2.2.1 u.2.2.2.1 u.2.2.2.2.1 u.2.2.2.2.2) (fun u => [cLockRail L0 (aU 0) (aR 0) (aR2 0) h_images (aS 0) n0 y0 o0 C ] ++ (wReader aU C us ua ++ (wRail aR C rs ra ++ (wRail aR2 C u.2.1 u.2.2.1 ++ (wSlots aS C sa sl ++ (wNight n0 u.1 C u.2.2.2.1 u.2.2.2.2.1 u.2.2.2.2.2 ++ ([cYear y0 y1 y2 C y_isThere y_taken y_took] ++ ([cOb o0 C o_of])))))))) (va_A (List.flatten ([cLockRail L0 (aU 0) (aR 0) (aR2 0) h_images (aS 0) n0 y0 o0 C ] ++ (wReader aU C us ua ++ (wRail aR C rs ra ++ (wRail aR2 C rs2 ra2 ++ (wSlots aS C sa sl ++ (wNight n0 aN C ns na nl ++ ([cYear y0 y1 y2 C y_isThere y_taken y_took] ++ ([cOb o0 C o_of]))))))))) sz)) 0 0 (va_A (List.flatten ([cLockRail L0 (aU 0) (aR 0) (aR2 0) h_images (aS 0) n0 y0 o0 C ] ++ (wReader aU C us ua ++ (wRail aR C rs ra ++ (wRail aR2 C rs2 ra2 ++ (wSlots aS C sa sl ++ (wNight n0 aN C ns na nl ++ ([cYear y0 y1 y2 C y_isThere y_taken y_took] ++ ([cOb o0 C o_of]))))))))) sz) := by
  refine cStart (QA := fun A => cQl D (fun (r : Int64) (u : (Nat → Nat) × (Nat → Int32) × (Nat → Nat → Int32) × (Nat → Int32) × (Nat → Nat → Int32) × (Nat → Nat → Int64)) => post r u.2.1 u.2.2.1 u.2.2.2.1 u.2.2.2.2.1 u.2.2.2.2.2) (fun u => [cLockRail L0 (aU 0) (aR 0) (aR2 0) h_images (aS 0) n0 y0 o0 C ] ++ (wReader aU C us ua ++ (wRail aR C rs ra ++ (wRail aR2 C u.2.1 u.2.2.1 ++ (wSlots aS C sa sl ++ (wNight n0 u.1 C u.2.2.2.1 u.2.2.2.2.1 u.2.2.2.2.2 ++ ([cYear y0 y1 y2 C y_isThere y_taken y_took] ++ ([cOb o0 C o_of])))))))) A) (cc := cX11_settled) (maxL := 2) (ret := (some .long)) (by decide) (Nat.le_of_ble_eq_true rfl) ?_
  intro p e s m args below meth c A ls hx hb hr hml hown hw hlocks hname hK hN hA hP hD hS hl
  generalize hQ : MQ below _ args s 0 0 A = Q
  have hl : lv_has ls 2 [(0, .ref L0)] := hl
  obtain ⟨H, hH⟩ : ∃ H, H = s.heap := ⟨_, rfl⟩
  obtain ⟨locs, hlo⟩ : ∃ z : List Loc, z = [] := ⟨_, rfl⟩
  have hP : va_P D vwCl (List.flatten ([cLockRail L0 (aU 0) (aR 0) (aR2 0) h_images (aS 0) n0 y0 o0 C ] ++ (wReader aU C us ua ++ (wRail aR C rs ra ++ (wRail aR2 C rs2 ra2 ++ (wSlots aS C sa sl ++ (wNight n0 aN C ns na nl ++ ([cYear y0 y1 y2 C y_isThere y_taken y_took] ++ ([cOb o0 C o_of]))))))))) H := by rw [hH]; exact hP
  have hS : va_S A s.heap H locs := by rw [hH, hlo]; exact hS
  rw [show W p l e rmX11_settled s m args below meth c s.heap [] 0 0 Q (F0 m 0 ls []) = W p l e rmX11_settled s m args below meth c H locs 0 0 Q (F0 m 0 ls []) from by rw [hH, hlo]]
  refine lv_aload_n hx hb dX11_settled_0 rfl (lv_at hl 0 rfl) ?_
  refine va_get (D := D) (ci := 11) (v := .ref (aR 0)) (C := RX11) (T := TX11) (N := 8) hx hb hw inW_X11 hown hK hP 0 rfl rfl 1 (by decide) (hw _ mw_2_144) (fun _ h9 => h9) rfl dX11_settled_1 ?_
  refine cGoI (wo := fun u => [cLockRail L0 (aU 0) (aR 0) (aR2 0) h_images (aS 0) n0 y0 o0 C ] ++ (wReader aU C us ua ++ (wRail aR C rs ra ++ (wRail aR2 C rs2 ra2 ++ (wSlots aS C sa sl ++ (wNight n0 aN C ns na nl ++ ([cYear y0 y1 y2 C y_isThere y_taken y_took] ++ ([cOb o0 C o_of])))))))) (cRunVN (As := []) (rest := []) ⟨hx, hb, hml, hown, hw⟩ hK hN hP hD [3, 4, 5, 6, 7, 8] rfl rfl (k_X4_isTold l D C _ aR  rs ra  h) ⟨va_cnB 0 hw (goodN mw_4_19) rfl rfl rfl (hN.m 44 rfl) (hw _ mw_1_4) (by decide +kernel) ⟨Nat.le_of_ble_eq_true rfl, Nat.le_of_ble_eq_true rfl⟩, hw _ mw_4_18, hw _ mw_s47⟩ rfl rfl rfl hl.1 rfl (Nat.le_of_ble_eq_true rfl) dX11_settled_4 ⟨Nat.zero_le _, Nat.zero_le _⟩) hP hD hS hA [3, 4, 5, 6, 7, 8] [0, 1, 2, 9, 10, 11, 12, 13, 14, 15, 16, 17, 18, 19, 20] [0, 1, 2, 15, 16, 17, 18, 19, 20, 3, 4, 5, 6, 7, 8, 9, 10, 11, 12, 13, 14] rfl rfl rfl (by decide) rfl (fun _ => rfl) (fun r1 u H locs h hP hD hS => ?_)
  have hP : va_P D vwCl (List.flatten ([cLockRail L0 (aU 0) (aR 0) (aR2 0) h_images (aS 0) n0 y0 o0 C ] ++ (wReader aU C us ua ++ (wRail aR C rs ra ++ (wRail aR2 C rs2 ra2 ++ (wSlots aS C sa sl ++ (wNight n0 aN C ns na nl ++ ([cYear y0 y1 y2 C y_isThere y_taken y_took] ++ ([cOb o0 C o_of]))))))))) H := hP
  have hD : va_D A (List.flatten ([cLockRail L0 (aU 0) (aR 0) (aR2 0) h_images (aS 0) n0 y0 o0 C ] ++ (wReader aU C us ua ++ (wRail aR C rs ra ++ (wRail aR2 C rs2 ra2 ++ (wSlots aS C sa sl ++ (wNight n0 aN C ns na nl ++ ([cYear y0 y1 y2 C y_isThere y_taken y_took] ++ ([cOb o0 C o_of]))))))))) := hD
  refine lv_if_ne (tgt := 14) hx hb dX11_settled_7 (by decide) (fun c2 => ?_) (fun c2 => ?_)
  · have h := h.1 c2
    refine lv_aload_n hx hb dX11_settled_14 rfl (lv_at hl 0 rfl) ?_
    refine va_get (D := D) (ci := 11) (v := .ref (aR2 0)) (C := RX11) (T := TX11) (N := 8) hx hb hw inW_X11 hown hK hP 0 rfl rfl 2 (by decide) (hw _ mw_2_145) (fun _ h9 => h9) rfl dX11_settled_15 ?_
    refine lv_aload_n hx hb dX11_settled_18 rfl (lv_at hl 0 rfl) ?_
    refine va_get (D := D) (ci := 11) (v := .ref (aR 0)) (C := RX11) (T := TX11) (N := 8) hx hb hw inW_X11 hown hK hP 0 rfl rfl 1 (by decide) (hw _ mw_2_144) (fun _ h9 => h9) rfl dX11_settled_19 ?_
    refine cGoV (wo := fun u => [cLockRail L0 (aU 0) (aR 0) (aR2 0) h_images (aS 0) n0 y0 o0 C ] ++ (wReader aU C us ua ++ (wRail aR C rs ra ++ (wRail aR2 C u.1 u.2 ++ (wSlots aS C sa sl ++ (wNight n0 aN C ns na nl ++ ([cYear y0 y1 y2 C y_isThere y_taken y_took] ++ ([cOb o0 C o_of])))))))) (cRunVN (As := [.ref (aR 0)]) (rest := []) ⟨hx, hb, hml, hown, hw⟩ hK hN hP hD [9, 10, 11, 12, 13, 14, 3, 4, 5, 6, 7, 8] rfl rfl (k_X4_copyFrom l D C _ aR2 aR  rs2 ra2 rs ra  h) ⟨va_cnB 1 hw (goodN mw_3_126) rfl rfl rfl (hN.m 23 rfl) (hw _ mw_1_4) (by decide +kernel) ⟨Nat.le_of_ble_eq_true rfl, Nat.le_of_ble_eq_true rfl⟩, hw _ mw_3_125, hw _ mw_s26⟩ rfl rfl rfl hl.1 rfl (Nat.le_of_ble_eq_true rfl) dX11_settled_22 ⟨Nat.zero_le _, Nat.zero_le _⟩) hP hD hS hA [9, 10, 11, 12, 13, 14, 3, 4, 5, 6, 7, 8] [0, 1, 2, 15, 16, 17, 18, 19, 20] [0, 1, 2, 15, 16, 17, 18, 19, 20, 9, 10, 11, 12, 13, 14, 3, 4, 5, 6, 7, 8] rfl rfl rfl (by decide) rfl (fun _ => rfl) (fun u H locs h hP hD hS => ?_)
    obtain ⟨rs_3, ra_4⟩ := u
    have hP : va_P D vwCl (List.flatten ([cLockRail L0 (aU 0) (aR 0) (aR2 0) h_images (aS 0) n0 y0 o0 C ] ++ (wReader aU C us ua ++ (wRail aR C rs ra ++ (wRail aR2 C rs_3 ra_4 ++ (wSlots aS C sa sl ++ (wNight n0 aN C ns na nl ++ ([cYear y0 y1 y2 C y_isThere y_taken y_took] ++ ([cOb o0 C o_of]))))))))) H := hP
    have hD : va_D A (List.flatten ([cLockRail L0 (aU 0) (aR 0) (aR2 0) h_images (aS 0) n0 y0 o0 C ] ++ (wReader aU C us ua ++ (wRail aR C rs ra ++ (wRail aR2 C rs_3 ra_4 ++ (wSlots aS C sa sl ++ (wNight n0 aN C ns na nl ++ ([cYear y0 y1 y2 C y_isThere y_taken y_took] ++ ([cOb o0 C o_of]))))))))) := hD
    refine lv_aload_n hx hb dX11_settled_25 rfl (lv_at hl 0 rfl) ?_
    refine lv_aload_n hx hb dX11_settled_26 rfl (lv_at hl 0 rfl) ?_
    refine va_get (D := D) (ci := 11) (v := .ref (aR2 0)) (C := RX11) (T := TX11) (N := 8) hx hb hw inW_X11 hown hK hP 0 rfl rfl 2 (by decide) (hw _ mw_2_145) (fun _ h9 => h9) rfl dX11_settled_27 ?_
    refine lv_bipush (v := 30) hx hb dX11_settled_30 (by decide) ?_
    refine cGoI (wo := fun u => [cLockRail L0 (aU 0) (aR 0) (aR2 0) h_images (aS 0) n0 y0 o0 C ] ++ (wReader aU C us ua ++ (wRail aR C rs ra ++ (wRail aR2 C rs_3 u.2.1 ++ (wSlots aS C sa sl ++ (wNight n0 u.1 C u.2.2.1 u.2.2.2.1 u.2.2.2.2 ++ ([cYear y0 y1 y2 C y_isThere y_taken y_took] ++ ([cOb o0 C o_of])))))))) (cRunV (As := [.ref (aR2 0), .int 30]) (rest := []) ⟨hx, hb, hml, hown, hw⟩ hK hN hP hD [0, 9, 10, 11, 12, 13, 14, 16, 17, 18] rfl rfl (k_X11_roundsOn l D C _ L0 aR2 n0 aN (aU 0) (aR 0) (aR2 0) h_images (aS 0) y0 o0  rs_3 ra_4 ns na nl 30 h) (cwV 2 hw (goodV mw_4_180 mw_4_182 mw_s71 mw_1_1 mw_4_183) rfl rfl rfl (by decide +kernel) ⟨Nat.le_of_ble_eq_true rfl, Nat.le_of_ble_eq_true rfl⟩) rfl rfl rfl hl.1 rfl (Nat.le_of_ble_eq_true rfl) dX11_settled_32 ⟨Nat.zero_le _, Nat.zero_le _⟩) hP hD hS hA [0, 9, 10, 11, 12, 13, 14, 16, 17, 18] [1, 2, 3, 4, 5, 6, 7, 8, 15, 19, 20] [11, 0, 1, 2, 3, 4, 5, 6, 7, 12, 13, 14, 15, 16, 17, 8, 18, 19, 20, 9, 10] rfl rfl rfl (by decide) rfl (fun _ => rfl) (fun r10 u H locs h hP hD hS => ?_)
    obtain ⟨aN5, ra_6, ns_7, na_8, nl_9⟩ := u
    have hP : va_P D vwCl (List.flatten ([cLockRail L0 (aU 0) (aR 0) (aR2 0) h_images (aS 0) n0 y0 o0 C ] ++ (wReader aU C us ua ++ (wRail aR C rs ra ++ (wRail aR2 C rs_3 ra_6 ++ (wSlots aS C sa sl ++ (wNight n0 aN5 C ns_7 na_8 nl_9 ++ ([cYear y0 y1 y2 C y_isThere y_taken y_took] ++ ([cOb o0 C o_of]))))))))) H := hP
    have hD : va_D A (List.flatten ([cLockRail L0 (aU 0) (aR 0) (aR2 0) h_images (aS 0) n0 y0 o0 C ] ++ (wReader aU C us ua ++ (wRail aR C rs ra ++ (wRail aR2 C rs_3 ra_6 ++ (wSlots aS C sa sl ++ (wNight n0 aN5 C ns_7 na_8 nl_9 ++ ([cYear y0 y1 y2 C y_isThere y_taken y_took] ++ ([cOb o0 C o_of]))))))))) := hD
    refine lv_istore_n (lv' := [(1, .int r10), (0, .ref L0)]) hx hb dX11_settled_35 rfl hl (by decide) rfl (fun ls hl => ?_)
    refine lv_iload_n hx hb dX11_settled_36 rfl (lv_at hl 0 rfl) ?_
    refine lv_bipush (v := 30) hx hb dX11_settled_37 (by decide) ?_
    refine lv_icmp_le (tgt := 48) hx hb dX11_settled_39 (by decide) (fun c11 => ?_) (fun c11 => ?_)
    · have h := h.1 c11
      refine lv_aload_n hx hb dX11_settled_48 rfl (lv_at hl 1 rfl) ?_
      refine lv_aload_n hx hb dX11_settled_49 rfl (lv_at hl 1 rfl) ?_
      refine va_get (D := D) (ci := 11) (v := .ref (aR2 0)) (C := RX11) (T := TX11) (N := 8) hx hb hw inW_X11 hown hK hP 0 rfl rfl 2 (by decide) (hw _ mw_2_145) (fun _ h9 => h9) rfl dX11_settled_50 ?_
      refine lv_iconst (v := 2) hx hb dX11_settled_53 (by decide) ?_
      refine cGoL (wo := fun u => [cLockRail L0 (aU 0) (aR 0) (aR2 0) h_images (aS 0) n0 y0 o0 C ] ++ (wReader aU C us ua ++ (wRail aR C rs ra ++ (wRail aR2 C rs_3 ra_6 ++ (wSlots aS C sa sl ++ (wNight n0 u.1 C u.2.1 u.2.2.1 u.2.2.2 ++ ([cYear y0 y1 y2 C y_isThere y_taken y_took] ++ ([cOb o0 C o_of])))))))) (cRunV (As := [.ref (aR2 0), .int 2]) (rest := []) ⟨hx, hb, hml, hown, hw⟩ hK hN hP hD [0, 9, 10, 11, 12, 13, 14, 16, 17, 18] rfl rfl (k_X11_allOn l D C _ L0 aR2 n0 aN5 (aU 0) (aR 0) (aR2 0) h_images (aS 0) y0 o0  rs_3 ra_6 ns_7 na_8 nl_9 2 h) (cwV 2 hw (goodV mw_4_124 mw_4_126 mw_s63 mw_1_1 mw_4_127) rfl rfl rfl (by decide +kernel) ⟨Nat.le_of_ble_eq_true rfl, Nat.le_of_ble_eq_true rfl⟩) rfl rfl rfl hl.1 rfl (Nat.le_of_ble_eq_true rfl) dX11_settled_54 ⟨Nat.zero_le _, Nat.zero_le _⟩) hP hD hS hA [0, 9, 10, 11, 12, 13, 14, 16, 17, 18] [1, 2, 3, 4, 5, 6, 7, 8, 15, 19, 20] [11, 0, 1, 2, 3, 4, 5, 6, 7, 12, 13, 14, 15, 16, 17, 8, 18, 19, 20, 9, 10] rfl rfl rfl (by decide) rfl (fun _ => rfl) (fun r16 u H locs h hP hD hS => ?_)
      obtain ⟨aN12, ns_13, na_14, nl_15⟩ := u
      have hP : va_P D vwCl (List.flatten ([cLockRail L0 (aU 0) (aR 0) (aR2 0) h_images (aS 0) n0 y0 o0 C ] ++ (wReader aU C us ua ++ (wRail aR C rs ra ++ (wRail aR2 C rs_3 ra_6 ++ (wSlots aS C sa sl ++ (wNight n0 aN12 C ns_13 na_14 nl_15 ++ ([cYear y0 y1 y2 C y_isThere y_taken y_took] ++ ([cOb o0 C o_of]))))))))) H := hP
      have hD : va_D A (List.flatten ([cLockRail L0 (aU 0) (aR 0) (aR2 0) h_images (aS 0) n0 y0 o0 C ] ++ (wReader aU C us ua ++ (wRail aR C rs ra ++ (wRail aR2 C rs_3 ra_6 ++ (wSlots aS C sa sl ++ (wNight n0 aN12 C ns_13 na_14 nl_15 ++ ([cYear y0 y1 y2 C y_isThere y_taken y_took] ++ ([cOb o0 C o_of]))))))))) := hD
      rw [← hQ]
      exact cRetL (v := r16) (aN12, rs_3, ra_6, ns_13, na_14, nl_15) hx hb hr hlocks hS hP hD h dX11_settled_57
    · have h := h.2 c11
      refine lv_ldc2 (v := (-1)) hx hb hown (hw _ mw_4_193) dX11_settled_42 ?_
      refine lv_goto (tgt := 57) hx hb dX11_settled_45 (by decide) ?_
      rw [← hQ]
      exact cRetL (v := (-1)) (aN5, rs_3, ra_6, ns_7, na_8, nl_9) hx hb hr hlocks hS hP hD h dX11_settled_57
  · have h := h.2 c2
    refine lv_ldc2 (v := (-2)) hx hb hown (hw _ mw_4_20) dX11_settled_10 ?_
    rw [← hQ]
    exact cRetL (v := (-2)) (aN, rs2, ra2, ns, na, nl) hx hb hr hlocks hS hP hD h dX11_settled_13
abbrev vsX11_changeBetters : List Cond := Cond.code yX11_changeBetters cX11_changeBetters 11 (some .boolean) :: WS
abbrev rmX11_changeBetters : Room := { frames := 4, cells := 0, slots := 0, locals := 105 }
set_option maxHeartbeats 4000000 in
set_option maxRecDepth 100000 in
theorem k_X11_changeBetters (l : Launch) (D : va_G) (C : Nat → ClassId) (sz : Nat) (L0 : Nat) (aR0 : Nat → Nat) (n0 : Nat) (aN : Nat → Nat) (h_reader : Nat) (h_rail : Nat) (h_trial : Nat) (h_images : Nat) (h_slots : Nat) (h_triedYear : Nat) (h_ofBikes : Nat) (rs0 : Nat → Int32) (ra0 : Nat → Nat → Int32) (ns : Nat → Int32) (na : Nat → Nat → Int32) (nl : Nat → Nat → Int64)  {post : Int32 → (Nat → Nat → Int32) → (Nat → Int32) → (Nat → Nat → Int32) → (Nat → Nat → Int64) → Prop} (h : P_X11_changeBetters rs0 ra0 ns na nl post) : Met l yX11_changeBetters vsX11_changeBetters rmX11_changeBetters (cPre D C [.ref L0, .ref (aR0 0)] sz ([cLockRail L0 h_reader h_rail h_trial h_images h_slots n0 h_triedYear h_ofBikes C ] ++ (wRail aR0 C rs0 ra0 ++ (wNight n0 aN C ns na nl)))) (cQi D (fun (r : Int32) (u : (Nat → Nat) × (Nat → Nat → Int32) × (Nat → Int32) × (Nat → Nat → Int32) × (Nat → Nat → Int64)) => post r u.2.1 u.2.2.1 u.2.2.2.1 u.2.2.2.2) (fun u => [cLockRail L0 h_reader h_rail h_trial h_images h_slots n0 h_triedYear h_ofBikes C ] ++ (wRail aR0 C rs0 u.2.1 ++ (wNight n0 u.1 C u.2.2.1 u.2.2.2.1 u.2.2.2.2))) (va_A (List.flatten ([cLockRail L0 h_reader h_rail h_trial h_images h_slots n0 h_triedYear h_ofBikes C ] ++ (wRail aR0 C rs0 ra0 ++ (wNight n0 aN C ns na nl)))) sz)) 0 0 (va_A (List.flatten ([cLockRail L0 h_reader h_rail h_trial h_images h_slots n0 h_triedYear h_ofBikes C ] ++ (wRail aR0 C rs0 ra0 ++ (wNight n0 aN C ns na nl)))) sz) := by
  refine cStart (QA := fun A => cQi D (fun (r : Int32) (u : (Nat → Nat) × (Nat → Nat → Int32) × (Nat → Int32) × (Nat → Nat → Int32) × (Nat → Nat → Int64)) => post r u.2.1 u.2.2.1 u.2.2.2.1 u.2.2.2.2) (fun u => [cLockRail L0 h_reader h_rail h_trial h_images h_slots n0 h_triedYear h_ofBikes C ] ++ (wRail aR0 C rs0 u.2.1 ++ (wNight n0 u.1 C u.2.2.1 u.2.2.2.1 u.2.2.2.2))) A) (cc := cX11_changeBetters) (maxL := 11) (ret := (some .boolean)) (by decide) (Nat.le_of_ble_eq_true rfl) ?_
  intro p e s m args below meth c A ls hx hb hr hml hown hw hlocks hname hK hN hA hP hD hS hl
  generalize hQ : MQ below _ args s 0 0 A = Q
  have hl : lv_has ls 11 [(0, .ref L0), (1, .ref (aR0 0))] := hl
  have hn97 : (Cond.fieldLinkNest "LockRail" 97 "LockRail$Rail" "bikes" "LLockRail$Bikes;" "LockRail").before args s = true := hN.f 61 rfl
  have hn161 : (Cond.fieldLinkNest "LockRail" 161 "LockRail$Bikes" "count" "I" "LockRail").before args s = true := hN.f 20 rfl
  obtain ⟨H, hH⟩ : ∃ H, H = s.heap := ⟨_, rfl⟩
  obtain ⟨locs, hlo⟩ : ∃ z : List Loc, z = [] := ⟨_, rfl⟩
  have hP : va_P D vwCl (List.flatten ([cLockRail L0 h_reader h_rail h_trial h_images h_slots n0 h_triedYear h_ofBikes C ] ++ (wRail aR0 C rs0 ra0 ++ (wNight n0 aN C ns na nl)))) H := by rw [hH]; exact hP
  have hS : va_S A s.heap H locs := by rw [hH, hlo]; exact hS
  rw [show W p l e rmX11_changeBetters s m args below meth c s.heap [] 0 0 Q (F0 m 0 ls []) = W p l e rmX11_changeBetters s m args below meth c H locs 0 0 Q (F0 m 0 ls []) from by rw [hH, hlo]]
  have N150 : ∀ (x4_ : Int32) (ra0 : Nat → Nat → Int32) (ns : Nat → Int32) (na : Nat → Nat → Int32) (nl : Nat → Nat → Int64) (aN : Nat → Nat) (H : Heap) (locs : List Loc) (ls : Array Slot), P_X11_changeBetters_150 rs0 post  x4_ ra0 ns na nl → va_P D vwCl (List.flatten ([cLockRail L0 h_reader h_rail h_trial h_images h_slots n0 h_triedYear h_ofBikes C ] ++ (wRail aR0 C rs0 ra0 ++ (wNight n0 aN C ns na nl)))) H → va_D A (List.flatten ([cLockRail L0 h_reader h_rail h_trial h_images h_slots n0 h_triedYear h_ofBikes C ] ++ (wRail aR0 C rs0 ra0 ++ (wNight n0 aN C ns na nl)))) → va_S A s.heap H locs → lv_has ls 11 [(4, .int x4_)] → W p l e rmX11_changeBetters s m args below meth c H locs 0 0 Q (F0 m 150 ls []) := by
    intro x4_ ra0 ns na nl aN H locs ls h hP hD hS hl
    refine lv_iload hx hb dX11_changeBetters_150 (lv_at hl 0 rfl) ?_
    refine lv_iconst (v := (-1)) hx hb dX11_changeBetters_152 (by decide) ?_
    refine lv_icmp_eq (tgt := 160) hx hb dX11_changeBetters_153 (by decide) (fun c13 => ?_) (fun c13 => ?_)
    · have h := h.1 c13
      refine lv_iconst (v := 0) hx hb dX11_changeBetters_160 (by decide) ?_
      rw [← hQ]
      exact cRetZ (v := 0) (aN, ra0, ns, na, nl) hx hb hr hlocks hS hP hD (Or.inl rfl) h dX11_changeBetters_161
    · have h := h.2 c13
      refine lv_iconst (v := 1) hx hb dX11_changeBetters_156 (by decide) ?_
      refine lv_goto (tgt := 161) hx hb dX11_changeBetters_157 (by decide) ?_
      rw [← hQ]
      exact cRetZ (v := 1) (aN, ra0, ns, na, nl) hx hb hr hlocks hS hP hD (Or.inr rfl) h dX11_changeBetters_161
  have N133 : ∀ (x4_ : Int32) (x5_ : Int32) (ra0 : Nat → Nat → Int32) (ns : Nat → Int32) (na : Nat → Nat → Int32) (nl : Nat → Nat → Int64) (aN : Nat → Nat) (H : Heap) (locs : List Loc) (ls : Array Slot), P_X11_changeBetters_133 rs0 post  x4_ x5_ ra0 ns na nl → va_P D vwCl (List.flatten ([cLockRail L0 h_reader h_rail h_trial h_images h_slots n0 h_triedYear h_ofBikes C ] ++ (wRail aR0 C rs0 ra0 ++ (wNight n0 aN C ns na nl)))) H → va_D A (List.flatten ([cLockRail L0 h_reader h_rail h_trial h_images h_slots n0 h_triedYear h_ofBikes C ] ++ (wRail aR0 C rs0 ra0 ++ (wNight n0 aN C ns na nl)))) → va_S A s.heap H locs → lv_has ls 11 [(1, .ref (aR0 0)), (4, .int x4_), (5, .int x5_)] → W p l e rmX11_changeBetters s m args below meth c H locs 0 0 Q (F0 m 133 ls []) := by
    intro x4_ x5_ ra0 ns na nl aN H locs ls h hP hD hS hl
    refine lv_iload hx hb dX11_changeBetters_133 (lv_at hl 1 rfl) ?_
    refine lv_iconst (v := (-1)) hx hb dX11_changeBetters_135 (by decide) ?_
    refine lv_icmp_eq (tgt := 150) hx hb dX11_changeBetters_136 (by decide) (fun c14 => ?_) (fun c14 => ?_)
    · have h := h.1 c14
      exact N150 x4_ ra0 ns na nl aN _ _ _ h hP hD hS (lv_sub hl [1] rfl)
    · have h := h.2 c14
      refine lv_aload_n hx hb dX11_changeBetters_139 rfl (lv_at hl 0 rfl) ?_
      refine va_getN (D := D) (ci := 4) (v := .ref (aR0 7)) (C := RX4) (T := TX4) (N := 16) hx hb hw inW_X4 hown hK hP 1 rfl rfl 5 (by decide) hn97 (fun _ h9 => h9) rfl dX11_changeBetters_140 ?_
      refine lv_iload hx hb dX11_changeBetters_143 (lv_at hl 1 rfl) ?_
      refine lv_iload hx hb dX11_changeBetters_145 (lv_at hl 2 rfl) ?_
      refine cGoV (wo := fun u => [cLockRail L0 h_reader h_rail h_trial h_images h_slots n0 h_triedYear h_ofBikes C ] ++ (wRail aR0 C rs0 (va_up (va_up ra0 7 u.1) 8 u.2) ++ (wNight n0 aN C ns na nl))) (cRunVN (As := [.int x4_, .int x5_]) (rest := []) ⟨hx, hb, hml, hown, hw⟩ hK hN hP hD [4] rfl rfl (k_X0_setOption l D C _ (aR0 7) (aR0 8) (aR0 9) (aR0 10) (aR0 11) (aR0 12)  (rs0 13) (ra0 4) (ra0 5) (ra0 6) (ra0 7) (ra0 8) x4_ x5_ h) ⟨va_cnB 2 hw (goodN mw_4_153) rfl rfl rfl (hN.m 58 rfl) (hw _ mw_1_7) (by decide +kernel) ⟨Nat.le_of_ble_eq_true rfl, Nat.le_of_ble_eq_true rfl⟩, hw _ mw_4_152, hw _ mw_s68⟩ rfl rfl rfl hl.1 rfl (Nat.le_of_ble_eq_true rfl) dX11_changeBetters_147 ⟨Nat.zero_le _, Nat.zero_le _⟩) hP hD hS hA [4] [0, 1, 2, 3, 5, 6, 7, 8, 9] [0, 1, 2, 3, 9, 4, 5, 6, 7, 8] rfl rfl rfl (by decide) rfl (fun _ => rfl) (fun u H locs h hP hD hS => ?_)
      obtain ⟨loc_15, mar_16⟩ := u
      have hP : va_P D vwCl (List.flatten ([cLockRail L0 h_reader h_rail h_trial h_images h_slots n0 h_triedYear h_ofBikes C ] ++ (wRail aR0 C rs0 (va_up (va_up ra0 7 loc_15) 8 mar_16) ++ (wNight n0 aN C ns na nl)))) H := hP
      have hD : va_D A (List.flatten ([cLockRail L0 h_reader h_rail h_trial h_images h_slots n0 h_triedYear h_ofBikes C ] ++ (wRail aR0 C rs0 (va_up (va_up ra0 7 loc_15) 8 mar_16) ++ (wNight n0 aN C ns na nl)))) := hD
      exact N150 x4_ (va_up (va_up ra0 7 loc_15) 8 mar_16) ns na nl aN _ _ _ h hP hD hS (lv_sub hl [1] rfl)
  have N27 : ∀  (n27 : Nat) (x2_ : Int64) (x4_ : Int32) (x5_ : Int32) (x6_ : Int32) (ra0 : Nat → Nat → Int32) (ns : Nat → Int32) (na : Nat → Nat → Int32) (nl : Nat → Nat → Int64) (aN : Nat → Nat) (H : Heap) (locs : List Loc) (ls : Array Slot), P_X11_changeBetters_27 rs0 post (fun (x4_ : Int32) (x5_ : Int32) (ra0 : Nat → Nat → Int32) (ns : Nat → Int32) (na : Nat → Nat → Int32) (nl : Nat → Nat → Int64) => P_X11_changeBetters_133 rs0 post  x4_ x5_ ra0 ns na nl)  n27 x2_ x4_ x5_ x6_ ra0 ns na nl → va_P D vwCl (List.flatten ([cLockRail L0 h_reader h_rail h_trial h_images h_slots n0 h_triedYear h_ofBikes C ] ++ (wRail aR0 C rs0 ra0 ++ (wNight n0 aN C ns na nl)))) H → va_D A (List.flatten ([cLockRail L0 h_reader h_rail h_trial h_images h_slots n0 h_triedYear h_ofBikes C ] ++ (wRail aR0 C rs0 ra0 ++ (wNight n0 aN C ns na nl)))) → va_S A s.heap H locs → lv_has ls 11 [(0, .ref L0), (1, .ref (aR0 0)), (2, .long x2_), (4, .int x4_), (5, .int x5_), (6, .int x6_)] → W p l e rmX11_changeBetters s m args below meth c H locs 0 0 Q (F0 m 27 ls []) := by
    intro n27
    induction n27 with
    | zero => intro x2_ x4_ x5_ x6_ ra0 ns na nl aN H locs ls h hP hD hS hl; exact False.elim h
    | succ n27 ih27 =>
      have N116 : ∀ (x2_ : Int64) (x4_ : Int32) (x5_ : Int32) (x6_ : Int32) (x7_ : Int32) (ra0 : Nat → Nat → Int32) (ns : Nat → Int32) (na : Nat → Nat → Int32) (nl : Nat → Nat → Int64) (aN : Nat → Nat) (H : Heap) (locs : List Loc) (ls : Array Slot), P_X11_changeBetters_116 rs0 post (P_X11_changeBetters_27 rs0 post (fun (x4_ : Int32) (x5_ : Int32) (ra0 : Nat → Nat → Int32) (ns : Nat → Int32) (na : Nat → Nat → Int32) (nl : Nat → Nat → Int64) => P_X11_changeBetters_133 rs0 post  x4_ x5_ ra0 ns na nl)  n27) x2_ x4_ x5_ x6_ x7_ ra0 ns na nl → va_P D vwCl (List.flatten ([cLockRail L0 h_reader h_rail h_trial h_images h_slots n0 h_triedYear h_ofBikes C ] ++ (wRail aR0 C rs0 ra0 ++ (wNight n0 aN C ns na nl)))) H → va_D A (List.flatten ([cLockRail L0 h_reader h_rail h_trial h_images h_slots n0 h_triedYear h_ofBikes C ] ++ (wRail aR0 C rs0 ra0 ++ (wNight n0 aN C ns na nl)))) → va_S A s.heap H locs → lv_has ls 11 [(0, .ref L0), (1, .ref (aR0 0)), (2, .long x2_), (4, .int x4_), (5, .int x5_), (6, .int x6_), (7, .int x7_)] → W p l e rmX11_changeBetters s m args below meth c H locs 0 0 Q (F0 m 116 ls []) := by
        intro x2_ x4_ x5_ x6_ x7_ ra0 ns na nl aN H locs ls h hP hD hS hl
        refine lv_aload_n hx hb dX11_changeBetters_116 rfl (lv_at hl 1 rfl) ?_
        refine va_getN (D := D) (ci := 4) (v := .ref (aR0 7)) (C := RX4) (T := TX4) (N := 16) hx hb hw inW_X4 hown hK hP 1 rfl rfl 5 (by decide) hn97 (fun _ h9 => h9) rfl dX11_changeBetters_117 ?_
        refine lv_iload hx hb dX11_changeBetters_120 (lv_at hl 5 rfl) ?_
        refine lv_iload hx hb dX11_changeBetters_122 (lv_at hl 6 rfl) ?_
        refine cGoV (wo := fun u => [cLockRail L0 h_reader h_rail h_trial h_images h_slots n0 h_triedYear h_ofBikes C ] ++ (wRail aR0 C rs0 (va_up (va_up ra0 7 u.1) 8 u.2) ++ (wNight n0 aN C ns na nl))) (cRunVN (As := [.int x6_, .int x7_]) (rest := []) ⟨hx, hb, hml, hown, hw⟩ hK hN hP hD [4] rfl rfl (k_X0_setOption l D C _ (aR0 7) (aR0 8) (aR0 9) (aR0 10) (aR0 11) (aR0 12)  (rs0 13) (ra0 4) (ra0 5) (ra0 6) (ra0 7) (ra0 8) x6_ x7_ h) ⟨va_cnB 2 hw (goodN mw_4_153) rfl rfl rfl (hN.m 58 rfl) (hw _ mw_1_7) (by decide +kernel) ⟨Nat.le_of_ble_eq_true rfl, Nat.le_of_ble_eq_true rfl⟩, hw _ mw_4_152, hw _ mw_s68⟩ rfl rfl rfl hl.1 rfl (Nat.le_of_ble_eq_true rfl) dX11_changeBetters_124 ⟨Nat.zero_le _, Nat.zero_le _⟩) hP hD hS hA [4] [0, 1, 2, 3, 5, 6, 7, 8, 9] [0, 1, 2, 3, 9, 4, 5, 6, 7, 8] rfl rfl rfl (by decide) rfl (fun _ => rfl) (fun u H locs h hP hD hS => ?_)
        obtain ⟨loc_1, mar_2⟩ := u
        have hP : va_P D vwCl (List.flatten ([cLockRail L0 h_reader h_rail h_trial h_images h_slots n0 h_triedYear h_ofBikes C ] ++ (wRail aR0 C rs0 (va_up (va_up ra0 7 loc_1) 8 mar_2) ++ (wNight n0 aN C ns na nl)))) H := hP
        have hD : va_D A (List.flatten ([cLockRail L0 h_reader h_rail h_trial h_images h_slots n0 h_triedYear h_ofBikes C ] ++ (wRail aR0 C rs0 (va_up (va_up ra0 7 loc_1) 8 mar_2) ++ (wNight n0 aN C ns na nl)))) := hD
        refine lv_iinc (v := (x6_ + 1)) (lv' := [(6, .int (x6_ + 1)), (0, .ref L0), (1, .ref (aR0 0)), (2, .long x2_), (4, .int x4_), (5, .int x5_), (7, .int x7_)]) hx hb dX11_changeBetters_127 hl (k := 5) rfl rfl (by decide) rfl (fun ls hl => ?_)
        refine lv_goto (tgt := 27) hx hb dX11_changeBetters_130 (by decide) ?_
        exact ih27 x2_ x4_ x5_ (x6_ + 1) (va_up (va_up ra0 7 loc_1) 8 mar_2) ns na nl aN _ _ _ h hP hD hS (lv_sub hl [1, 2, 3, 4, 5, 0] rfl)
      have N53 : ∀ (x6_ : Int32) (x7_ : Int32) (n53 : Nat) (x2_ : Int64) (x4_ : Int32) (x5_ : Int32) (x8_ : Int32) (ra0 : Nat → Nat → Int32) (ns : Nat → Int32) (na : Nat → Nat → Int32) (nl : Nat → Nat → Int64) (aN : Nat → Nat) (H : Heap) (locs : List Loc) (ls : Array Slot), P_X11_changeBetters_53 rs0 post (fun (x2_ : Int64) (x4_ : Int32) (x5_ : Int32) (x6_ : Int32) (x7_ : Int32) (ra0 : Nat → Nat → Int32) (ns : Nat → Int32) (na : Nat → Nat → Int32) (nl : Nat → Nat → Int64) => P_X11_changeBetters_116 rs0 post (P_X11_changeBetters_27 rs0 post (fun (x4_ : Int32) (x5_ : Int32) (ra0 : Nat → Nat → Int32) (ns : Nat → Int32) (na : Nat → Nat → Int32) (nl : Nat → Nat → Int64) => P_X11_changeBetters_133 rs0 post  x4_ x5_ ra0 ns na nl)  n27) x2_ x4_ x5_ x6_ x7_ ra0 ns na nl) x6_ x7_ n53 x2_ x4_ x5_ x8_ ra0 ns na nl → va_P D vwCl (List.flatten ([cLockRail L0 h_reader h_rail h_trial h_images h_slots n0 h_triedYear h_ofBikes C ] ++ (wRail aR0 C rs0 ra0 ++ (wNight n0 aN C ns na nl)))) H → va_D A (List.flatten ([cLockRail L0 h_reader h_rail h_trial h_images h_slots n0 h_triedYear h_ofBikes C ] ++ (wRail aR0 C rs0 ra0 ++ (wNight n0 aN C ns na nl)))) → va_S A s.heap H locs → lv_has ls 11 [(0, .ref L0), (1, .ref (aR0 0)), (2, .long x2_), (4, .int x4_), (5, .int x5_), (6, .int x6_), (7, .int x7_), (8, .int x8_)] → W p l e rmX11_changeBetters s m args below meth c H locs 0 0 Q (F0 m 53 ls []) := by
        intro x6_ x7_
        intro n53
        induction n53 with
        | zero => intro x2_ x4_ x5_ x8_ ra0 ns na nl aN H locs ls h hP hD hS hl; exact False.elim h
        | succ n53 ih53 =>
          intro x2_ x4_ x5_ x8_ ra0 ns na nl aN H locs ls h hP hD hS hl
          have h : P_X11_changeBetters_53_b rs0 post (fun (x2_ : Int64) (x4_ : Int32) (x5_ : Int32) (x6_ : Int32) (x7_ : Int32) (ra0 : Nat → Nat → Int32) (ns : Nat → Int32) (na : Nat → Nat → Int32) (nl : Nat → Nat → Int64) => P_X11_changeBetters_116 rs0 post (P_X11_changeBetters_27 rs0 post (fun (x4_ : Int32) (x5_ : Int32) (ra0 : Nat → Nat → Int32) (ns : Nat → Int32) (na : Nat → Nat → Int32) (nl : Nat → Nat → Int64) => P_X11_changeBetters_133 rs0 post  x4_ x5_ ra0 ns na nl)  n27) x2_ x4_ x5_ x6_ x7_ ra0 ns na nl) x6_ x7_ (P_X11_changeBetters_53 rs0 post (fun (x2_ : Int64) (x4_ : Int32) (x5_ : Int32) (x6_ : Int32) (x7_ : Int32) (ra0 : Nat → Nat → Int32) (ns : Nat → Int32) (na : Nat → Nat → Int32) (nl : Nat → Nat → Int64) => P_X11_changeBetters_116 rs0 post (P_X11_changeBetters_27 rs0 post (fun (x4_ : Int32) (x5_ : Int32) (ra0 : Nat → Nat → Int32) (ns : Nat → Int32) (na : Nat → Nat → Int32) (nl : Nat → Nat → Int64) => P_X11_changeBetters_133 rs0 post  x4_ x5_ ra0 ns na nl)  n27) x2_ x4_ x5_ x6_ x7_ ra0 ns na nl) x6_ x7_ n53) x2_ x4_ x5_ x8_ ra0 ns na nl := h
          unfold P_X11_changeBetters_53_b at h
          refine lv_iload hx hb dX11_changeBetters_53 (lv_at hl 7 rfl) ?_
          refine lv_aload_n hx hb dX11_changeBetters_55 rfl (lv_at hl 1 rfl) ?_
          refine cGoI (wo := fun u => [cLockRail L0 h_reader h_rail h_trial h_images h_slots n0 h_triedYear h_ofBikes C ] ++ (wRail aR0 C rs0 ra0 ++ (wNight n0 aN C ns na nl))) (cRunVN (As := []) (rest := [.int x8_]) ⟨hx, hb, hml, hown, hw⟩ hK hN hP hD [1, 2, 3, 4, 5, 6] rfl rfl (k_X4_options l D C _ aR0  rs0 ra0  h) ⟨va_cnB 0 hw (goodN mw_4_144) rfl rfl rfl (hN.m 59 rfl) (hw _ mw_1_4) (by decide +kernel) ⟨Nat.le_of_ble_eq_true rfl, Nat.le_of_ble_eq_true rfl⟩, hw _ mw_4_143, hw _ mw_s66⟩ rfl rfl rfl hl.1 rfl (Nat.le_of_ble_eq_true rfl) dX11_changeBetters_56 ⟨Nat.zero_le _, Nat.zero_le _⟩) hP hD hS hA [1, 2, 3, 4, 5, 6] [0, 7, 8, 9] [0, 4, 5, 6, 7, 8, 9, 1, 2, 3] rfl rfl rfl (by decide) rfl (fun _ => rfl) (fun r3 u H locs h hP hD hS => ?_)
          have hP : va_P D vwCl (List.flatten ([cLockRail L0 h_reader h_rail h_trial h_images h_slots n0 h_triedYear h_ofBikes C ] ++ (wRail aR0 C rs0 ra0 ++ (wNight n0 aN C ns na nl)))) H := hP
          have hD : va_D A (List.flatten ([cLockRail L0 h_reader h_rail h_trial h_images h_slots n0 h_triedYear h_ofBikes C ] ++ (wRail aR0 C rs0 ra0 ++ (wNight n0 aN C ns na nl)))) := hD
          refine lv_icmp_ge (tgt := 116) hx hb dX11_changeBetters_59 (by decide) (fun c4 => ?_) (fun c4 => ?_)
          · have h := h.1 c4
            exact N116 x2_ x4_ x5_ x6_ x7_ ra0 ns na nl aN _ _ _ h hP hD hS (lv_sub hl [0, 1, 2, 3, 4, 5, 6] rfl)
          · have h := h.2 c4
            refine lv_aload_n hx hb dX11_changeBetters_62 rfl (lv_at hl 1 rfl) ?_
            refine va_getN (D := D) (ci := 4) (v := .ref (aR0 7)) (C := RX4) (T := TX4) (N := 16) hx hb hw inW_X4 hown hK hP 1 rfl rfl 5 (by decide) hn97 (fun _ h9 => h9) rfl dX11_changeBetters_63 ?_
            refine lv_iload hx hb dX11_changeBetters_66 (lv_at hl 5 rfl) ?_
            refine lv_iload hx hb dX11_changeBetters_68 (lv_at hl 7 rfl) ?_
            refine cGoV (wo := fun u => [cLockRail L0 h_reader h_rail h_trial h_images h_slots n0 h_triedYear h_ofBikes C ] ++ (wRail aR0 C rs0 (va_up (va_up ra0 7 u.1) 8 u.2) ++ (wNight n0 aN C ns na nl))) (cRunVN (As := [.int x6_, .int x8_]) (rest := []) ⟨hx, hb, hml, hown, hw⟩ hK hN hP hD [4] rfl rfl (k_X0_setOption l D C _ (aR0 7) (aR0 8) (aR0 9) (aR0 10) (aR0 11) (aR0 12)  (rs0 13) (ra0 4) (ra0 5) (ra0 6) (ra0 7) (ra0 8) x6_ x8_ h) ⟨va_cnB 2 hw (goodN mw_4_153) rfl rfl rfl (hN.m 58 rfl) (hw _ mw_1_7) (by decide +kernel) ⟨Nat.le_of_ble_eq_true rfl, Nat.le_of_ble_eq_true rfl⟩, hw _ mw_4_152, hw _ mw_s68⟩ rfl rfl rfl hl.1 rfl (Nat.le_of_ble_eq_true rfl) dX11_changeBetters_70 ⟨Nat.zero_le _, Nat.zero_le _⟩) hP hD hS hA [4] [0, 1, 2, 3, 5, 6, 7, 8, 9] [0, 1, 2, 3, 9, 4, 5, 6, 7, 8] rfl rfl rfl (by decide) rfl (fun _ => rfl) (fun u H locs h hP hD hS => ?_)
            obtain ⟨loc_5, mar_6⟩ := u
            have hP : va_P D vwCl (List.flatten ([cLockRail L0 h_reader h_rail h_trial h_images h_slots n0 h_triedYear h_ofBikes C ] ++ (wRail aR0 C rs0 (va_up (va_up ra0 7 loc_5) 8 mar_6) ++ (wNight n0 aN C ns na nl)))) H := hP
            have hD : va_D A (List.flatten ([cLockRail L0 h_reader h_rail h_trial h_images h_slots n0 h_triedYear h_ofBikes C ] ++ (wRail aR0 C rs0 (va_up (va_up ra0 7 loc_5) 8 mar_6) ++ (wNight n0 aN C ns na nl)))) := hD
            refine lv_aload_n hx hb dX11_changeBetters_73 rfl (lv_at hl 0 rfl) ?_
            refine va_get (D := D) (ci := 11) (v := .ref n0) (C := RX11) (T := TX11) (N := 8) hx hb hw inW_X11 hown hK hP 0 rfl rfl 5 (by decide) (hw _ mw_2_148) (fun _ h9 => h9) rfl dX11_changeBetters_74 ?_
            refine lv_aload_n hx hb dX11_changeBetters_77 rfl (lv_at hl 1 rfl) ?_
            refine cGoV (wo := fun u => [cLockRail L0 h_reader h_rail h_trial h_images h_slots n0 h_triedYear h_ofBikes C ] ++ (wRail aR0 C rs0 (va_up (va_up ra0 7 loc_5) 8 mar_6) ++ (wNight n0 u.1 C u.2.1 u.2.2.1 u.2.2.2))) (cRunVN (As := [.ref (aR0 0)]) (rest := []) ⟨hx, hb, hml, hown, hw⟩ hK hN hP hD [7, 8, 9, 1, 2, 3, 4, 5, 6] rfl rfl (k_X3_play l D C _ n0 aN aR0  ns na nl rs0 (va_up (va_up ra0 7 loc_5) 8 mar_6)  h) ⟨va_cnB 1 hw (goodN mw_4_24) rfl rfl rfl (hN.m 45 rfl) (hw _ mw_1_11) (by decide +kernel) ⟨Nat.le_of_ble_eq_true rfl, Nat.le_of_ble_eq_true rfl⟩, hw _ mw_4_23, hw _ mw_s48⟩ rfl rfl rfl hl.1 rfl (Nat.le_of_ble_eq_true rfl) dX11_changeBetters_78 ⟨Nat.zero_le _, Nat.zero_le _⟩) hP hD hS hA [7, 8, 9, 1, 2, 3, 4, 5, 6] [0] [0, 4, 5, 6, 7, 8, 9, 1, 2, 3] rfl rfl rfl (by decide) rfl (fun _ => rfl) (fun u H locs h hP hD hS => ?_)
            obtain ⟨aN7, ns_8, na_9, nl_10⟩ := u
            have hP : va_P D vwCl (List.flatten ([cLockRail L0 h_reader h_rail h_trial h_images h_slots n0 h_triedYear h_ofBikes C ] ++ (wRail aR0 C rs0 (va_up (va_up ra0 7 loc_5) 8 mar_6) ++ (wNight n0 aN7 C ns_8 na_9 nl_10)))) H := hP
            have hD : va_D A (List.flatten ([cLockRail L0 h_reader h_rail h_trial h_images h_slots n0 h_triedYear h_ofBikes C ] ++ (wRail aR0 C rs0 (va_up (va_up ra0 7 loc_5) 8 mar_6) ++ (wNight n0 aN7 C ns_8 na_9 nl_10)))) := hD
            refine lv_aload_n hx hb dX11_changeBetters_81 rfl (lv_at hl 0 rfl) ?_
            refine va_get (D := D) (ci := 11) (v := .ref n0) (C := RX11) (T := TX11) (N := 8) hx hb hw inW_X11 hown hK hP 0 rfl rfl 5 (by decide) (hw _ mw_2_148) (fun _ h9 => h9) rfl dX11_changeBetters_82 ?_
            refine lv_aload_n hx hb dX11_changeBetters_85 rfl (lv_at hl 1 rfl) ?_
            refine lv_iconst (v := 2) hx hb dX11_changeBetters_86 (by decide) ?_
            refine cGoL (wo := fun u => [cLockRail L0 h_reader h_rail h_trial h_images h_slots n0 h_triedYear h_ofBikes C ] ++ (wRail aR0 C rs0 (va_up (va_up ra0 7 loc_5) 8 mar_6) ++ (wNight n0 aN7 C ns_8 na_9 nl_10))) (cRunVN (As := [.ref (aR0 0), .int 2]) (rest := []) ⟨hx, hb, hml, hown, hw⟩ hK hN hP hD [7, 8, 9, 1, 2, 3, 4, 5, 6] rfl rfl (k_X3_costOfAll l D C _ n0 aN7 aR0  ns_8 na_9 nl_10 rs0 (va_up (va_up ra0 7 loc_5) 8 mar_6) 2 h) ⟨va_cnB 2 hw (goodN mw_4_131) rfl rfl rfl (hN.m 55 rfl) (hw _ mw_1_11) (by decide +kernel) ⟨Nat.le_of_ble_eq_true rfl, Nat.le_of_ble_eq_true rfl⟩, hw _ mw_4_130, hw _ mw_s64⟩ rfl rfl rfl hl.1 rfl (Nat.le_of_ble_eq_true rfl) dX11_changeBetters_87 ⟨Nat.zero_le _, Nat.zero_le _⟩) hP hD hS hA [7, 8, 9, 1, 2, 3, 4, 5, 6] [0] [0, 4, 5, 6, 7, 8, 9, 1, 2, 3] rfl rfl rfl (by decide) rfl (fun _ => rfl) (fun r11 u H locs h hP hD hS => ?_)
            have hP : va_P D vwCl (List.flatten ([cLockRail L0 h_reader h_rail h_trial h_images h_slots n0 h_triedYear h_ofBikes C ] ++ (wRail aR0 C rs0 (va_up (va_up ra0 7 loc_5) 8 mar_6) ++ (wNight n0 aN7 C ns_8 na_9 nl_10)))) H := hP
            have hD : va_D A (List.flatten ([cLockRail L0 h_reader h_rail h_trial h_images h_slots n0 h_triedYear h_ofBikes C ] ++ (wRail aR0 C rs0 (va_up (va_up ra0 7 loc_5) 8 mar_6) ++ (wNight n0 aN7 C ns_8 na_9 nl_10)))) := hD
            refine lv_lstore (lv' := [(9, .long r11), (0, .ref L0), (1, .ref (aR0 0)), (2, .long x2_), (4, .int x4_), (5, .int x5_), (6, .int x6_), (7, .int x7_), (8, .int x8_)]) hx hb dX11_changeBetters_90 hl (by decide) rfl (fun ls hl => ?_)
            refine lv_lload hx hb dX11_changeBetters_92 (lv_at hl 0 rfl) ?_
            refine lv_lload_n hx hb dX11_changeBetters_94 rfl (lv_at hl 3 rfl) ?_
            refine W.lcmp hx hb dX11_changeBetters_95 ?_
            refine lv_if_ge (tgt := 110) hx hb dX11_changeBetters_96 (by decide) (fun c12 => ?_) (fun c12 => ?_)
            · have c12 : x2_ ≤ r11 := (lg_cmp_ge _ _).mp c12
              have h := h.1 c12
              refine lv_iinc (v := (x8_ + 1)) (lv' := [(8, .int (x8_ + 1)), (9, .long r11), (0, .ref L0), (1, .ref (aR0 0)), (2, .long x2_), (4, .int x4_), (5, .int x5_), (6, .int x6_), (7, .int x7_)]) hx hb dX11_changeBetters_110 hl (k := 8) rfl rfl (by decide) rfl (fun ls hl => ?_)
              refine lv_goto (tgt := 53) hx hb dX11_changeBetters_113 (by decide) ?_
              exact ih53 x2_ x4_ x5_ (x8_ + 1) (va_up (va_up ra0 7 loc_5) 8 mar_6) ns_8 na_9 nl_10 aN7 _ _ _ h hP hD hS (lv_sub hl [2, 3, 4, 5, 6, 7, 8, 0] rfl)
            · have c12 : ¬ x2_ ≤ r11 := fun q => c12 ((lg_cmp_ge _ _).mpr q)
              have h := h.2 c12
              refine lv_lload hx hb dX11_changeBetters_99 (lv_at hl 0 rfl) ?_
              refine lv_lstore_n (lv' := [(2, .long r11), (9, .long r11), (0, .ref L0), (1, .ref (aR0 0)), (4, .int x4_), (5, .int x5_), (6, .int x6_), (7, .int x7_), (8, .int x8_)]) hx hb dX11_changeBetters_101 rfl hl (by decide) rfl (fun ls hl => ?_)
              refine lv_iload hx hb dX11_changeBetters_102 (lv_at hl 6 rfl) ?_
              refine lv_istore (lv' := [(4, .int x6_), (2, .long r11), (9, .long r11), (0, .ref L0), (1, .ref (aR0 0)), (5, .int x5_), (6, .int x6_), (7, .int x7_), (8, .int x8_)]) hx hb dX11_changeBetters_104 hl (by decide) rfl (fun ls hl => ?_)
              refine lv_iload hx hb dX11_changeBetters_106 (lv_at hl 8 rfl) ?_
              refine lv_istore (lv' := [(5, .int x8_), (4, .int x6_), (2, .long r11), (9, .long r11), (0, .ref L0), (1, .ref (aR0 0)), (6, .int x6_), (7, .int x7_), (8, .int x8_)]) hx hb dX11_changeBetters_108 hl (by decide) rfl (fun ls hl => ?_)
              refine lv_iinc (v := (x8_ + 1)) (lv' := [(8, .int (x8_ + 1)), (5, .int x8_), (4, .int x6_), (2, .long r11), (9, .long r11), (0, .ref L0), (1, .ref (aR0 0)), (6, .int x6_), (7, .int x7_)]) hx hb dX11_changeBetters_110 hl (k := 8) rfl rfl (by decide) rfl (fun ls hl => ?_)
              refine lv_goto (tgt := 53) hx hb dX11_changeBetters_113 (by decide) ?_
              exact ih53 r11 x6_ x8_ (x8_ + 1) (va_up (va_up ra0 7 loc_5) 8 mar_6) ns_8 na_9 nl_10 aN7 _ _ _ h hP hD hS (lv_sub hl [5, 6, 3, 2, 1, 7, 8, 0] rfl)
      intro x2_ x4_ x5_ x6_ ra0 ns na nl aN H locs ls h hP hD hS hl
      refine lv_iload hx hb dX11_changeBetters_27 (lv_at hl 5 rfl) ?_
      refine lv_aload_n hx hb dX11_changeBetters_29 rfl (lv_at hl 1 rfl) ?_
      refine va_getN (D := D) (ci := 4) (v := .ref (aR0 7)) (C := RX4) (T := TX4) (N := 16) hx hb hw inW_X4 hown hK hP 1 rfl rfl 5 (by decide) hn97 (fun _ h9 => h9) rfl dX11_changeBetters_30 ?_
      refine va_getN (D := D) (ci := 0) (v := .int (rs0 13)) (C := RX0) (T := TX0) (N := 6) hx hb hw inW_X0 hown hK hP 8 rfl rfl 0 (by decide) hn161 (fun _ h9 => h9) rfl dX11_changeBetters_33 ?_
      refine lv_icmp_ge (tgt := 133) hx hb dX11_changeBetters_36 (by decide) (fun c17 => ?_) (fun c17 => ?_)
      · have h := h.1 c17
        exact N133 x4_ x5_ ra0 ns na nl aN _ _ _ h hP hD hS (lv_sub hl [1, 3, 4] rfl)
      · have h := h.2 c17
        refine lv_aload_n hx hb dX11_changeBetters_39 rfl (lv_at hl 1 rfl) ?_
        refine va_getN (D := D) (ci := 4) (v := .ref (aR0 7)) (C := RX4) (T := TX4) (N := 16) hx hb hw inW_X4 hown hK hP 1 rfl rfl 5 (by decide) hn97 (fun _ h9 => h9) rfl dX11_changeBetters_40 ?_
        refine lv_iload hx hb dX11_changeBetters_43 (lv_at hl 5 rfl) ?_
        refine cGoI (wo := fun u => [cLockRail L0 h_reader h_rail h_trial h_images h_slots n0 h_triedYear h_ofBikes C ] ++ (wRail aR0 C rs0 ra0 ++ (wNight n0 aN C ns na nl))) (cRunVN (As := [.int x6_]) (rest := []) ⟨hx, hb, hml, hown, hw⟩ hK hN hP hD [4] rfl rfl (k_X0_optionOf l D C _ (aR0 7) (aR0 8) (aR0 9) (aR0 10) (aR0 11) (aR0 12)  (rs0 13) (ra0 4) (ra0 5) (ra0 6) (ra0 7) (ra0 8) x6_ h) ⟨va_cnB 1 hw (goodN mw_4_149) rfl rfl rfl (hN.m 57 rfl) (hw _ mw_1_7) (by decide +kernel) ⟨Nat.le_of_ble_eq_true rfl, Nat.le_of_ble_eq_true rfl⟩, hw _ mw_4_148, hw _ mw_s67⟩ rfl rfl rfl hl.1 rfl (Nat.le_of_ble_eq_true rfl) dX11_changeBetters_45 ⟨Nat.zero_le _, Nat.zero_le _⟩) hP hD hS hA [4] [0, 1, 2, 3, 5, 6, 7, 8, 9] [0, 1, 2, 3, 9, 4, 5, 6, 7, 8] rfl rfl rfl (by decide) rfl (fun _ => rfl) (fun r18 u H locs h hP hD hS => ?_)
        have hP : va_P D vwCl (List.flatten ([cLockRail L0 h_reader h_rail h_trial h_images h_slots n0 h_triedYear h_ofBikes C ] ++ (wRail aR0 C rs0 ra0 ++ (wNight n0 aN C ns na nl)))) H := hP
        have hD : va_D A (List.flatten ([cLockRail L0 h_reader h_rail h_trial h_images h_slots n0 h_triedYear h_ofBikes C ] ++ (wRail aR0 C rs0 ra0 ++ (wNight n0 aN C ns na nl)))) := hD
        refine lv_istore (lv' := [(7, .int r18), (0, .ref L0), (1, .ref (aR0 0)), (2, .long x2_), (4, .int x4_), (5, .int x5_), (6, .int x6_)]) hx hb dX11_changeBetters_48 hl (by decide) rfl (fun ls hl => ?_)
        refine lv_iconst (v := 0) hx hb dX11_changeBetters_50 (by decide) ?_
        refine lv_istore (lv' := [(8, .int 0), (7, .int r18), (0, .ref L0), (1, .ref (aR0 0)), (2, .long x2_), (4, .int x4_), (5, .int x5_), (6, .int x6_)]) hx hb dX11_changeBetters_51 hl (by decide) rfl (fun ls hl => ?_)
        obtain ⟨n, h⟩ := h
        exact N53 x6_ r18 n x2_ x4_ x5_ 0 ra0 ns na nl aN _ _ _ h hP hD hS (lv_sub hl [2, 3, 4, 5, 6, 7, 1, 0] rfl)
  refine lv_aload_n hx hb dX11_changeBetters_0 rfl (lv_at hl 0 rfl) ?_
  refine va_get (D := D) (ci := 11) (v := .ref n0) (C := RX11) (T := TX11) (N := 8) hx hb hw inW_X11 hown hK hP 0 rfl rfl 5 (by decide) (hw _ mw_2_148) (fun _ h9 => h9) rfl dX11_changeBetters_1 ?_
  refine lv_aload_n hx hb dX11_changeBetters_4 rfl (lv_at hl 1 rfl) ?_
  refine cGoV (wo := fun u => [cLockRail L0 h_reader h_rail h_trial h_images h_slots n0 h_triedYear h_ofBikes C ] ++ (wRail aR0 C rs0 ra0 ++ (wNight n0 u.1 C u.2.1 u.2.2.1 u.2.2.2))) (cRunVN (As := [.ref (aR0 0)]) (rest := []) ⟨hx, hb, hml, hown, hw⟩ hK hN hP hD [7, 8, 9, 1, 2, 3, 4, 5, 6] rfl rfl (k_X3_play l D C _ n0 aN aR0  ns na nl rs0 ra0  h) ⟨va_cnB 1 hw (goodN mw_4_24) rfl rfl rfl (hN.m 45 rfl) (hw _ mw_1_11) (by decide +kernel) ⟨Nat.le_of_ble_eq_true rfl, Nat.le_of_ble_eq_true rfl⟩, hw _ mw_4_23, hw _ mw_s48⟩ rfl rfl rfl hl.1 rfl (Nat.le_of_ble_eq_true rfl) dX11_changeBetters_5 ⟨Nat.zero_le _, Nat.zero_le _⟩) hP hD hS hA [7, 8, 9, 1, 2, 3, 4, 5, 6] [0] [0, 4, 5, 6, 7, 8, 9, 1, 2, 3] rfl rfl rfl (by decide) rfl (fun _ => rfl) (fun u H locs h hP hD hS => ?_)
  obtain ⟨aN19, ns_20, na_21, nl_22⟩ := u
  have hP : va_P D vwCl (List.flatten ([cLockRail L0 h_reader h_rail h_trial h_images h_slots n0 h_triedYear h_ofBikes C ] ++ (wRail aR0 C rs0 ra0 ++ (wNight n0 aN19 C ns_20 na_21 nl_22)))) H := hP
  have hD : va_D A (List.flatten ([cLockRail L0 h_reader h_rail h_trial h_images h_slots n0 h_triedYear h_ofBikes C ] ++ (wRail aR0 C rs0 ra0 ++ (wNight n0 aN19 C ns_20 na_21 nl_22)))) := hD
  refine lv_aload_n hx hb dX11_changeBetters_8 rfl (lv_at hl 0 rfl) ?_
  refine va_get (D := D) (ci := 11) (v := .ref n0) (C := RX11) (T := TX11) (N := 8) hx hb hw inW_X11 hown hK hP 0 rfl rfl 5 (by decide) (hw _ mw_2_148) (fun _ h9 => h9) rfl dX11_changeBetters_9 ?_
  refine lv_aload_n hx hb dX11_changeBetters_12 rfl (lv_at hl 1 rfl) ?_
  refine lv_iconst (v := 2) hx hb dX11_changeBetters_13 (by decide) ?_
  refine cGoL (wo := fun u => [cLockRail L0 h_reader h_rail h_trial h_images h_slots n0 h_triedYear h_ofBikes C ] ++ (wRail aR0 C rs0 ra0 ++ (wNight n0 aN19 C ns_20 na_21 nl_22))) (cRunVN (As := [.ref (aR0 0), .int 2]) (rest := []) ⟨hx, hb, hml, hown, hw⟩ hK hN hP hD [7, 8, 9, 1, 2, 3, 4, 5, 6] rfl rfl (k_X3_costOfAll l D C _ n0 aN19 aR0  ns_20 na_21 nl_22 rs0 ra0 2 h) ⟨va_cnB 2 hw (goodN mw_4_131) rfl rfl rfl (hN.m 55 rfl) (hw _ mw_1_11) (by decide +kernel) ⟨Nat.le_of_ble_eq_true rfl, Nat.le_of_ble_eq_true rfl⟩, hw _ mw_4_130, hw _ mw_s64⟩ rfl rfl rfl hl.1 rfl (Nat.le_of_ble_eq_true rfl) dX11_changeBetters_14 ⟨Nat.zero_le _, Nat.zero_le _⟩) hP hD hS hA [7, 8, 9, 1, 2, 3, 4, 5, 6] [0] [0, 4, 5, 6, 7, 8, 9, 1, 2, 3] rfl rfl rfl (by decide) rfl (fun _ => rfl) (fun r23 u H locs h hP hD hS => ?_)
  have hP : va_P D vwCl (List.flatten ([cLockRail L0 h_reader h_rail h_trial h_images h_slots n0 h_triedYear h_ofBikes C ] ++ (wRail aR0 C rs0 ra0 ++ (wNight n0 aN19 C ns_20 na_21 nl_22)))) H := hP
  have hD : va_D A (List.flatten ([cLockRail L0 h_reader h_rail h_trial h_images h_slots n0 h_triedYear h_ofBikes C ] ++ (wRail aR0 C rs0 ra0 ++ (wNight n0 aN19 C ns_20 na_21 nl_22)))) := hD
  refine lv_lstore_n (lv' := [(2, .long r23), (0, .ref L0), (1, .ref (aR0 0))]) hx hb dX11_changeBetters_17 rfl hl (by decide) rfl (fun ls hl => ?_)
  refine lv_iconst (v := (-1)) hx hb dX11_changeBetters_18 (by decide) ?_
  refine lv_istore (lv' := [(4, .int (-1)), (2, .long r23), (0, .ref L0), (1, .ref (aR0 0))]) hx hb dX11_changeBetters_19 hl (by decide) rfl (fun ls hl => ?_)
  refine lv_iconst (v := 0) hx hb dX11_changeBetters_21 (by decide) ?_
  refine lv_istore (lv' := [(5, .int 0), (4, .int (-1)), (2, .long r23), (0, .ref L0), (1, .ref (aR0 0))]) hx hb dX11_changeBetters_22 hl (by decide) rfl (fun ls hl => ?_)
  refine lv_iconst (v := 0) hx hb dX11_changeBetters_24 (by decide) ?_
  refine lv_istore (lv' := [(6, .int 0), (5, .int 0), (4, .int (-1)), (2, .long r23), (0, .ref L0), (1, .ref (aR0 0))]) hx hb dX11_changeBetters_25 hl (by decide) rfl (fun ls hl => ?_)
  obtain ⟨n, h⟩ := h
  exact N27  n r23 (-1) 0 0 ra0 ns_20 na_21 nl_22 aN19 _ _ _ h hP hD hS (lv_sub hl [4, 5, 3, 2, 1, 0] rfl)
abbrev vsX11_changesOn : List Cond := Cond.code yX11_changesOn cX11_changesOn 4 (some .int) :: WS
abbrev rmX11_changesOn : Room := { frames := 5, cells := 0, slots := 0, locals := 135 }
set_option maxHeartbeats 4000000 in
set_option maxRecDepth 100000 in
theorem k_X11_changesOn (l : Launch) (D : va_G) (C : Nat → ClassId) (sz : Nat) (L0 : Nat) (aR0 : Nat → Nat) (n0 : Nat) (aN : Nat → Nat) (h_reader : Nat) (h_rail : Nat) (h_trial : Nat) (h_images : Nat) (h_slots : Nat) (h_triedYear : Nat) (h_ofBikes : Nat) (rs0 : Nat → Int32) (ra0 : Nat → Nat → Int32) (ns : Nat → Int32) (na : Nat → Nat → Int32) (nl : Nat → Nat → Int64) (p2 : Int32) {post : Int32 → (Nat → Nat → Int32) → (Nat → Int32) → (Nat → Nat → Int32) → (Nat → Nat → Int64) → Prop} (h : P_X11_changesOn rs0 ra0 ns na nl p2 post) : Met l yX11_changesOn vsX11_changesOn rmX11_changesOn (cPre D C [.ref L0, .ref (aR0 0), .int p2] sz ([cLockRail L0 h_reader h_rail h_trial h_images h_slots n0 h_triedYear h_ofBikes C ] ++ (wRail aR0 C rs0 ra0 ++ (wNight n0 aN C ns na nl)))) (cQi D (fun (r : Int32) (u : (Nat → Nat) × (Nat → Nat → Int32) × (Nat → Int32) × (Nat → Nat → Int32) × (Nat → Nat → Int64)) => post r u.2.1 u.2.2.1 u.2.2.2.1 u.2.2.2.2) (fun u => [cLockRail L0 h_reader h_rail h_trial h_images h_slots n0 h_triedYear h_ofBikes C ] ++ (wRail aR0 C rs0 u.2.1 ++ (wNight n0 u.1 C u.2.2.1 u.2.2.2.1 u.2.2.2.2))) (va_A (List.flatten ([cLockRail L0 h_reader h_rail h_trial h_images h_slots n0 h_triedYear h_ofBikes C ] ++ (wRail aR0 C rs0 ra0 ++ (wNight n0 aN C ns na nl)))) sz)) 0 0 (va_A (List.flatten ([cLockRail L0 h_reader h_rail h_trial h_images h_slots n0 h_triedYear h_ofBikes C ] ++ (wRail aR0 C rs0 ra0 ++ (wNight n0 aN C ns na nl)))) sz) := by
  refine cStart (QA := fun A => cQi D (fun (r : Int32) (u : (Nat → Nat) × (Nat → Nat → Int32) × (Nat → Int32) × (Nat → Nat → Int32) × (Nat → Nat → Int64)) => post r u.2.1 u.2.2.1 u.2.2.2.1 u.2.2.2.2) (fun u => [cLockRail L0 h_reader h_rail h_trial h_images h_slots n0 h_triedYear h_ofBikes C ] ++ (wRail aR0 C rs0 u.2.1 ++ (wNight n0 u.1 C u.2.2.1 u.2.2.2.1 u.2.2.2.2))) A) (cc := cX11_changesOn) (maxL := 4) (ret := (some .int)) (by decide) (Nat.le_of_ble_eq_true rfl) ?_
  intro p e s m args below meth c A ls hx hb hr hml hown hw hlocks hname hK hN hA hP hD hS hl
  generalize hQ : MQ below _ args s 0 0 A = Q
  have hl : lv_has ls 4 [(0, .ref L0), (1, .ref (aR0 0)), (2, .int p2)] := hl
  obtain ⟨H, hH⟩ : ∃ H, H = s.heap := ⟨_, rfl⟩
  obtain ⟨locs, hlo⟩ : ∃ z : List Loc, z = [] := ⟨_, rfl⟩
  have hP : va_P D vwCl (List.flatten ([cLockRail L0 h_reader h_rail h_trial h_images h_slots n0 h_triedYear h_ofBikes C ] ++ (wRail aR0 C rs0 ra0 ++ (wNight n0 aN C ns na nl)))) H := by rw [hH]; exact hP
  have hS : va_S A s.heap H locs := by rw [hH, hlo]; exact hS
  rw [show W p l e rmX11_changesOn s m args below meth c s.heap [] 0 0 Q (F0 m 0 ls []) = W p l e rmX11_changesOn s m args below meth c H locs 0 0 Q (F0 m 0 ls []) from by rw [hH, hlo]]
  have N2 : ∀  (n2 : Nat) (x3_ : Int32) (ra0 : Nat → Nat → Int32) (ns : Nat → Int32) (na : Nat → Nat → Int32) (nl : Nat → Nat → Int64) (aN : Nat → Nat) (H : Heap) (locs : List Loc) (ls : Array Slot), P_X11_changesOn_2 rs0 p2 post   n2 x3_ ra0 ns na nl → va_P D vwCl (List.flatten ([cLockRail L0 h_reader h_rail h_trial h_images h_slots n0 h_triedYear h_ofBikes C ] ++ (wRail aR0 C rs0 ra0 ++ (wNight n0 aN C ns na nl)))) H → va_D A (List.flatten ([cLockRail L0 h_reader h_rail h_trial h_images h_slots n0 h_triedYear h_ofBikes C ] ++ (wRail aR0 C rs0 ra0 ++ (wNight n0 aN C ns na nl)))) → va_S A s.heap H locs → lv_has ls 4 [(0, .ref L0), (1, .ref (aR0 0)), (2, .int p2), (3, .int x3_)] → W p l e rmX11_changesOn s m args below meth c H locs 0 0 Q (F0 m 2 ls []) := by
    intro n2
    induction n2 with
    | zero => intro x3_ ra0 ns na nl aN H locs ls h hP hD hS hl; exact False.elim h
    | succ n2 ih2 =>
      intro x3_ ra0 ns na nl aN H locs ls h hP hD hS hl
      refine lv_iload_n hx hb dX11_changesOn_2 rfl (lv_at hl 3 rfl) ?_
      refine lv_iload_n hx hb dX11_changesOn_3 rfl (lv_at hl 2 rfl) ?_
      refine lv_icmp_ge (tgt := 23) hx hb dX11_changesOn_4 (by decide) (fun c1 => ?_) (fun c1 => ?_)
      · have h := h.1 c1
        refine lv_iload_n hx hb dX11_changesOn_23 rfl (lv_at hl 2 rfl) ?_
        rw [← hQ]
        exact cRetI (v := p2) (aN, ra0, ns, na, nl) hx hb hr hlocks hS hP hD h dX11_changesOn_24
      · have h := h.2 c1
        refine lv_aload_n hx hb dX11_changesOn_7 rfl (lv_at hl 0 rfl) ?_
        refine lv_aload_n hx hb dX11_changesOn_8 rfl (lv_at hl 1 rfl) ?_
        refine cGoI (wo := fun u => [cLockRail L0 h_reader h_rail h_trial h_images h_slots n0 h_triedYear h_ofBikes C ] ++ (wRail aR0 C rs0 u.2.1 ++ (wNight n0 u.1 C u.2.2.1 u.2.2.2.1 u.2.2.2.2))) (cRunV (As := [.ref (aR0 0)]) (rest := []) ⟨hx, hb, hml, hown, hw⟩ hK hN hP hD [0, 1, 2, 3, 4, 5, 6, 7, 8, 9] rfl rfl (k_X11_changeBetters l D C _ L0 aR0 n0 aN h_reader h_rail h_trial h_images h_slots h_triedYear h_ofBikes  rs0 ra0 ns na nl  h) (cwV 1 hw (goodV mw_4_202 mw_4_204 mw_s73 mw_1_1 mw_4_205) rfl rfl rfl (by decide +kernel) ⟨Nat.le_of_ble_eq_true rfl, Nat.le_of_ble_eq_true rfl⟩) rfl rfl rfl hl.1 rfl (Nat.le_of_ble_eq_true rfl) dX11_changesOn_9 ⟨Nat.zero_le _, Nat.zero_le _⟩) hP hD hS hA [0, 1, 2, 3, 4, 5, 6, 7, 8, 9] [] [0, 1, 2, 3, 4, 5, 6, 7, 8, 9] rfl rfl rfl (by decide) rfl (fun _ => rfl) (fun r7 u H locs h hP hD hS => ?_)
        obtain ⟨aN2, ra_3, ns_4, na_5, nl_6⟩ := u
        have hP : va_P D vwCl (List.flatten ([cLockRail L0 h_reader h_rail h_trial h_images h_slots n0 h_triedYear h_ofBikes C ] ++ (wRail aR0 C rs0 ra_3 ++ (wNight n0 aN2 C ns_4 na_5 nl_6)))) H := hP
        have hD : va_D A (List.flatten ([cLockRail L0 h_reader h_rail h_trial h_images h_slots n0 h_triedYear h_ofBikes C ] ++ (wRail aR0 C rs0 ra_3 ++ (wNight n0 aN2 C ns_4 na_5 nl_6)))) := hD
        refine lv_if_ne (tgt := 17) hx hb dX11_changesOn_12 (by decide) (fun c8 => ?_) (fun c8 => ?_)
        · have h := h.1 c8
          refine lv_iinc (v := (x3_ + 1)) (lv' := [(3, .int (x3_ + 1)), (0, .ref L0), (1, .ref (aR0 0)), (2, .int p2)]) hx hb dX11_changesOn_17 hl (k := 3) rfl rfl (by decide) rfl (fun ls hl => ?_)
          refine lv_goto (tgt := 2) hx hb dX11_changesOn_20 (by decide) ?_
          exact ih2 (x3_ + 1) ra_3 ns_4 na_5 nl_6 aN2 _ _ _ h hP hD hS (lv_sub hl [1, 2, 3, 0] rfl)
        · have h := h.2 c8
          refine lv_iload_n hx hb dX11_changesOn_15 rfl (lv_at hl 3 rfl) ?_
          rw [← hQ]
          exact cRetI (v := x3_) (aN2, ra_3, ns_4, na_5, nl_6) hx hb hr hlocks hS hP hD h dX11_changesOn_16
  refine lv_iconst (v := 0) hx hb dX11_changesOn_0 (by decide) ?_
  refine lv_istore_n (lv' := [(3, .int 0), (0, .ref L0), (1, .ref (aR0 0)), (2, .int p2)]) hx hb dX11_changesOn_1 rfl hl (by decide) rfl (fun ls hl => ?_)
  obtain ⟨n, h⟩ := h
  exact N2  n 0 ra0 ns na nl aN _ _ _ h hP hD hS (lv_sub hl [1, 2, 3, 0] rfl)
abbrev vsX11_better : List Cond := Cond.code yX11_better cX11_better 2 (some .int) :: WS
abbrev rmX11_better : Room := { frames := 6, cells := 0, slots := 0, locals := 158 }
set_option maxHeartbeats 4000000 in
set_option maxRecDepth 100000 in
theorem k_X11_better (l : Launch) (D : va_G) (C : Nat → ClassId) (sz : Nat) (L0 : Nat) (aU : Nat → Nat) (aR : Nat → Nat) (aR2 : Nat → Nat) (aS : Nat → Nat) (n0 : Nat) (aN : Nat → Nat) (y0 : Nat) (y1 : Nat) (y2 : Nat) (o0 : Nat) (h_images : Nat) (us : Nat → Int32) (ua : Nat → Nat → Int32) (rs : Nat → Int32) (ra : Nat → Nat → Int32) (rs2 : Nat → Int32) (ra2 : Nat → Nat → Int32) (sa : Nat → Nat → Int32) (sl : Nat → Nat → Int64) (ns : Nat → Int32) (na : Nat → Nat → Int32) (nl : Nat → Nat → Int64) (y_isThere : Int32) (y_taken : Nat → Int32) (y_took : Nat → Int32) (o_of : Nat → Int64) (p1 : Int32) {post : Int32 → (Nat → Nat → Int32) → (Nat → Int32) → (Nat → Nat → Int32) → (Nat → Nat → Int64) → Prop} (h : P_X11_better rs ra ns na nl p1 post) : Met l yX11_better vsX11_better rmX11_better (cPre D C [.ref L0, .int p1] sz ([cLockRail L0 (aU 0) (aR 0) (aR2 0) h_images (aS 0) n0 y0 o0 C ] ++ (wReader aU C us ua ++ (wRail aR C rs ra ++ (wRail aR2 C rs2 ra2 ++ (wSlots aS C sa sl ++ (wNight n0 aN C ns na nl ++ ([cYear y0 y1 y2 C y_isThere y_taken y_took] ++ ([cOb o0 C o_of]))))))))) (cQi D (fun (r : Int32) (u : (Nat → Nat) × (Nat → Nat → Int32) × (Nat → Int32) × (Nat → Nat → Int32) × (Nat → Nat → Int64)) => post r u.2.1 u.2.2.1 u.2.2.2.1 u.2.2.2.2) (fun u => [cLockRail L0 (aU 0) (aR 0) (aR2 0) h_images (aS 0) n0 y0 o0 C ] ++ (wReader aU C us ua ++ (wRail aR C rs u.2.1 ++ (wRail aR2 C rs2 ra2 ++ (wSlots aS C sa sl ++ (wNight n0 u.1 C u.2.2.1 u.2.2.2.1 u.2.2.2.2 ++ ([cYear y0 y1 y2 C y_isThere y_taken y_took] ++ ([cOb o0 C o_of])))))))) (va_A (List.flatten ([cLockRail L0 (aU 0) (aR 0) (aR2 0) h_images (aS 0) n0 y0 o0 C ] ++ (wReader aU C us ua ++ (wRail aR C rs ra ++ (wRail aR2 C rs2 ra2 ++ (wSlots aS C sa sl ++ (wNight n0 aN C ns na nl ++ ([cYear y0 y1 y2 C y_isThere y_taken y_took] ++ ([cOb o0 C o_of]))))))))) sz)) 0 0 (va_A (List.flatten ([cLockRail L0 (aU 0) (aR 0) (aR2 0) h_images (aS 0) n0 y0 o0 C ] ++ (wReader aU C us ua ++ (wRail aR C rs ra ++ (wRail aR2 C rs2 ra2 ++ (wSlots aS C sa sl ++ (wNight n0 aN C ns na nl ++ ([cYear y0 y1 y2 C y_isThere y_taken y_took] ++ ([cOb o0 C o_of]))))))))) sz) := by
  refine cStart (QA := fun A => cQi D (fun (r : Int32) (u : (Nat → Nat) × (Nat → Nat → Int32) × (Nat → Int32) × (Nat → Nat → Int32) × (Nat → Nat → Int64)) => post r u.2.1 u.2.2.1 u.2.2.2.1 u.2.2.2.2) (fun u => [cLockRail L0 (aU 0) (aR 0) (aR2 0) h_images (aS 0) n0 y0 o0 C ] ++ (wReader aU C us ua ++ (wRail aR C rs u.2.1 ++ (wRail aR2 C rs2 ra2 ++ (wSlots aS C sa sl ++ (wNight n0 u.1 C u.2.2.1 u.2.2.2.1 u.2.2.2.2 ++ ([cYear y0 y1 y2 C y_isThere y_taken y_took] ++ ([cOb o0 C o_of])))))))) A) (cc := cX11_better) (maxL := 2) (ret := (some .int)) (by decide) (Nat.le_of_ble_eq_true rfl) ?_
  intro p e s m args below meth c A ls hx hb hr hml hown hw hlocks hname hK hN hA hP hD hS hl
  generalize hQ : MQ below _ args s 0 0 A = Q
  have hl : lv_has ls 2 [(0, .ref L0), (1, .int p1)] := hl
  obtain ⟨H, hH⟩ : ∃ H, H = s.heap := ⟨_, rfl⟩
  obtain ⟨locs, hlo⟩ : ∃ z : List Loc, z = [] := ⟨_, rfl⟩
  have hP : va_P D vwCl (List.flatten ([cLockRail L0 (aU 0) (aR 0) (aR2 0) h_images (aS 0) n0 y0 o0 C ] ++ (wReader aU C us ua ++ (wRail aR C rs ra ++ (wRail aR2 C rs2 ra2 ++ (wSlots aS C sa sl ++ (wNight n0 aN C ns na nl ++ ([cYear y0 y1 y2 C y_isThere y_taken y_took] ++ ([cOb o0 C o_of]))))))))) H := by rw [hH]; exact hP
  have hS : va_S A s.heap H locs := by rw [hH, hlo]; exact hS
  rw [show W p l e rmX11_better s m args below meth c s.heap [] 0 0 Q (F0 m 0 ls []) = W p l e rmX11_better s m args below meth c H locs 0 0 Q (F0 m 0 ls []) from by rw [hH, hlo]]
  refine lv_aload_n hx hb dX11_better_0 rfl (lv_at hl 0 rfl) ?_
  refine va_get (D := D) (ci := 11) (v := .ref (aR 0)) (C := RX11) (T := TX11) (N := 8) hx hb hw inW_X11 hown hK hP 0 rfl rfl 1 (by decide) (hw _ mw_2_144) (fun _ h9 => h9) rfl dX11_better_1 ?_
  refine cGoI (wo := fun u => [cLockRail L0 (aU 0) (aR 0) (aR2 0) h_images (aS 0) n0 y0 o0 C ] ++ (wReader aU C us ua ++ (wRail aR C rs ra ++ (wRail aR2 C rs2 ra2 ++ (wSlots aS C sa sl ++ (wNight n0 aN C ns na nl ++ ([cYear y0 y1 y2 C y_isThere y_taken y_took] ++ ([cOb o0 C o_of])))))))) (cRunVN (As := []) (rest := []) ⟨hx, hb, hml, hown, hw⟩ hK hN hP hD [3, 4, 5, 6, 7, 8] rfl rfl (k_X4_isTold l D C _ aR  rs ra  h) ⟨va_cnB 0 hw (goodN mw_4_19) rfl rfl rfl (hN.m 44 rfl) (hw _ mw_1_4) (by decide +kernel) ⟨Nat.le_of_ble_eq_true rfl, Nat.le_of_ble_eq_true rfl⟩, hw _ mw_4_18, hw _ mw_s47⟩ rfl rfl rfl hl.1 rfl (Nat.le_of_ble_eq_true rfl) dX11_better_4 ⟨Nat.zero_le _, Nat.zero_le _⟩) hP hD hS hA [3, 4, 5, 6, 7, 8] [0, 1, 2, 9, 10, 11, 12, 13, 14, 15, 16, 17, 18, 19, 20] [0, 1, 2, 15, 16, 17, 18, 19, 20, 3, 4, 5, 6, 7, 8, 9, 10, 11, 12, 13, 14] rfl rfl rfl (by decide) rfl (fun _ => rfl) (fun r1 u H locs h hP hD hS => ?_)
  have hP : va_P D vwCl (List.flatten ([cLockRail L0 (aU 0) (aR 0) (aR2 0) h_images (aS 0) n0 y0 o0 C ] ++ (wReader aU C us ua ++ (wRail aR C rs ra ++ (wRail aR2 C rs2 ra2 ++ (wSlots aS C sa sl ++ (wNight n0 aN C ns na nl ++ ([cYear y0 y1 y2 C y_isThere y_taken y_took] ++ ([cOb o0 C o_of]))))))))) H := hP
  have hD : va_D A (List.flatten ([cLockRail L0 (aU 0) (aR 0) (aR2 0) h_images (aS 0) n0 y0 o0 C ] ++ (wReader aU C us ua ++ (wRail aR C rs ra ++ (wRail aR2 C rs2 ra2 ++ (wSlots aS C sa sl ++ (wNight n0 aN C ns na nl ++ ([cYear y0 y1 y2 C y_isThere y_taken y_took] ++ ([cOb o0 C o_of]))))))))) := hD
  refine lv_if_eq (tgt := 20) hx hb dX11_better_7 (by decide) (fun c2 => ?_) (fun c2 => ?_)
  · have h := h.1 c2
    refine lv_bipush (v := (-2)) hx hb dX11_better_20 (by decide) ?_
    rw [← hQ]
    exact cRetI (v := (-2)) (aN, ra, ns, na, nl) hx hb hr hlocks hS hP hD h dX11_better_22
  · have h := h.2 c2
    refine lv_iload_n hx hb dX11_better_10 rfl (lv_at hl 1 rfl) ?_
    refine lv_if_lt (tgt := 20) hx hb dX11_better_11 (by decide) (fun c3 => ?_) (fun c3 => ?_)
    · have h := h.1 c3
      refine lv_bipush (v := (-2)) hx hb dX11_better_20 (by decide) ?_
      rw [← hQ]
      exact cRetI (v := (-2)) (aN, ra, ns, na, nl) hx hb hr hlocks hS hP hD h dX11_better_22
    · have h := h.2 c3
      refine lv_iload_n hx hb dX11_better_14 rfl (lv_at hl 1 rfl) ?_
      refine lv_bipush (v := 60) hx hb dX11_better_15 (by decide) ?_
      refine lv_icmp_le (tgt := 23) hx hb dX11_better_17 (by decide) (fun c4 => ?_) (fun c4 => ?_)
      · have h := h.1 c4
        refine lv_aload_n hx hb dX11_better_23 rfl (lv_at hl 0 rfl) ?_
        refine lv_aload_n hx hb dX11_better_24 rfl (lv_at hl 0 rfl) ?_
        refine va_get (D := D) (ci := 11) (v := .ref (aR 0)) (C := RX11) (T := TX11) (N := 8) hx hb hw inW_X11 hown hK hP 0 rfl rfl 1 (by decide) (hw _ mw_2_144) (fun _ h9 => h9) rfl dX11_better_25 ?_
        refine lv_iload_n hx hb dX11_better_28 rfl (lv_at hl 1 rfl) ?_
        refine cGoI (wo := fun u => [cLockRail L0 (aU 0) (aR 0) (aR2 0) h_images (aS 0) n0 y0 o0 C ] ++ (wReader aU C us ua ++ (wRail aR C rs u.2.1 ++ (wRail aR2 C rs2 ra2 ++ (wSlots aS C sa sl ++ (wNight n0 u.1 C u.2.2.1 u.2.2.2.1 u.2.2.2.2 ++ ([cYear y0 y1 y2 C y_isThere y_taken y_took] ++ ([cOb o0 C o_of])))))))) (cRunV (As := [.ref (aR 0), .int p1]) (rest := []) ⟨hx, hb, hml, hown, hw⟩ hK hN hP hD [0, 3, 4, 5, 6, 7, 8, 16, 17, 18] rfl rfl (k_X11_changesOn l D C _ L0 aR n0 aN (aU 0) (aR 0) (aR2 0) h_images (aS 0) y0 o0  rs ra ns na nl p1 h) (cwV 2 hw (goodV mw_4_198 mw_4_200 mw_s72 mw_1_1 mw_4_201) rfl rfl rfl (by decide +kernel) ⟨Nat.le_of_ble_eq_true rfl, Nat.le_of_ble_eq_true rfl⟩) rfl rfl rfl hl.1 rfl (Nat.le_of_ble_eq_true rfl) dX11_better_29 ⟨Nat.zero_le _, Nat.zero_le _⟩) hP hD hS hA [0, 3, 4, 5, 6, 7, 8, 16, 17, 18] [1, 2, 9, 10, 11, 12, 13, 14, 15, 19, 20] [11, 0, 1, 12, 13, 14, 15, 16, 17, 2, 3, 4, 5, 6, 7, 8, 18, 19, 20, 9, 10] rfl rfl rfl (by decide) rfl (fun _ => rfl) (fun r10 u H locs h hP hD hS => ?_)
        obtain ⟨aN5, ra_6, ns_7, na_8, nl_9⟩ := u
        have hP : va_P D vwCl (List.flatten ([cLockRail L0 (aU 0) (aR 0) (aR2 0) h_images (aS 0) n0 y0 o0 C ] ++ (wReader aU C us ua ++ (wRail aR C rs ra_6 ++ (wRail aR2 C rs2 ra2 ++ (wSlots aS C sa sl ++ (wNight n0 aN5 C ns_7 na_8 nl_9 ++ ([cYear y0 y1 y2 C y_isThere y_taken y_took] ++ ([cOb o0 C o_of]))))))))) H := hP
        have hD : va_D A (List.flatten ([cLockRail L0 (aU 0) (aR 0) (aR2 0) h_images (aS 0) n0 y0 o0 C ] ++ (wReader aU C us ua ++ (wRail aR C rs ra_6 ++ (wRail aR2 C rs2 ra2 ++ (wSlots aS C sa sl ++ (wNight n0 aN5 C ns_7 na_8 nl_9 ++ ([cYear y0 y1 y2 C y_isThere y_taken y_took] ++ ([cOb o0 C o_of]))))))))) := hD
        rw [← hQ]
        exact cRetI (v := r10) (aN5, ra_6, ns_7, na_8, nl_9) hx hb hr hlocks hS hP hD h dX11_better_32
      · have h := h.2 c4
        refine lv_bipush (v := (-2)) hx hb dX11_better_20 (by decide) ?_
        rw [← hQ]
        exact cRetI (v := (-2)) (aN, ra, ns, na, nl) hx hb hr hlocks hS hP hD h dX11_better_22
