abbrev vsX11_cover : List Cond := Cond.code yX11_cover cX11_cover 5 (some .long) :: WS
abbrev rmX11_cover : Room := { frames := 6, cells := 0, slots := 0, locals := 160 }
set_option maxHeartbeats 4000000 in
set_option maxRecDepth 100000 in
theorem k_X11_cover (l : Launch) (D : va_G) (C : Nat → ClassId) (sz : Nat) (L0 : Nat) (aU : Nat → Nat) (aR : Nat → Nat) (aR2 : Nat → Nat) (aS : Nat → Nat) (n0 : Nat) (aN : Nat → Nat) (y0 : Nat) (y1 : Nat) (y2 : Nat) (o0 : Nat) (h_images : Nat) (us : Nat → Int32) (ua : Nat → Nat → Int32) (rs : Nat → Int32) (ra : Nat → Nat → Int32) (rs2 : Nat → Int32) (ra2 : Nat → Nat → Int32) (sa : Nat → Nat → Int32) (sl : Nat → Nat → Int64) (ns : Nat → Int32) (na : Nat → Nat → Int32) (nl : Nat → Nat → Int64) (y_isThere : Int32) (y_taken : Nat → Int32) (y_took : Nat → Int32) (o_of : Nat → Int64) (p1 : Int32) (p2 : Int32) (p3 : Int32) {post : Int64 → (Nat → Int32) → (Nat → Nat → Int32) → (Nat → Int32) → (Nat → Nat → Int32) → (Nat → Nat → Int64) → Prop} (h : P_X11_cover rs ra rs2 ra2 ns na nl p1 p2 p3 post) : Met l yX11_cover vsX11_cover rmX11_cover (cPre D C [.ref L0, .int p1, .int p2, .int p3] sz ([cLockRail L0 (aU 0) (aR 0) (aR2 0) h_images (aS 0) n0 y0 o0 C ] ++ (wReader aU C us ua ++ (wRail aR C rs ra ++ (wRail aR2 C rs2 ra2 ++ (wSlots aS C sa sl ++ (wNight n0 aN C ns na nl ++ ([cYear y0 y1 y2 C y_isThere y_taken y_took] ++ ([cOb o0 C o_of]))))))))) (cQl D (fun (r : Int64) (u : (Nat → Nat) × (Nat → Int32) × (Nat → Nat → Int32) × (Nat → Int32) × (Nat → Nat → Int32) × (Nat → Nat → Int64)) => post r u.2.1 u.2.2.1 u.2.2.2.1 u.2.2.2.2.1 u.2.2.2.2.2) (fun u => [cLockRail L0 (aU 0) (aR 0) (aR2 0) h_images (aS 0) n0 y0 o0 C ] ++ (wReader aU C us ua ++ (wRail aR C rs ra ++ (wRail aR2 C u.2.1 u.2.2.1 ++ (wSlots aS C sa sl ++ (wNight n0 u.1 C u.2.2.2.1 u.2.2.2.2.1 u.2.2.2.2.2 ++ ([cYear y0 y1 y2 C y_isThere y_taken y_took] ++ ([cOb o0 C o_of])))))))) (va_A (List.flatten ([cLockRail L0 (aU 0) (aR 0) (aR2 0) h_images (aS 0) n0 y0 o0 C ] ++ (wReader aU C us ua ++ (wRail aR C rs ra ++ (wRail aR2 C rs2 ra2 ++ (wSlots aS C sa sl ++ (wNight n0 aN C ns na nl ++ ([cYear y0 y1 y2 C y_isThere y_taken y_took] ++ ([cOb o0 C o_of]))))))))) sz)) 0 0 (va_A (List.flatten ([cLockRail L0 (aU 0) (aR 0) (aR2 0) h_images (aS 0) n0 y0 o0 C ] ++ (wReader aU C us ua ++ (wRail aR C rs ra ++ (wRail aR2 C rs2 ra2 ++ (wSlots aS C sa sl ++ (wNight n0 aN C ns na nl ++ ([cYear y0 y1 y2 C y_isThere y_taken y_took] ++ ([cOb o0 C o_of]))))))))) sz) := by
  refine cStart (QA := fun A => cQl D (fun (r : Int64) (u : (Nat → Nat) × (Nat → Int32) × (Nat → Nat → Int32) × (Nat → Int32) × (Nat → Nat → Int32) × (Nat → Nat → Int64)) => post r u.2.1 u.2.2.1 u.2.2.2.1 u.2.2.2.2.1 u.2.2.2.2.2) (fun u => [cLockRail L0 (aU 0) (aR 0) (aR2 0) h_images (aS 0) n0 y0 o0 C ] ++ (wReader aU C us ua ++ (wRail aR C rs ra ++ (wRail aR2 C u.2.1 u.2.2.1 ++ (wSlots aS C sa sl ++ (wNight n0 u.1 C u.2.2.2.1 u.2.2.2.2.1 u.2.2.2.2.2 ++ ([cYear y0 y1 y2 C y_isThere y_taken y_took] ++ ([cOb o0 C o_of])))))))) A) (cc := cX11_cover) (maxL := 5) (ret := (some .long)) (by decide) (Nat.le_of_ble_eq_true rfl) ?_
  intro p e s m args below meth c A ls hx hb hr hml hown hw hlocks hname hK hN hA hP hD hS hl
  generalize hQ : MQ below _ args s 0 0 A = Q
  have hl : lv_has ls 5 [(0, .ref L0), (1, .int p1), (2, .int p2), (3, .int p3)] := hl
  have hn97 : (Cond.fieldLinkNest "LockRail" 97 "LockRail$Rail" "bikes" "LLockRail$Bikes;" "LockRail").before args s = true := hN.f 61 rfl
  obtain ⟨H, hH⟩ : ∃ H, H = s.heap := ⟨_, rfl⟩
  obtain ⟨locs, hlo⟩ : ∃ z : List Loc, z = [] := ⟨_, rfl⟩
  have hP : va_P D vwCl (List.flatten ([cLockRail L0 (aU 0) (aR 0) (aR2 0) h_images (aS 0) n0 y0 o0 C ] ++ (wReader aU C us ua ++ (wRail aR C rs ra ++ (wRail aR2 C rs2 ra2 ++ (wSlots aS C sa sl ++ (wNight n0 aN C ns na nl ++ ([cYear y0 y1 y2 C y_isThere y_taken y_took] ++ ([cOb o0 C o_of]))))))))) H := by rw [hH]; exact hP
  have hS : va_S A s.heap H locs := by rw [hH, hlo]; exact hS
  rw [show W p l e rmX11_cover s m args below meth c s.heap [] 0 0 Q (F0 m 0 ls []) = W p l e rmX11_cover s m args below meth c H locs 0 0 Q (F0 m 0 ls []) from by rw [hH, hlo]]
  refine lv_aload_n hx hb dX11_cover_0 rfl (lv_at hl 0 rfl) ?_
  refine lv_iload_n hx hb dX11_cover_1 rfl (lv_at hl 1 rfl) ?_
  refine lv_iload_n hx hb dX11_cover_2 rfl (lv_at hl 2 rfl) ?_
  refine lv_iload_n hx hb dX11_cover_3 rfl (lv_at hl 3 rfl) ?_
  refine gs_I21_64 (rs_V21_47 (As := [.int p1, .int p2, .int p3]) (rest := []) ⟨hx, hb, hml, hown, hw⟩ hK hN hP hD (k_X11_isCover l D C _ L0 aR (aU 0) (aR2 0) h_images (aS 0) n0 y0 o0  rs ra p1 p2 p3 h) (cwV 3 hw (goodV mw_5_105 mw_5_107 mw_s87 mw_1_1 mw_5_108) rfl rfl rfl (by decide +kernel) ⟨Nat.le_of_ble_eq_true rfl, Nat.le_of_ble_eq_true rfl⟩) rfl rfl rfl hl.1 rfl (Nat.le_of_ble_eq_true rfl) dX11_cover_4 ⟨Nat.zero_le _, Nat.zero_le _⟩) hP hD hS hA (fun r1 u H locs h hP hD hS => ?_)
  have hP : va_P D vwCl (List.flatten ([cLockRail L0 (aU 0) (aR 0) (aR2 0) h_images (aS 0) n0 y0 o0 C ] ++ (wReader aU C us ua ++ (wRail aR C rs ra ++ (wRail aR2 C rs2 ra2 ++ (wSlots aS C sa sl ++ (wNight n0 aN C ns na nl ++ ([cYear y0 y1 y2 C y_isThere y_taken y_took] ++ ([cOb o0 C o_of]))))))))) H := hP
  have hD : va_D A (List.flatten ([cLockRail L0 (aU 0) (aR 0) (aR2 0) h_images (aS 0) n0 y0 o0 C ] ++ (wReader aU C us ua ++ (wRail aR C rs ra ++ (wRail aR2 C rs2 ra2 ++ (wSlots aS C sa sl ++ (wNight n0 aN C ns na nl ++ ([cYear y0 y1 y2 C y_isThere y_taken y_took] ++ ([cOb o0 C o_of]))))))))) := hD
  refine lv_if_ne (tgt := 14) hx hb dX11_cover_7 (by decide) (fun c2 => ?_) (fun c2 => ?_)
  · have h := h.1 c2
    refine lv_aload_n hx hb dX11_cover_14 rfl (lv_at hl 0 rfl) ?_
    refine lv_iload_n hx hb dX11_cover_15 rfl (lv_at hl 1 rfl) ?_
    refine lv_iload_n hx hb dX11_cover_16 rfl (lv_at hl 2 rfl) ?_
    refine lv_iload_n hx hb dX11_cover_17 rfl (lv_at hl 3 rfl) ?_
    refine gs_I21_82 (rs_V21_58 (As := [.int p1, .int p2, .int p3]) (rest := []) ⟨hx, hb, hml, hown, hw⟩ hK hN hP hD (k_X11_carelessOption l D C _ L0 aR aR2 n0 aN (aU 0) h_images (aS 0) y0 o0  rs ra rs2 ra2 ns na nl p1 p2 p3 h) (cwV 3 hw (goodV mw_5_109 mw_5_111 mw_s88 mw_1_1 mw_5_112) rfl rfl rfl (by decide +kernel) ⟨Nat.le_of_ble_eq_true rfl, Nat.le_of_ble_eq_true rfl⟩) rfl rfl rfl hl.1 rfl (Nat.le_of_ble_eq_true rfl) dX11_cover_18 ⟨Nat.zero_le _, Nat.zero_le _⟩) hP hD hS hA (fun r9 u H locs h hP hD hS => ?_)
    obtain ⟨aN3, rs_4, ra_5, ns_6, na_7, nl_8⟩ := u
    have hP : va_P D vwCl (List.flatten ([cLockRail L0 (aU 0) (aR 0) (aR2 0) h_images (aS 0) n0 y0 o0 C ] ++ (wReader aU C us ua ++ (wRail aR C rs ra ++ (wRail aR2 C rs_4 ra_5 ++ (wSlots aS C sa sl ++ (wNight n0 aN3 C ns_6 na_7 nl_8 ++ ([cYear y0 y1 y2 C y_isThere y_taken y_took] ++ ([cOb o0 C o_of]))))))))) H := hP
    have hD : va_D A (List.flatten ([cLockRail L0 (aU 0) (aR 0) (aR2 0) h_images (aS 0) n0 y0 o0 C ] ++ (wReader aU C us ua ++ (wRail aR C rs ra ++ (wRail aR2 C rs_4 ra_5 ++ (wSlots aS C sa sl ++ (wNight n0 aN3 C ns_6 na_7 nl_8 ++ ([cYear y0 y1 y2 C y_isThere y_taken y_took] ++ ([cOb o0 C o_of]))))))))) := hD
    refine lv_istore (lv' := [(4, .int r9), (0, .ref L0), (1, .int p1), (2, .int p2), (3, .int p3)]) hx hb dX11_cover_21 hl (by decide) rfl (fun ls hl => ?_)
    refine lv_aload_n hx hb dX11_cover_23 rfl (lv_at hl 1 rfl) ?_
    refine va_get (D := D) (ci := 11) (v := .ref (aR2 0)) (C := RX11) (T := TX11) (N := 8) hx hb hw inW_X11 hown hK hP 0 rfl rfl 2 (by decide) (hw _ mw_2_145) (fun _ h9 => h9) rfl dX11_cover_24 ?_
    refine va_getN (D := D) (ci := 4) (v := .ref (aR2 7)) (C := RX4) (T := TX4) (N := 16) hx hb hw inW_X4 hown hK hP 26 rfl rfl 5 (by decide) hn97 (fun _ h9 => h9) rfl dX11_cover_27 ?_
    refine lv_iload_n hx hb dX11_cover_30 rfl (lv_at hl 2 rfl) ?_
    refine lv_iload hx hb dX11_cover_31 (lv_at hl 0 rfl) ?_
    refine gs_V21_53 (rs_VN21_41 (As := [.int p1, .int r9]) (rest := []) ⟨hx, hb, hml, hown, hw⟩ hK hN hP hD (k_X0_setOption l D C _ (aR2 7) (aR2 8) (aR2 9) (aR2 10) (aR2 11) (aR2 12)  (rs_4 13) (ra_5 4) (ra_5 5) (ra_5 6) (ra_5 7) (ra_5 8) p1 r9 h) ⟨va_cnB 2 hw (goodN mw_4_153) rfl rfl rfl (hN.m 58 rfl) (hw _ mw_1_7) (by decide +kernel) ⟨Nat.le_of_ble_eq_true rfl, Nat.le_of_ble_eq_true rfl⟩, hw _ mw_4_152, hw _ mw_s68⟩ rfl rfl rfl hl.1 rfl (Nat.le_of_ble_eq_true rfl) dX11_cover_33 ⟨Nat.zero_le _, Nat.zero_le _⟩) hP hD hS hA (fun u H locs h hP hD hS => ?_)
    obtain ⟨loc_10, mar_11⟩ := u
    have hP : va_P D vwCl (List.flatten ([cLockRail L0 (aU 0) (aR 0) (aR2 0) h_images (aS 0) n0 y0 o0 C ] ++ (wReader aU C us ua ++ (wRail aR C rs ra ++ (wRail aR2 C rs_4 (va_up (va_up ra_5 7 loc_10) 8 mar_11) ++ (wSlots aS C sa sl ++ (wNight n0 aN3 C ns_6 na_7 nl_8 ++ ([cYear y0 y1 y2 C y_isThere y_taken y_took] ++ ([cOb o0 C o_of]))))))))) H := hP
    have hD : va_D A (List.flatten ([cLockRail L0 (aU 0) (aR 0) (aR2 0) h_images (aS 0) n0 y0 o0 C ] ++ (wReader aU C us ua ++ (wRail aR C rs ra ++ (wRail aR2 C rs_4 (va_up (va_up ra_5 7 loc_10) 8 mar_11) ++ (wSlots aS C sa sl ++ (wNight n0 aN3 C ns_6 na_7 nl_8 ++ ([cYear y0 y1 y2 C y_isThere y_taken y_took] ++ ([cOb o0 C o_of]))))))))) := hD
    refine lv_aload_n hx hb dX11_cover_36 rfl (lv_at hl 1 rfl) ?_
    refine lv_aload_n hx hb dX11_cover_37 rfl (lv_at hl 1 rfl) ?_
    refine va_get (D := D) (ci := 11) (v := .ref (aR2 0)) (C := RX11) (T := TX11) (N := 8) hx hb hw inW_X11 hown hK hP 0 rfl rfl 2 (by decide) (hw _ mw_2_145) (fun _ h9 => h9) rfl dX11_cover_38 ?_
    refine lv_iload_n hx hb dX11_cover_41 rfl (lv_at hl 2 rfl) ?_
    refine lv_iload_n hx hb dX11_cover_42 rfl (lv_at hl 3 rfl) ?_
    refine lv_iload_n hx hb dX11_cover_43 rfl (lv_at hl 4 rfl) ?_
    refine gs_L21_54 (rs_V21_42 (As := [.ref (aR2 0), .int p1, .int p2, .int p3]) (rest := []) ⟨hx, hb, hml, hown, hw⟩ hK hN hP hD (k_X11_coveredOn l D C _ L0 aR2 n0 aN3 (aU 0) (aR 0) (aR2 0) h_images (aS 0) y0 o0  rs_4 (va_up (va_up ra_5 7 loc_10) 8 mar_11) ns_6 na_7 nl_8 p1 p2 p3 h) (cwV 4 hw (goodV mw_5_113 mw_5_115 mw_s89 mw_1_1 mw_5_116) rfl rfl rfl (by decide +kernel) ⟨Nat.le_of_ble_eq_true rfl, Nat.le_of_ble_eq_true rfl⟩) rfl rfl rfl hl.1 rfl (Nat.le_of_ble_eq_true rfl) dX11_cover_44 ⟨Nat.zero_le _, Nat.zero_le _⟩) hP hD hS hA (fun r16 u H locs h hP hD hS => ?_)
    obtain ⟨aN12, ns_13, na_14, nl_15⟩ := u
    have hP : va_P D vwCl (List.flatten ([cLockRail L0 (aU 0) (aR 0) (aR2 0) h_images (aS 0) n0 y0 o0 C ] ++ (wReader aU C us ua ++ (wRail aR C rs ra ++ (wRail aR2 C rs_4 (va_up (va_up ra_5 7 loc_10) 8 mar_11) ++ (wSlots aS C sa sl ++ (wNight n0 aN12 C ns_13 na_14 nl_15 ++ ([cYear y0 y1 y2 C y_isThere y_taken y_took] ++ ([cOb o0 C o_of]))))))))) H := hP
    have hD : va_D A (List.flatten ([cLockRail L0 (aU 0) (aR 0) (aR2 0) h_images (aS 0) n0 y0 o0 C ] ++ (wReader aU C us ua ++ (wRail aR C rs ra ++ (wRail aR2 C rs_4 (va_up (va_up ra_5 7 loc_10) 8 mar_11) ++ (wSlots aS C sa sl ++ (wNight n0 aN12 C ns_13 na_14 nl_15 ++ ([cYear y0 y1 y2 C y_isThere y_taken y_took] ++ ([cOb o0 C o_of]))))))))) := hD
    rw [← hQ]
    exact cRetL (v := r16) (aN12, rs_4, (va_up (va_up ra_5 7 loc_10) 8 mar_11), ns_13, na_14, nl_15) hx hb hr hlocks hS hP hD h dX11_cover_47
  · have h := h.2 c2
    refine lv_ldc2 (v := (-2)) hx hb hown (hw _ mw_4_20) dX11_cover_10 ?_
    rw [← hQ]
    exact cRetL (v := (-2)) (aN, rs2, ra2, ns, na, nl) hx hb hr hlocks hS hP hD h dX11_cover_13
abbrev vsX11_careless : List Cond := Cond.code yX11_careless cX11_careless 4 (some .int) :: WS
abbrev rmX11_careless : Room := { frames := 6, cells := 0, slots := 0, locals := 160 }
set_option maxHeartbeats 4000000 in
set_option maxRecDepth 100000 in
theorem k_X11_careless (l : Launch) (D : va_G) (C : Nat → ClassId) (sz : Nat) (L0 : Nat) (aU : Nat → Nat) (aR : Nat → Nat) (aR2 : Nat → Nat) (aS : Nat → Nat) (n0 : Nat) (aN : Nat → Nat) (y0 : Nat) (y1 : Nat) (y2 : Nat) (o0 : Nat) (h_images : Nat) (us : Nat → Int32) (ua : Nat → Nat → Int32) (rs : Nat → Int32) (ra : Nat → Nat → Int32) (rs2 : Nat → Int32) (ra2 : Nat → Nat → Int32) (sa : Nat → Nat → Int32) (sl : Nat → Nat → Int64) (ns : Nat → Int32) (na : Nat → Nat → Int32) (nl : Nat → Nat → Int64) (y_isThere : Int32) (y_taken : Nat → Int32) (y_took : Nat → Int32) (o_of : Nat → Int64) (p1 : Int32) (p2 : Int32) (p3 : Int32) {post : Int32 → (Nat → Int32) → (Nat → Nat → Int32) → (Nat → Int32) → (Nat → Nat → Int32) → (Nat → Nat → Int64) → Prop} (h : P_X11_careless rs ra rs2 ra2 ns na nl p1 p2 p3 post) : Met l yX11_careless vsX11_careless rmX11_careless (cPre D C [.ref L0, .int p1, .int p2, .int p3] sz ([cLockRail L0 (aU 0) (aR 0) (aR2 0) h_images (aS 0) n0 y0 o0 C ] ++ (wReader aU C us ua ++ (wRail aR C rs ra ++ (wRail aR2 C rs2 ra2 ++ (wSlots aS C sa sl ++ (wNight n0 aN C ns na nl ++ ([cYear y0 y1 y2 C y_isThere y_taken y_took] ++ ([cOb o0 C o_of]))))))))) (cQi D (fun (r : Int32) (u : (Nat → Nat) × (Nat → Int32) × (Nat → Nat → Int32) × (Nat → Int32) × (Nat → Nat → Int32) × (Nat → Nat → Int64)) => post r u.2.1 u.2.2.1 u.2.2.2.1 u.2.2.2.2.1 u.2.2.2.2.2) (fun u => [cLockRail L0 (aU 0) (aR 0) (aR2 0) h_images (aS 0) n0 y0 o0 C ] ++ (wReader aU C us ua ++ (wRail aR C rs ra ++ (wRail aR2 C u.2.1 u.2.2.1 ++ (wSlots aS C sa sl ++ (wNight n0 u.1 C u.2.2.2.1 u.2.2.2.2.1 u.2.2.2.2.2 ++ ([cYear y0 y1 y2 C y_isThere y_taken y_took] ++ ([cOb o0 C o_of])))))))) (va_A (List.flatten ([cLockRail L0 (aU 0) (aR 0) (aR2 0) h_images (aS 0) n0 y0 o0 C ] ++ (wReader aU C us ua ++ (wRail aR C rs ra ++ (wRail aR2 C rs2 ra2 ++ (wSlots aS C sa sl ++ (wNight n0 aN C ns na nl ++ ([cYear y0 y1 y2 C y_isThere y_taken y_took] ++ ([cOb o0 C o_of]))))))))) sz)) 0 0 (va_A (List.flatten ([cLockRail L0 (aU 0) (aR 0) (aR2 0) h_images (aS 0) n0 y0 o0 C ] ++ (wReader aU C us ua ++ (wRail aR C rs ra ++ (wRail aR2 C rs2 ra2 ++ (wSlots aS C sa sl ++ (wNight n0 aN C ns na nl ++ ([cYear y0 y1 y2 C y_isThere y_taken y_took] ++ ([cOb o0 C o_of]))))))))) sz) := by
  refine cStart (QA := fun A => cQi D (fun (r : Int32) (u : (Nat → Nat) × (Nat → Int32) × (Nat → Nat → Int32) × (Nat → Int32) × (Nat → Nat → Int32) × (Nat → Nat → Int64)) => post r u.2.1 u.2.2.1 u.2.2.2.1 u.2.2.2.2.1 u.2.2.2.2.2) (fun u => [cLockRail L0 (aU 0) (aR 0) (aR2 0) h_images (aS 0) n0 y0 o0 C ] ++ (wReader aU C us ua ++ (wRail aR C rs ra ++ (wRail aR2 C u.2.1 u.2.2.1 ++ (wSlots aS C sa sl ++ (wNight n0 u.1 C u.2.2.2.1 u.2.2.2.2.1 u.2.2.2.2.2 ++ ([cYear y0 y1 y2 C y_isThere y_taken y_took] ++ ([cOb o0 C o_of])))))))) A) (cc := cX11_careless) (maxL := 4) (ret := (some .int)) (by decide) (Nat.le_of_ble_eq_true rfl) ?_
  intro p e s m args below meth c A ls hx hb hr hml hown hw hlocks hname hK hN hA hP hD hS hl
  generalize hQ : MQ below _ args s 0 0 A = Q
  have hl : lv_has ls 4 [(0, .ref L0), (1, .int p1), (2, .int p2), (3, .int p3)] := hl
  obtain ⟨H, hH⟩ : ∃ H, H = s.heap := ⟨_, rfl⟩
  obtain ⟨locs, hlo⟩ : ∃ z : List Loc, z = [] := ⟨_, rfl⟩
  have hP : va_P D vwCl (List.flatten ([cLockRail L0 (aU 0) (aR 0) (aR2 0) h_images (aS 0) n0 y0 o0 C ] ++ (wReader aU C us ua ++ (wRail aR C rs ra ++ (wRail aR2 C rs2 ra2 ++ (wSlots aS C sa sl ++ (wNight n0 aN C ns na nl ++ ([cYear y0 y1 y2 C y_isThere y_taken y_took] ++ ([cOb o0 C o_of]))))))))) H := by rw [hH]; exact hP
  have hS : va_S A s.heap H locs := by rw [hH, hlo]; exact hS
  rw [show W p l e rmX11_careless s m args below meth c s.heap [] 0 0 Q (F0 m 0 ls []) = W p l e rmX11_careless s m args below meth c H locs 0 0 Q (F0 m 0 ls []) from by rw [hH, hlo]]
  refine lv_aload_n hx hb dX11_careless_0 rfl (lv_at hl 0 rfl) ?_
  refine lv_iload_n hx hb dX11_careless_1 rfl (lv_at hl 1 rfl) ?_
  refine lv_iload_n hx hb dX11_careless_2 rfl (lv_at hl 2 rfl) ?_
  refine lv_iload_n hx hb dX11_careless_3 rfl (lv_at hl 3 rfl) ?_
  refine gs_I21_64 (rs_V21_47 (As := [.int p1, .int p2, .int p3]) (rest := []) ⟨hx, hb, hml, hown, hw⟩ hK hN hP hD (k_X11_isCover l D C _ L0 aR (aU 0) (aR2 0) h_images (aS 0) n0 y0 o0  rs ra p1 p2 p3 h) (cwV 3 hw (goodV mw_5_105 mw_5_107 mw_s87 mw_1_1 mw_5_108) rfl rfl rfl (by decide +kernel) ⟨Nat.le_of_ble_eq_true rfl, Nat.le_of_ble_eq_true rfl⟩) rfl rfl rfl hl.1 rfl (Nat.le_of_ble_eq_true rfl) dX11_careless_4 ⟨Nat.zero_le _, Nat.zero_le _⟩) hP hD hS hA (fun r1 u H locs h hP hD hS => ?_)
  have hP : va_P D vwCl (List.flatten ([cLockRail L0 (aU 0) (aR 0) (aR2 0) h_images (aS 0) n0 y0 o0 C ] ++ (wReader aU C us ua ++ (wRail aR C rs ra ++ (wRail aR2 C rs2 ra2 ++ (wSlots aS C sa sl ++ (wNight n0 aN C ns na nl ++ ([cYear y0 y1 y2 C y_isThere y_taken y_took] ++ ([cOb o0 C o_of]))))))))) H := hP
  have hD : va_D A (List.flatten ([cLockRail L0 (aU 0) (aR 0) (aR2 0) h_images (aS 0) n0 y0 o0 C ] ++ (wReader aU C us ua ++ (wRail aR C rs ra ++ (wRail aR2 C rs2 ra2 ++ (wSlots aS C sa sl ++ (wNight n0 aN C ns na nl ++ ([cYear y0 y1 y2 C y_isThere y_taken y_took] ++ ([cOb o0 C o_of]))))))))) := hD
  refine lv_if_eq (tgt := 20) hx hb dX11_careless_7 (by decide) (fun c2 => ?_) (fun c2 => ?_)
  · have h := h.1 c2
    refine lv_bipush (v := (-2)) hx hb dX11_careless_20 (by decide) ?_
    rw [← hQ]
    exact cRetI (v := (-2)) (aN, rs2, ra2, ns, na, nl) hx hb hr hlocks hS hP hD h dX11_careless_22
  · have h := h.2 c2
    refine lv_aload_n hx hb dX11_careless_10 rfl (lv_at hl 0 rfl) ?_
    refine lv_iload_n hx hb dX11_careless_11 rfl (lv_at hl 1 rfl) ?_
    refine lv_iload_n hx hb dX11_careless_12 rfl (lv_at hl 2 rfl) ?_
    refine lv_iload_n hx hb dX11_careless_13 rfl (lv_at hl 3 rfl) ?_
    refine gs_I21_82 (rs_V21_58 (As := [.int p1, .int p2, .int p3]) (rest := []) ⟨hx, hb, hml, hown, hw⟩ hK hN hP hD (k_X11_carelessOption l D C _ L0 aR aR2 n0 aN (aU 0) h_images (aS 0) y0 o0  rs ra rs2 ra2 ns na nl p1 p2 p3 h) (cwV 3 hw (goodV mw_5_109 mw_5_111 mw_s88 mw_1_1 mw_5_112) rfl rfl rfl (by decide +kernel) ⟨Nat.le_of_ble_eq_true rfl, Nat.le_of_ble_eq_true rfl⟩) rfl rfl rfl hl.1 rfl (Nat.le_of_ble_eq_true rfl) dX11_careless_14 ⟨Nat.zero_le _, Nat.zero_le _⟩) hP hD hS hA (fun r9 u H locs h hP hD hS => ?_)
    obtain ⟨aN3, rs_4, ra_5, ns_6, na_7, nl_8⟩ := u
    have hP : va_P D vwCl (List.flatten ([cLockRail L0 (aU 0) (aR 0) (aR2 0) h_images (aS 0) n0 y0 o0 C ] ++ (wReader aU C us ua ++ (wRail aR C rs ra ++ (wRail aR2 C rs_4 ra_5 ++ (wSlots aS C sa sl ++ (wNight n0 aN3 C ns_6 na_7 nl_8 ++ ([cYear y0 y1 y2 C y_isThere y_taken y_took] ++ ([cOb o0 C o_of]))))))))) H := hP
    have hD : va_D A (List.flatten ([cLockRail L0 (aU 0) (aR 0) (aR2 0) h_images (aS 0) n0 y0 o0 C ] ++ (wReader aU C us ua ++ (wRail aR C rs ra ++ (wRail aR2 C rs_4 ra_5 ++ (wSlots aS C sa sl ++ (wNight n0 aN3 C ns_6 na_7 nl_8 ++ ([cYear y0 y1 y2 C y_isThere y_taken y_took] ++ ([cOb o0 C o_of]))))))))) := hD
    refine lv_goto (tgt := 22) hx hb dX11_careless_17 (by decide) ?_
    rw [← hQ]
    exact cRetI (v := r9) (aN3, rs_4, ra_5, ns_6, na_7, nl_8) hx hb hr hlocks hS hP hD h dX11_careless_22
abbrev vsX11_costByLaw : List Cond := Cond.code yX11_costByLaw cX11_costByLaw 3 (some .long) :: WS
abbrev rmX11_costByLaw : Room := { frames := 5, cells := 0, slots := 0, locals := 127 }
set_option maxHeartbeats 4000000 in
set_option maxRecDepth 100000 in
theorem k_X11_costByLaw (l : Launch) (D : va_G) (C : Nat → ClassId) (sz : Nat) (L0 : Nat) (aR : Nat → Nat) (aR2 : Nat → Nat) (n0 : Nat) (aN : Nat → Nat) (h_reader : Nat) (h_images : Nat) (h_slots : Nat) (h_triedYear : Nat) (h_ofBikes : Nat) (rs : Nat → Int32) (ra : Nat → Nat → Int32) (rs2 : Nat → Int32) (ra2 : Nat → Nat → Int32) (ns : Nat → Int32) (na : Nat → Nat → Int32) (nl : Nat → Nat → Int64) (p1 : Int32) {post : Int64 → (Nat → Int32) → (Nat → Nat → Int32) → (Nat → Int32) → (Nat → Nat → Int32) → (Nat → Nat → Int64) → Prop} (h : P_X11_costByLaw rs ra rs2 ra2 ns na nl p1 post) : Met l yX11_costByLaw vsX11_costByLaw rmX11_costByLaw (cPre D C [.ref L0, .int p1] sz ([cLockRail L0 h_reader (aR 0) (aR2 0) h_images h_slots n0 h_triedYear h_ofBikes C ] ++ (wRail aR C rs ra ++ (wRail aR2 C rs2 ra2 ++ (wNight n0 aN C ns na nl))))) (cQl D (fun (r : Int64) (u : (Nat → Nat) × (Nat → Int32) × (Nat → Nat → Int32) × (Nat → Int32) × (Nat → Nat → Int32) × (Nat → Nat → Int64)) => post r u.2.1 u.2.2.1 u.2.2.2.1 u.2.2.2.2.1 u.2.2.2.2.2) (fun u => [cLockRail L0 h_reader (aR 0) (aR2 0) h_images h_slots n0 h_triedYear h_ofBikes C ] ++ (wRail aR C rs ra ++ (wRail aR2 C u.2.1 u.2.2.1 ++ (wNight n0 u.1 C u.2.2.2.1 u.2.2.2.2.1 u.2.2.2.2.2)))) (va_A (List.flatten ([cLockRail L0 h_reader (aR 0) (aR2 0) h_images h_slots n0 h_triedYear h_ofBikes C ] ++ (wRail aR C rs ra ++ (wRail aR2 C rs2 ra2 ++ (wNight n0 aN C ns na nl))))) sz)) 0 0 (va_A (List.flatten ([cLockRail L0 h_reader (aR 0) (aR2 0) h_images h_slots n0 h_triedYear h_ofBikes C ] ++ (wRail aR C rs ra ++ (wRail aR2 C rs2 ra2 ++ (wNight n0 aN C ns na nl))))) sz) := by
  refine cStart (QA := fun A => cQl D (fun (r : Int64) (u : (Nat → Nat) × (Nat → Int32) × (Nat → Nat → Int32) × (Nat → Int32) × (Nat → Nat → Int32) × (Nat → Nat → Int64)) => post r u.2.1 u.2.2.1 u.2.2.2.1 u.2.2.2.2.1 u.2.2.2.2.2) (fun u => [cLockRail L0 h_reader (aR 0) (aR2 0) h_images h_slots n0 h_triedYear h_ofBikes C ] ++ (wRail aR C rs ra ++ (wRail aR2 C u.2.1 u.2.2.1 ++ (wNight n0 u.1 C u.2.2.2.1 u.2.2.2.2.1 u.2.2.2.2.2)))) A) (cc := cX11_costByLaw) (maxL := 3) (ret := (some .long)) (by decide) (Nat.le_of_ble_eq_true rfl) ?_
  intro p e s m args below meth c A ls hx hb hr hml hown hw hlocks hname hK hN hA hP hD hS hl
  generalize hQ : MQ below _ args s 0 0 A = Q
  have hl : lv_has ls 3 [(0, .ref L0), (1, .int p1)] := hl
  have hn97 : (Cond.fieldLinkNest "LockRail" 97 "LockRail$Rail" "bikes" "LLockRail$Bikes;" "LockRail").before args s = true := hN.f 61 rfl
  have hn161 : (Cond.fieldLinkNest "LockRail" 161 "LockRail$Bikes" "count" "I" "LockRail").before args s = true := hN.f 20 rfl
  have hn113 : (Cond.fieldLinkNest "LockRail" 113 "LockRail$Bikes" "lock" "[I" "LockRail").before args s = true := hN.f 28 rfl
  obtain ⟨H, hH⟩ : ∃ H, H = s.heap := ⟨_, rfl⟩
  obtain ⟨locs, hlo⟩ : ∃ z : List Loc, z = [] := ⟨_, rfl⟩
  have hP : va_P D vwCl (List.flatten ([cLockRail L0 h_reader (aR 0) (aR2 0) h_images h_slots n0 h_triedYear h_ofBikes C ] ++ (wRail aR C rs ra ++ (wRail aR2 C rs2 ra2 ++ (wNight n0 aN C ns na nl))))) H := by rw [hH]; exact hP
  have hS : va_S A s.heap H locs := by rw [hH, hlo]; exact hS
  rw [show W p l e rmX11_costByLaw s m args below meth c s.heap [] 0 0 Q (F0 m 0 ls []) = W p l e rmX11_costByLaw s m args below meth c H locs 0 0 Q (F0 m 0 ls []) from by rw [hH, hlo]]
  have N61 : ∀ (rs2 : Nat → Int32) (ra2 : Nat → Nat → Int32) (ns : Nat → Int32) (na : Nat → Nat → Int32) (nl : Nat → Nat → Int64) (aN : Nat → Nat) (H : Heap) (locs : List Loc) (ls : Array Slot), P_X11_costByLaw_61 rs ra p1 post  rs2 ra2 ns na nl → va_P D vwCl (List.flatten ([cLockRail L0 h_reader (aR 0) (aR2 0) h_images h_slots n0 h_triedYear h_ofBikes C ] ++ (wRail aR C rs ra ++ (wRail aR2 C rs2 ra2 ++ (wNight n0 aN C ns na nl))))) H → va_D A (List.flatten ([cLockRail L0 h_reader (aR 0) (aR2 0) h_images h_slots n0 h_triedYear h_ofBikes C ] ++ (wRail aR C rs ra ++ (wRail aR2 C rs2 ra2 ++ (wNight n0 aN C ns na nl))))) → va_S A s.heap H locs → lv_has ls 3 [(0, .ref L0)] → W p l e rmX11_costByLaw s m args below meth c H locs 0 0 Q (F0 m 61 ls []) := by
    intro rs2 ra2 ns na nl aN H locs ls h hP hD hS hl
    refine lv_aload_n hx hb dX11_costByLaw_61 rfl (lv_at hl 0 rfl) ?_
    refine lv_aload_n hx hb dX11_costByLaw_62 rfl (lv_at hl 0 rfl) ?_
    refine va_get (D := D) (ci := 11) (v := .ref (aR2 0)) (C := RX11) (T := TX11) (N := 8) hx hb hw inW_X11 hown hK hP 0 rfl rfl 2 (by decide) (hw _ mw_2_145) (fun _ h9 => h9) rfl dX11_costByLaw_63 ?_
    refine lv_iconst (v := 2) hx hb dX11_costByLaw_66 (by decide) ?_
    refine gs_L16_74 (rs_V16_57 (As := [.ref (aR2 0), .int 2]) (rest := []) ⟨hx, hb, hml, hown, hw⟩ hK hN hP hD (k_X11_allOn l D C _ L0 aR2 n0 aN h_reader (aR 0) (aR2 0) h_images h_slots h_triedYear h_ofBikes  rs2 ra2 ns na nl 2 h) (cwV 2 hw (goodV mw_4_124 mw_4_126 mw_s63 mw_1_1 mw_4_127) rfl rfl rfl (by decide +kernel) ⟨Nat.le_of_ble_eq_true rfl, Nat.le_of_ble_eq_true rfl⟩) rfl rfl rfl hl.1 rfl (Nat.le_of_ble_eq_true rfl) dX11_costByLaw_67 ⟨Nat.zero_le _, Nat.zero_le _⟩) hP hD hS hA (fun r5 u H locs h hP hD hS => ?_)
    obtain ⟨aN1, ns_2, na_3, nl_4⟩ := u
    have hP : va_P D vwCl (List.flatten ([cLockRail L0 h_reader (aR 0) (aR2 0) h_images h_slots n0 h_triedYear h_ofBikes C ] ++ (wRail aR C rs ra ++ (wRail aR2 C rs2 ra2 ++ (wNight n0 aN1 C ns_2 na_3 nl_4))))) H := hP
    have hD : va_D A (List.flatten ([cLockRail L0 h_reader (aR 0) (aR2 0) h_images h_slots n0 h_triedYear h_ofBikes C ] ++ (wRail aR C rs ra ++ (wRail aR2 C rs2 ra2 ++ (wNight n0 aN1 C ns_2 na_3 nl_4))))) := hD
    rw [← hQ]
    exact cRetL (v := r5) (aN1, rs2, ra2, ns_2, na_3, nl_4) hx hb hr hlocks hS hP hD h dX11_costByLaw_70
  have N13 : ∀ (rs2 : Nat → Int32) (ns : Nat → Int32) (na : Nat → Nat → Int32) (nl : Nat → Nat → Int64) (n13 : Nat) (x2_ : Int32) (ra2 : Nat → Nat → Int32) (aN : Nat → Nat) (H : Heap) (locs : List Loc) (ls : Array Slot), P_X11_costByLaw_13 rs ra p1 post (fun (rs2 : Nat → Int32) (ra2 : Nat → Nat → Int32) (ns : Nat → Int32) (na : Nat → Nat → Int32) (nl : Nat → Nat → Int64) => P_X11_costByLaw_61 rs ra p1 post  rs2 ra2 ns na nl) rs2 ns na nl n13 x2_ ra2 → va_P D vwCl (List.flatten ([cLockRail L0 h_reader (aR 0) (aR2 0) h_images h_slots n0 h_triedYear h_ofBikes C ] ++ (wRail aR C rs ra ++ (wRail aR2 C rs2 ra2 ++ (wNight n0 aN C ns na nl))))) H → va_D A (List.flatten ([cLockRail L0 h_reader (aR 0) (aR2 0) h_images h_slots n0 h_triedYear h_ofBikes C ] ++ (wRail aR C rs ra ++ (wRail aR2 C rs2 ra2 ++ (wNight n0 aN C ns na nl))))) → va_S A s.heap H locs → lv_has ls 3 [(0, .ref L0), (1, .int p1), (2, .int x2_)] → W p l e rmX11_costByLaw s m args below meth c H locs 0 0 Q (F0 m 13 ls []) := by
    intro rs2 ns na nl
    intro n13
    induction n13 with
    | zero => intro x2_ ra2 aN H locs ls h hP hD hS hl; exact False.elim h
    | succ n13 ih13 =>
      intro x2_ ra2 aN H locs ls h hP hD hS hl
      refine lv_iload_n hx hb dX11_costByLaw_13 rfl (lv_at hl 2 rfl) ?_
      refine lv_aload_n hx hb dX11_costByLaw_14 rfl (lv_at hl 0 rfl) ?_
      refine va_get (D := D) (ci := 11) (v := .ref (aR2 0)) (C := RX11) (T := TX11) (N := 8) hx hb hw inW_X11 hown hK hP 0 rfl rfl 2 (by decide) (hw _ mw_2_145) (fun _ h9 => h9) rfl dX11_costByLaw_15 ?_
      refine va_getN (D := D) (ci := 4) (v := .ref (aR2 7)) (C := RX4) (T := TX4) (N := 16) hx hb hw inW_X4 hown hK hP 23 rfl rfl 5 (by decide) hn97 (fun _ h9 => h9) rfl dX11_costByLaw_18 ?_
      refine va_getN (D := D) (ci := 0) (v := .int (rs2 13)) (C := RX0) (T := TX0) (N := 6) hx hb hw inW_X0 hown hK hP 30 rfl rfl 0 (by decide) hn161 (fun _ h9 => h9) rfl dX11_costByLaw_21 ?_
      refine lv_icmp_ge (tgt := 61) hx hb dX11_costByLaw_24 (by decide) (fun c6 => ?_) (fun c6 => ?_)
      · have h := h.1 c6
        exact N61 rs2 ra2 ns na nl aN _ _ _ h hP hD hS (lv_sub hl [0] rfl)
      · have h := h.2 c6
        refine lv_aload_n hx hb dX11_costByLaw_27 rfl (lv_at hl 0 rfl) ?_
        refine va_get (D := D) (ci := 11) (v := .ref (aR2 0)) (C := RX11) (T := TX11) (N := 8) hx hb hw inW_X11 hown hK hP 0 rfl rfl 2 (by decide) (hw _ mw_2_145) (fun _ h9 => h9) rfl dX11_costByLaw_28 ?_
        refine va_getN (D := D) (ci := 4) (v := .ref (aR2 7)) (C := RX4) (T := TX4) (N := 16) hx hb hw inW_X4 hown hK hP 23 rfl rfl 5 (by decide) hn97 (fun _ h9 => h9) rfl dX11_costByLaw_31 ?_
        refine va_getN (D := D) (ci := 0) (v := .ref (aR2 11)) (C := RX0) (T := TX0) (N := 6) hx hb hw inW_X0 hown hK hP 30 rfl rfl 4 (by decide) hn113 (fun _ h9 => h9) rfl dX11_costByLaw_34 ?_
        refine lv_iload_n hx hb dX11_costByLaw_37 rfl (lv_at hl 2 rfl) ?_
        refine lv_aload_n hx hb dX11_costByLaw_38 rfl (lv_at hl 0 rfl) ?_
        refine va_get (D := D) (ci := 11) (v := .ref (aR2 0)) (C := RX11) (T := TX11) (N := 8) hx hb hw inW_X11 hown hK hP 0 rfl rfl 2 (by decide) (hw _ mw_2_145) (fun _ h9 => h9) rfl dX11_costByLaw_39 ?_
        refine va_getN (D := D) (ci := 4) (v := .ref (aR2 7)) (C := RX4) (T := TX4) (N := 16) hx hb hw inW_X4 hown hK hP 23 rfl rfl 5 (by decide) hn97 (fun _ h9 => h9) rfl dX11_costByLaw_42 ?_
        refine va_getN (D := D) (ci := 0) (v := .ref (aR2 11)) (C := RX0) (T := TX0) (N := 6) hx hb hw inW_X0 hown hK hP 30 rfl rfl 4 (by decide) hn113 (fun _ h9 => h9) rfl dX11_costByLaw_45 ?_
        refine lv_iload_n hx hb dX11_costByLaw_48 rfl (lv_at hl 2 rfl) ?_
        refine cIald hx hb hK hP 34 0 rfl rfl x2_.toNatClampNeg rfl h.1 dX11_costByLaw_49 ?_
        have h := h.2
        refine lv_iload_n hx hb dX11_costByLaw_50 rfl (lv_at hl 1 rfl) ?_
        refine va_mmax hx hb (hml.trans hl.1.symm) hown (hw _ mw_5_135) (hw _ mw_3_174) (hw _ mw_1_14) (hw _ mw_3_175) (Nat.le_of_ble_eq_true rfl) (Nat.le_of_ble_eq_true rfl) (Nat.zero_le _) (Nat.zero_le _) dX11_costByLaw_51 ?_
        refine cIast hx hb hK hP hD hS 34 0 rfl rfl x2_.toNatClampNeg rfl h.1 dX11_costByLaw_54 (fun H locs hP hD hS => ?_)
        have h := h.2
        refine lv_iinc (v := (x2_ + 1)) (lv' := [(2, .int (x2_ + 1)), (0, .ref L0), (1, .int p1)]) hx hb dX11_costByLaw_55 hl (k := 2) rfl rfl (by decide) rfl (fun ls hl => ?_)
        refine lv_goto (tgt := 13) hx hb dX11_costByLaw_58 (by decide) ?_
        have hP : va_P D vwCl (List.flatten ([cLockRail L0 h_reader (aR 0) (aR2 0) h_images h_slots n0 h_triedYear h_ofBikes C ] ++ (wRail aR C rs ra ++ (wRail aR2 C rs2 (va_up ra2 7 (upd (ra2 7) x2_.toNatClampNeg (if (ra2 7 x2_.toNatClampNeg) < p1 then p1 else (ra2 7 x2_.toNatClampNeg)))) ++ (wNight n0 aN C ns na nl))))) H := hP
        have hD : va_D A (List.flatten ([cLockRail L0 h_reader (aR 0) (aR2 0) h_images h_slots n0 h_triedYear h_ofBikes C ] ++ (wRail aR C rs ra ++ (wRail aR2 C rs2 (va_up ra2 7 (upd (ra2 7) x2_.toNatClampNeg (if (ra2 7 x2_.toNatClampNeg) < p1 then p1 else (ra2 7 x2_.toNatClampNeg)))) ++ (wNight n0 aN C ns na nl))))) := hD
        exact ih13 (x2_ + 1) (va_up ra2 7 (upd (ra2 7) x2_.toNatClampNeg (if (ra2 7 x2_.toNatClampNeg) < p1 then p1 else (ra2 7 x2_.toNatClampNeg)))) aN _ _ _ h hP hD hS (lv_sub hl [1, 2, 0] rfl)
  refine lv_aload_n hx hb dX11_costByLaw_0 rfl (lv_at hl 0 rfl) ?_
  refine va_get (D := D) (ci := 11) (v := .ref (aR2 0)) (C := RX11) (T := TX11) (N := 8) hx hb hw inW_X11 hown hK hP 0 rfl rfl 2 (by decide) (hw _ mw_2_145) (fun _ h9 => h9) rfl dX11_costByLaw_1 ?_
  refine lv_aload_n hx hb dX11_costByLaw_4 rfl (lv_at hl 0 rfl) ?_
  refine va_get (D := D) (ci := 11) (v := .ref (aR 0)) (C := RX11) (T := TX11) (N := 8) hx hb hw inW_X11 hown hK hP 0 rfl rfl 1 (by decide) (hw _ mw_2_144) (fun _ h9 => h9) rfl dX11_costByLaw_5 ?_
  refine gs_V16_72 (rs_VN16_55 (As := [.ref (aR 0)]) (rest := []) ⟨hx, hb, hml, hown, hw⟩ hK hN hP hD (k_X4_copyFrom l D C _ aR2 aR  rs2 ra2 rs ra  h) ⟨va_cnB 1 hw (goodN mw_3_126) rfl rfl rfl (hN.m 23 rfl) (hw _ mw_1_4) (by decide +kernel) ⟨Nat.le_of_ble_eq_true rfl, Nat.le_of_ble_eq_true rfl⟩, hw _ mw_3_125, hw _ mw_s26⟩ rfl rfl rfl hl.1 rfl (Nat.le_of_ble_eq_true rfl) dX11_costByLaw_8 ⟨Nat.zero_le _, Nat.zero_le _⟩) hP hD hS hA (fun u H locs h hP hD hS => ?_)
  obtain ⟨rs_7, ra_8⟩ := u
  have hP : va_P D vwCl (List.flatten ([cLockRail L0 h_reader (aR 0) (aR2 0) h_images h_slots n0 h_triedYear h_ofBikes C ] ++ (wRail aR C rs ra ++ (wRail aR2 C rs_7 ra_8 ++ (wNight n0 aN C ns na nl))))) H := hP
  have hD : va_D A (List.flatten ([cLockRail L0 h_reader (aR 0) (aR2 0) h_images h_slots n0 h_triedYear h_ofBikes C ] ++ (wRail aR C rs ra ++ (wRail aR2 C rs_7 ra_8 ++ (wNight n0 aN C ns na nl))))) := hD
  refine lv_iconst (v := 0) hx hb dX11_costByLaw_11 (by decide) ?_
  refine lv_istore_n (lv' := [(2, .int 0), (0, .ref L0), (1, .int p1)]) hx hb dX11_costByLaw_12 rfl hl (by decide) rfl (fun ls hl => ?_)
  obtain ⟨n, h⟩ := h
  exact N13 rs_7 ns na nl n 0 ra_8 aN _ _ _ h hP hD hS (lv_sub hl [1, 2, 0] rfl)
abbrev vsX11_law : List Cond := Cond.code yX11_law cX11_law 2 (some .long) :: WS
abbrev rmX11_law : Room := { frames := 6, cells := 0, slots := 0, locals := 149 }
set_option maxHeartbeats 4000000 in
set_option maxRecDepth 100000 in
theorem k_X11_law (l : Launch) (D : va_G) (C : Nat → ClassId) (sz : Nat) (L0 : Nat) (aU : Nat → Nat) (aR : Nat → Nat) (aR2 : Nat → Nat) (aS : Nat → Nat) (n0 : Nat) (aN : Nat → Nat) (y0 : Nat) (y1 : Nat) (y2 : Nat) (o0 : Nat) (h_images : Nat) (us : Nat → Int32) (ua : Nat → Nat → Int32) (rs : Nat → Int32) (ra : Nat → Nat → Int32) (rs2 : Nat → Int32) (ra2 : Nat → Nat → Int32) (sa : Nat → Nat → Int32) (sl : Nat → Nat → Int64) (ns : Nat → Int32) (na : Nat → Nat → Int32) (nl : Nat → Nat → Int64) (y_isThere : Int32) (y_taken : Nat → Int32) (y_took : Nat → Int32) (o_of : Nat → Int64) (p1 : Int32) {post : Int64 → (Nat → Int32) → (Nat → Nat → Int32) → (Nat → Int32) → (Nat → Nat → Int32) → (Nat → Nat → Int64) → Prop} (h : P_X11_law rs ra rs2 ra2 ns na nl p1 post) : Met l yX11_law vsX11_law rmX11_law (cPre D C [.ref L0, .int p1] sz ([cLockRail L0 (aU 0) (aR 0) (aR2 0) h_images (aS 0) n0 y0 o0 C ] ++ (wReader aU C us ua ++ (wRail aR C rs ra ++ (wRail aR2 C rs2 ra2 ++ (wSlots aS C sa sl ++ (wNight n0 aN C ns na nl ++ ([cYear y0 y1 y2 C y_isThere y_taken y_took] ++ ([cOb o0 C o_of]))))))))) (cQl D (fun (r : Int64) (u : (Nat → Nat) × (Nat → Int32) × (Nat → Nat → Int32) × (Nat → Int32) × (Nat → Nat → Int32) × (Nat → Nat → Int64)) => post r u.2.1 u.2.2.1 u.2.2.2.1 u.2.2.2.2.1 u.2.2.2.2.2) (fun u => [cLockRail L0 (aU 0) (aR 0) (aR2 0) h_images (aS 0) n0 y0 o0 C ] ++ (wReader aU C us ua ++ (wRail aR C rs ra ++ (wRail aR2 C u.2.1 u.2.2.1 ++ (wSlots aS C sa sl ++ (wNight n0 u.1 C u.2.2.2.1 u.2.2.2.2.1 u.2.2.2.2.2 ++ ([cYear y0 y1 y2 C y_isThere y_taken y_took] ++ ([cOb o0 C o_of])))))))) (va_A (List.flatten ([cLockRail L0 (aU 0) (aR 0) (aR2 0) h_images (aS 0) n0 y0 o0 C ] ++ (wReader aU C us ua ++ (wRail aR C rs ra ++ (wRail aR2 C rs2 ra2 ++ (wSlots aS C sa sl ++ (wNight n0 aN C ns na nl ++ ([cYear y0 y1 y2 C y_isThere y_taken y_took] ++ ([cOb o0 C o_of]))))))))) sz)) 0 0 (va_A (List.flatten ([cLockRail L0 (aU 0) (aR 0) (aR2 0) h_images (aS 0) n0 y0 o0 C ] ++ (wReader aU C us ua ++ (wRail aR C rs ra ++ (wRail aR2 C rs2 ra2 ++ (wSlots aS C sa sl ++ (wNight n0 aN C ns na nl ++ ([cYear y0 y1 y2 C y_isThere y_taken y_took] ++ ([cOb o0 C o_of]))))))))) sz) := by
  refine cStart (QA := fun A => cQl D (fun (r : Int64) (u : (Nat → Nat) × (Nat → Int32) × (Nat → Nat → Int32) × (Nat → Int32) × (Nat → Nat → Int32) × (Nat → Nat → Int64)) => post r u.2.1 u.2.2.1 u.2.2.2.1 u.2.2.2.2.1 u.2.2.2.2.2) (fun u => [cLockRail L0 (aU 0) (aR 0) (aR2 0) h_images (aS 0) n0 y0 o0 C ] ++ (wReader aU C us ua ++ (wRail aR C rs ra ++ (wRail aR2 C u.2.1 u.2.2.1 ++ (wSlots aS C sa sl ++ (wNight n0 u.1 C u.2.2.2.1 u.2.2.2.2.1 u.2.2.2.2.2 ++ ([cYear y0 y1 y2 C y_isThere y_taken y_took] ++ ([cOb o0 C o_of])))))))) A) (cc := cX11_law) (maxL := 2) (ret := (some .long)) (by decide) (Nat.le_of_ble_eq_true rfl) ?_
  intro p e s m args below meth c A ls hx hb hr hml hown hw hlocks hname hK hN hA hP hD hS hl
  generalize hQ : MQ below _ args s 0 0 A = Q
  have hl : lv_has ls 2 [(0, .ref L0), (1, .int p1)] := hl
  obtain ⟨H, hH⟩ : ∃ H, H = s.heap := ⟨_, rfl⟩
  obtain ⟨locs, hlo⟩ : ∃ z : List Loc, z = [] := ⟨_, rfl⟩
  have hP : va_P D vwCl (List.flatten ([cLockRail L0 (aU 0) (aR 0) (aR2 0) h_images (aS 0) n0 y0 o0 C ] ++ (wReader aU C us ua ++ (wRail aR C rs ra ++ (wRail aR2 C rs2 ra2 ++ (wSlots aS C sa sl ++ (wNight n0 aN C ns na nl ++ ([cYear y0 y1 y2 C y_isThere y_taken y_took] ++ ([cOb o0 C o_of]))))))))) H := by rw [hH]; exact hP
  have hS : va_S A s.heap H locs := by rw [hH, hlo]; exact hS
  rw [show W p l e rmX11_law s m args below meth c s.heap [] 0 0 Q (F0 m 0 ls []) = W p l e rmX11_law s m args below meth c H locs 0 0 Q (F0 m 0 ls []) from by rw [hH, hlo]]
  have N30 : ∀ (rs2 : Nat → Int32) (ra2 : Nat → Nat → Int32) (ns : Nat → Int32) (na : Nat → Nat → Int32) (nl : Nat → Nat → Int64) (aN : Nat → Nat) (H : Heap) (locs : List Loc) (ls : Array Slot), P_X11_law_30 rs ra p1 post  rs2 ra2 ns na nl → va_P D vwCl (List.flatten ([cLockRail L0 (aU 0) (aR 0) (aR2 0) h_images (aS 0) n0 y0 o0 C ] ++ (wReader aU C us ua ++ (wRail aR C rs ra ++ (wRail aR2 C rs2 ra2 ++ (wSlots aS C sa sl ++ (wNight n0 aN C ns na nl ++ ([cYear y0 y1 y2 C y_isThere y_taken y_took] ++ ([cOb o0 C o_of]))))))))) H → va_D A (List.flatten ([cLockRail L0 (aU 0) (aR 0) (aR2 0) h_images (aS 0) n0 y0 o0 C ] ++ (wReader aU C us ua ++ (wRail aR C rs ra ++ (wRail aR2 C rs2 ra2 ++ (wSlots aS C sa sl ++ (wNight n0 aN C ns na nl ++ ([cYear y0 y1 y2 C y_isThere y_taken y_took] ++ ([cOb o0 C o_of]))))))))) → va_S A s.heap H locs → lv_has ls 2 [(0, .ref L0), (1, .int p1)] → W p l e rmX11_law s m args below meth c H locs 0 0 Q (F0 m 30 ls []) := by
    intro rs2 ra2 ns na nl aN H locs ls h hP hD hS hl
    refine lv_aload_n hx hb dX11_law_30 rfl (lv_at hl 0 rfl) ?_
    refine lv_iload_n hx hb dX11_law_31 rfl (lv_at hl 1 rfl) ?_
    refine gs_L21_75 (rs_V21_58 (As := [.int p1]) (rest := []) ⟨hx, hb, hml, hown, hw⟩ hK hN hP hD (k_X11_costByLaw l D C _ L0 aR aR2 n0 aN (aU 0) h_images (aS 0) y0 o0  rs ra rs2 ra2 ns na nl p1 h) (cwV 1 hw (goodV mw_5_131 mw_5_133 mw_s91 mw_1_1 mw_5_134) rfl rfl rfl (by decide +kernel) ⟨Nat.le_of_ble_eq_true rfl, Nat.le_of_ble_eq_true rfl⟩) rfl rfl rfl hl.1 rfl (Nat.le_of_ble_eq_true rfl) dX11_law_32 ⟨Nat.zero_le _, Nat.zero_le _⟩) hP hD hS hA (fun r7 u H locs h hP hD hS => ?_)
    obtain ⟨aN1, rs_2, ra_3, ns_4, na_5, nl_6⟩ := u
    have hP : va_P D vwCl (List.flatten ([cLockRail L0 (aU 0) (aR 0) (aR2 0) h_images (aS 0) n0 y0 o0 C ] ++ (wReader aU C us ua ++ (wRail aR C rs ra ++ (wRail aR2 C rs_2 ra_3 ++ (wSlots aS C sa sl ++ (wNight n0 aN1 C ns_4 na_5 nl_6 ++ ([cYear y0 y1 y2 C y_isThere y_taken y_took] ++ ([cOb o0 C o_of]))))))))) H := hP
    have hD : va_D A (List.flatten ([cLockRail L0 (aU 0) (aR 0) (aR2 0) h_images (aS 0) n0 y0 o0 C ] ++ (wReader aU C us ua ++ (wRail aR C rs ra ++ (wRail aR2 C rs_2 ra_3 ++ (wSlots aS C sa sl ++ (wNight n0 aN1 C ns_4 na_5 nl_6 ++ ([cYear y0 y1 y2 C y_isThere y_taken y_took] ++ ([cOb o0 C o_of]))))))))) := hD
    rw [← hQ]
    exact cRetL (v := r7) (aN1, rs_2, ra_3, ns_4, na_5, nl_6) hx hb hr hlocks hS hP hD h dX11_law_35
  refine lv_aload_n hx hb dX11_law_0 rfl (lv_at hl 0 rfl) ?_
  refine va_get (D := D) (ci := 11) (v := .ref (aR 0)) (C := RX11) (T := TX11) (N := 8) hx hb hw inW_X11 hown hK hP 0 rfl rfl 1 (by decide) (hw _ mw_2_144) (fun _ h9 => h9) rfl dX11_law_1 ?_
  refine gs_I21_41 (rs_VN21_34 (As := []) (rest := []) ⟨hx, hb, hml, hown, hw⟩ hK hN hP hD (k_X4_isTold l D C _ aR  rs ra  h) ⟨va_cnB 0 hw (goodN mw_4_19) rfl rfl rfl (hN.m 44 rfl) (hw _ mw_1_4) (by decide +kernel) ⟨Nat.le_of_ble_eq_true rfl, Nat.le_of_ble_eq_true rfl⟩, hw _ mw_4_18, hw _ mw_s47⟩ rfl rfl rfl hl.1 rfl (Nat.le_of_ble_eq_true rfl) dX11_law_4 ⟨Nat.zero_le _, Nat.zero_le _⟩) hP hD hS hA (fun r8 u H locs h hP hD hS => ?_)
  have hP : va_P D vwCl (List.flatten ([cLockRail L0 (aU 0) (aR 0) (aR2 0) h_images (aS 0) n0 y0 o0 C ] ++ (wReader aU C us ua ++ (wRail aR C rs ra ++ (wRail aR2 C rs2 ra2 ++ (wSlots aS C sa sl ++ (wNight n0 aN C ns na nl ++ ([cYear y0 y1 y2 C y_isThere y_taken y_took] ++ ([cOb o0 C o_of]))))))))) H := hP
  have hD : va_D A (List.flatten ([cLockRail L0 (aU 0) (aR 0) (aR2 0) h_images (aS 0) n0 y0 o0 C ] ++ (wReader aU C us ua ++ (wRail aR C rs ra ++ (wRail aR2 C rs2 ra2 ++ (wSlots aS C sa sl ++ (wNight n0 aN C ns na nl ++ ([cYear y0 y1 y2 C y_isThere y_taken y_took] ++ ([cOb o0 C o_of]))))))))) := hD
  refine lv_if_eq (tgt := 26) hx hb dX11_law_7 (by decide) (fun c9 => ?_) (fun c9 => ?_)
  · have h := h.1 c9
    refine lv_ldc2 (v := (-2)) hx hb hown (hw _ mw_4_20) dX11_law_26 ?_
    rw [← hQ]
    exact cRetL (v := (-2)) (aN, rs2, ra2, ns, na, nl) hx hb hr hlocks hS hP hD h dX11_law_29
  · have h := h.2 c9
    refine lv_iload_n hx hb dX11_law_10 rfl (lv_at hl 1 rfl) ?_
    refine lv_iconst (v := (-1)) hx hb dX11_law_11 (by decide) ?_
    refine lv_icmp_eq (tgt := 30) hx hb dX11_law_12 (by decide) (fun c10 => ?_) (fun c10 => ?_)
    · have h := h.1 c10
      exact N30 rs2 ra2 ns na nl aN _ _ _ h hP hD hS (lv_sub hl [0, 1] rfl)
    · have h := h.2 c10
      refine lv_aload_n hx hb dX11_law_15 rfl (lv_at hl 0 rfl) ?_
      refine va_get (D := D) (ci := 11) (v := .ref (aR 0)) (C := RX11) (T := TX11) (N := 8) hx hb hw inW_X11 hown hK hP 0 rfl rfl 1 (by decide) (hw _ mw_2_144) (fun _ h9 => h9) rfl dX11_law_16 ?_
      refine lv_iload_n hx hb dX11_law_19 rfl (lv_at hl 1 rfl) ?_
      refine gs_I21_41 (rs_VN21_34 (As := [.int p1]) (rest := []) ⟨hx, hb, hml, hown, hw⟩ hK hN hP hD (k_X4_hasLock l D C _ aR  rs ra p1 h) ⟨va_cnB 1 hw (goodN mw_5_130) rfl rfl rfl (hN.m 68 rfl) (hw _ mw_1_4) (by decide +kernel) ⟨Nat.le_of_ble_eq_true rfl, Nat.le_of_ble_eq_true rfl⟩, hw _ mw_5_129, hw _ mw_s90⟩ rfl rfl rfl hl.1 rfl (Nat.le_of_ble_eq_true rfl) dX11_law_20 ⟨Nat.zero_le _, Nat.zero_le _⟩) hP hD hS hA (fun r11 u H locs h hP hD hS => ?_)
      have hP : va_P D vwCl (List.flatten ([cLockRail L0 (aU 0) (aR 0) (aR2 0) h_images (aS 0) n0 y0 o0 C ] ++ (wReader aU C us ua ++ (wRail aR C rs ra ++ (wRail aR2 C rs2 ra2 ++ (wSlots aS C sa sl ++ (wNight n0 aN C ns na nl ++ ([cYear y0 y1 y2 C y_isThere y_taken y_took] ++ ([cOb o0 C o_of]))))))))) H := hP
      have hD : va_D A (List.flatten ([cLockRail L0 (aU 0) (aR 0) (aR2 0) h_images (aS 0) n0 y0 o0 C ] ++ (wReader aU C us ua ++ (wRail aR C rs ra ++ (wRail aR2 C rs2 ra2 ++ (wSlots aS C sa sl ++ (wNight n0 aN C ns na nl ++ ([cYear y0 y1 y2 C y_isThere y_taken y_took] ++ ([cOb o0 C o_of]))))))))) := hD
      refine lv_if_ne (tgt := 30) hx hb dX11_law_23 (by decide) (fun c12 => ?_) (fun c12 => ?_)
      · have h := h.1 c12
        exact N30 rs2 ra2 ns na nl aN _ _ _ h hP hD hS (lv_sub hl [0, 1] rfl)
      · have h := h.2 c12
        refine lv_ldc2 (v := (-2)) hx hb hown (hw _ mw_4_20) dX11_law_26 ?_
        rw [← hQ]
        exact cRetL (v := (-2)) (aN, rs2, ra2, ns, na, nl) hx hb hr hlocks hS hP hD h dX11_law_29
abbrev vsX11_laws : List Cond := Cond.code yX11_laws cX11_laws 7 (some .int) :: WS
abbrev rmX11_laws : Room := { frames := 6, cells := 0, slots := 0, locals := 149 }
set_option maxHeartbeats 4000000 in
set_option maxRecDepth 100000 in
theorem k_X11_laws (l : Launch) (D : va_G) (C : Nat → ClassId) (sz : Nat) (L0 : Nat) (aU : Nat → Nat) (aR : Nat → Nat) (aR2 : Nat → Nat) (aS : Nat → Nat) (n0 : Nat) (aN : Nat → Nat) (y0 : Nat) (y1 : Nat) (y2 : Nat) (o0 : Nat) (h_images : Nat) (us : Nat → Int32) (ua : Nat → Nat → Int32) (rs : Nat → Int32) (ra : Nat → Nat → Int32) (rs2 : Nat → Int32) (ra2 : Nat → Nat → Int32) (sa : Nat → Nat → Int32) (sl : Nat → Nat → Int64) (ns : Nat → Int32) (na : Nat → Nat → Int32) (nl : Nat → Nat → Int64) (y_isThere : Int32) (y_taken : Nat → Int32) (y_took : Nat → Int32) (o_of : Nat → Int64)  {post : Int32 → (Nat → Int32) → (Nat → Nat → Int32) → (Nat → Int32) → (Nat → Nat → Int32) → (Nat → Nat → Int64) → Prop} (h : P_X11_laws rs ra rs2 ra2 ns na nl post) : Met l yX11_laws vsX11_laws rmX11_laws (cPre D C [.ref L0] sz ([cLockRail L0 (aU 0) (aR 0) (aR2 0) h_images (aS 0) n0 y0 o0 C ] ++ (wReader aU C us ua ++ (wRail aR C rs ra ++ (wRail aR2 C rs2 ra2 ++ (wSlots aS C sa sl ++ (wNight n0 aN C ns na nl ++ ([cYear y0 y1 y2 C y_isThere y_taken y_took] ++ ([cOb o0 C o_of]))))))))) (cQi D (fun (r : Int32) (u : (Nat → Nat) × (Nat → Int32) × (Nat → Nat → Int32) × (Nat → Int32) × (Nat → Nat → Int32) × (Nat → Nat → Int64)) => post r u.2.1 u.2.2.1 u.2.2.2.1 u.2.2.2.2.1 u.2.2.2.2.2) (fun u => [cLockRail L0 (aU 0) (aR 0) (aR2 0) h_images (aS 0) n0 y0 o0 C ] ++ (wReader aU C us ua ++ (wRail aR C rs ra ++ (wRail aR2 C u.2.1 u.2.2.1 ++ (wSlots aS C sa sl ++ (wNight n0 u.1 C u.2.2.2.1 u.2.2.2.2.1 u.2.2.2.2.2 ++ ([cYear y0 y1 y2 C y_isThere y_taken y_took] ++ ([cOb o0 C o_of])))))))) (va_A (List.flatten ([cLockRail L0 (aU 0) (aR 0) (aR2 0) h_images (aS 0) n0 y0 o0 C ] ++ (wReader aU C us ua ++ (wRail aR C rs ra ++ (wRail aR2 C rs2 ra2 ++ (wSlots aS C sa sl ++ (wNight n0 aN C ns na nl ++ ([cYear y0 y1 y2 C y_isThere y_taken y_took] ++ ([cOb o0 C o_of]))))))))) sz)) 0 0 (va_A (List.flatten ([cLockRail L0 (aU 0) (aR 0) (aR2 0) h_images (aS 0) n0 y0 o0 C ] ++ (wReader aU C us ua ++ (wRail aR C rs ra ++ (wRail aR2 C rs2 ra2 ++ (wSlots aS C sa sl ++ (wNight n0 aN C ns na nl ++ ([cYear y0 y1 y2 C y_isThere y_taken y_took] ++ ([cOb o0 C o_of]))))))))) sz) := by
  refine cStart (QA := fun A => cQi D (fun (r : Int32) (u : (Nat → Nat) × (Nat → Int32) × (Nat → Nat → Int32) × (Nat → Int32) × (Nat → Nat → Int32) × (Nat → Nat → Int64)) => post r u.2.1 u.2.2.1 u.2.2.2.1 u.2.2.2.2.1 u.2.2.2.2.2) (fun u => [cLockRail L0 (aU 0) (aR 0) (aR2 0) h_images (aS 0) n0 y0 o0 C ] ++ (wReader aU C us ua ++ (wRail aR C rs ra ++ (wRail aR2 C u.2.1 u.2.2.1 ++ (wSlots aS C sa sl ++ (wNight n0 u.1 C u.2.2.2.1 u.2.2.2.2.1 u.2.2.2.2.2 ++ ([cYear y0 y1 y2 C y_isThere y_taken y_took] ++ ([cOb o0 C o_of])))))))) A) (cc := cX11_laws) (maxL := 7) (ret := (some .int)) (by decide) (Nat.le_of_ble_eq_true rfl) ?_
  intro p e s m args below meth c A ls hx hb hr hml hown hw hlocks hname hK hN hA hP hD hS hl
  generalize hQ : MQ below _ args s 0 0 A = Q
  have hl : lv_has ls 7 [(0, .ref L0)] := hl
  have hn306 : (Cond.fieldLinkNest "LockRail" 306 "LockRail$Rail" "locks" "LLockRail$Locks;" "LockRail").before args s = true := hN.f 58 rfl
  have hn310 : (Cond.fieldLinkNest "LockRail" 310 "LockRail$Locks" "count" "I" "LockRail").before args s = true := hN.f 14 rfl
  obtain ⟨H, hH⟩ : ∃ H, H = s.heap := ⟨_, rfl⟩
  obtain ⟨locs, hlo⟩ : ∃ z : List Loc, z = [] := ⟨_, rfl⟩
  have hP : va_P D vwCl (List.flatten ([cLockRail L0 (aU 0) (aR 0) (aR2 0) h_images (aS 0) n0 y0 o0 C ] ++ (wReader aU C us ua ++ (wRail aR C rs ra ++ (wRail aR2 C rs2 ra2 ++ (wSlots aS C sa sl ++ (wNight n0 aN C ns na nl ++ ([cYear y0 y1 y2 C y_isThere y_taken y_took] ++ ([cOb o0 C o_of]))))))))) H := by rw [hH]; exact hP
  have hS : va_S A s.heap H locs := by rw [hH, hlo]; exact hS
  rw [show W p l e rmX11_laws s m args below meth c s.heap [] 0 0 Q (F0 m 0 ls []) = W p l e rmX11_laws s m args below meth c H locs 0 0 Q (F0 m 0 ls []) from by rw [hH, hlo]]
  have N22 : ∀  (n22 : Nat) (x1_ : Int32) (x2_ : Int64) (x4_ : Int32) (rs2 : Nat → Int32) (ra2 : Nat → Nat → Int32) (ns : Nat → Int32) (na : Nat → Nat → Int32) (nl : Nat → Nat → Int64) (aN : Nat → Nat) (H : Heap) (locs : List Loc) (ls : Array Slot), P_X11_laws_22 rs ra post   n22 x1_ x2_ x4_ rs2 ra2 ns na nl → va_P D vwCl (List.flatten ([cLockRail L0 (aU 0) (aR 0) (aR2 0) h_images (aS 0) n0 y0 o0 C ] ++ (wReader aU C us ua ++ (wRail aR C rs ra ++ (wRail aR2 C rs2 ra2 ++ (wSlots aS C sa sl ++ (wNight n0 aN C ns na nl ++ ([cYear y0 y1 y2 C y_isThere y_taken y_took] ++ ([cOb o0 C o_of]))))))))) H → va_D A (List.flatten ([cLockRail L0 (aU 0) (aR 0) (aR2 0) h_images (aS 0) n0 y0 o0 C ] ++ (wReader aU C us ua ++ (wRail aR C rs ra ++ (wRail aR2 C rs2 ra2 ++ (wSlots aS C sa sl ++ (wNight n0 aN C ns na nl ++ ([cYear y0 y1 y2 C y_isThere y_taken y_took] ++ ([cOb o0 C o_of]))))))))) → va_S A s.heap H locs → lv_has ls 7 [(0, .ref L0), (1, .int x1_), (2, .long x2_), (4, .int x4_)] → W p l e rmX11_laws s m args below meth c H locs 0 0 Q (F0 m 22 ls []) := by
    intro n22
    induction n22 with
    | zero => intro x1_ x2_ x4_ rs2 ra2 ns na nl aN H locs ls h hP hD hS hl; exact False.elim h
    | succ n22 ih22 =>
      intro x1_ x2_ x4_ rs2 ra2 ns na nl aN H locs ls h hP hD hS hl
      refine lv_iload hx hb dX11_laws_22 (lv_at hl 3 rfl) ?_
      refine lv_aload_n hx hb dX11_laws_24 rfl (lv_at hl 0 rfl) ?_
      refine va_get (D := D) (ci := 11) (v := .ref (aR 0)) (C := RX11) (T := TX11) (N := 8) hx hb hw inW_X11 hown hK hP 0 rfl rfl 1 (by decide) (hw _ mw_2_144) (fun _ h9 => h9) rfl dX11_laws_25 ?_
      refine va_getN (D := D) (ci := 4) (v := .ref (aR 4)) (C := RX4) (T := TX4) (N := 16) hx hb hw inW_X4 hown hK hP 4 rfl rfl 4 (by decide) hn306 (fun _ h9 => h9) rfl dX11_laws_28 ?_
      refine va_getN (D := D) (ci := 2) (v := .int (rs 12)) (C := RX2) (T := TX2) (N := 3) hx hb hw inW_X2 hown hK hP 8 rfl rfl 0 (by decide) hn310 (fun _ h9 => h9) rfl dX11_laws_31 ?_
      refine lv_icmp_ge (tgt := 64) hx hb dX11_laws_34 (by decide) (fun c1 => ?_) (fun c1 => ?_)
      · have h := h.1 c1
        refine lv_iload_n hx hb dX11_laws_64 rfl (lv_at hl 1 rfl) ?_
        rw [← hQ]
        exact cRetI (v := x1_) (aN, rs2, ra2, ns, na, nl) hx hb hr hlocks hS hP hD h dX11_laws_65
      · have h := h.2 c1
        refine lv_aload_n hx hb dX11_laws_37 rfl (lv_at hl 0 rfl) ?_
        refine lv_iload hx hb dX11_laws_38 (lv_at hl 3 rfl) ?_
        refine gs_L21_75 (rs_V21_58 (As := [.int x4_]) (rest := []) ⟨hx, hb, hml, hown, hw⟩ hK hN hP hD (k_X11_costByLaw l D C _ L0 aR aR2 n0 aN (aU 0) h_images (aS 0) y0 o0  rs ra rs2 ra2 ns na nl x4_ h) (cwV 1 hw (goodV mw_5_131 mw_5_133 mw_s91 mw_1_1 mw_5_134) rfl rfl rfl (by decide +kernel) ⟨Nat.le_of_ble_eq_true rfl, Nat.le_of_ble_eq_true rfl⟩) rfl rfl rfl hl.1 rfl (Nat.le_of_ble_eq_true rfl) dX11_laws_40 ⟨Nat.zero_le _, Nat.zero_le _⟩) hP hD hS hA (fun r8 u H locs h hP hD hS => ?_)
        obtain ⟨aN2, rs_3, ra_4, ns_5, na_6, nl_7⟩ := u
        have hP : va_P D vwCl (List.flatten ([cLockRail L0 (aU 0) (aR 0) (aR2 0) h_images (aS 0) n0 y0 o0 C ] ++ (wReader aU C us ua ++ (wRail aR C rs ra ++ (wRail aR2 C rs_3 ra_4 ++ (wSlots aS C sa sl ++ (wNight n0 aN2 C ns_5 na_6 nl_7 ++ ([cYear y0 y1 y2 C y_isThere y_taken y_took] ++ ([cOb o0 C o_of]))))))))) H := hP
        have hD : va_D A (List.flatten ([cLockRail L0 (aU 0) (aR 0) (aR2 0) h_images (aS 0) n0 y0 o0 C ] ++ (wReader aU C us ua ++ (wRail aR C rs ra ++ (wRail aR2 C rs_3 ra_4 ++ (wSlots aS C sa sl ++ (wNight n0 aN2 C ns_5 na_6 nl_7 ++ ([cYear y0 y1 y2 C y_isThere y_taken y_took] ++ ([cOb o0 C o_of]))))))))) := hD
        refine lv_lstore (lv' := [(5, .long r8), (0, .ref L0), (1, .int x1_), (2, .long x2_), (4, .int x4_)]) hx hb dX11_laws_43 hl (by decide) rfl (fun ls hl => ?_)
        refine lv_lload hx hb dX11_laws_45 (lv_at hl 0 rfl) ?_
        refine lv_lload_n hx hb dX11_laws_47 rfl (lv_at hl 3 rfl) ?_
        refine W.lcmp hx hb dX11_laws_48 ?_
        refine lv_if_ge (tgt := 58) hx hb dX11_laws_49 (by decide) (fun c9 => ?_) (fun c9 => ?_)
        · have c9 : x2_ ≤ r8 := (lg_cmp_ge _ _).mp c9
          have h := h.1 c9
          refine lv_iinc (v := (x4_ + 1)) (lv' := [(4, .int (x4_ + 1)), (5, .long r8), (0, .ref L0), (1, .int x1_), (2, .long x2_)]) hx hb dX11_laws_58 hl (k := 4) rfl rfl (by decide) rfl (fun ls hl => ?_)
          refine lv_goto (tgt := 22) hx hb dX11_laws_61 (by decide) ?_
          exact ih22 x1_ x2_ (x4_ + 1) rs_3 ra_4 ns_5 na_6 nl_7 aN2 _ _ _ h hP hD hS (lv_sub hl [2, 3, 4, 0] rfl)
        · have c9 : ¬ x2_ ≤ r8 := fun q => c9 ((lg_cmp_ge _ _).mpr q)
          have h := h.2 c9
          refine lv_lload hx hb dX11_laws_52 (lv_at hl 0 rfl) ?_
          refine lv_lstore_n (lv' := [(2, .long r8), (5, .long r8), (0, .ref L0), (1, .int x1_), (4, .int x4_)]) hx hb dX11_laws_54 rfl hl (by decide) rfl (fun ls hl => ?_)
          refine lv_iload hx hb dX11_laws_55 (lv_at hl 4 rfl) ?_
          refine lv_istore_n (lv' := [(1, .int x4_), (2, .long r8), (5, .long r8), (0, .ref L0), (4, .int x4_)]) hx hb dX11_laws_57 rfl hl (by decide) rfl (fun ls hl => ?_)
          refine lv_iinc (v := (x4_ + 1)) (lv' := [(4, .int (x4_ + 1)), (1, .int x4_), (2, .long r8), (5, .long r8), (0, .ref L0)]) hx hb dX11_laws_58 hl (k := 4) rfl rfl (by decide) rfl (fun ls hl => ?_)
          refine lv_goto (tgt := 22) hx hb dX11_laws_61 (by decide) ?_
          exact ih22 x4_ r8 (x4_ + 1) rs_3 ra_4 ns_5 na_6 nl_7 aN2 _ _ _ h hP hD hS (lv_sub hl [4, 1, 2, 0] rfl)
  refine lv_aload_n hx hb dX11_laws_0 rfl (lv_at hl 0 rfl) ?_
  refine va_get (D := D) (ci := 11) (v := .ref (aR 0)) (C := RX11) (T := TX11) (N := 8) hx hb hw inW_X11 hown hK hP 0 rfl rfl 1 (by decide) (hw _ mw_2_144) (fun _ h9 => h9) rfl dX11_laws_1 ?_
  refine gs_I21_41 (rs_VN21_34 (As := []) (rest := []) ⟨hx, hb, hml, hown, hw⟩ hK hN hP hD (k_X4_isTold l D C _ aR  rs ra  h) ⟨va_cnB 0 hw (goodN mw_4_19) rfl rfl rfl (hN.m 44 rfl) (hw _ mw_1_4) (by decide +kernel) ⟨Nat.le_of_ble_eq_true rfl, Nat.le_of_ble_eq_true rfl⟩, hw _ mw_4_18, hw _ mw_s47⟩ rfl rfl rfl hl.1 rfl (Nat.le_of_ble_eq_true rfl) dX11_laws_4 ⟨Nat.zero_le _, Nat.zero_le _⟩) hP hD hS hA (fun r10 u H locs h hP hD hS => ?_)
  have hP : va_P D vwCl (List.flatten ([cLockRail L0 (aU 0) (aR 0) (aR2 0) h_images (aS 0) n0 y0 o0 C ] ++ (wReader aU C us ua ++ (wRail aR C rs ra ++ (wRail aR2 C rs2 ra2 ++ (wSlots aS C sa sl ++ (wNight n0 aN C ns na nl ++ ([cYear y0 y1 y2 C y_isThere y_taken y_took] ++ ([cOb o0 C o_of]))))))))) H := hP
  have hD : va_D A (List.flatten ([cLockRail L0 (aU 0) (aR 0) (aR2 0) h_images (aS 0) n0 y0 o0 C ] ++ (wReader aU C us ua ++ (wRail aR C rs ra ++ (wRail aR2 C rs2 ra2 ++ (wSlots aS C sa sl ++ (wNight n0 aN C ns na nl ++ ([cYear y0 y1 y2 C y_isThere y_taken y_took] ++ ([cOb o0 C o_of]))))))))) := hD
  refine lv_if_ne (tgt := 13) hx hb dX11_laws_7 (by decide) (fun c11 => ?_) (fun c11 => ?_)
  · have h := h.1 c11
    refine lv_iconst (v := (-1)) hx hb dX11_laws_13 (by decide) ?_
    refine lv_istore_n (lv' := [(1, .int (-1)), (0, .ref L0)]) hx hb dX11_laws_14 rfl hl (by decide) rfl (fun ls hl => ?_)
    refine lv_ldc2 (v := 9223372036854775807) hx hb hown (hw _ mw_4_170) dX11_laws_15 ?_
    refine lv_lstore_n (lv' := [(2, .long 9223372036854775807), (1, .int (-1)), (0, .ref L0)]) hx hb dX11_laws_18 rfl hl (by decide) rfl (fun ls hl => ?_)
    refine lv_iconst (v := (-1)) hx hb dX11_laws_19 (by decide) ?_
    refine lv_istore (lv' := [(4, .int (-1)), (2, .long 9223372036854775807), (1, .int (-1)), (0, .ref L0)]) hx hb dX11_laws_20 hl (by decide) rfl (fun ls hl => ?_)
    obtain ⟨n, h⟩ := h
    exact N22  n (-1) 9223372036854775807 (-1) rs2 ra2 ns na nl aN _ _ _ h hP hD hS (lv_sub hl [3, 2, 1, 0] rfl)
  · have h := h.2 c11
    refine lv_bipush (v := (-2)) hx hb dX11_laws_10 (by decide) ?_
    rw [← hQ]
    exact cRetI (v := (-2)) (aN, rs2, ra2, ns, na, nl) hx hb hr hlocks hS hP hD h dX11_laws_12
abbrev vsX11_isImage : List Cond := Cond.code yX11_isImage cX11_isImage 1 (some .boolean) :: WS
abbrev rmX11_isImage : Room := { frames := 0, cells := 0, slots := 0, locals := 0 }
set_option maxHeartbeats 4000000 in
set_option maxRecDepth 100000 in
theorem k_X11_isImage (l : Launch) (D : va_G) (C : Nat → ClassId) (sz : Nat)    (p1 : Int32) {post : Int32 → Prop} (h : P_X11_isImage p1 post) : Met l yX11_isImage vsX11_isImage rmX11_isImage (cPre D C [.int p1] sz (([] : List va_W))) (cQi D (fun (r : Int32) (u : Unit) => post r ) (fun u => ([] : List va_W)) (va_A (List.flatten (([] : List va_W))) sz)) 0 0 (va_A (List.flatten (([] : List va_W))) sz) := by
  refine cStart (QA := fun A => cQi D (fun (r : Int32) (u : Unit) => post r ) (fun u => ([] : List va_W)) A) (cc := cX11_isImage) (maxL := 1) (ret := (some .boolean)) (by decide) (Nat.le_of_ble_eq_true rfl) ?_
  intro p e s m args below meth c A ls hx hb hr hml hown hw hlocks hname hK hN hA hP hD hS hl
  generalize hQ : MQ below _ args s 0 0 A = Q
  have hl : lv_has ls 1 [(0, .int p1)] := hl
  obtain ⟨H, hH⟩ : ∃ H, H = s.heap := ⟨_, rfl⟩
  obtain ⟨locs, hlo⟩ : ∃ z : List Loc, z = [] := ⟨_, rfl⟩
  have hP : va_P D vwCl (List.flatten (([] : List va_W))) H := by rw [hH]; exact hP
  have hS : va_S A s.heap H locs := by rw [hH, hlo]; exact hS
  rw [show W p l e rmX11_isImage s m args below meth c s.heap [] 0 0 Q (F0 m 0 ls []) = W p l e rmX11_isImage s m args below meth c H locs 0 0 Q (F0 m 0 ls []) from by rw [hH, hlo]]
  refine lv_iload_n hx hb dX11_isImage_0 rfl (lv_at hl 0 rfl) ?_
  refine lv_if_lt (tgt := 13) hx hb dX11_isImage_1 (by decide) (fun c1 => ?_) (fun c1 => ?_)
  · have h := h.1 c1
    refine lv_iconst (v := 0) hx hb dX11_isImage_13 (by decide) ?_
    rw [← hQ]
    exact cRetZ (v := 0) () hx hb hr hlocks hS hP hD (Or.inl rfl) h dX11_isImage_14
  · have h := h.2 c1
    refine lv_iload_n hx hb dX11_isImage_4 rfl (lv_at hl 0 rfl) ?_
    refine lv_iconst (v := 3) hx hb dX11_isImage_5 (by decide) ?_
    refine lv_icmp_ge (tgt := 13) hx hb dX11_isImage_6 (by decide) (fun c2 => ?_) (fun c2 => ?_)
    · have h := h.1 c2
      refine lv_iconst (v := 0) hx hb dX11_isImage_13 (by decide) ?_
      rw [← hQ]
      exact cRetZ (v := 0) () hx hb hr hlocks hS hP hD (Or.inl rfl) h dX11_isImage_14
    · have h := h.2 c2
      refine lv_iconst (v := 1) hx hb dX11_isImage_9 (by decide) ?_
      refine lv_goto (tgt := 14) hx hb dX11_isImage_10 (by decide) ?_
      rw [← hQ]
      exact cRetZ (v := 1) () hx hb hr hlocks hS hP hD (Or.inr rfl) h dX11_isImage_14
abbrev vsX11_netTaken : List Cond := Cond.code yX11_netTaken cX11_netTaken 4 (some .int) :: WS
abbrev rmX11_netTaken : Room := { frames := 4, cells := 0, slots := 0, locals := 98 }
set_option maxHeartbeats 4000000 in
set_option maxRecDepth 100000 in
theorem k_X11_netTaken (l : Launch) (D : va_G) (C : Nat → ClassId) (sz : Nat) (L0 : Nat) (aR0 : Nat → Nat) (n0 : Nat) (aN : Nat → Nat) (h_reader : Nat) (h_rail : Nat) (h_trial : Nat) (h_images : Nat) (h_slots : Nat) (h_triedYear : Nat) (h_ofBikes : Nat) (rs0 : Nat → Int32) (ra0 : Nat → Nat → Int32) (ns : Nat → Int32) (na : Nat → Nat → Int32) (nl : Nat → Nat → Int64) (p2 : Int32) {post : Int32 → (Nat → Int32) → (Nat → Nat → Int32) → Prop} (h : P_X11_netTaken rs0 ra0 ns na p2 post) : Met l yX11_netTaken vsX11_netTaken rmX11_netTaken (cPre D C [.ref L0, .ref (aR0 0), .int p2] sz ([cLockRail L0 h_reader h_rail h_trial h_images h_slots n0 h_triedYear h_ofBikes C ] ++ (wRail aR0 C rs0 ra0 ++ (wNight n0 aN C ns na nl)))) (cQi D (fun (r : Int32) (u : (Nat → Int32) × (Nat → Nat → Int32)) => post r u.1 u.2) (fun u => [cLockRail L0 h_reader h_rail h_trial h_images h_slots n0 h_triedYear h_ofBikes C ] ++ (wRail aR0 C rs0 ra0 ++ (wNight n0 aN C u.1 u.2 nl))) (va_A (List.flatten ([cLockRail L0 h_reader h_rail h_trial h_images h_slots n0 h_triedYear h_ofBikes C ] ++ (wRail aR0 C rs0 ra0 ++ (wNight n0 aN C ns na nl)))) sz)) 0 0 (va_A (List.flatten ([cLockRail L0 h_reader h_rail h_trial h_images h_slots n0 h_triedYear h_ofBikes C ] ++ (wRail aR0 C rs0 ra0 ++ (wNight n0 aN C ns na nl)))) sz) := by
  refine cStart (QA := fun A => cQi D (fun (r : Int32) (u : (Nat → Int32) × (Nat → Nat → Int32)) => post r u.1 u.2) (fun u => [cLockRail L0 h_reader h_rail h_trial h_images h_slots n0 h_triedYear h_ofBikes C ] ++ (wRail aR0 C rs0 ra0 ++ (wNight n0 aN C u.1 u.2 nl))) A) (cc := cX11_netTaken) (maxL := 4) (ret := (some .int)) (by decide) (Nat.le_of_ble_eq_true rfl) ?_
  intro p e s m args below meth c A ls hx hb hr hml hown hw hlocks hname hK hN hA hP hD hS hl
  generalize hQ : MQ below _ args s 0 0 A = Q
  have hl : lv_has ls 4 [(0, .ref L0), (1, .ref (aR0 0)), (2, .int p2)] := hl
  obtain ⟨H, hH⟩ : ∃ H, H = s.heap := ⟨_, rfl⟩
  obtain ⟨locs, hlo⟩ : ∃ z : List Loc, z = [] := ⟨_, rfl⟩
  have hP : va_P D vwCl (List.flatten ([cLockRail L0 h_reader h_rail h_trial h_images h_slots n0 h_triedYear h_ofBikes C ] ++ (wRail aR0 C rs0 ra0 ++ (wNight n0 aN C ns na nl)))) H := by rw [hH]; exact hP
  have hS : va_S A s.heap H locs := by rw [hH, hlo]; exact hS
  rw [show W p l e rmX11_netTaken s m args below meth c s.heap [] 0 0 Q (F0 m 0 ls []) = W p l e rmX11_netTaken s m args below meth c H locs 0 0 Q (F0 m 0 ls []) from by rw [hH, hlo]]
  refine lv_aload_n hx hb dX11_netTaken_0 rfl (lv_at hl 0 rfl) ?_
  refine va_get (D := D) (ci := 11) (v := .ref n0) (C := RX11) (T := TX11) (N := 8) hx hb hw inW_X11 hown hK hP 0 rfl rfl 5 (by decide) (hw _ mw_2_148) (fun _ h9 => h9) rfl dX11_netTaken_1 ?_
  refine lv_aload_n hx hb dX11_netTaken_4 rfl (lv_at hl 1 rfl) ?_
  refine gs_V10_48 (rs_VN10_38 (As := [.ref (aR0 0)]) (rest := []) ⟨hx, hb, hml, hown, hw⟩ hK hN hP hD (k_X3_lookAt l D C _ n0 aN aR0  ns na nl rs0 ra0  h) ⟨va_cnB 1 hw (goodN mw_3_219) rfl rfl rfl (hN.m 37 rfl) (hw _ mw_1_11) (by decide +kernel) ⟨Nat.le_of_ble_eq_true rfl, Nat.le_of_ble_eq_true rfl⟩, hw _ mw_3_218, hw _ mw_s40⟩ rfl rfl rfl hl.1 rfl (Nat.le_of_ble_eq_true rfl) dX11_netTaken_5 ⟨Nat.zero_le _, Nat.zero_le _⟩) hP hD hS hA (fun u H locs h hP hD hS => ?_)
  obtain ⟨ns_1, na_2⟩ := u
  have hP : va_P D vwCl (List.flatten ([cLockRail L0 h_reader h_rail h_trial h_images h_slots n0 h_triedYear h_ofBikes C ] ++ (wRail aR0 C rs0 ra0 ++ (wNight n0 aN C ns_1 na_2 nl)))) H := hP
  have hD : va_D A (List.flatten ([cLockRail L0 h_reader h_rail h_trial h_images h_slots n0 h_triedYear h_ofBikes C ] ++ (wRail aR0 C rs0 ra0 ++ (wNight n0 aN C ns_1 na_2 nl)))) := hD
  refine lv_aload_n hx hb dX11_netTaken_8 rfl (lv_at hl 0 rfl) ?_
  refine va_get (D := D) (ci := 11) (v := .ref n0) (C := RX11) (T := TX11) (N := 8) hx hb hw inW_X11 hown hK hP 0 rfl rfl 5 (by decide) (hw _ mw_2_148) (fun _ h9 => h9) rfl dX11_netTaken_9 ?_
  refine lv_iload_n hx hb dX11_netTaken_12 rfl (lv_at hl 2 rfl) ?_
  refine lv_iconst (v := 0) hx hb dX11_netTaken_13 (by decide) ?_
  refine gs_I10_83 (rs_VN10_62 (As := [.int p2, .int 0]) (rest := []) ⟨hx, hb, hml, hown, hw⟩ hK hN hP hD (k_X3_pick l D C _ n0 aN  ns_1 na_2 nl p2 0 h) ⟨va_cnB 2 hw (goodN mw_3_239) rfl rfl rfl (hN.m 42 rfl) (hw _ mw_1_11) (by decide +kernel) ⟨Nat.le_of_ble_eq_true rfl, Nat.le_of_ble_eq_true rfl⟩, hw _ mw_3_238, hw _ mw_s44⟩ rfl rfl rfl hl.1 rfl (Nat.le_of_ble_eq_true rfl) dX11_netTaken_14 ⟨Nat.zero_le _, Nat.zero_le _⟩) hP hD hS hA (fun r3 u H locs h hP hD hS => ?_)
  have hP : va_P D vwCl (List.flatten ([cLockRail L0 h_reader h_rail h_trial h_images h_slots n0 h_triedYear h_ofBikes C ] ++ (wRail aR0 C rs0 ra0 ++ (wNight n0 aN C ns_1 na_2 nl)))) H := hP
  have hD : va_D A (List.flatten ([cLockRail L0 h_reader h_rail h_trial h_images h_slots n0 h_triedYear h_ofBikes C ] ++ (wRail aR0 C rs0 ra0 ++ (wNight n0 aN C ns_1 na_2 nl)))) := hD
  refine lv_istore_n (lv' := [(3, .int r3), (0, .ref L0), (1, .ref (aR0 0)), (2, .int p2)]) hx hb dX11_netTaken_17 rfl hl (by decide) rfl (fun ls hl => ?_)
  refine lv_iload_n hx hb dX11_netTaken_18 rfl (lv_at hl 0 rfl) ?_
  refine lv_iconst (v := (-1)) hx hb dX11_netTaken_19 (by decide) ?_
  refine lv_icmp_ne (tgt := 27) hx hb dX11_netTaken_20 (by decide) (fun c4 => ?_) (fun c4 => ?_)
  · have h := h.1 c4
    refine lv_aload_n hx hb dX11_netTaken_27 rfl (lv_at hl 1 rfl) ?_
    refine va_get (D := D) (ci := 11) (v := .ref n0) (C := RX11) (T := TX11) (N := 8) hx hb hw inW_X11 hown hK hP 0 rfl rfl 5 (by decide) (hw _ mw_2_148) (fun _ h9 => h9) rfl dX11_netTaken_28 ?_
    refine lv_aload_n hx hb dX11_netTaken_31 rfl (lv_at hl 2 rfl) ?_
    refine lv_iload_n hx hb dX11_netTaken_32 rfl (lv_at hl 3 rfl) ?_
    refine lv_iload_n hx hb dX11_netTaken_33 rfl (lv_at hl 0 rfl) ?_
    refine gs_I10_78 (rs_VN10_38 (As := [.ref (aR0 0), .int p2, .int r3]) (rest := []) ⟨hx, hb, hml, hown, hw⟩ hK hN hP hD (k_X3_netOf l D C _ n0 aN aR0  ns_1 na_2 nl rs0 ra0 p2 r3 h) ⟨va_cnB 3 hw (goodN mw_4_11) rfl rfl rfl (hN.m 69 rfl) (hw _ mw_1_11) (by decide +kernel) ⟨Nat.le_of_ble_eq_true rfl, Nat.le_of_ble_eq_true rfl⟩, hw _ mw_4_10, hw _ mw_s46⟩ rfl rfl rfl hl.1 rfl (Nat.le_of_ble_eq_true rfl) dX11_netTaken_34 ⟨Nat.zero_le _, Nat.zero_le _⟩) hP hD hS hA (fun r5 u H locs h hP hD hS => ?_)
    have hP : va_P D vwCl (List.flatten ([cLockRail L0 h_reader h_rail h_trial h_images h_slots n0 h_triedYear h_ofBikes C ] ++ (wRail aR0 C rs0 ra0 ++ (wNight n0 aN C ns_1 na_2 nl)))) H := hP
    have hD : va_D A (List.flatten ([cLockRail L0 h_reader h_rail h_trial h_images h_slots n0 h_triedYear h_ofBikes C ] ++ (wRail aR0 C rs0 ra0 ++ (wNight n0 aN C ns_1 na_2 nl)))) := hD
    rw [← hQ]
    exact cRetI (v := r5) (ns_1, na_2) hx hb hr hlocks hS hP hD h dX11_netTaken_37
  · have h := h.2 c4
    refine lv_iconst (v := 0) hx hb dX11_netTaken_23 (by decide) ?_
    refine lv_goto (tgt := 37) hx hb dX11_netTaken_24 (by decide) ?_
    rw [← hQ]
    exact cRetI (v := 0) (ns_1, na_2) hx hb hr hlocks hS hP hD h dX11_netTaken_37
abbrev vsX11_isSeed : List Cond := Cond.code yX11_isSeed cX11_isSeed 1 (some .boolean) :: WS
abbrev rmX11_isSeed : Room := { frames := 0, cells := 0, slots := 0, locals := 0 }
set_option maxHeartbeats 4000000 in
set_option maxRecDepth 100000 in
theorem k_X11_isSeed (l : Launch) (D : va_G) (C : Nat → ClassId) (sz : Nat)    (p1 : Int32) {post : Int32 → Prop} (h : P_X11_isSeed p1 post) : Met l yX11_isSeed vsX11_isSeed rmX11_isSeed (cPre D C [.int p1] sz (([] : List va_W))) (cQi D (fun (r : Int32) (u : Unit) => post r ) (fun u => ([] : List va_W)) (va_A (List.flatten (([] : List va_W))) sz)) 0 0 (va_A (List.flatten (([] : List va_W))) sz) := by
  refine cStart (QA := fun A => cQi D (fun (r : Int32) (u : Unit) => post r ) (fun u => ([] : List va_W)) A) (cc := cX11_isSeed) (maxL := 1) (ret := (some .boolean)) (by decide) (Nat.le_of_ble_eq_true rfl) ?_
  intro p e s m args below meth c A ls hx hb hr hml hown hw hlocks hname hK hN hA hP hD hS hl
  generalize hQ : MQ below _ args s 0 0 A = Q
  have hl : lv_has ls 1 [(0, .int p1)] := hl
  obtain ⟨H, hH⟩ : ∃ H, H = s.heap := ⟨_, rfl⟩
  obtain ⟨locs, hlo⟩ : ∃ z : List Loc, z = [] := ⟨_, rfl⟩
  have hP : va_P D vwCl (List.flatten (([] : List va_W))) H := by rw [hH]; exact hP
  have hS : va_S A s.heap H locs := by rw [hH, hlo]; exact hS
  rw [show W p l e rmX11_isSeed s m args below meth c s.heap [] 0 0 Q (F0 m 0 ls []) = W p l e rmX11_isSeed s m args below meth c H locs 0 0 Q (F0 m 0 ls []) from by rw [hH, hlo]]
  refine lv_iload_n hx hb dX11_isSeed_0 rfl (lv_at hl 0 rfl) ?_
  refine lv_if_lt (tgt := 15) hx hb dX11_isSeed_1 (by decide) (fun c1 => ?_) (fun c1 => ?_)
  · have h := h.1 c1
    refine lv_iconst (v := 0) hx hb dX11_isSeed_15 (by decide) ?_
    rw [← hQ]
    exact cRetZ (v := 0) () hx hb hr hlocks hS hP hD (Or.inl rfl) h dX11_isSeed_16
  · have h := h.2 c1
    refine lv_iload_n hx hb dX11_isSeed_4 rfl (lv_at hl 0 rfl) ?_
    refine lv_ldcw (v := 2000000000) hx hb hown (hw _ mw_5_160) dX11_isSeed_5 ?_
    refine lv_icmp_gt (tgt := 15) hx hb dX11_isSeed_8 (by decide) (fun c2 => ?_) (fun c2 => ?_)
    · have h := h.1 c2
      refine lv_iconst (v := 0) hx hb dX11_isSeed_15 (by decide) ?_
      rw [← hQ]
      exact cRetZ (v := 0) () hx hb hr hlocks hS hP hD (Or.inl rfl) h dX11_isSeed_16
    · have h := h.2 c2
      refine lv_iconst (v := 1) hx hb dX11_isSeed_11 (by decide) ?_
      refine lv_goto (tgt := 16) hx hb dX11_isSeed_12 (by decide) ?_
      rw [← hQ]
      exact cRetZ (v := 1) () hx hb hr hlocks hS hP hD (Or.inr rfl) h dX11_isSeed_16
abbrev vsX11_run : List Cond := Cond.code yX11_run cX11_run 2 (some .int) :: WS
abbrev rmX11_run : Room := { frames := 4, cells := 0, slots := 0, locals := 98 }
set_option maxHeartbeats 4000000 in
set_option maxRecDepth 100000 in
theorem k_X11_run (l : Launch) (D : va_G) (C : Nat → ClassId) (sz : Nat) (L0 : Nat) (aU : Nat → Nat) (aR : Nat → Nat) (aR2 : Nat → Nat) (aS : Nat → Nat) (n0 : Nat) (aN : Nat → Nat) (y0 : Nat) (y1 : Nat) (y2 : Nat) (o0 : Nat) (h_images : Nat) (us : Nat → Int32) (ua : Nat → Nat → Int32) (rs : Nat → Int32) (ra : Nat → Nat → Int32) (rs2 : Nat → Int32) (ra2 : Nat → Nat → Int32) (sa : Nat → Nat → Int32) (sl : Nat → Nat → Int64) (ns : Nat → Int32) (na : Nat → Nat → Int32) (nl : Nat → Nat → Int64) (y_isThere : Int32) (y_taken : Nat → Int32) (y_took : Nat → Int32) (o_of : Nat → Int64) (p1 : Int32) {post : Int32 → (Nat → Int32) → (Nat → Nat → Int32) → (Nat → Int32) → (Nat → Nat → Int32) → Prop} (h : P_X11_run rs ra ns na p1 post) : Met l yX11_run vsX11_run rmX11_run (cPre D C [.ref L0, .int p1] sz ([cLockRail L0 (aU 0) (aR 0) (aR2 0) h_images (aS 0) n0 y0 o0 C ] ++ (wReader aU C us ua ++ (wRail aR C rs ra ++ (wRail aR2 C rs2 ra2 ++ (wSlots aS C sa sl ++ (wNight n0 aN C ns na nl ++ ([cYear y0 y1 y2 C y_isThere y_taken y_took] ++ ([cOb o0 C o_of]))))))))) (cQi D (fun (r : Int32) (u : (Nat → Int32) × (Nat → Nat → Int32) × (Nat → Int32) × (Nat → Nat → Int32)) => post r u.1 u.2.1 u.2.2.1 u.2.2.2) (fun u => [cLockRail L0 (aU 0) (aR 0) (aR2 0) h_images (aS 0) n0 y0 o0 C ] ++ (wReader aU C us ua ++ (wRail aR C u.1 u.2.1 ++ (wRail aR2 C rs2 ra2 ++ (wSlots aS C sa sl ++ (wNight n0 aN C u.2.2.1 u.2.2.2 nl ++ ([cYear y0 y1 y2 C y_isThere y_taken y_took] ++ ([cOb o0 C o_of])))))))) (va_A (List.flatten ([cLockRail L0 (aU 0) (aR 0) (aR2 0) h_images (aS 0) n0 y0 o0 C ] ++ (wReader aU C us ua ++ (wRail aR C rs ra ++ (wRail aR2 C rs2 ra2 ++ (wSlots aS C sa sl ++ (wNight n0 aN C ns na nl ++ ([cYear y0 y1 y2 C y_isThere y_taken y_took] ++ ([cOb o0 C o_of]))))))))) sz)) 0 0 (va_A (List.flatten ([cLockRail L0 (aU 0) (aR 0) (aR2 0) h_images (aS 0) n0 y0 o0 C ] ++ (wReader aU C us ua ++ (wRail aR C rs ra ++ (wRail aR2 C rs2 ra2 ++ (wSlots aS C sa sl ++ (wNight n0 aN C ns na nl ++ ([cYear y0 y1 y2 C y_isThere y_taken y_took] ++ ([cOb o0 C o_of]))))))))) sz) := by
  refine cStart (QA := fun A => cQi D (fun (r : Int32) (u : (Nat → Int32) × (Nat → Nat → Int32) × (Nat → Int32) × (Nat → Nat → Int32)) => post r u.1 u.2.1 u.2.2.1 u.2.2.2) (fun u => [cLockRail L0 (aU 0) (aR 0) (aR2 0) h_images (aS 0) n0 y0 o0 C ] ++ (wReader aU C us ua ++ (wRail aR C u.1 u.2.1 ++ (wRail aR2 C rs2 ra2 ++ (wSlots aS C sa sl ++ (wNight n0 aN C u.2.2.1 u.2.2.2 nl ++ ([cYear y0 y1 y2 C y_isThere y_taken y_took] ++ ([cOb o0 C o_of])))))))) A) (cc := cX11_run) (maxL := 2) (ret := (some .int)) (by decide) (Nat.le_of_ble_eq_true rfl) ?_
  intro p e s m args below meth c A ls hx hb hr hml hown hw hlocks hname hK hN hA hP hD hS hl
  generalize hQ : MQ below _ args s 0 0 A = Q
  have hl : lv_has ls 2 [(0, .ref L0), (1, .int p1)] := hl
  have hn325 : (Cond.fieldLinkNest "LockRail" 325 "LockRail$Rail" "year" "LLockRail$Year;" "LockRail").before args s = true := hN.f 74 rfl
  obtain ⟨H, hH⟩ : ∃ H, H = s.heap := ⟨_, rfl⟩
  obtain ⟨locs, hlo⟩ : ∃ z : List Loc, z = [] := ⟨_, rfl⟩
  have hP : va_P D vwCl (List.flatten ([cLockRail L0 (aU 0) (aR 0) (aR2 0) h_images (aS 0) n0 y0 o0 C ] ++ (wReader aU C us ua ++ (wRail aR C rs ra ++ (wRail aR2 C rs2 ra2 ++ (wSlots aS C sa sl ++ (wNight n0 aN C ns na nl ++ ([cYear y0 y1 y2 C y_isThere y_taken y_took] ++ ([cOb o0 C o_of]))))))))) H := by rw [hH]; exact hP
  have hS : va_S A s.heap H locs := by rw [hH, hlo]; exact hS
  rw [show W p l e rmX11_run s m args below meth c s.heap [] 0 0 Q (F0 m 0 ls []) = W p l e rmX11_run s m args below meth c H locs 0 0 Q (F0 m 0 ls []) from by rw [hH, hlo]]
  refine lv_aload_n hx hb dX11_run_0 rfl (lv_at hl 0 rfl) ?_
  refine va_get (D := D) (ci := 11) (v := .ref (aR 0)) (C := RX11) (T := TX11) (N := 8) hx hb hw inW_X11 hown hK hP 0 rfl rfl 1 (by decide) (hw _ mw_2_144) (fun _ h9 => h9) rfl dX11_run_1 ?_
  refine gs_I21_41 (rs_VN21_34 (As := []) (rest := []) ⟨hx, hb, hml, hown, hw⟩ hK hN hP hD (k_X4_isTold l D C _ aR  rs ra  h) ⟨va_cnB 0 hw (goodN mw_4_19) rfl rfl rfl (hN.m 44 rfl) (hw _ mw_1_4) (by decide +kernel) ⟨Nat.le_of_ble_eq_true rfl, Nat.le_of_ble_eq_true rfl⟩, hw _ mw_4_18, hw _ mw_s47⟩ rfl rfl rfl hl.1 rfl (Nat.le_of_ble_eq_true rfl) dX11_run_4 ⟨Nat.zero_le _, Nat.zero_le _⟩) hP hD hS hA (fun r1 u H locs h hP hD hS => ?_)
  have hP : va_P D vwCl (List.flatten ([cLockRail L0 (aU 0) (aR 0) (aR2 0) h_images (aS 0) n0 y0 o0 C ] ++ (wReader aU C us ua ++ (wRail aR C rs ra ++ (wRail aR2 C rs2 ra2 ++ (wSlots aS C sa sl ++ (wNight n0 aN C ns na nl ++ ([cYear y0 y1 y2 C y_isThere y_taken y_took] ++ ([cOb o0 C o_of]))))))))) H := hP
  have hD : va_D A (List.flatten ([cLockRail L0 (aU 0) (aR 0) (aR2 0) h_images (aS 0) n0 y0 o0 C ] ++ (wReader aU C us ua ++ (wRail aR C rs ra ++ (wRail aR2 C rs2 ra2 ++ (wSlots aS C sa sl ++ (wNight n0 aN C ns na nl ++ ([cYear y0 y1 y2 C y_isThere y_taken y_took] ++ ([cOb o0 C o_of]))))))))) := hD
  refine lv_if_eq (tgt := 17) hx hb dX11_run_7 (by decide) (fun c2 => ?_) (fun c2 => ?_)
  · have h := h.1 c2
    refine lv_bipush (v := (-2)) hx hb dX11_run_17 (by decide) ?_
    rw [← hQ]
    exact cRetI (v := (-2)) (rs, ra, ns, na) hx hb hr hlocks hS hP hD h dX11_run_19
  · have h := h.2 c2
    refine lv_iload_n hx hb dX11_run_10 rfl (lv_at hl 1 rfl) ?_
    refine cGoEI (cRunES (As := [.int p1]) (rest := []) ⟨hx, hb, hml, hown, hw⟩ hK hN hP hD (k_X11_isSeed l D C _    p1 h) (va_cwS 1 hw (goodS mw_5_157 mw_5_158 mw_1_1 mw_5_159) rfl rfl rfl (by decide +kernel) ⟨Nat.le_of_ble_eq_true rfl, Nat.le_of_ble_eq_true rfl⟩) rfl hl.1 rfl (Nat.le_of_ble_eq_true rfl) dX11_run_11 ⟨Nat.zero_le _, Nat.zero_le _⟩) hP hD hS hA (fun r3 u H locs h hP hD hS => ?_)
    have hP : va_P D vwCl (List.flatten ([cLockRail L0 (aU 0) (aR 0) (aR2 0) h_images (aS 0) n0 y0 o0 C ] ++ (wReader aU C us ua ++ (wRail aR C rs ra ++ (wRail aR2 C rs2 ra2 ++ (wSlots aS C sa sl ++ (wNight n0 aN C ns na nl ++ ([cYear y0 y1 y2 C y_isThere y_taken y_took] ++ ([cOb o0 C o_of]))))))))) H := hP
    have hD : va_D A (List.flatten ([cLockRail L0 (aU 0) (aR 0) (aR2 0) h_images (aS 0) n0 y0 o0 C ] ++ (wReader aU C us ua ++ (wRail aR C rs ra ++ (wRail aR2 C rs2 ra2 ++ (wSlots aS C sa sl ++ (wNight n0 aN C ns na nl ++ ([cYear y0 y1 y2 C y_isThere y_taken y_took] ++ ([cOb o0 C o_of]))))))))) := hD
    refine lv_if_ne (tgt := 20) hx hb dX11_run_14 (by decide) (fun c4 => ?_) (fun c4 => ?_)
    · have h := h.1 c4
      refine lv_aload_n hx hb dX11_run_20 rfl (lv_at hl 0 rfl) ?_
      refine va_get (D := D) (ci := 11) (v := .ref n0) (C := RX11) (T := TX11) (N := 8) hx hb hw inW_X11 hown hK hP 0 rfl rfl 5 (by decide) (hw _ mw_2_148) (fun _ h9 => h9) rfl dX11_run_21 ?_
      refine lv_aload_n hx hb dX11_run_24 rfl (lv_at hl 0 rfl) ?_
      refine va_get (D := D) (ci := 11) (v := .ref (aR 0)) (C := RX11) (T := TX11) (N := 8) hx hb hw inW_X11 hown hK hP 0 rfl rfl 1 (by decide) (hw _ mw_2_144) (fun _ h9 => h9) rfl dX11_run_25 ?_
      refine gs_V21_43 (rs_VN21_36 (As := [.ref (aR 0)]) (rest := []) ⟨hx, hb, hml, hown, hw⟩ hK hN hP hD (k_X3_lookAt l D C _ n0 aN aR  ns na nl rs ra  h) ⟨va_cnB 1 hw (goodN mw_3_219) rfl rfl rfl (hN.m 37 rfl) (hw _ mw_1_11) (by decide +kernel) ⟨Nat.le_of_ble_eq_true rfl, Nat.le_of_ble_eq_true rfl⟩, hw _ mw_3_218, hw _ mw_s40⟩ rfl rfl rfl hl.1 rfl (Nat.le_of_ble_eq_true rfl) dX11_run_28 ⟨Nat.zero_le _, Nat.zero_le _⟩) hP hD hS hA (fun u H locs h hP hD hS => ?_)
      obtain ⟨ns_5, na_6⟩ := u
      have hP : va_P D vwCl (List.flatten ([cLockRail L0 (aU 0) (aR 0) (aR2 0) h_images (aS 0) n0 y0 o0 C ] ++ (wReader aU C us ua ++ (wRail aR C rs ra ++ (wRail aR2 C rs2 ra2 ++ (wSlots aS C sa sl ++ (wNight n0 aN C ns_5 na_6 nl ++ ([cYear y0 y1 y2 C y_isThere y_taken y_took] ++ ([cOb o0 C o_of]))))))))) H := hP
      have hD : va_D A (List.flatten ([cLockRail L0 (aU 0) (aR 0) (aR2 0) h_images (aS 0) n0 y0 o0 C ] ++ (wReader aU C us ua ++ (wRail aR C rs ra ++ (wRail aR2 C rs2 ra2 ++ (wSlots aS C sa sl ++ (wNight n0 aN C ns_5 na_6 nl ++ ([cYear y0 y1 y2 C y_isThere y_taken y_took] ++ ([cOb o0 C o_of]))))))))) := hD
      refine lv_aload_n hx hb dX11_run_31 rfl (lv_at hl 0 rfl) ?_
      refine va_get (D := D) (ci := 11) (v := .ref n0) (C := RX11) (T := TX11) (N := 8) hx hb hw inW_X11 hown hK hP 0 rfl rfl 5 (by decide) (hw _ mw_2_148) (fun _ h9 => h9) rfl dX11_run_32 ?_
      refine lv_aload_n hx hb dX11_run_35 rfl (lv_at hl 0 rfl) ?_
      refine va_get (D := D) (ci := 11) (v := .ref (aR 0)) (C := RX11) (T := TX11) (N := 8) hx hb hw inW_X11 hown hK hP 0 rfl rfl 1 (by decide) (hw _ mw_2_144) (fun _ h9 => h9) rfl dX11_run_36 ?_
      refine lv_iload_n hx hb dX11_run_39 rfl (lv_at hl 1 rfl) ?_
      refine lv_aload_n hx hb dX11_run_40 rfl (lv_at hl 0 rfl) ?_
      refine va_get (D := D) (ci := 11) (v := .ref (aR 0)) (C := RX11) (T := TX11) (N := 8) hx hb hw inW_X11 hown hK hP 0 rfl rfl 1 (by decide) (hw _ mw_2_144) (fun _ h9 => h9) rfl dX11_run_41 ?_
      refine va_getN (D := D) (ci := 4) (v := .ref (aR 19)) (C := RX4) (T := TX4) (N := 16) hx hb hw inW_X4 hown hK hP 4 rfl rfl 15 (by decide) hn325 (fun _ h9 => h9) rfl dX11_run_44 ?_
      refine gs_I21_45 (rs_VN21_36 (As := [.ref (aR 0), .int p1, .ref (aR 19)]) (rest := []) ⟨hx, hb, hml, hown, hw⟩ hK hN hP hD (k_X3_drawYear_al l D C _ n0 aN aR  ns_5 na_6 nl rs ra p1 h) ⟨va_cnB 3 hw (goodN mw_5_164) rfl rfl rfl (hN.m 71 rfl) (hw _ mw_1_11) (by decide +kernel) ⟨Nat.le_of_ble_eq_true rfl, Nat.le_of_ble_eq_true rfl⟩, hw _ mw_5_163, hw _ mw_s93⟩ rfl rfl rfl hl.1 rfl (Nat.le_of_ble_eq_true rfl) dX11_run_47 ⟨Nat.zero_le _, Nat.zero_le _⟩) hP hD hS hA (fun r9 u H locs h hP hD hS => ?_)
      obtain ⟨rs_7, ra_8⟩ := u
      have hP : va_P D vwCl (List.flatten ([cLockRail L0 (aU 0) (aR 0) (aR2 0) h_images (aS 0) n0 y0 o0 C ] ++ (wReader aU C us ua ++ (wRail aR C rs_7 ra_8 ++ (wRail aR2 C rs2 ra2 ++ (wSlots aS C sa sl ++ (wNight n0 aN C ns_5 na_6 nl ++ ([cYear y0 y1 y2 C y_isThere y_taken y_took] ++ ([cOb o0 C o_of]))))))))) H := hP
      have hD : va_D A (List.flatten ([cLockRail L0 (aU 0) (aR 0) (aR2 0) h_images (aS 0) n0 y0 o0 C ] ++ (wReader aU C us ua ++ (wRail aR C rs_7 ra_8 ++ (wRail aR2 C rs2 ra2 ++ (wSlots aS C sa sl ++ (wNight n0 aN C ns_5 na_6 nl ++ ([cYear y0 y1 y2 C y_isThere y_taken y_took] ++ ([cOb o0 C o_of]))))))))) := hD
      rw [← hQ]
      exact cRetI (v := r9) (rs_7, ra_8, ns_5, na_6) hx hb hr hlocks hS hP hD h dX11_run_50
    · have h := h.2 c4
      refine lv_bipush (v := (-2)) hx hb dX11_run_17 (by decide) ?_
      rw [← hQ]
      exact cRetI (v := (-2)) (rs, ra, ns, na) hx hb hr hlocks hS hP hD h dX11_run_19
abbrev vsX11_told : List Cond := Cond.code yX11_told cX11_told 4 (some .int) :: WS
abbrev rmX11_told : Room := { frames := 4, cells := 0, slots := 0, locals := 98 }
set_option maxHeartbeats 4000000 in
set_option maxRecDepth 100000 in
theorem k_X11_told (l : Launch) (D : va_G) (C : Nat → ClassId) (sz : Nat) (L0 : Nat) (aU : Nat → Nat) (aR : Nat → Nat) (aR2 : Nat → Nat) (aS : Nat → Nat) (n0 : Nat) (aN : Nat → Nat) (y0 : Nat) (y1 : Nat) (y2 : Nat) (o0 : Nat) (h_images : Nat) (us : Nat → Int32) (ua : Nat → Nat → Int32) (rs : Nat → Int32) (ra : Nat → Nat → Int32) (rs2 : Nat → Int32) (ra2 : Nat → Nat → Int32) (sa : Nat → Nat → Int32) (sl : Nat → Nat → Int64) (ns : Nat → Int32) (na : Nat → Nat → Int32) (nl : Nat → Nat → Int64) (y_isThere : Int32) (y_taken : Nat → Int32) (y_took : Nat → Int32) (o_of : Nat → Int64) (p1 : Int32) {post : Int32 → (Nat → Int32) → (Nat → Nat → Int32) → (Nat → Int32) → (Nat → Nat → Int32) → Prop} (h : P_X11_told rs ra sa sl ns na p1 post) : Met l yX11_told vsX11_told rmX11_told (cPre D C [.ref L0, .int p1] sz ([cLockRail L0 (aU 0) (aR 0) (aR2 0) h_images (aS 0) n0 y0 o0 C ] ++ (wReader aU C us ua ++ (wRail aR C rs ra ++ (wRail aR2 C rs2 ra2 ++ (wSlots aS C sa sl ++ (wNight n0 aN C ns na nl ++ ([cYear y0 y1 y2 C y_isThere y_taken y_took] ++ ([cOb o0 C o_of]))))))))) (cQi D (fun (r : Int32) (u : (Nat → Int32) × (Nat → Nat → Int32) × (Nat → Int32) × (Nat → Nat → Int32)) => post r u.1 u.2.1 u.2.2.1 u.2.2.2) (fun u => [cLockRail L0 (aU 0) (aR 0) (aR2 0) h_images (aS 0) n0 y0 o0 C ] ++ (wReader aU C us ua ++ (wRail aR C u.1 u.2.1 ++ (wRail aR2 C rs2 ra2 ++ (wSlots aS C sa sl ++ (wNight n0 aN C u.2.2.1 u.2.2.2 nl ++ ([cYear y0 y1 y2 C y_isThere y_taken y_took] ++ ([cOb o0 C o_of])))))))) (va_A (List.flatten ([cLockRail L0 (aU 0) (aR 0) (aR2 0) h_images (aS 0) n0 y0 o0 C ] ++ (wReader aU C us ua ++ (wRail aR C rs ra ++ (wRail aR2 C rs2 ra2 ++ (wSlots aS C sa sl ++ (wNight n0 aN C ns na nl ++ ([cYear y0 y1 y2 C y_isThere y_taken y_took] ++ ([cOb o0 C o_of]))))))))) sz)) 0 0 (va_A (List.flatten ([cLockRail L0 (aU 0) (aR 0) (aR2 0) h_images (aS 0) n0 y0 o0 C ] ++ (wReader aU C us ua ++ (wRail aR C rs ra ++ (wRail aR2 C rs2 ra2 ++ (wSlots aS C sa sl ++ (wNight n0 aN C ns na nl ++ ([cYear y0 y1 y2 C y_isThere y_taken y_took] ++ ([cOb o0 C o_of]))))))))) sz) := by
  refine cStart (QA := fun A => cQi D (fun (r : Int32) (u : (Nat → Int32) × (Nat → Nat → Int32) × (Nat → Int32) × (Nat → Nat → Int32)) => post r u.1 u.2.1 u.2.2.1 u.2.2.2) (fun u => [cLockRail L0 (aU 0) (aR 0) (aR2 0) h_images (aS 0) n0 y0 o0 C ] ++ (wReader aU C us ua ++ (wRail aR C u.1 u.2.1 ++ (wRail aR2 C rs2 ra2 ++ (wSlots aS C sa sl ++ (wNight n0 aN C u.2.2.1 u.2.2.2 nl ++ ([cYear y0 y1 y2 C y_isThere y_taken y_took] ++ ([cOb o0 C o_of])))))))) A) (cc := cX11_told) (maxL := 4) (ret := (some .int)) (by decide) (Nat.le_of_ble_eq_true rfl) ?_
  intro p e s m args below meth c A ls hx hb hr hml hown hw hlocks hname hK hN hA hP hD hS hl
  generalize hQ : MQ below _ args s 0 0 A = Q
  have hl : lv_has ls 4 [(0, .ref L0), (1, .int p1)] := hl
  have hn279 : (Cond.fieldLinkNest "LockRail" 279 "LockRail$Rail" "thieves" "LLockRail$Thieves;" "LockRail").before args s = true := hN.f 64 rfl
  have hn283 : (Cond.fieldLinkNest "LockRail" 283 "LockRail$Thieves" "count" "I" "LockRail").before args s = true := hN.f 35 rfl
  have hn325 : (Cond.fieldLinkNest "LockRail" 325 "LockRail$Rail" "year" "LLockRail$Year;" "LockRail").before args s = true := hN.f 74 rfl
  have hn338 : (Cond.fieldLinkNest "LockRail" 338 "LockRail$Rail" "nights" "I" "LockRail").before args s = true := hN.f 52 rfl
  obtain ⟨H, hH⟩ : ∃ H, H = s.heap := ⟨_, rfl⟩
  obtain ⟨locs, hlo⟩ : ∃ z : List Loc, z = [] := ⟨_, rfl⟩
  have hP : va_P D vwCl (List.flatten ([cLockRail L0 (aU 0) (aR 0) (aR2 0) h_images (aS 0) n0 y0 o0 C ] ++ (wReader aU C us ua ++ (wRail aR C rs ra ++ (wRail aR2 C rs2 ra2 ++ (wSlots aS C sa sl ++ (wNight n0 aN C ns na nl ++ ([cYear y0 y1 y2 C y_isThere y_taken y_took] ++ ([cOb o0 C o_of]))))))))) H := by rw [hH]; exact hP
  have hS : va_S A s.heap H locs := by rw [hH, hlo]; exact hS
  rw [show W p l e rmX11_told s m args below meth c s.heap [] 0 0 Q (F0 m 0 ls []) = W p l e rmX11_told s m args below meth c H locs 0 0 Q (F0 m 0 ls []) from by rw [hH, hlo]]
  have N94 : ∀ (rs : Nat → Int32) (ns : Nat → Int32) (na : Nat → Nat → Int32) (n94 : Nat) (x2_ : Int32) (x3_ : Int32) (ra : Nat → Nat → Int32) (H : Heap) (locs : List Loc) (ls : Array Slot), P_X11_told_94 sa sl p1 post  rs ns na n94 x2_ x3_ ra → va_P D vwCl (List.flatten ([cLockRail L0 (aU 0) (aR 0) (aR2 0) h_images (aS 0) n0 y0 o0 C ] ++ (wReader aU C us ua ++ (wRail aR C rs ra ++ (wRail aR2 C rs2 ra2 ++ (wSlots aS C sa sl ++ (wNight n0 aN C ns na nl ++ ([cYear y0 y1 y2 C y_isThere y_taken y_took] ++ ([cOb o0 C o_of]))))))))) H → va_D A (List.flatten ([cLockRail L0 (aU 0) (aR 0) (aR2 0) h_images (aS 0) n0 y0 o0 C ] ++ (wReader aU C us ua ++ (wRail aR C rs ra ++ (wRail aR2 C rs2 ra2 ++ (wSlots aS C sa sl ++ (wNight n0 aN C ns na nl ++ ([cYear y0 y1 y2 C y_isThere y_taken y_took] ++ ([cOb o0 C o_of]))))))))) → va_S A s.heap H locs → lv_has ls 4 [(0, .ref L0), (1, .int p1), (2, .int x2_), (3, .int x3_)] → W p l e rmX11_told s m args below meth c H locs 0 0 Q (F0 m 94 ls []) := by
    intro rs ns na
    intro n94
    induction n94 with
    | zero => intro x2_ x3_ ra H locs ls h hP hD hS hl; exact False.elim h
    | succ n94 ih94 =>
      intro x2_ x3_ ra H locs ls h hP hD hS hl
      have h : P_X11_told_94_b sa sl p1 post  rs ns na (P_X11_told_94 sa sl p1 post  rs ns na n94) x2_ x3_ ra := h
      unfold P_X11_told_94_b at h
      refine lv_iload_n hx hb dX11_told_94 rfl (lv_at hl 3 rfl) ?_
      refine lv_aload_n hx hb dX11_told_95 rfl (lv_at hl 0 rfl) ?_
      refine va_get (D := D) (ci := 11) (v := .ref (aS 0)) (C := RX11) (T := TX11) (N := 8) hx hb hw inW_X11 hown hK hP 0 rfl rfl 4 (by decide) (hw _ mw_2_147) (fun _ h9 => h9) rfl dX11_told_96 ?_
      refine lv_iload_n hx hb dX11_told_99 rfl (lv_at hl 1 rfl) ?_
      refine gs_I21_84 (rs_VN21_63 (As := [.int p1]) (rest := [.int x3_]) ⟨hx, hb, hml, hown, hw⟩ hK hN hP hD (k_X6_sizeOf l D C _ aS  sa sl p1 h) ⟨va_cnB 1 hw (goodN mw_5_201) rfl rfl rfl (hN.m 77 rfl) (hw _ mw_1_10) (by decide +kernel) ⟨Nat.le_of_ble_eq_true rfl, Nat.le_of_ble_eq_true rfl⟩, hw _ mw_5_200, hw _ mw_s100⟩ rfl rfl rfl hl.1 rfl (Nat.le_of_ble_eq_true rfl) dX11_told_100 ⟨Nat.zero_le _, Nat.zero_le _⟩) hP hD hS hA (fun r1 u H locs h hP hD hS => ?_)
      have hP : va_P D vwCl (List.flatten ([cLockRail L0 (aU 0) (aR 0) (aR2 0) h_images (aS 0) n0 y0 o0 C ] ++ (wReader aU C us ua ++ (wRail aR C rs ra ++ (wRail aR2 C rs2 ra2 ++ (wSlots aS C sa sl ++ (wNight n0 aN C ns na nl ++ ([cYear y0 y1 y2 C y_isThere y_taken y_took] ++ ([cOb o0 C o_of]))))))))) H := hP
      have hD : va_D A (List.flatten ([cLockRail L0 (aU 0) (aR 0) (aR2 0) h_images (aS 0) n0 y0 o0 C ] ++ (wReader aU C us ua ++ (wRail aR C rs ra ++ (wRail aR2 C rs2 ra2 ++ (wSlots aS C sa sl ++ (wNight n0 aN C ns na nl ++ ([cYear y0 y1 y2 C y_isThere y_taken y_took] ++ ([cOb o0 C o_of]))))))))) := hD
      refine lv_icmp_ge (tgt := 149) hx hb dX11_told_103 (by decide) (fun c2 => ?_) (fun c2 => ?_)
      · have h := h.1 c2
        refine lv_iload_n hx hb dX11_told_149 rfl (lv_at hl 2 rfl) ?_
        rw [← hQ]
        exact cRetI (v := x2_) (rs, ra, ns, na) hx hb hr hlocks hS hP hD h dX11_told_150
      · have h := h.2 c2
        refine lv_iload_n hx hb dX11_told_106 rfl (lv_at hl 2 rfl) ?_
        refine lv_aload_n hx hb dX11_told_107 rfl (lv_at hl 0 rfl) ?_
        refine va_get (D := D) (ci := 11) (v := .ref n0) (C := RX11) (T := TX11) (N := 8) hx hb hw inW_X11 hown hK hP 0 rfl rfl 5 (by decide) (hw _ mw_2_148) (fun _ h9 => h9) rfl dX11_told_108 ?_
        refine lv_aload_n hx hb dX11_told_111 rfl (lv_at hl 0 rfl) ?_
        refine va_get (D := D) (ci := 11) (v := .ref (aS 0)) (C := RX11) (T := TX11) (N := 8) hx hb hw inW_X11 hown hK hP 0 rfl rfl 4 (by decide) (hw _ mw_2_147) (fun _ h9 => h9) rfl dX11_told_112 ?_
        refine lv_iload_n hx hb dX11_told_115 rfl (lv_at hl 1 rfl) ?_
        refine lv_iload_n hx hb dX11_told_116 rfl (lv_at hl 3 rfl) ?_
        refine gs_L21_85 (rs_VN21_63 (As := [.int p1, .int x3_]) (rest := [.ref n0, .int x2_]) ⟨hx, hb, hml, hown, hw⟩ hK hN hP hD (k_X6_numberAt l D C _ aS  sa sl p1 x3_ h) ⟨va_cnB 2 hw (goodN mw_5_196) rfl rfl rfl (hN.m 78 rfl) (hw _ mw_1_10) (by decide +kernel) ⟨Nat.le_of_ble_eq_true rfl, Nat.le_of_ble_eq_true rfl⟩, hw _ mw_5_195, hw _ mw_s99⟩ rfl rfl rfl hl.1 rfl (Nat.le_of_ble_eq_true rfl) dX11_told_117 ⟨Nat.zero_le _, Nat.zero_le _⟩) hP hD hS hA (fun r3 u H locs h hP hD hS => ?_)
        have hP : va_P D vwCl (List.flatten ([cLockRail L0 (aU 0) (aR 0) (aR2 0) h_images (aS 0) n0 y0 o0 C ] ++ (wReader aU C us ua ++ (wRail aR C rs ra ++ (wRail aR2 C rs2 ra2 ++ (wSlots aS C sa sl ++ (wNight n0 aN C ns na nl ++ ([cYear y0 y1 y2 C y_isThere y_taken y_took] ++ ([cOb o0 C o_of]))))))))) H := hP
        have hD : va_D A (List.flatten ([cLockRail L0 (aU 0) (aR 0) (aR2 0) h_images (aS 0) n0 y0 o0 C ] ++ (wReader aU C us ua ++ (wRail aR C rs ra ++ (wRail aR2 C rs2 ra2 ++ (wSlots aS C sa sl ++ (wNight n0 aN C ns na nl ++ ([cYear y0 y1 y2 C y_isThere y_taken y_took] ++ ([cOb o0 C o_of]))))))))) := hD
        refine lv_l2i hx hb dX11_told_120 rfl ?_
        refine lv_aload_n hx hb dX11_told_121 rfl (lv_at hl 0 rfl) ?_
        refine va_get (D := D) (ci := 11) (v := .ref (aR 0)) (C := RX11) (T := TX11) (N := 8) hx hb hw inW_X11 hown hK hP 0 rfl rfl 1 (by decide) (hw _ mw_2_144) (fun _ h9 => h9) rfl dX11_told_122 ?_
        refine va_getN (D := D) (ci := 4) (v := .ref (aR 13)) (C := RX4) (T := TX4) (N := 16) hx hb hw inW_X4 hown hK hP 4 rfl rfl 6 (by decide) hn279 (fun _ h9 => h9) rfl dX11_told_125 ?_
        refine va_getN (D := D) (ci := 9) (v := .int (rs 14)) (C := RX9) (T := TX9) (N := 6) hx hb hw inW_X9 hown hK hP 17 rfl rfl 0 (by decide) hn283 (fun _ h9 => h9) rfl dX11_told_128 ?_
        refine lv_aload_n hx hb dX11_told_131 rfl (lv_at hl 0 rfl) ?_
        refine va_get (D := D) (ci := 11) (v := .ref (aR 0)) (C := RX11) (T := TX11) (N := 8) hx hb hw inW_X11 hown hK hP 0 rfl rfl 1 (by decide) (hw _ mw_2_144) (fun _ h9 => h9) rfl dX11_told_132 ?_
        refine va_getN (D := D) (ci := 4) (v := .ref (aR 19)) (C := RX4) (T := TX4) (N := 16) hx hb hw inW_X4 hown hK hP 4 rfl rfl 15 (by decide) hn325 (fun _ h9 => h9) rfl dX11_told_135 ?_
        refine gs_I21_86 (rs_VN21_64 (As := [.int r3.toInt32, .int (rs 14), .ref (aR 19)]) (rest := [.int x2_]) ⟨hx, hb, hml, hown, hw⟩ hK hN hP hD (k_X3_letAllCome l D C _ n0 aN (aR 19) (aR 20) (aR 21)  ns na nl (rs 15) (ra 14) (ra 15) r3.toInt32 (rs 14) h) ⟨va_cnB 3 hw (goodN mw_5_176) rfl rfl rfl (hN.m 79 rfl) (hw _ mw_1_11) (by decide +kernel) ⟨Nat.le_of_ble_eq_true rfl, Nat.le_of_ble_eq_true rfl⟩, hw _ mw_5_175, hw _ mw_s95⟩ rfl rfl rfl hl.1 rfl (Nat.le_of_ble_eq_true rfl) dX11_told_138 ⟨Nat.zero_le _, Nat.zero_le _⟩) hP hD hS hA (fun r6 u H locs h hP hD hS => ?_)
        obtain ⟨tak_4, too_5⟩ := u
        have hP : va_P D vwCl (List.flatten ([cLockRail L0 (aU 0) (aR 0) (aR2 0) h_images (aS 0) n0 y0 o0 C ] ++ (wReader aU C us ua ++ (wRail aR C rs (va_up (va_up ra 14 tak_4) 15 too_5) ++ (wRail aR2 C rs2 ra2 ++ (wSlots aS C sa sl ++ (wNight n0 aN C ns na nl ++ ([cYear y0 y1 y2 C y_isThere y_taken y_took] ++ ([cOb o0 C o_of]))))))))) H := hP
        have hD : va_D A (List.flatten ([cLockRail L0 (aU 0) (aR 0) (aR2 0) h_images (aS 0) n0 y0 o0 C ] ++ (wReader aU C us ua ++ (wRail aR C rs (va_up (va_up ra 14 tak_4) 15 too_5) ++ (wRail aR2 C rs2 ra2 ++ (wSlots aS C sa sl ++ (wNight n0 aN C ns na nl ++ ([cYear y0 y1 y2 C y_isThere y_taken y_took] ++ ([cOb o0 C o_of]))))))))) := hD
        refine lv_iadd hx hb dX11_told_141 ?_
        refine lv_topi (fun x7 ex7 => ?_)
        have h := h x7 ex7
        refine lv_istore_n (lv' := [(2, .int x7), (0, .ref L0), (1, .int p1), (3, .int x3_)]) hx hb dX11_told_142 rfl hl (by decide) rfl (fun ls hl => ?_)
        refine lv_iinc (v := (x3_ + 1)) (lv' := [(3, .int (x3_ + 1)), (2, .int x7), (0, .ref L0), (1, .int p1)]) hx hb dX11_told_143 hl (k := 3) rfl rfl (by decide) rfl (fun ls hl => ?_)
        refine lv_goto (tgt := 94) hx hb dX11_told_146 (by decide) ?_
        exact ih94 x7 (x3_ + 1) (va_up (va_up ra 14 tak_4) 15 too_5) _ _ _ h hP hD hS (lv_sub hl [2, 3, 1, 0] rfl)
  refine lv_aload_n hx hb dX11_told_0 rfl (lv_at hl 0 rfl) ?_
  refine va_get (D := D) (ci := 11) (v := .ref (aR 0)) (C := RX11) (T := TX11) (N := 8) hx hb hw inW_X11 hown hK hP 0 rfl rfl 1 (by decide) (hw _ mw_2_144) (fun _ h9 => h9) rfl dX11_told_1 ?_
  refine gs_I21_41 (rs_VN21_34 (As := []) (rest := []) ⟨hx, hb, hml, hown, hw⟩ hK hN hP hD (k_X4_isTold l D C _ aR  rs ra  h) ⟨va_cnB 0 hw (goodN mw_4_19) rfl rfl rfl (hN.m 44 rfl) (hw _ mw_1_4) (by decide +kernel) ⟨Nat.le_of_ble_eq_true rfl, Nat.le_of_ble_eq_true rfl⟩, hw _ mw_4_18, hw _ mw_s47⟩ rfl rfl rfl hl.1 rfl (Nat.le_of_ble_eq_true rfl) dX11_told_4 ⟨Nat.zero_le _, Nat.zero_le _⟩) hP hD hS hA (fun r8 u H locs h hP hD hS => ?_)
  have hP : va_P D vwCl (List.flatten ([cLockRail L0 (aU 0) (aR 0) (aR2 0) h_images (aS 0) n0 y0 o0 C ] ++ (wReader aU C us ua ++ (wRail aR C rs ra ++ (wRail aR2 C rs2 ra2 ++ (wSlots aS C sa sl ++ (wNight n0 aN C ns na nl ++ ([cYear y0 y1 y2 C y_isThere y_taken y_took] ++ ([cOb o0 C o_of]))))))))) H := hP
  have hD : va_D A (List.flatten ([cLockRail L0 (aU 0) (aR 0) (aR2 0) h_images (aS 0) n0 y0 o0 C ] ++ (wReader aU C us ua ++ (wRail aR C rs ra ++ (wRail aR2 C rs2 ra2 ++ (wSlots aS C sa sl ++ (wNight n0 aN C ns na nl ++ ([cYear y0 y1 y2 C y_isThere y_taken y_took] ++ ([cOb o0 C o_of]))))))))) := hD
  refine lv_if_eq (tgt := 21) hx hb dX11_told_7 (by decide) (fun c9 => ?_) (fun c9 => ?_)
  · have h := h.1 c9
    refine lv_bipush (v := (-2)) hx hb dX11_told_21 (by decide) ?_
    rw [← hQ]
    exact cRetI (v := (-2)) (rs, ra, ns, na) hx hb hr hlocks hS hP hD h dX11_told_23
  · have h := h.2 c9
    refine lv_aload_n hx hb dX11_told_10 rfl (lv_at hl 0 rfl) ?_
    refine va_get (D := D) (ci := 11) (v := .ref (aS 0)) (C := RX11) (T := TX11) (N := 8) hx hb hw inW_X11 hown hK hP 0 rfl rfl 4 (by decide) (hw _ mw_2_147) (fun _ h9 => h9) rfl dX11_told_11 ?_
    refine lv_iload_n hx hb dX11_told_14 rfl (lv_at hl 1 rfl) ?_
    refine gs_I21_84 (rs_VN21_63 (As := [.int p1]) (rest := []) ⟨hx, hb, hml, hown, hw⟩ hK hN hP hD (k_X6_isSlot l D C _ aS  sa sl p1 h) ⟨va_cnB 1 hw (goodN mw_5_184) rfl rfl rfl (hN.m 73 rfl) (hw _ mw_1_10) (by decide +kernel) ⟨Nat.le_of_ble_eq_true rfl, Nat.le_of_ble_eq_true rfl⟩, hw _ mw_5_183, hw _ mw_s96⟩ rfl rfl rfl hl.1 rfl (Nat.le_of_ble_eq_true rfl) dX11_told_15 ⟨Nat.zero_le _, Nat.zero_le _⟩) hP hD hS hA (fun r10 u H locs h hP hD hS => ?_)
    have hP : va_P D vwCl (List.flatten ([cLockRail L0 (aU 0) (aR 0) (aR2 0) h_images (aS 0) n0 y0 o0 C ] ++ (wReader aU C us ua ++ (wRail aR C rs ra ++ (wRail aR2 C rs2 ra2 ++ (wSlots aS C sa sl ++ (wNight n0 aN C ns na nl ++ ([cYear y0 y1 y2 C y_isThere y_taken y_took] ++ ([cOb o0 C o_of]))))))))) H := hP
    have hD : va_D A (List.flatten ([cLockRail L0 (aU 0) (aR 0) (aR2 0) h_images (aS 0) n0 y0 o0 C ] ++ (wReader aU C us ua ++ (wRail aR C rs ra ++ (wRail aR2 C rs2 ra2 ++ (wSlots aS C sa sl ++ (wNight n0 aN C ns na nl ++ ([cYear y0 y1 y2 C y_isThere y_taken y_took] ++ ([cOb o0 C o_of]))))))))) := hD
    refine lv_if_ne (tgt := 24) hx hb dX11_told_18 (by decide) (fun c11 => ?_) (fun c11 => ?_)
    · have h := h.1 c11
      refine lv_aload_n hx hb dX11_told_24 rfl (lv_at hl 0 rfl) ?_
      refine va_get (D := D) (ci := 11) (v := .ref (aS 0)) (C := RX11) (T := TX11) (N := 8) hx hb hw inW_X11 hown hK hP 0 rfl rfl 4 (by decide) (hw _ mw_2_147) (fun _ h9 => h9) rfl dX11_told_25 ?_
      refine lv_iload_n hx hb dX11_told_28 rfl (lv_at hl 1 rfl) ?_
      refine gs_I21_84 (rs_VN21_63 (As := [.int p1]) (rest := []) ⟨hx, hb, hml, hown, hw⟩ hK hN hP hD (k_X6_hasRow l D C _ aS  sa sl p1 h) ⟨va_cnB 1 hw (goodN mw_5_188) rfl rfl rfl (hN.m 74 rfl) (hw _ mw_1_10) (by decide +kernel) ⟨Nat.le_of_ble_eq_true rfl, Nat.le_of_ble_eq_true rfl⟩, hw _ mw_5_187, hw _ mw_s97⟩ rfl rfl rfl hl.1 rfl (Nat.le_of_ble_eq_true rfl) dX11_told_29 ⟨Nat.zero_le _, Nat.zero_le _⟩) hP hD hS hA (fun r12 u H locs h hP hD hS => ?_)
      have hP : va_P D vwCl (List.flatten ([cLockRail L0 (aU 0) (aR 0) (aR2 0) h_images (aS 0) n0 y0 o0 C ] ++ (wReader aU C us ua ++ (wRail aR C rs ra ++ (wRail aR2 C rs2 ra2 ++ (wSlots aS C sa sl ++ (wNight n0 aN C ns na nl ++ ([cYear y0 y1 y2 C y_isThere y_taken y_took] ++ ([cOb o0 C o_of]))))))))) H := hP
      have hD : va_D A (List.flatten ([cLockRail L0 (aU 0) (aR 0) (aR2 0) h_images (aS 0) n0 y0 o0 C ] ++ (wReader aU C us ua ++ (wRail aR C rs ra ++ (wRail aR2 C rs2 ra2 ++ (wSlots aS C sa sl ++ (wNight n0 aN C ns na nl ++ ([cYear y0 y1 y2 C y_isThere y_taken y_took] ++ ([cOb o0 C o_of]))))))))) := hD
      refine lv_if_ne (tgt := 38) hx hb dX11_told_32 (by decide) (fun c13 => ?_) (fun c13 => ?_)
      · have h := h.1 c13
        refine lv_aload_n hx hb dX11_told_38 rfl (lv_at hl 0 rfl) ?_
        refine va_get (D := D) (ci := 11) (v := .ref (aS 0)) (C := RX11) (T := TX11) (N := 8) hx hb hw inW_X11 hown hK hP 0 rfl rfl 4 (by decide) (hw _ mw_2_147) (fun _ h9 => h9) rfl dX11_told_39 ?_
        refine lv_iload_n hx hb dX11_told_42 rfl (lv_at hl 1 rfl) ?_
        refine lv_aload_n hx hb dX11_told_43 rfl (lv_at hl 0 rfl) ?_
        refine va_get (D := D) (ci := 11) (v := .ref (aR 0)) (C := RX11) (T := TX11) (N := 8) hx hb hw inW_X11 hown hK hP 0 rfl rfl 1 (by decide) (hw _ mw_2_144) (fun _ h9 => h9) rfl dX11_told_44 ?_
        refine va_getN (D := D) (ci := 4) (v := .int (rs 1)) (C := RX4) (T := TX4) (N := 16) hx hb hw inW_X4 hown hK hP 4 rfl rfl 1 (by decide) hn338 (fun _ h9 => h9) rfl dX11_told_47 ?_
        refine lv_aload_n hx hb dX11_told_50 rfl (lv_at hl 0 rfl) ?_
        refine va_get (D := D) (ci := 11) (v := .ref (aR 0)) (C := RX11) (T := TX11) (N := 8) hx hb hw inW_X11 hown hK hP 0 rfl rfl 1 (by decide) (hw _ mw_2_144) (fun _ h9 => h9) rfl dX11_told_51 ?_
        refine va_getN (D := D) (ci := 4) (v := .ref (aR 13)) (C := RX4) (T := TX4) (N := 16) hx hb hw inW_X4 hown hK hP 4 rfl rfl 6 (by decide) hn279 (fun _ h9 => h9) rfl dX11_told_54 ?_
        refine va_getN (D := D) (ci := 9) (v := .int (rs 14)) (C := RX9) (T := TX9) (N := 6) hx hb hw inW_X9 hown hK hP 17 rfl rfl 0 (by decide) hn283 (fun _ h9 => h9) rfl dX11_told_57 ?_
        refine gs_I21_84 (rs_VN21_63 (As := [.int p1, .int (rs 1), .int (rs 14)]) (rest := []) ⟨hx, hb, hml, hown, hw⟩ hK hN hP hD (k_X6_tellsNights l D C _ aS  sa sl p1 (rs 1) (rs 14) h) ⟨va_cnB 3 hw (goodN mw_5_192) rfl rfl rfl (hN.m 75 rfl) (hw _ mw_1_10) (by decide +kernel) ⟨Nat.le_of_ble_eq_true rfl, Nat.le_of_ble_eq_true rfl⟩, hw _ mw_5_191, hw _ mw_s98⟩ rfl rfl rfl hl.1 rfl (Nat.le_of_ble_eq_true rfl) dX11_told_60 ⟨Nat.zero_le _, Nat.zero_le _⟩) hP hD hS hA (fun r14 u H locs h hP hD hS => ?_)
        have hP : va_P D vwCl (List.flatten ([cLockRail L0 (aU 0) (aR 0) (aR2 0) h_images (aS 0) n0 y0 o0 C ] ++ (wReader aU C us ua ++ (wRail aR C rs ra ++ (wRail aR2 C rs2 ra2 ++ (wSlots aS C sa sl ++ (wNight n0 aN C ns na nl ++ ([cYear y0 y1 y2 C y_isThere y_taken y_took] ++ ([cOb o0 C o_of]))))))))) H := hP
        have hD : va_D A (List.flatten ([cLockRail L0 (aU 0) (aR 0) (aR2 0) h_images (aS 0) n0 y0 o0 C ] ++ (wReader aU C us ua ++ (wRail aR C rs ra ++ (wRail aR2 C rs2 ra2 ++ (wSlots aS C sa sl ++ (wNight n0 aN C ns na nl ++ ([cYear y0 y1 y2 C y_isThere y_taken y_took] ++ ([cOb o0 C o_of]))))))))) := hD
        refine lv_if_ne (tgt := 69) hx hb dX11_told_63 (by decide) (fun c15 => ?_) (fun c15 => ?_)
        · have h := h.1 c15
          refine lv_aload_n hx hb dX11_told_69 rfl (lv_at hl 0 rfl) ?_
          refine va_get (D := D) (ci := 11) (v := .ref n0) (C := RX11) (T := TX11) (N := 8) hx hb hw inW_X11 hown hK hP 0 rfl rfl 5 (by decide) (hw _ mw_2_148) (fun _ h9 => h9) rfl dX11_told_70 ?_
          refine lv_aload_n hx hb dX11_told_73 rfl (lv_at hl 0 rfl) ?_
          refine va_get (D := D) (ci := 11) (v := .ref (aR 0)) (C := RX11) (T := TX11) (N := 8) hx hb hw inW_X11 hown hK hP 0 rfl rfl 1 (by decide) (hw _ mw_2_144) (fun _ h9 => h9) rfl dX11_told_74 ?_
          refine gs_V21_43 (rs_VN21_36 (As := [.ref (aR 0)]) (rest := []) ⟨hx, hb, hml, hown, hw⟩ hK hN hP hD (k_X3_lookAt l D C _ n0 aN aR  ns na nl rs ra  h) ⟨va_cnB 1 hw (goodN mw_3_219) rfl rfl rfl (hN.m 37 rfl) (hw _ mw_1_11) (by decide +kernel) ⟨Nat.le_of_ble_eq_true rfl, Nat.le_of_ble_eq_true rfl⟩, hw _ mw_3_218, hw _ mw_s40⟩ rfl rfl rfl hl.1 rfl (Nat.le_of_ble_eq_true rfl) dX11_told_77 ⟨Nat.zero_le _, Nat.zero_le _⟩) hP hD hS hA (fun u H locs h hP hD hS => ?_)
          obtain ⟨ns_16, na_17⟩ := u
          have hP : va_P D vwCl (List.flatten ([cLockRail L0 (aU 0) (aR 0) (aR2 0) h_images (aS 0) n0 y0 o0 C ] ++ (wReader aU C us ua ++ (wRail aR C rs ra ++ (wRail aR2 C rs2 ra2 ++ (wSlots aS C sa sl ++ (wNight n0 aN C ns_16 na_17 nl ++ ([cYear y0 y1 y2 C y_isThere y_taken y_took] ++ ([cOb o0 C o_of]))))))))) H := hP
          have hD : va_D A (List.flatten ([cLockRail L0 (aU 0) (aR 0) (aR2 0) h_images (aS 0) n0 y0 o0 C ] ++ (wReader aU C us ua ++ (wRail aR C rs ra ++ (wRail aR2 C rs2 ra2 ++ (wSlots aS C sa sl ++ (wNight n0 aN C ns_16 na_17 nl ++ ([cYear y0 y1 y2 C y_isThere y_taken y_took] ++ ([cOb o0 C o_of]))))))))) := hD
          refine lv_aload_n hx hb dX11_told_80 rfl (lv_at hl 0 rfl) ?_
          refine va_get (D := D) (ci := 11) (v := .ref (aR 0)) (C := RX11) (T := TX11) (N := 8) hx hb hw inW_X11 hown hK hP 0 rfl rfl 1 (by decide) (hw _ mw_2_144) (fun _ h9 => h9) rfl dX11_told_81 ?_
          refine va_getN (D := D) (ci := 4) (v := .ref (aR 19)) (C := RX4) (T := TX4) (N := 16) hx hb hw inW_X4 hown hK hP 4 rfl rfl 15 (by decide) hn325 (fun _ h9 => h9) rfl dX11_told_84 ?_
          refine gs_V21_87 (rs_VN21_65 (As := []) (rest := []) ⟨hx, hb, hml, hown, hw⟩ hK hN hP hD (k_X10_begin l D C _ (aR 19) (aR 20) (aR 21)  (rs 15) (ra 14) (ra 15)  h) ⟨va_cnB 0 hw (goodN mw_5_168) rfl rfl rfl (hN.m 76 rfl) (hw _ mw_1_9) (by decide +kernel) ⟨Nat.le_of_ble_eq_true rfl, Nat.le_of_ble_eq_true rfl⟩, hw _ mw_5_167, hw _ mw_s94⟩ rfl rfl rfl hl.1 rfl (Nat.le_of_ble_eq_true rfl) dX11_told_87 ⟨Nat.zero_le _, Nat.zero_le _⟩) hP hD hS hA (fun u H locs h hP hD hS => ?_)
          obtain ⟨isT_18, tak_19, too_20⟩ := u
          have hP : va_P D vwCl (List.flatten ([cLockRail L0 (aU 0) (aR 0) (aR2 0) h_images (aS 0) n0 y0 o0 C ] ++ (wReader aU C us ua ++ (wRail aR C (va_up rs 15 isT_18) (va_up (va_up ra 14 tak_19) 15 too_20) ++ (wRail aR2 C rs2 ra2 ++ (wSlots aS C sa sl ++ (wNight n0 aN C ns_16 na_17 nl ++ ([cYear y0 y1 y2 C y_isThere y_taken y_took] ++ ([cOb o0 C o_of]))))))))) H := hP
          have hD : va_D A (List.flatten ([cLockRail L0 (aU 0) (aR 0) (aR2 0) h_images (aS 0) n0 y0 o0 C ] ++ (wReader aU C us ua ++ (wRail aR C (va_up rs 15 isT_18) (va_up (va_up ra 14 tak_19) 15 too_20) ++ (wRail aR2 C rs2 ra2 ++ (wSlots aS C sa sl ++ (wNight n0 aN C ns_16 na_17 nl ++ ([cYear y0 y1 y2 C y_isThere y_taken y_took] ++ ([cOb o0 C o_of]))))))))) := hD
          refine lv_iconst (v := 0) hx hb dX11_told_90 (by decide) ?_
          refine lv_istore_n (lv' := [(2, .int 0), (0, .ref L0), (1, .int p1)]) hx hb dX11_told_91 rfl hl (by decide) rfl (fun ls hl => ?_)
          refine lv_iconst (v := 0) hx hb dX11_told_92 (by decide) ?_
          refine lv_istore_n (lv' := [(3, .int 0), (2, .int 0), (0, .ref L0), (1, .int p1)]) hx hb dX11_told_93 rfl hl (by decide) rfl (fun ls hl => ?_)
          obtain ⟨n, h⟩ := h
          exact N94 (va_up rs 15 isT_18) ns_16 na_17 n 0 0 (va_up (va_up ra 14 tak_19) 15 too_20) _ _ _ h hP hD hS (lv_sub hl [2, 3, 1, 0] rfl)
        · have h := h.2 c15
          refine lv_bipush (v := (-2)) hx hb dX11_told_66 (by decide) ?_
          rw [← hQ]
          exact cRetI (v := (-2)) (rs, ra, ns, na) hx hb hr hlocks hS hP hD h dX11_told_68
      · have h := h.2 c13
        refine lv_bipush (v := (-6)) hx hb dX11_told_35 (by decide) ?_
        rw [← hQ]
        exact cRetI (v := (-6)) (rs, ra, ns, na) hx hb hr hlocks hS hP hD h dX11_told_37
    · have h := h.2 c11
      refine lv_bipush (v := (-2)) hx hb dX11_told_21 (by decide) ?_
      rw [← hQ]
      exact cRetI (v := (-2)) (rs, ra, ns, na) hx hb hr hlocks hS hP hD h dX11_told_23
abbrev vsX11_taken : List Cond := Cond.code yX11_taken cX11_taken 2 (some .int) :: WS
abbrev rmX11_taken : Room := { frames := 1, cells := 0, slots := 0, locals := 21 }
set_option maxHeartbeats 4000000 in
set_option maxRecDepth 100000 in
theorem k_X11_taken (l : Launch) (D : va_G) (C : Nat → ClassId) (sz : Nat) (L0 : Nat) (aU : Nat → Nat) (aR : Nat → Nat) (aR2 : Nat → Nat) (aS : Nat → Nat) (n0 : Nat) (aN : Nat → Nat) (y0 : Nat) (y1 : Nat) (y2 : Nat) (o0 : Nat) (h_images : Nat) (us : Nat → Int32) (ua : Nat → Nat → Int32) (rs : Nat → Int32) (ra : Nat → Nat → Int32) (rs2 : Nat → Int32) (ra2 : Nat → Nat → Int32) (sa : Nat → Nat → Int32) (sl : Nat → Nat → Int64) (ns : Nat → Int32) (na : Nat → Nat → Int32) (nl : Nat → Nat → Int64) (y_isThere : Int32) (y_taken : Nat → Int32) (y_took : Nat → Int32) (o_of : Nat → Int64) (p1 : Int32) {post : Int32 → Prop} (h : P_X11_taken rs ra p1 post) : Met l yX11_taken vsX11_taken rmX11_taken (cPre D C [.ref L0, .int p1] sz ([cLockRail L0 (aU 0) (aR 0) (aR2 0) h_images (aS 0) n0 y0 o0 C ] ++ (wReader aU C us ua ++ (wRail aR C rs ra ++ (wRail aR2 C rs2 ra2 ++ (wSlots aS C sa sl ++ (wNight n0 aN C ns na nl ++ ([cYear y0 y1 y2 C y_isThere y_taken y_took] ++ ([cOb o0 C o_of]))))))))) (cQi D (fun (r : Int32) (u : Unit) => post r ) (fun u => [cLockRail L0 (aU 0) (aR 0) (aR2 0) h_images (aS 0) n0 y0 o0 C ] ++ (wReader aU C us ua ++ (wRail aR C rs ra ++ (wRail aR2 C rs2 ra2 ++ (wSlots aS C sa sl ++ (wNight n0 aN C ns na nl ++ ([cYear y0 y1 y2 C y_isThere y_taken y_took] ++ ([cOb o0 C o_of])))))))) (va_A (List.flatten ([cLockRail L0 (aU 0) (aR 0) (aR2 0) h_images (aS 0) n0 y0 o0 C ] ++ (wReader aU C us ua ++ (wRail aR C rs ra ++ (wRail aR2 C rs2 ra2 ++ (wSlots aS C sa sl ++ (wNight n0 aN C ns na nl ++ ([cYear y0 y1 y2 C y_isThere y_taken y_took] ++ ([cOb o0 C o_of]))))))))) sz)) 0 0 (va_A (List.flatten ([cLockRail L0 (aU 0) (aR 0) (aR2 0) h_images (aS 0) n0 y0 o0 C ] ++ (wReader aU C us ua ++ (wRail aR C rs ra ++ (wRail aR2 C rs2 ra2 ++ (wSlots aS C sa sl ++ (wNight n0 aN C ns na nl ++ ([cYear y0 y1 y2 C y_isThere y_taken y_took] ++ ([cOb o0 C o_of]))))))))) sz) := by
  refine cStart (QA := fun A => cQi D (fun (r : Int32) (u : Unit) => post r ) (fun u => [cLockRail L0 (aU 0) (aR 0) (aR2 0) h_images (aS 0) n0 y0 o0 C ] ++ (wReader aU C us ua ++ (wRail aR C rs ra ++ (wRail aR2 C rs2 ra2 ++ (wSlots aS C sa sl ++ (wNight n0 aN C ns na nl ++ ([cYear y0 y1 y2 C y_isThere y_taken y_took] ++ ([cOb o0 C o_of])))))))) A) (cc := cX11_taken) (maxL := 2) (ret := (some .int)) (by decide) (Nat.le_of_ble_eq_true rfl) ?_
  intro p e s m args below meth c A ls hx hb hr hml hown hw hlocks hname hK hN hA hP hD hS hl
  generalize hQ : MQ below _ args s 0 0 A = Q
  have hl : lv_has ls 2 [(0, .ref L0), (1, .int p1)] := hl
  have hn325 : (Cond.fieldLinkNest "LockRail" 325 "LockRail$Rail" "year" "LLockRail$Year;" "LockRail").before args s = true := hN.f 74 rfl
  have hn357 : (Cond.fieldLinkNest "LockRail" 357 "LockRail$Year" "isThere" "Z" "LockRail").before args s = true := hN.f 42 rfl
  have hn360 : (Cond.fieldLinkNest "LockRail" 360 "LockRail$Year" "taken" "[I" "LockRail").before args s = true := hN.f 45 rfl
  obtain ⟨H, hH⟩ : ∃ H, H = s.heap := ⟨_, rfl⟩
  obtain ⟨locs, hlo⟩ : ∃ z : List Loc, z = [] := ⟨_, rfl⟩
  have hP : va_P D vwCl (List.flatten ([cLockRail L0 (aU 0) (aR 0) (aR2 0) h_images (aS 0) n0 y0 o0 C ] ++ (wReader aU C us ua ++ (wRail aR C rs ra ++ (wRail aR2 C rs2 ra2 ++ (wSlots aS C sa sl ++ (wNight n0 aN C ns na nl ++ ([cYear y0 y1 y2 C y_isThere y_taken y_took] ++ ([cOb o0 C o_of]))))))))) H := by rw [hH]; exact hP
  have hS : va_S A s.heap H locs := by rw [hH, hlo]; exact hS
  rw [show W p l e rmX11_taken s m args below meth c s.heap [] 0 0 Q (F0 m 0 ls []) = W p l e rmX11_taken s m args below meth c H locs 0 0 Q (F0 m 0 ls []) from by rw [hH, hlo]]
  refine lv_aload_n hx hb dX11_taken_0 rfl (lv_at hl 0 rfl) ?_
  refine va_get (D := D) (ci := 11) (v := .ref (aR 0)) (C := RX11) (T := TX11) (N := 8) hx hb hw inW_X11 hown hK hP 0 rfl rfl 1 (by decide) (hw _ mw_2_144) (fun _ h9 => h9) rfl dX11_taken_1 ?_
  refine lv_iload_n hx hb dX11_taken_4 rfl (lv_at hl 1 rfl) ?_
  refine gs_I21_41 (rs_VN21_34 (As := [.int p1]) (rest := []) ⟨hx, hb, hml, hown, hw⟩ hK hN hP hD (k_X4_hasBike l D C _ aR  rs ra p1 h) ⟨va_cnB 1 hw (goodN mw_3_183) rfl rfl rfl (hN.m 31 rfl) (hw _ mw_1_4) (by decide +kernel) ⟨Nat.le_of_ble_eq_true rfl, Nat.le_of_ble_eq_true rfl⟩, hw _ mw_3_182, hw _ mw_s34⟩ rfl rfl rfl hl.1 rfl (Nat.le_of_ble_eq_true rfl) dX11_taken_5 ⟨Nat.zero_le _, Nat.zero_le _⟩) hP hD hS hA (fun r1 u H locs h hP hD hS => ?_)
  have hP : va_P D vwCl (List.flatten ([cLockRail L0 (aU 0) (aR 0) (aR2 0) h_images (aS 0) n0 y0 o0 C ] ++ (wReader aU C us ua ++ (wRail aR C rs ra ++ (wRail aR2 C rs2 ra2 ++ (wSlots aS C sa sl ++ (wNight n0 aN C ns na nl ++ ([cYear y0 y1 y2 C y_isThere y_taken y_took] ++ ([cOb o0 C o_of]))))))))) H := hP
  have hD : va_D A (List.flatten ([cLockRail L0 (aU 0) (aR 0) (aR2 0) h_images (aS 0) n0 y0 o0 C ] ++ (wReader aU C us ua ++ (wRail aR C rs ra ++ (wRail aR2 C rs2 ra2 ++ (wSlots aS C sa sl ++ (wNight n0 aN C ns na nl ++ ([cYear y0 y1 y2 C y_isThere y_taken y_took] ++ ([cOb o0 C o_of]))))))))) := hD
  refine lv_if_ne (tgt := 14) hx hb dX11_taken_8 (by decide) (fun c2 => ?_) (fun c2 => ?_)
  · have h := h.1 c2
    refine lv_aload_n hx hb dX11_taken_14 rfl (lv_at hl 0 rfl) ?_
    refine va_get (D := D) (ci := 11) (v := .ref (aR 0)) (C := RX11) (T := TX11) (N := 8) hx hb hw inW_X11 hown hK hP 0 rfl rfl 1 (by decide) (hw _ mw_2_144) (fun _ h9 => h9) rfl dX11_taken_15 ?_
    refine va_getN (D := D) (ci := 4) (v := .ref (aR 19)) (C := RX4) (T := TX4) (N := 16) hx hb hw inW_X4 hown hK hP 4 rfl rfl 15 (by decide) hn325 (fun _ h9 => h9) rfl dX11_taken_18 ?_
    refine va_getN (D := D) (ci := 10) (v := .int (rs 15)) (C := RX10) (T := TX10) (N := 3) hx hb hw inW_X10 hown hK hP 23 rfl rfl 0 (by decide) hn357 (fun _ h9 => h9) rfl dX11_taken_21 ?_
    refine lv_if_eq (tgt := 42) hx hb dX11_taken_24 (by decide) (fun c3 => ?_) (fun c3 => ?_)
    · have h := h.1 c3
      refine lv_iconst (v := (-1)) hx hb dX11_taken_42 (by decide) ?_
      rw [← hQ]
      exact cRetI (v := (-1)) () hx hb hr hlocks hS hP hD h dX11_taken_43
    · have h := h.2 c3
      refine lv_aload_n hx hb dX11_taken_27 rfl (lv_at hl 0 rfl) ?_
      refine va_get (D := D) (ci := 11) (v := .ref (aR 0)) (C := RX11) (T := TX11) (N := 8) hx hb hw inW_X11 hown hK hP 0 rfl rfl 1 (by decide) (hw _ mw_2_144) (fun _ h9 => h9) rfl dX11_taken_28 ?_
      refine va_getN (D := D) (ci := 4) (v := .ref (aR 19)) (C := RX4) (T := TX4) (N := 16) hx hb hw inW_X4 hown hK hP 4 rfl rfl 15 (by decide) hn325 (fun _ h9 => h9) rfl dX11_taken_31 ?_
      refine va_getN (D := D) (ci := 10) (v := .ref (aR 20)) (C := RX10) (T := TX10) (N := 3) hx hb hw inW_X10 hown hK hP 23 rfl rfl 1 (by decide) hn360 (fun _ h9 => h9) rfl dX11_taken_34 ?_
      refine lv_iload_n hx hb dX11_taken_37 rfl (lv_at hl 1 rfl) ?_
      refine cIald hx hb hK hP 24 0 rfl rfl p1.toNatClampNeg rfl h.1 dX11_taken_38 ?_
      have h := h.2
      refine lv_goto (tgt := 43) hx hb dX11_taken_39 (by decide) ?_
      rw [← hQ]
      exact cRetI (v := (ra 14 p1.toNatClampNeg)) () hx hb hr hlocks hS hP hD h dX11_taken_43
  · have h := h.2 c2
    refine lv_bipush (v := (-2)) hx hb dX11_taken_11 (by decide) ?_
    rw [← hQ]
    exact cRetI (v := (-2)) () hx hb hr hlocks hS hP hD h dX11_taken_13
abbrev vsX11_took : List Cond := Cond.code yX11_took cX11_took 2 (some .int) :: WS
abbrev rmX11_took : Room := { frames := 1, cells := 0, slots := 0, locals := 21 }
set_option maxHeartbeats 4000000 in
set_option maxRecDepth 100000 in
theorem k_X11_took (l : Launch) (D : va_G) (C : Nat → ClassId) (sz : Nat) (L0 : Nat) (aU : Nat → Nat) (aR : Nat → Nat) (aR2 : Nat → Nat) (aS : Nat → Nat) (n0 : Nat) (aN : Nat → Nat) (y0 : Nat) (y1 : Nat) (y2 : Nat) (o0 : Nat) (h_images : Nat) (us : Nat → Int32) (ua : Nat → Nat → Int32) (rs : Nat → Int32) (ra : Nat → Nat → Int32) (rs2 : Nat → Int32) (ra2 : Nat → Nat → Int32) (sa : Nat → Nat → Int32) (sl : Nat → Nat → Int64) (ns : Nat → Int32) (na : Nat → Nat → Int32) (nl : Nat → Nat → Int64) (y_isThere : Int32) (y_taken : Nat → Int32) (y_took : Nat → Int32) (o_of : Nat → Int64) (p1 : Int32) {post : Int32 → Prop} (h : P_X11_took rs ra p1 post) : Met l yX11_took vsX11_took rmX11_took (cPre D C [.ref L0, .int p1] sz ([cLockRail L0 (aU 0) (aR 0) (aR2 0) h_images (aS 0) n0 y0 o0 C ] ++ (wReader aU C us ua ++ (wRail aR C rs ra ++ (wRail aR2 C rs2 ra2 ++ (wSlots aS C sa sl ++ (wNight n0 aN C ns na nl ++ ([cYear y0 y1 y2 C y_isThere y_taken y_took] ++ ([cOb o0 C o_of]))))))))) (cQi D (fun (r : Int32) (u : Unit) => post r ) (fun u => [cLockRail L0 (aU 0) (aR 0) (aR2 0) h_images (aS 0) n0 y0 o0 C ] ++ (wReader aU C us ua ++ (wRail aR C rs ra ++ (wRail aR2 C rs2 ra2 ++ (wSlots aS C sa sl ++ (wNight n0 aN C ns na nl ++ ([cYear y0 y1 y2 C y_isThere y_taken y_took] ++ ([cOb o0 C o_of])))))))) (va_A (List.flatten ([cLockRail L0 (aU 0) (aR 0) (aR2 0) h_images (aS 0) n0 y0 o0 C ] ++ (wReader aU C us ua ++ (wRail aR C rs ra ++ (wRail aR2 C rs2 ra2 ++ (wSlots aS C sa sl ++ (wNight n0 aN C ns na nl ++ ([cYear y0 y1 y2 C y_isThere y_taken y_took] ++ ([cOb o0 C o_of]))))))))) sz)) 0 0 (va_A (List.flatten ([cLockRail L0 (aU 0) (aR 0) (aR2 0) h_images (aS 0) n0 y0 o0 C ] ++ (wReader aU C us ua ++ (wRail aR C rs ra ++ (wRail aR2 C rs2 ra2 ++ (wSlots aS C sa sl ++ (wNight n0 aN C ns na nl ++ ([cYear y0 y1 y2 C y_isThere y_taken y_took] ++ ([cOb o0 C o_of]))))))))) sz) := by
  refine cStart (QA := fun A => cQi D (fun (r : Int32) (u : Unit) => post r ) (fun u => [cLockRail L0 (aU 0) (aR 0) (aR2 0) h_images (aS 0) n0 y0 o0 C ] ++ (wReader aU C us ua ++ (wRail aR C rs ra ++ (wRail aR2 C rs2 ra2 ++ (wSlots aS C sa sl ++ (wNight n0 aN C ns na nl ++ ([cYear y0 y1 y2 C y_isThere y_taken y_took] ++ ([cOb o0 C o_of])))))))) A) (cc := cX11_took) (maxL := 2) (ret := (some .int)) (by decide) (Nat.le_of_ble_eq_true rfl) ?_
  intro p e s m args below meth c A ls hx hb hr hml hown hw hlocks hname hK hN hA hP hD hS hl
  generalize hQ : MQ below _ args s 0 0 A = Q
  have hl : lv_has ls 2 [(0, .ref L0), (1, .int p1)] := hl
  have hn325 : (Cond.fieldLinkNest "LockRail" 325 "LockRail$Rail" "year" "LLockRail$Year;" "LockRail").before args s = true := hN.f 74 rfl
  have hn357 : (Cond.fieldLinkNest "LockRail" 357 "LockRail$Year" "isThere" "Z" "LockRail").before args s = true := hN.f 42 rfl
  have hn363 : (Cond.fieldLinkNest "LockRail" 363 "LockRail$Year" "took" "[I" "LockRail").before args s = true := hN.f 47 rfl
  obtain ⟨H, hH⟩ : ∃ H, H = s.heap := ⟨_, rfl⟩
  obtain ⟨locs, hlo⟩ : ∃ z : List Loc, z = [] := ⟨_, rfl⟩
  have hP : va_P D vwCl (List.flatten ([cLockRail L0 (aU 0) (aR 0) (aR2 0) h_images (aS 0) n0 y0 o0 C ] ++ (wReader aU C us ua ++ (wRail aR C rs ra ++ (wRail aR2 C rs2 ra2 ++ (wSlots aS C sa sl ++ (wNight n0 aN C ns na nl ++ ([cYear y0 y1 y2 C y_isThere y_taken y_took] ++ ([cOb o0 C o_of]))))))))) H := by rw [hH]; exact hP
  have hS : va_S A s.heap H locs := by rw [hH, hlo]; exact hS
  rw [show W p l e rmX11_took s m args below meth c s.heap [] 0 0 Q (F0 m 0 ls []) = W p l e rmX11_took s m args below meth c H locs 0 0 Q (F0 m 0 ls []) from by rw [hH, hlo]]
  refine lv_aload_n hx hb dX11_took_0 rfl (lv_at hl 0 rfl) ?_
  refine va_get (D := D) (ci := 11) (v := .ref (aR 0)) (C := RX11) (T := TX11) (N := 8) hx hb hw inW_X11 hown hK hP 0 rfl rfl 1 (by decide) (hw _ mw_2_144) (fun _ h9 => h9) rfl dX11_took_1 ?_
  refine lv_iload_n hx hb dX11_took_4 rfl (lv_at hl 1 rfl) ?_
  refine gs_I21_41 (rs_VN21_34 (As := [.int p1]) (rest := []) ⟨hx, hb, hml, hown, hw⟩ hK hN hP hD (k_X4_hasThief l D C _ aR  rs ra p1 h) ⟨va_cnB 1 hw (goodN mw_3_191) rfl rfl rfl (hN.m 32 rfl) (hw _ mw_1_4) (by decide +kernel) ⟨Nat.le_of_ble_eq_true rfl, Nat.le_of_ble_eq_true rfl⟩, hw _ mw_3_190, hw _ mw_s35⟩ rfl rfl rfl hl.1 rfl (Nat.le_of_ble_eq_true rfl) dX11_took_5 ⟨Nat.zero_le _, Nat.zero_le _⟩) hP hD hS hA (fun r1 u H locs h hP hD hS => ?_)
  have hP : va_P D vwCl (List.flatten ([cLockRail L0 (aU 0) (aR 0) (aR2 0) h_images (aS 0) n0 y0 o0 C ] ++ (wReader aU C us ua ++ (wRail aR C rs ra ++ (wRail aR2 C rs2 ra2 ++ (wSlots aS C sa sl ++ (wNight n0 aN C ns na nl ++ ([cYear y0 y1 y2 C y_isThere y_taken y_took] ++ ([cOb o0 C o_of]))))))))) H := hP
  have hD : va_D A (List.flatten ([cLockRail L0 (aU 0) (aR 0) (aR2 0) h_images (aS 0) n0 y0 o0 C ] ++ (wReader aU C us ua ++ (wRail aR C rs ra ++ (wRail aR2 C rs2 ra2 ++ (wSlots aS C sa sl ++ (wNight n0 aN C ns na nl ++ ([cYear y0 y1 y2 C y_isThere y_taken y_took] ++ ([cOb o0 C o_of]))))))))) := hD
  refine lv_if_ne (tgt := 14) hx hb dX11_took_8 (by decide) (fun c2 => ?_) (fun c2 => ?_)
  · have h := h.1 c2
    refine lv_aload_n hx hb dX11_took_14 rfl (lv_at hl 0 rfl) ?_
    refine va_get (D := D) (ci := 11) (v := .ref (aR 0)) (C := RX11) (T := TX11) (N := 8) hx hb hw inW_X11 hown hK hP 0 rfl rfl 1 (by decide) (hw _ mw_2_144) (fun _ h9 => h9) rfl dX11_took_15 ?_
    refine va_getN (D := D) (ci := 4) (v := .ref (aR 19)) (C := RX4) (T := TX4) (N := 16) hx hb hw inW_X4 hown hK hP 4 rfl rfl 15 (by decide) hn325 (fun _ h9 => h9) rfl dX11_took_18 ?_
    refine va_getN (D := D) (ci := 10) (v := .int (rs 15)) (C := RX10) (T := TX10) (N := 3) hx hb hw inW_X10 hown hK hP 23 rfl rfl 0 (by decide) hn357 (fun _ h9 => h9) rfl dX11_took_21 ?_
    refine lv_if_eq (tgt := 42) hx hb dX11_took_24 (by decide) (fun c3 => ?_) (fun c3 => ?_)
    · have h := h.1 c3
      refine lv_iconst (v := (-1)) hx hb dX11_took_42 (by decide) ?_
      rw [← hQ]
      exact cRetI (v := (-1)) () hx hb hr hlocks hS hP hD h dX11_took_43
    · have h := h.2 c3
      refine lv_aload_n hx hb dX11_took_27 rfl (lv_at hl 0 rfl) ?_
      refine va_get (D := D) (ci := 11) (v := .ref (aR 0)) (C := RX11) (T := TX11) (N := 8) hx hb hw inW_X11 hown hK hP 0 rfl rfl 1 (by decide) (hw _ mw_2_144) (fun _ h9 => h9) rfl dX11_took_28 ?_
      refine va_getN (D := D) (ci := 4) (v := .ref (aR 19)) (C := RX4) (T := TX4) (N := 16) hx hb hw inW_X4 hown hK hP 4 rfl rfl 15 (by decide) hn325 (fun _ h9 => h9) rfl dX11_took_31 ?_
      refine va_getN (D := D) (ci := 10) (v := .ref (aR 21)) (C := RX10) (T := TX10) (N := 3) hx hb hw inW_X10 hown hK hP 23 rfl rfl 2 (by decide) hn363 (fun _ h9 => h9) rfl dX11_took_34 ?_
      refine lv_iload_n hx hb dX11_took_37 rfl (lv_at hl 1 rfl) ?_
      refine cIald hx hb hK hP 25 0 rfl rfl p1.toNatClampNeg rfl h.1 dX11_took_38 ?_
      have h := h.2
      refine lv_goto (tgt := 43) hx hb dX11_took_39 (by decide) ?_
      rw [← hQ]
      exact cRetI (v := (ra 15 p1.toNatClampNeg)) () hx hb hr hlocks hS hP hD h dX11_took_43
  · have h := h.2 c2
    refine lv_bipush (v := (-2)) hx hb dX11_took_11 (by decide) ?_
    rw [← hQ]
    exact cRetI (v := (-2)) () hx hb hr hlocks hS hP hD h dX11_took_13
abbrev vsX11_years : List Cond := Cond.code yX11_years cX11_years 12 (some .long) :: WS
abbrev rmX11_years : Room := { frames := 4, cells := 0, slots := 0, locals := 98 }
set_option maxHeartbeats 4000000 in
set_option maxRecDepth 100000 in
theorem k_X11_years (l : Launch) (D : va_G) (C : Nat → ClassId) (sz : Nat) (L0 : Nat) (aU : Nat → Nat) (aR : Nat → Nat) (aR2 : Nat → Nat) (aS : Nat → Nat) (n0 : Nat) (aN : Nat → Nat) (y0 : Nat) (y1 : Nat) (y2 : Nat) (o0 : Nat) (h_images : Nat) (us : Nat → Int32) (ua : Nat → Nat → Int32) (rs : Nat → Int32) (ra : Nat → Nat → Int32) (rs2 : Nat → Int32) (ra2 : Nat → Nat → Int32) (sa : Nat → Nat → Int32) (sl : Nat → Nat → Int64) (ns : Nat → Int32) (na : Nat → Nat → Int32) (nl : Nat → Nat → Int64) (y_isThere : Int32) (y_taken : Nat → Int32) (y_took : Nat → Int32) (o_of : Nat → Int64) (p1 : Int32) (p2 : Int32) (p3 : Int32) {post : Int64 → (Nat → Int32) → (Nat → Nat → Int32) → (Int32) → (Nat → Int32) → (Nat → Int32) → Prop} (h : P_X11_years rs ra ns na y_isThere y_taken y_took p1 p2 p3 post) : Met l yX11_years vsX11_years rmX11_years (cPre D C [.ref L0, .int p1, .int p2, .int p3] sz ([cLockRail L0 (aU 0) (aR 0) (aR2 0) h_images (aS 0) n0 y0 o0 C ] ++ (wReader aU C us ua ++ (wRail aR C rs ra ++ (wRail aR2 C rs2 ra2 ++ (wSlots aS C sa sl ++ (wNight n0 aN C ns na nl ++ ([cYear y0 y1 y2 C y_isThere y_taken y_took] ++ ([cOb o0 C o_of]))))))))) (cQl D (fun (r : Int64) (u : (Nat → Int32) × (Nat → Nat → Int32) × (Int32) × (Nat → Int32) × (Nat → Int32)) => post r u.1 u.2.1 u.2.2.1 u.2.2.2.1 u.2.2.2.2) (fun u => [cLockRail L0 (aU 0) (aR 0) (aR2 0) h_images (aS 0) n0 y0 o0 C ] ++ (wReader aU C us ua ++ (wRail aR C rs ra ++ (wRail aR2 C rs2 ra2 ++ (wSlots aS C sa sl ++ (wNight n0 aN C u.1 u.2.1 nl ++ ([cYear y0 y1 y2 C u.2.2.1 u.2.2.2.1 u.2.2.2.2] ++ ([cOb o0 C o_of])))))))) (va_A (List.flatten ([cLockRail L0 (aU 0) (aR 0) (aR2 0) h_images (aS 0) n0 y0 o0 C ] ++ (wReader aU C us ua ++ (wRail aR C rs ra ++ (wRail aR2 C rs2 ra2 ++ (wSlots aS C sa sl ++ (wNight n0 aN C ns na nl ++ ([cYear y0 y1 y2 C y_isThere y_taken y_took] ++ ([cOb o0 C o_of]))))))))) sz)) 0 0 (va_A (List.flatten ([cLockRail L0 (aU 0) (aR 0) (aR2 0) h_images (aS 0) n0 y0 o0 C ] ++ (wReader aU C us ua ++ (wRail aR C rs ra ++ (wRail aR2 C rs2 ra2 ++ (wSlots aS C sa sl ++ (wNight n0 aN C ns na nl ++ ([cYear y0 y1 y2 C y_isThere y_taken y_took] ++ ([cOb o0 C o_of]))))))))) sz) := by
  refine cStart (QA := fun A => cQl D (fun (r : Int64) (u : (Nat → Int32) × (Nat → Nat → Int32) × (Int32) × (Nat → Int32) × (Nat → Int32)) => post r u.1 u.2.1 u.2.2.1 u.2.2.2.1 u.2.2.2.2) (fun u => [cLockRail L0 (aU 0) (aR 0) (aR2 0) h_images (aS 0) n0 y0 o0 C ] ++ (wReader aU C us ua ++ (wRail aR C rs ra ++ (wRail aR2 C rs2 ra2 ++ (wSlots aS C sa sl ++ (wNight n0 aN C u.1 u.2.1 nl ++ ([cYear y0 y1 y2 C u.2.2.1 u.2.2.2.1 u.2.2.2.2] ++ ([cOb o0 C o_of])))))))) A) (cc := cX11_years) (maxL := 12) (ret := (some .long)) (by decide) (Nat.le_of_ble_eq_true rfl) ?_
  intro p e s m args below meth c A ls hx hb hr hml hown hw hlocks hname hK hN hA hP hD hS hl
  generalize hQ : MQ below _ args s 0 0 A = Q
  have hl : lv_has ls 12 [(0, .ref L0), (1, .int p1), (2, .int p2), (3, .int p3)] := hl
  obtain ⟨H, hH⟩ : ∃ H, H = s.heap := ⟨_, rfl⟩
  obtain ⟨locs, hlo⟩ : ∃ z : List Loc, z = [] := ⟨_, rfl⟩
  have hP : va_P D vwCl (List.flatten ([cLockRail L0 (aU 0) (aR 0) (aR2 0) h_images (aS 0) n0 y0 o0 C ] ++ (wReader aU C us ua ++ (wRail aR C rs ra ++ (wRail aR2 C rs2 ra2 ++ (wSlots aS C sa sl ++ (wNight n0 aN C ns na nl ++ ([cYear y0 y1 y2 C y_isThere y_taken y_took] ++ ([cOb o0 C o_of]))))))))) H := by rw [hH]; exact hP
  have hS : va_S A s.heap H locs := by rw [hH, hlo]; exact hS
  rw [show W p l e rmX11_years s m args below meth c s.heap [] 0 0 Q (F0 m 0 ls []) = W p l e rmX11_years s m args below meth c H locs 0 0 Q (F0 m 0 ls []) from by rw [hH, hlo]]
  have N131 : ∀ (x4_ : Int64) (x6_ : Int64) (x8_ : Int64) (ns : Nat → Int32) (na : Nat → Nat → Int32) (y_isThere : Int32) (y_taken : Nat → Int32) (y_took : Nat → Int32) (H : Heap) (locs : List Loc) (ls : Array Slot), P_X11_years_131 rs ra p1 p2 p3 post  x4_ x6_ x8_ ns na y_isThere y_taken y_took → va_P D vwCl (List.flatten ([cLockRail L0 (aU 0) (aR 0) (aR2 0) h_images (aS 0) n0 y0 o0 C ] ++ (wReader aU C us ua ++ (wRail aR C rs ra ++ (wRail aR2 C rs2 ra2 ++ (wSlots aS C sa sl ++ (wNight n0 aN C ns na nl ++ ([cYear y0 y1 y2 C y_isThere y_taken y_took] ++ ([cOb o0 C o_of]))))))))) H → va_D A (List.flatten ([cLockRail L0 (aU 0) (aR 0) (aR2 0) h_images (aS 0) n0 y0 o0 C ] ++ (wReader aU C us ua ++ (wRail aR C rs ra ++ (wRail aR2 C rs2 ra2 ++ (wSlots aS C sa sl ++ (wNight n0 aN C ns na nl ++ ([cYear y0 y1 y2 C y_isThere y_taken y_took] ++ ([cOb o0 C o_of]))))))))) → va_S A s.heap H locs → lv_has ls 12 [(3, .int p3), (4, .long x4_), (6, .long x6_), (8, .long x8_)] → W p l e rmX11_years s m args below meth c H locs 0 0 Q (F0 m 131 ls []) := by
    intro x4_ x6_ x8_ ns na y_isThere y_taken y_took H locs ls h hP hD hS hl
    refine lv_iload_n hx hb dX11_years_131 rfl (lv_at hl 0 rfl) ?_
    refine lv_if_ne (tgt := 140) hx hb dX11_years_132 (by decide) (fun c1 => ?_) (fun c1 => ?_)
    · have h := h.1 c1
      refine lv_iload_n hx hb dX11_years_140 rfl (lv_at hl 0 rfl) ?_
      refine lv_iconst (v := 1) hx hb dX11_years_141 (by decide) ?_
      refine lv_icmp_ne (tgt := 150) hx hb dX11_years_142 (by decide) (fun c2 => ?_) (fun c2 => ?_)
      · have h := h.1 c2
        refine lv_lload hx hb dX11_years_150 (lv_at hl 3 rfl) ?_
        rw [← hQ]
        exact cRetL (v := x8_) (ns, na, y_isThere, y_taken, y_took) hx hb hr hlocks hS hP hD h dX11_years_152
      · have h := h.2 c2
        refine lv_lload hx hb dX11_years_145 (lv_at hl 2 rfl) ?_
        refine lv_goto (tgt := 152) hx hb dX11_years_147 (by decide) ?_
        rw [← hQ]
        exact cRetL (v := x6_) (ns, na, y_isThere, y_taken, y_took) hx hb hr hlocks hS hP hD h dX11_years_152
    · have h := h.2 c1
      refine lv_lload hx hb dX11_years_135 (lv_at hl 1 rfl) ?_
      refine lv_goto (tgt := 152) hx hb dX11_years_137 (by decide) ?_
      rw [← hQ]
      exact cRetL (v := x4_) (ns, na, y_isThere, y_taken, y_took) hx hb hr hlocks hS hP hD h dX11_years_152
  have N64 : ∀ (ns : Nat → Int32) (na : Nat → Nat → Int32) (n64 : Nat) (x4_ : Int64) (x6_ : Int64) (x8_ : Int64) (x10_ : Int32) (y_isThere : Int32) (y_taken : Nat → Int32) (y_took : Nat → Int32) (H : Heap) (locs : List Loc) (ls : Array Slot), P_X11_years_64 rs ra p1 p2 p3 post (fun (x4_ : Int64) (x6_ : Int64) (x8_ : Int64) (ns : Nat → Int32) (na : Nat → Nat → Int32) (y_isThere : Int32) (y_taken : Nat → Int32) (y_took : Nat → Int32) => P_X11_years_131 rs ra p1 p2 p3 post  x4_ x6_ x8_ ns na y_isThere y_taken y_took) ns na n64 x4_ x6_ x8_ x10_ y_isThere y_taken y_took → va_P D vwCl (List.flatten ([cLockRail L0 (aU 0) (aR 0) (aR2 0) h_images (aS 0) n0 y0 o0 C ] ++ (wReader aU C us ua ++ (wRail aR C rs ra ++ (wRail aR2 C rs2 ra2 ++ (wSlots aS C sa sl ++ (wNight n0 aN C ns na nl ++ ([cYear y0 y1 y2 C y_isThere y_taken y_took] ++ ([cOb o0 C o_of]))))))))) H → va_D A (List.flatten ([cLockRail L0 (aU 0) (aR 0) (aR2 0) h_images (aS 0) n0 y0 o0 C ] ++ (wReader aU C us ua ++ (wRail aR C rs ra ++ (wRail aR2 C rs2 ra2 ++ (wSlots aS C sa sl ++ (wNight n0 aN C ns na nl ++ ([cYear y0 y1 y2 C y_isThere y_taken y_took] ++ ([cOb o0 C o_of]))))))))) → va_S A s.heap H locs → lv_has ls 12 [(0, .ref L0), (1, .int p1), (2, .int p2), (3, .int p3), (4, .long x4_), (6, .long x6_), (8, .long x8_), (10, .int x10_)] → W p l e rmX11_years s m args below meth c H locs 0 0 Q (F0 m 64 ls []) := by
    intro ns na
    intro n64
    induction n64 with
    | zero => intro x4_ x6_ x8_ x10_ y_isThere y_taken y_took H locs ls h hP hD hS hl; exact False.elim h
    | succ n64 ih64 =>
      intro x4_ x6_ x8_ x10_ y_isThere y_taken y_took H locs ls h hP hD hS hl
      refine lv_iload hx hb dX11_years_64 (lv_at hl 7 rfl) ?_
      refine lv_iload_n hx hb dX11_years_66 rfl (lv_at hl 2 rfl) ?_
      refine lv_icmp_ge (tgt := 131) hx hb dX11_years_67 (by decide) (fun c3 => ?_) (fun c3 => ?_)
      · have h := h.1 c3
        exact N131 x4_ x6_ x8_ ns na y_isThere y_taken y_took _ _ _ h hP hD hS (lv_sub hl [3, 4, 5, 6] rfl)
      · have h := h.2 c3
        refine lv_aload_n hx hb dX11_years_70 rfl (lv_at hl 0 rfl) ?_
        refine va_get (D := D) (ci := 11) (v := .ref n0) (C := RX11) (T := TX11) (N := 8) hx hb hw inW_X11 hown hK hP 0 rfl rfl 5 (by decide) (hw _ mw_2_148) (fun _ h9 => h9) rfl dX11_years_71 ?_
        refine lv_aload_n hx hb dX11_years_74 rfl (lv_at hl 0 rfl) ?_
        refine va_get (D := D) (ci := 11) (v := .ref (aR 0)) (C := RX11) (T := TX11) (N := 8) hx hb hw inW_X11 hown hK hP 0 rfl rfl 1 (by decide) (hw _ mw_2_144) (fun _ h9 => h9) rfl dX11_years_75 ?_
        refine lv_iload_n hx hb dX11_years_78 rfl (lv_at hl 1 rfl) ?_
        refine lv_iload hx hb dX11_years_79 (lv_at hl 7 rfl) ?_
        refine lv_iadd hx hb dX11_years_81 ?_
        refine lv_aload_n hx hb dX11_years_82 rfl (lv_at hl 0 rfl) ?_
        refine va_get (D := D) (ci := 11) (v := .ref y0) (C := RX11) (T := TX11) (N := 8) hx hb hw inW_X11 hown hK hP 0 rfl rfl 6 (by decide) (hw _ mw_2_149) (fun _ h9 => h9) rfl dX11_years_83 ?_
        refine gs_I21_88 (rs_VN21_66 (As := [.ref (aR 0), .int (p1 + x10_), .ref y0]) (rest := []) ⟨hx, hb, hml, hown, hw⟩ hK hN hP hD (k_X3_drawYear l D C _ n0 aN aR y0 y1 y2  ns na nl rs ra y_isThere y_taken y_took (p1 + x10_) h) ⟨va_cnB 3 hw (goodN mw_5_164) rfl rfl rfl (hN.m 71 rfl) (hw _ mw_1_11) (by decide +kernel) ⟨Nat.le_of_ble_eq_true rfl, Nat.le_of_ble_eq_true rfl⟩, hw _ mw_5_163, hw _ mw_s93⟩ rfl rfl rfl hl.1 rfl (Nat.le_of_ble_eq_true rfl) dX11_years_86 ⟨Nat.zero_le _, Nat.zero_le _⟩) hP hD hS hA (fun r7 u H locs h hP hD hS => ?_)
        obtain ⟨isT_4, tak_5, too_6⟩ := u
        have hP : va_P D vwCl (List.flatten ([cLockRail L0 (aU 0) (aR 0) (aR2 0) h_images (aS 0) n0 y0 o0 C ] ++ (wReader aU C us ua ++ (wRail aR C rs ra ++ (wRail aR2 C rs2 ra2 ++ (wSlots aS C sa sl ++ (wNight n0 aN C ns na nl ++ ([cYear y0 y1 y2 C isT_4 tak_5 too_6] ++ ([cOb o0 C o_of]))))))))) H := hP
        have hD : va_D A (List.flatten ([cLockRail L0 (aU 0) (aR 0) (aR2 0) h_images (aS 0) n0 y0 o0 C ] ++ (wReader aU C us ua ++ (wRail aR C rs ra ++ (wRail aR2 C rs2 ra2 ++ (wSlots aS C sa sl ++ (wNight n0 aN C ns na nl ++ ([cYear y0 y1 y2 C isT_4 tak_5 too_6] ++ ([cOb o0 C o_of]))))))))) := hD
        refine lv_istore (lv' := [(11, .int r7), (0, .ref L0), (1, .int p1), (2, .int p2), (3, .int p3), (4, .long x4_), (6, .long x6_), (8, .long x8_), (10, .int x10_)]) hx hb dX11_years_89 hl (by decide) rfl (fun ls hl => ?_)
        refine lv_lload hx hb dX11_years_91 (lv_at hl 5 rfl) ?_
        refine lv_iload hx hb dX11_years_93 (lv_at hl 0 rfl) ?_
        refine lv_i2l hx hb dX11_years_95 rfl ?_
        refine lv_ladd hx hb dX11_years_96 ?_
        refine lv_topl (fun x8 ex8 => ?_)
        have h := h x8 ex8
        refine lv_lstore (lv' := [(4, .long x8), (11, .int r7), (0, .ref L0), (1, .int p1), (2, .int p2), (3, .int p3), (6, .long x6_), (8, .long x8_), (10, .int x10_)]) hx hb dX11_years_97 hl (by decide) rfl (fun ls hl => ?_)
        refine lv_lload hx hb dX11_years_99 (lv_at hl 6 rfl) ?_
        refine lv_iload hx hb dX11_years_101 (lv_at hl 1 rfl) ?_
        refine lv_i2l hx hb dX11_years_103 rfl ?_
        refine va_mmax_long hx hb (hml.trans hl.1.symm) hown (hw _ mw_5_216) (hw _ mw_5_217) (hw _ mw_1_14) (hw _ mw_5_218) (Nat.le_of_ble_eq_true rfl) (Nat.le_of_ble_eq_true rfl) (Nat.zero_le _) (Nat.zero_le _) dX11_years_104 ?_
        refine lv_topl (fun x9 ex9 => ?_)
        have h := h x9 ex9
        refine lv_lstore (lv' := [(6, .long x9), (4, .long x8), (11, .int r7), (0, .ref L0), (1, .int p1), (2, .int p2), (3, .int p3), (8, .long x8_), (10, .int x10_)]) hx hb dX11_years_107 hl (by decide) rfl (fun ls hl => ?_)
        refine lv_lload hx hb dX11_years_109 (lv_at hl 7 rfl) ?_
        refine lv_aload_n hx hb dX11_years_111 rfl (lv_at hl 3 rfl) ?_
        refine va_get (D := D) (ci := 11) (v := .ref (aR 0)) (C := RX11) (T := TX11) (N := 8) hx hb hw inW_X11 hown hK hP 0 rfl rfl 1 (by decide) (hw _ mw_2_144) (fun _ h9 => h9) rfl dX11_years_112 ?_
        refine lv_aload_n hx hb dX11_years_115 rfl (lv_at hl 3 rfl) ?_
        refine va_get (D := D) (ci := 11) (v := .ref y0) (C := RX11) (T := TX11) (N := 8) hx hb hw inW_X11 hown hK hP 0 rfl rfl 6 (by decide) (hw _ mw_2_149) (fun _ h9 => h9) rfl dX11_years_116 ?_
        refine gs_L21_89 (rs_VN21_67 (As := [.ref y0]) (rest := [.long x8_]) ⟨hx, hb, hml, hown, hw⟩ hK hN hP hD (k_X4_worthTaken l D C _ aR y0 y1 y2  rs ra isT_4 tak_5 too_6  h) ⟨va_cnB 1 hw (goodN mw_5_222) rfl rfl rfl (hN.m 80 rfl) (hw _ mw_1_4) (by decide +kernel) ⟨Nat.le_of_ble_eq_true rfl, Nat.le_of_ble_eq_true rfl⟩, hw _ mw_5_221, hw _ mw_s101⟩ rfl rfl rfl hl.1 rfl (Nat.le_of_ble_eq_true rfl) dX11_years_119 ⟨Nat.zero_le _, Nat.zero_le _⟩) hP hD hS hA (fun r10 u H locs h hP hD hS => ?_)
        have hP : va_P D vwCl (List.flatten ([cLockRail L0 (aU 0) (aR 0) (aR2 0) h_images (aS 0) n0 y0 o0 C ] ++ (wReader aU C us ua ++ (wRail aR C rs ra ++ (wRail aR2 C rs2 ra2 ++ (wSlots aS C sa sl ++ (wNight n0 aN C ns na nl ++ ([cYear y0 y1 y2 C isT_4 tak_5 too_6] ++ ([cOb o0 C o_of]))))))))) H := hP
        have hD : va_D A (List.flatten ([cLockRail L0 (aU 0) (aR 0) (aR2 0) h_images (aS 0) n0 y0 o0 C ] ++ (wReader aU C us ua ++ (wRail aR C rs ra ++ (wRail aR2 C rs2 ra2 ++ (wSlots aS C sa sl ++ (wNight n0 aN C ns na nl ++ ([cYear y0 y1 y2 C isT_4 tak_5 too_6] ++ ([cOb o0 C o_of]))))))))) := hD
        refine lv_ladd hx hb dX11_years_122 ?_
        refine lv_topl (fun x11 ex11 => ?_)
        have h := h x11 ex11
        refine lv_lstore (lv' := [(8, .long x11), (6, .long x9), (4, .long x8), (11, .int r7), (0, .ref L0), (1, .int p1), (2, .int p2), (3, .int p3), (10, .int x10_)]) hx hb dX11_years_123 hl (by decide) rfl (fun ls hl => ?_)
        refine lv_iinc (v := (x10_ + 1)) (lv' := [(10, .int (x10_ + 1)), (8, .long x11), (6, .long x9), (4, .long x8), (11, .int r7), (0, .ref L0), (1, .int p1), (2, .int p2), (3, .int p3)]) hx hb dX11_years_125 hl (k := 8) rfl rfl (by decide) rfl (fun ls hl => ?_)
        refine lv_goto (tgt := 64) hx hb dX11_years_128 (by decide) ?_
        exact ih64 x8 x9 x11 (x10_ + 1) isT_4 tak_5 too_6 _ _ _ h hP hD hS (lv_sub hl [5, 6, 7, 8, 3, 2, 1, 0] rfl)
  refine lv_aload_n hx hb dX11_years_0 rfl (lv_at hl 0 rfl) ?_
  refine va_get (D := D) (ci := 11) (v := .ref (aR 0)) (C := RX11) (T := TX11) (N := 8) hx hb hw inW_X11 hown hK hP 0 rfl rfl 1 (by decide) (hw _ mw_2_144) (fun _ h9 => h9) rfl dX11_years_1 ?_
  refine gs_I21_41 (rs_VN21_34 (As := []) (rest := []) ⟨hx, hb, hml, hown, hw⟩ hK hN hP hD (k_X4_isTold l D C _ aR  rs ra  h) ⟨va_cnB 0 hw (goodN mw_4_19) rfl rfl rfl (hN.m 44 rfl) (hw _ mw_1_4) (by decide +kernel) ⟨Nat.le_of_ble_eq_true rfl, Nat.le_of_ble_eq_true rfl⟩, hw _ mw_4_18, hw _ mw_s47⟩ rfl rfl rfl hl.1 rfl (Nat.le_of_ble_eq_true rfl) dX11_years_4 ⟨Nat.zero_le _, Nat.zero_le _⟩) hP hD hS hA (fun r12 u H locs h hP hD hS => ?_)
  have hP : va_P D vwCl (List.flatten ([cLockRail L0 (aU 0) (aR 0) (aR2 0) h_images (aS 0) n0 y0 o0 C ] ++ (wReader aU C us ua ++ (wRail aR C rs ra ++ (wRail aR2 C rs2 ra2 ++ (wSlots aS C sa sl ++ (wNight n0 aN C ns na nl ++ ([cYear y0 y1 y2 C y_isThere y_taken y_took] ++ ([cOb o0 C o_of]))))))))) H := hP
  have hD : va_D A (List.flatten ([cLockRail L0 (aU 0) (aR 0) (aR2 0) h_images (aS 0) n0 y0 o0 C ] ++ (wReader aU C us ua ++ (wRail aR C rs ra ++ (wRail aR2 C rs2 ra2 ++ (wSlots aS C sa sl ++ (wNight n0 aN C ns na nl ++ ([cYear y0 y1 y2 C y_isThere y_taken y_took] ++ ([cOb o0 C o_of]))))))))) := hD
  refine lv_if_eq (tgt := 37) hx hb dX11_years_7 (by decide) (fun c13 => ?_) (fun c13 => ?_)
  · have h := h.1 c13
    refine lv_ldc2 (v := (-2)) hx hb hown (hw _ mw_4_20) dX11_years_37 ?_
    rw [← hQ]
    exact cRetL (v := (-2)) (ns, na, y_isThere, y_taken, y_took) hx hb hr hlocks hS hP hD h dX11_years_40
  · have h := h.2 c13
    refine lv_iload_n hx hb dX11_years_10 rfl (lv_at hl 1 rfl) ?_
    refine cGoEI (cRunES (As := [.int p1]) (rest := []) ⟨hx, hb, hml, hown, hw⟩ hK hN hP hD (k_X11_isSeed l D C _    p1 h) (va_cwS 1 hw (goodS mw_5_157 mw_5_158 mw_1_1 mw_5_159) rfl rfl rfl (by decide +kernel) ⟨Nat.le_of_ble_eq_true rfl, Nat.le_of_ble_eq_true rfl⟩) rfl hl.1 rfl (Nat.le_of_ble_eq_true rfl) dX11_years_11 ⟨Nat.zero_le _, Nat.zero_le _⟩) hP hD hS hA (fun r14 u H locs h hP hD hS => ?_)
    have hP : va_P D vwCl (List.flatten ([cLockRail L0 (aU 0) (aR 0) (aR2 0) h_images (aS 0) n0 y0 o0 C ] ++ (wReader aU C us ua ++ (wRail aR C rs ra ++ (wRail aR2 C rs2 ra2 ++ (wSlots aS C sa sl ++ (wNight n0 aN C ns na nl ++ ([cYear y0 y1 y2 C y_isThere y_taken y_took] ++ ([cOb o0 C o_of]))))))))) H := hP
    have hD : va_D A (List.flatten ([cLockRail L0 (aU 0) (aR 0) (aR2 0) h_images (aS 0) n0 y0 o0 C ] ++ (wReader aU C us ua ++ (wRail aR C rs ra ++ (wRail aR2 C rs2 ra2 ++ (wSlots aS C sa sl ++ (wNight n0 aN C ns na nl ++ ([cYear y0 y1 y2 C y_isThere y_taken y_took] ++ ([cOb o0 C o_of]))))))))) := hD
    refine lv_if_eq (tgt := 37) hx hb dX11_years_14 (by decide) (fun c15 => ?_) (fun c15 => ?_)
    · have h := h.1 c15
      refine lv_ldc2 (v := (-2)) hx hb hown (hw _ mw_4_20) dX11_years_37 ?_
      rw [← hQ]
      exact cRetL (v := (-2)) (ns, na, y_isThere, y_taken, y_took) hx hb hr hlocks hS hP hD h dX11_years_40
    · have h := h.2 c15
      refine lv_iload_n hx hb dX11_years_17 rfl (lv_at hl 2 rfl) ?_
      refine lv_iconst (v := 1) hx hb dX11_years_18 (by decide) ?_
      refine lv_icmp_lt (tgt := 37) hx hb dX11_years_19 (by decide) (fun c16 => ?_) (fun c16 => ?_)
      · have h := h.1 c16
        refine lv_ldc2 (v := (-2)) hx hb hown (hw _ mw_4_20) dX11_years_37 ?_
        rw [← hQ]
        exact cRetL (v := (-2)) (ns, na, y_isThere, y_taken, y_took) hx hb hr hlocks hS hP hD h dX11_years_40
      · have h := h.2 c16
        refine lv_iload_n hx hb dX11_years_22 rfl (lv_at hl 2 rfl) ?_
        refine lv_bipush (v := 100) hx hb dX11_years_23 (by decide) ?_
        refine lv_icmp_gt (tgt := 37) hx hb dX11_years_25 (by decide) (fun c17 => ?_) (fun c17 => ?_)
        · have h := h.1 c17
          refine lv_ldc2 (v := (-2)) hx hb hown (hw _ mw_4_20) dX11_years_37 ?_
          rw [← hQ]
          exact cRetL (v := (-2)) (ns, na, y_isThere, y_taken, y_took) hx hb hr hlocks hS hP hD h dX11_years_40
        · have h := h.2 c17
          refine lv_iload_n hx hb dX11_years_28 rfl (lv_at hl 3 rfl) ?_
          refine lv_if_lt (tgt := 37) hx hb dX11_years_29 (by decide) (fun c18 => ?_) (fun c18 => ?_)
          · have h := h.1 c18
            refine lv_ldc2 (v := (-2)) hx hb hown (hw _ mw_4_20) dX11_years_37 ?_
            rw [← hQ]
            exact cRetL (v := (-2)) (ns, na, y_isThere, y_taken, y_took) hx hb hr hlocks hS hP hD h dX11_years_40
          · have h := h.2 c18
            refine lv_iload_n hx hb dX11_years_32 rfl (lv_at hl 3 rfl) ?_
            refine lv_iconst (v := 2) hx hb dX11_years_33 (by decide) ?_
            refine lv_icmp_le (tgt := 41) hx hb dX11_years_34 (by decide) (fun c19 => ?_) (fun c19 => ?_)
            · have h := h.1 c19
              refine lv_aload_n hx hb dX11_years_41 rfl (lv_at hl 0 rfl) ?_
              refine va_get (D := D) (ci := 11) (v := .ref n0) (C := RX11) (T := TX11) (N := 8) hx hb hw inW_X11 hown hK hP 0 rfl rfl 5 (by decide) (hw _ mw_2_148) (fun _ h9 => h9) rfl dX11_years_42 ?_
              refine lv_aload_n hx hb dX11_years_45 rfl (lv_at hl 0 rfl) ?_
              refine va_get (D := D) (ci := 11) (v := .ref (aR 0)) (C := RX11) (T := TX11) (N := 8) hx hb hw inW_X11 hown hK hP 0 rfl rfl 1 (by decide) (hw _ mw_2_144) (fun _ h9 => h9) rfl dX11_years_46 ?_
              refine gs_V21_43 (rs_VN21_36 (As := [.ref (aR 0)]) (rest := []) ⟨hx, hb, hml, hown, hw⟩ hK hN hP hD (k_X3_lookAt l D C _ n0 aN aR  ns na nl rs ra  h) ⟨va_cnB 1 hw (goodN mw_3_219) rfl rfl rfl (hN.m 37 rfl) (hw _ mw_1_11) (by decide +kernel) ⟨Nat.le_of_ble_eq_true rfl, Nat.le_of_ble_eq_true rfl⟩, hw _ mw_3_218, hw _ mw_s40⟩ rfl rfl rfl hl.1 rfl (Nat.le_of_ble_eq_true rfl) dX11_years_49 ⟨Nat.zero_le _, Nat.zero_le _⟩) hP hD hS hA (fun u H locs h hP hD hS => ?_)
              obtain ⟨ns_20, na_21⟩ := u
              have hP : va_P D vwCl (List.flatten ([cLockRail L0 (aU 0) (aR 0) (aR2 0) h_images (aS 0) n0 y0 o0 C ] ++ (wReader aU C us ua ++ (wRail aR C rs ra ++ (wRail aR2 C rs2 ra2 ++ (wSlots aS C sa sl ++ (wNight n0 aN C ns_20 na_21 nl ++ ([cYear y0 y1 y2 C y_isThere y_taken y_took] ++ ([cOb o0 C o_of]))))))))) H := hP
              have hD : va_D A (List.flatten ([cLockRail L0 (aU 0) (aR 0) (aR2 0) h_images (aS 0) n0 y0 o0 C ] ++ (wReader aU C us ua ++ (wRail aR C rs ra ++ (wRail aR2 C rs2 ra2 ++ (wSlots aS C sa sl ++ (wNight n0 aN C ns_20 na_21 nl ++ ([cYear y0 y1 y2 C y_isThere y_taken y_took] ++ ([cOb o0 C o_of]))))))))) := hD
              refine lv_lconst (v := 0) hx hb dX11_years_52 (by decide) ?_
              refine lv_lstore (lv' := [(4, .long 0), (0, .ref L0), (1, .int p1), (2, .int p2), (3, .int p3)]) hx hb dX11_years_53 hl (by decide) rfl (fun ls hl => ?_)
              refine lv_lconst (v := 0) hx hb dX11_years_55 (by decide) ?_
              refine lv_lstore (lv' := [(6, .long 0), (4, .long 0), (0, .ref L0), (1, .int p1), (2, .int p2), (3, .int p3)]) hx hb dX11_years_56 hl (by decide) rfl (fun ls hl => ?_)
              refine lv_lconst (v := 0) hx hb dX11_years_58 (by decide) ?_
              refine lv_lstore (lv' := [(8, .long 0), (6, .long 0), (4, .long 0), (0, .ref L0), (1, .int p1), (2, .int p2), (3, .int p3)]) hx hb dX11_years_59 hl (by decide) rfl (fun ls hl => ?_)
              refine lv_iconst (v := 0) hx hb dX11_years_61 (by decide) ?_
              refine lv_istore (lv' := [(10, .int 0), (8, .long 0), (6, .long 0), (4, .long 0), (0, .ref L0), (1, .int p1), (2, .int p2), (3, .int p3)]) hx hb dX11_years_62 hl (by decide) rfl (fun ls hl => ?_)
              obtain ⟨n, h⟩ := h
              exact N64 ns_20 na_21 n 0 0 0 0 y_isThere y_taken y_took _ _ _ h hP hD hS (lv_sub hl [4, 5, 6, 7, 3, 2, 1, 0] rfl)
            · have h := h.2 c19
              refine lv_ldc2 (v := (-2)) hx hb hown (hw _ mw_4_20) dX11_years_37 ?_
              rw [← hQ]
              exact cRetL (v := (-2)) (ns, na, y_isThere, y_taken, y_took) hx hb hr hlocks hS hP hD h dX11_years_40
abbrev vsX11_count : List Cond := Cond.code yX11_count cX11_count 2 (some .int) :: WS
abbrev rmX11_count : Room := { frames := 2, cells := 0, slots := 0, locals := 43 }
set_option maxHeartbeats 4000000 in
set_option maxRecDepth 100000 in
theorem k_X11_count (l : Launch) (D : va_G) (C : Nat → ClassId) (sz : Nat) (L0 : Nat) (aU : Nat → Nat) (aR : Nat → Nat) (aR2 : Nat → Nat) (aS : Nat → Nat) (n0 : Nat) (aN : Nat → Nat) (y0 : Nat) (y1 : Nat) (y2 : Nat) (o0 : Nat) (h_images : Nat) (us : Nat → Int32) (ua : Nat → Nat → Int32) (rs : Nat → Int32) (ra : Nat → Nat → Int32) (rs2 : Nat → Int32) (ra2 : Nat → Nat → Int32) (sa : Nat → Nat → Int32) (sl : Nat → Nat → Int64) (ns : Nat → Int32) (na : Nat → Nat → Int32) (nl : Nat → Nat → Int64) (y_isThere : Int32) (y_taken : Nat → Int32) (y_took : Nat → Int32) (o_of : Nat → Int64) (p1 : Int32) {post : Int32 → Prop} (h : P_X11_count us rs ra sa p1 post) : Met l yX11_count vsX11_count rmX11_count (cPre D C [.ref L0, .int p1] sz ([cLockRail L0 (aU 0) (aR 0) (aR2 0) h_images (aS 0) n0 y0 o0 C ] ++ (wReader aU C us ua ++ (wRail aR C rs ra ++ (wRail aR2 C rs2 ra2 ++ (wSlots aS C sa sl ++ (wNight n0 aN C ns na nl ++ ([cYear y0 y1 y2 C y_isThere y_taken y_took] ++ ([cOb o0 C o_of]))))))))) (cQi D (fun (r : Int32) (u : Unit) => post r ) (fun u => [cLockRail L0 (aU 0) (aR 0) (aR2 0) h_images (aS 0) n0 y0 o0 C ] ++ (wReader aU C us ua ++ (wRail aR C rs ra ++ (wRail aR2 C rs2 ra2 ++ (wSlots aS C sa sl ++ (wNight n0 aN C ns na nl ++ ([cYear y0 y1 y2 C y_isThere y_taken y_took] ++ ([cOb o0 C o_of])))))))) (va_A (List.flatten ([cLockRail L0 (aU 0) (aR 0) (aR2 0) h_images (aS 0) n0 y0 o0 C ] ++ (wReader aU C us ua ++ (wRail aR C rs ra ++ (wRail aR2 C rs2 ra2 ++ (wSlots aS C sa sl ++ (wNight n0 aN C ns na nl ++ ([cYear y0 y1 y2 C y_isThere y_taken y_took] ++ ([cOb o0 C o_of]))))))))) sz)) 0 0 (va_A (List.flatten ([cLockRail L0 (aU 0) (aR 0) (aR2 0) h_images (aS 0) n0 y0 o0 C ] ++ (wReader aU C us ua ++ (wRail aR C rs ra ++ (wRail aR2 C rs2 ra2 ++ (wSlots aS C sa sl ++ (wNight n0 aN C ns na nl ++ ([cYear y0 y1 y2 C y_isThere y_taken y_took] ++ ([cOb o0 C o_of]))))))))) sz) := by
  refine cStart (QA := fun A => cQi D (fun (r : Int32) (u : Unit) => post r ) (fun u => [cLockRail L0 (aU 0) (aR 0) (aR2 0) h_images (aS 0) n0 y0 o0 C ] ++ (wReader aU C us ua ++ (wRail aR C rs ra ++ (wRail aR2 C rs2 ra2 ++ (wSlots aS C sa sl ++ (wNight n0 aN C ns na nl ++ ([cYear y0 y1 y2 C y_isThere y_taken y_took] ++ ([cOb o0 C o_of])))))))) A) (cc := cX11_count) (maxL := 2) (ret := (some .int)) (by decide) (Nat.le_of_ble_eq_true rfl) ?_
  intro p e s m args below meth c A ls hx hb hr hml hown hw hlocks hname hK hN hA hP hD hS hl
  generalize hQ : MQ below _ args s 0 0 A = Q
  have hl : lv_has ls 2 [(0, .ref L0), (1, .int p1)] := hl
  have hn232 : (Cond.fieldLinkNest "LockRail" 232 "LockRail$Rail" "places" "I" "LockRail").before args s = true := hN.f 49 rfl
  have hn338 : (Cond.fieldLinkNest "LockRail" 338 "LockRail$Rail" "nights" "I" "LockRail").before args s = true := hN.f 52 rfl
  have hn374 : (Cond.fieldLinkNest "LockRail" 374 "LockRail$Rail" "lamps" "LLockRail$Lamps;" "LockRail").before args s = true := hN.f 56 rfl
  have hn378 : (Cond.fieldLinkNest "LockRail" 378 "LockRail$Lamps" "count" "I" "LockRail").before args s = true := hN.f 9 rfl
  have hn306 : (Cond.fieldLinkNest "LockRail" 306 "LockRail$Rail" "locks" "LLockRail$Locks;" "LockRail").before args s = true := hN.f 58 rfl
  have hn310 : (Cond.fieldLinkNest "LockRail" 310 "LockRail$Locks" "count" "I" "LockRail").before args s = true := hN.f 14 rfl
  have hn97 : (Cond.fieldLinkNest "LockRail" 97 "LockRail$Rail" "bikes" "LLockRail$Bikes;" "LockRail").before args s = true := hN.f 61 rfl
  have hn161 : (Cond.fieldLinkNest "LockRail" 161 "LockRail$Bikes" "count" "I" "LockRail").before args s = true := hN.f 20 rfl
  have hn279 : (Cond.fieldLinkNest "LockRail" 279 "LockRail$Rail" "thieves" "LLockRail$Thieves;" "LockRail").before args s = true := hN.f 64 rfl
  have hn283 : (Cond.fieldLinkNest "LockRail" 283 "LockRail$Thieves" "count" "I" "LockRail").before args s = true := hN.f 35 rfl
  have hn77 : (Cond.fieldLinkNest "LockRail" 77 "LockRail$Rail" "lines" "I" "LockRail").before args s = true := hN.f 54 rfl
  have hn55 : (Cond.fieldLinkNest "LockRail" 55 "LockRail$Reader" "tape" "LLockRail$Tape;" "LockRail").before args s = true := hN.f 4 rfl
  have hn59 : (Cond.fieldLinkNest "LockRail" 59 "LockRail$Tape" "length" "I" "LockRail").before args s = true := hN.f 0 rfl
  have hn245 : (Cond.fieldLinkNest "LockRail" 245 "LockRail$Rail" "watched" "Z" "LockRail").before args s = true := hN.f 73 rfl
  have hn325 : (Cond.fieldLinkNest "LockRail" 325 "LockRail$Rail" "year" "LLockRail$Year;" "LockRail").before args s = true := hN.f 74 rfl
  have hn357 : (Cond.fieldLinkNest "LockRail" 357 "LockRail$Year" "isThere" "Z" "LockRail").before args s = true := hN.f 42 rfl
  obtain ⟨H, hH⟩ : ∃ H, H = s.heap := ⟨_, rfl⟩
  obtain ⟨locs, hlo⟩ : ∃ z : List Loc, z = [] := ⟨_, rfl⟩
  have hP : va_P D vwCl (List.flatten ([cLockRail L0 (aU 0) (aR 0) (aR2 0) h_images (aS 0) n0 y0 o0 C ] ++ (wReader aU C us ua ++ (wRail aR C rs ra ++ (wRail aR2 C rs2 ra2 ++ (wSlots aS C sa sl ++ (wNight n0 aN C ns na nl ++ ([cYear y0 y1 y2 C y_isThere y_taken y_took] ++ ([cOb o0 C o_of]))))))))) H := by rw [hH]; exact hP
  have hS : va_S A s.heap H locs := by rw [hH, hlo]; exact hS
  rw [show W p l e rmX11_count s m args below meth c s.heap [] 0 0 Q (F0 m 0 ls []) = W p l e rmX11_count s m args below meth c H locs 0 0 Q (F0 m 0 ls []) from by rw [hH, hlo]]
  refine lv_iload_n hx hb dX11_count_0 rfl (lv_at hl 1 rfl) ?_
  by_cases c1_0 : p1 = 0
  · refine lv_tableIn (tgt := 68) hx hb dX11_count_1 (by rw [c1_0] <;> decide) (by rw [c1_0] <;> decide) (by rw [c1_0] <;> rfl) (by decide) ?_
    have h := h.1 c1_0
    refine lv_aload_n hx hb dX11_count_68 rfl (lv_at hl 0 rfl) ?_
    refine va_get (D := D) (ci := 11) (v := .ref (aR 0)) (C := RX11) (T := TX11) (N := 8) hx hb hw inW_X11 hown hK hP 0 rfl rfl 1 (by decide) (hw _ mw_2_144) (fun _ h9 => h9) rfl dX11_count_69 ?_
    refine va_getN (D := D) (ci := 4) (v := .int (rs 0)) (C := RX4) (T := TX4) (N := 16) hx hb hw inW_X4 hown hK hP 4 rfl rfl 0 (by decide) hn232 (fun _ h9 => h9) rfl dX11_count_72 ?_
    rw [← hQ]
    exact cRetI (v := (rs 0)) () hx hb hr hlocks hS hP hD h dX11_count_75
  by_cases c1_1 : p1 = 1
  · refine lv_tableIn (tgt := 76) hx hb dX11_count_1 (by rw [c1_1] <;> decide) (by rw [c1_1] <;> decide) (by rw [c1_1] <;> rfl) (by decide) ?_
    have h := h.2.1 c1_1
    refine lv_aload_n hx hb dX11_count_76 rfl (lv_at hl 0 rfl) ?_
    refine va_get (D := D) (ci := 11) (v := .ref (aR 0)) (C := RX11) (T := TX11) (N := 8) hx hb hw inW_X11 hown hK hP 0 rfl rfl 1 (by decide) (hw _ mw_2_144) (fun _ h9 => h9) rfl dX11_count_77 ?_
    refine va_getN (D := D) (ci := 4) (v := .int (rs 1)) (C := RX4) (T := TX4) (N := 16) hx hb hw inW_X4 hown hK hP 4 rfl rfl 1 (by decide) hn338 (fun _ h9 => h9) rfl dX11_count_80 ?_
    rw [← hQ]
    exact cRetI (v := (rs 1)) () hx hb hr hlocks hS hP hD h dX11_count_83
  by_cases c1_2 : p1 = 2
  · refine lv_tableIn (tgt := 84) hx hb dX11_count_1 (by rw [c1_2] <;> decide) (by rw [c1_2] <;> decide) (by rw [c1_2] <;> rfl) (by decide) ?_
    have h := h.2.2.1 c1_2
    refine lv_aload_n hx hb dX11_count_84 rfl (lv_at hl 0 rfl) ?_
    refine va_get (D := D) (ci := 11) (v := .ref (aR 0)) (C := RX11) (T := TX11) (N := 8) hx hb hw inW_X11 hown hK hP 0 rfl rfl 1 (by decide) (hw _ mw_2_144) (fun _ h9 => h9) rfl dX11_count_85 ?_
    refine va_getN (D := D) (ci := 4) (v := .ref (aR 1)) (C := RX4) (T := TX4) (N := 16) hx hb hw inW_X4 hown hK hP 4 rfl rfl 3 (by decide) hn374 (fun _ h9 => h9) rfl dX11_count_88 ?_
    refine va_getN (D := D) (ci := 1) (v := .int (rs 11)) (C := RX1) (T := TX1) (N := 3) hx hb hw inW_X1 hown hK hP 5 rfl rfl 0 (by decide) hn378 (fun _ h9 => h9) rfl dX11_count_91 ?_
    rw [← hQ]
    exact cRetI (v := (rs 11)) () hx hb hr hlocks hS hP hD h dX11_count_94
  by_cases c1_3 : p1 = 3
  · refine lv_tableIn (tgt := 95) hx hb dX11_count_1 (by rw [c1_3] <;> decide) (by rw [c1_3] <;> decide) (by rw [c1_3] <;> rfl) (by decide) ?_
    have h := h.2.2.2.1 c1_3
    refine lv_aload_n hx hb dX11_count_95 rfl (lv_at hl 0 rfl) ?_
    refine va_get (D := D) (ci := 11) (v := .ref (aR 0)) (C := RX11) (T := TX11) (N := 8) hx hb hw inW_X11 hown hK hP 0 rfl rfl 1 (by decide) (hw _ mw_2_144) (fun _ h9 => h9) rfl dX11_count_96 ?_
    refine va_getN (D := D) (ci := 4) (v := .ref (aR 4)) (C := RX4) (T := TX4) (N := 16) hx hb hw inW_X4 hown hK hP 4 rfl rfl 4 (by decide) hn306 (fun _ h9 => h9) rfl dX11_count_99 ?_
    refine va_getN (D := D) (ci := 2) (v := .int (rs 12)) (C := RX2) (T := TX2) (N := 3) hx hb hw inW_X2 hown hK hP 8 rfl rfl 0 (by decide) hn310 (fun _ h9 => h9) rfl dX11_count_102 ?_
    rw [← hQ]
    exact cRetI (v := (rs 12)) () hx hb hr hlocks hS hP hD h dX11_count_105
  by_cases c1_4 : p1 = 4
  · refine lv_tableIn (tgt := 106) hx hb dX11_count_1 (by rw [c1_4] <;> decide) (by rw [c1_4] <;> decide) (by rw [c1_4] <;> rfl) (by decide) ?_
    have h := h.2.2.2.2.1 c1_4
    refine lv_aload_n hx hb dX11_count_106 rfl (lv_at hl 0 rfl) ?_
    refine va_get (D := D) (ci := 11) (v := .ref (aR 0)) (C := RX11) (T := TX11) (N := 8) hx hb hw inW_X11 hown hK hP 0 rfl rfl 1 (by decide) (hw _ mw_2_144) (fun _ h9 => h9) rfl dX11_count_107 ?_
    refine va_getN (D := D) (ci := 4) (v := .ref (aR 7)) (C := RX4) (T := TX4) (N := 16) hx hb hw inW_X4 hown hK hP 4 rfl rfl 5 (by decide) hn97 (fun _ h9 => h9) rfl dX11_count_110 ?_
    refine va_getN (D := D) (ci := 0) (v := .int (rs 13)) (C := RX0) (T := TX0) (N := 6) hx hb hw inW_X0 hown hK hP 11 rfl rfl 0 (by decide) hn161 (fun _ h9 => h9) rfl dX11_count_113 ?_
    rw [← hQ]
    exact cRetI (v := (rs 13)) () hx hb hr hlocks hS hP hD h dX11_count_116
  by_cases c1_5 : p1 = 5
  · refine lv_tableIn (tgt := 117) hx hb dX11_count_1 (by rw [c1_5] <;> decide) (by rw [c1_5] <;> decide) (by rw [c1_5] <;> rfl) (by decide) ?_
    have h := h.2.2.2.2.2.1 c1_5
    refine lv_aload_n hx hb dX11_count_117 rfl (lv_at hl 0 rfl) ?_
    refine va_get (D := D) (ci := 11) (v := .ref (aR 0)) (C := RX11) (T := TX11) (N := 8) hx hb hw inW_X11 hown hK hP 0 rfl rfl 1 (by decide) (hw _ mw_2_144) (fun _ h9 => h9) rfl dX11_count_118 ?_
    refine va_getN (D := D) (ci := 4) (v := .ref (aR 13)) (C := RX4) (T := TX4) (N := 16) hx hb hw inW_X4 hown hK hP 4 rfl rfl 6 (by decide) hn279 (fun _ h9 => h9) rfl dX11_count_121 ?_
    refine va_getN (D := D) (ci := 9) (v := .int (rs 14)) (C := RX9) (T := TX9) (N := 6) hx hb hw inW_X9 hown hK hP 17 rfl rfl 0 (by decide) hn283 (fun _ h9 => h9) rfl dX11_count_124 ?_
    rw [← hQ]
    exact cRetI (v := (rs 14)) () hx hb hr hlocks hS hP hD h dX11_count_127
  by_cases c1_6 : p1 = 6
  · refine lv_tableIn (tgt := 128) hx hb dX11_count_1 (by rw [c1_6] <;> decide) (by rw [c1_6] <;> decide) (by rw [c1_6] <;> rfl) (by decide) ?_
    have h := h.2.2.2.2.2.2.1 c1_6
    refine lv_aload_n hx hb dX11_count_128 rfl (lv_at hl 0 rfl) ?_
    refine va_get (D := D) (ci := 11) (v := .ref (aR 0)) (C := RX11) (T := TX11) (N := 8) hx hb hw inW_X11 hown hK hP 0 rfl rfl 1 (by decide) (hw _ mw_2_144) (fun _ h9 => h9) rfl dX11_count_129 ?_
    refine va_getN (D := D) (ci := 4) (v := .int (rs 2)) (C := RX4) (T := TX4) (N := 16) hx hb hw inW_X4 hown hK hP 4 rfl rfl 2 (by decide) hn77 (fun _ h9 => h9) rfl dX11_count_132 ?_
    rw [← hQ]
    exact cRetI (v := (rs 2)) () hx hb hr hlocks hS hP hD h dX11_count_135
  by_cases c1_7 : p1 = 7
  · refine lv_tableIn (tgt := 136) hx hb dX11_count_1 (by rw [c1_7] <;> decide) (by rw [c1_7] <;> decide) (by rw [c1_7] <;> rfl) (by decide) ?_
    have h := h.2.2.2.2.2.2.2.1 c1_7
    refine lv_aload_n hx hb dX11_count_136 rfl (lv_at hl 0 rfl) ?_
    refine va_get (D := D) (ci := 11) (v := .ref (aU 0)) (C := RX11) (T := TX11) (N := 8) hx hb hw inW_X11 hown hK hP 0 rfl rfl 0 (by decide) (hw _ mw_2_143) (fun _ h9 => h9) rfl dX11_count_137 ?_
    refine va_getN (D := D) (ci := 5) (v := .ref (aU 1)) (C := RX5) (T := TX5) (N := 3) hx hb hw inW_X5 hown hK hP 1 rfl rfl 0 (by decide) hn55 (fun _ h9 => h9) rfl dX11_count_140 ?_
    refine va_getN (D := D) (ci := 8) (v := .int (us 2)) (C := RX8) (T := TX8) (N := 6) hx hb hw inW_X8 hown hK hP 2 rfl rfl 1 (by decide) hn59 (fun _ h9 => h9) rfl dX11_count_143 ?_
    rw [← hQ]
    exact cRetI (v := (us 2)) () hx hb hr hlocks hS hP hD h dX11_count_146
  by_cases c1_8 : p1 = 8
  · refine lv_tableIn (tgt := 147) hx hb dX11_count_1 (by rw [c1_8] <;> decide) (by rw [c1_8] <;> decide) (by rw [c1_8] <;> rfl) (by decide) ?_
    have h := h.2.2.2.2.2.2.2.2.1 c1_8
    refine lv_aload_n hx hb dX11_count_147 rfl (lv_at hl 0 rfl) ?_
    refine va_get (D := D) (ci := 11) (v := .ref (aR 0)) (C := RX11) (T := TX11) (N := 8) hx hb hw inW_X11 hown hK hP 0 rfl rfl 1 (by decide) (hw _ mw_2_144) (fun _ h9 => h9) rfl dX11_count_148 ?_
    refine va_getN (D := D) (ci := 4) (v := .ref (aR 7)) (C := RX4) (T := TX4) (N := 16) hx hb hw inW_X4 hown hK hP 4 rfl rfl 5 (by decide) hn97 (fun _ h9 => h9) rfl dX11_count_151 ?_
    refine gs_I21_42 (rs_VN21_35 (As := []) (rest := []) ⟨hx, hb, hml, hown, hw⟩ hK hN hP hD (k_X0_markedOnes l D C _ (aR 7) (aR 8) (aR 9) (aR 10) (aR 11) (aR 12)  (rs 13) (ra 4) (ra 5) (ra 6) (ra 7) (ra 8)  h) ⟨va_cnB 0 hw (goodN mw_3_203) rfl rfl rfl (hN.m 34 rfl) (hw _ mw_1_7) (by decide +kernel) ⟨Nat.le_of_ble_eq_true rfl, Nat.le_of_ble_eq_true rfl⟩, hw _ mw_3_202, hw _ mw_s37⟩ rfl rfl rfl hl.1 rfl (Nat.le_of_ble_eq_true rfl) dX11_count_154 ⟨Nat.zero_le _, Nat.zero_le _⟩) hP hD hS hA (fun r2 u H locs h hP hD hS => ?_)
    have hP : va_P D vwCl (List.flatten ([cLockRail L0 (aU 0) (aR 0) (aR2 0) h_images (aS 0) n0 y0 o0 C ] ++ (wReader aU C us ua ++ (wRail aR C rs ra ++ (wRail aR2 C rs2 ra2 ++ (wSlots aS C sa sl ++ (wNight n0 aN C ns na nl ++ ([cYear y0 y1 y2 C y_isThere y_taken y_took] ++ ([cOb o0 C o_of]))))))))) H := hP
    have hD : va_D A (List.flatten ([cLockRail L0 (aU 0) (aR 0) (aR2 0) h_images (aS 0) n0 y0 o0 C ] ++ (wReader aU C us ua ++ (wRail aR C rs ra ++ (wRail aR2 C rs2 ra2 ++ (wSlots aS C sa sl ++ (wNight n0 aN C ns na nl ++ ([cYear y0 y1 y2 C y_isThere y_taken y_took] ++ ([cOb o0 C o_of]))))))))) := hD
    rw [← hQ]
    exact cRetI (v := r2) () hx hb hr hlocks hS hP hD h dX11_count_157
  by_cases c1_9 : p1 = 9
  · refine lv_tableIn (tgt := 158) hx hb dX11_count_1 (by rw [c1_9] <;> decide) (by rw [c1_9] <;> decide) (by rw [c1_9] <;> rfl) (by decide) ?_
    have h := h.2.2.2.2.2.2.2.2.2.1 c1_9
    refine lv_aload_n hx hb dX11_count_158 rfl (lv_at hl 0 rfl) ?_
    refine va_get (D := D) (ci := 11) (v := .ref (aR 0)) (C := RX11) (T := TX11) (N := 8) hx hb hw inW_X11 hown hK hP 0 rfl rfl 1 (by decide) (hw _ mw_2_144) (fun _ h9 => h9) rfl dX11_count_159 ?_
    refine va_getN (D := D) (ci := 4) (v := .int (rs 10)) (C := RX4) (T := TX4) (N := 16) hx hb hw inW_X4 hown hK hP 4 rfl rfl 14 (by decide) hn245 (fun _ h9 => h9) rfl dX11_count_162 ?_
    refine lv_if_eq (tgt := 172) hx hb dX11_count_165 (by decide) (fun c3 => ?_) (fun c3 => ?_)
    · have h := h.1 c3
      refine lv_iconst (v := 0) hx hb dX11_count_172 (by decide) ?_
      rw [← hQ]
      exact cRetI (v := 0) () hx hb hr hlocks hS hP hD h dX11_count_173
    · have h := h.2 c3
      refine lv_iconst (v := 1) hx hb dX11_count_168 (by decide) ?_
      refine lv_goto (tgt := 173) hx hb dX11_count_169 (by decide) ?_
      rw [← hQ]
      exact cRetI (v := 1) () hx hb hr hlocks hS hP hD h dX11_count_173
  by_cases c1_10 : p1 = 10
  · refine lv_tableIn (tgt := 174) hx hb dX11_count_1 (by rw [c1_10] <;> decide) (by rw [c1_10] <;> decide) (by rw [c1_10] <;> rfl) (by decide) ?_
    have h := h.2.2.2.2.2.2.2.2.2.2.1 c1_10
    refine lv_aload_n hx hb dX11_count_174 rfl (lv_at hl 0 rfl) ?_
    refine va_get (D := D) (ci := 11) (v := .ref (aR 0)) (C := RX11) (T := TX11) (N := 8) hx hb hw inW_X11 hown hK hP 0 rfl rfl 1 (by decide) (hw _ mw_2_144) (fun _ h9 => h9) rfl dX11_count_175 ?_
    refine gs_I21_41 (rs_VN21_34 (As := []) (rest := []) ⟨hx, hb, hml, hown, hw⟩ hK hN hP hD (k_X4_options l D C _ aR  rs ra  h) ⟨va_cnB 0 hw (goodN mw_4_144) rfl rfl rfl (hN.m 59 rfl) (hw _ mw_1_4) (by decide +kernel) ⟨Nat.le_of_ble_eq_true rfl, Nat.le_of_ble_eq_true rfl⟩, hw _ mw_4_143, hw _ mw_s66⟩ rfl rfl rfl hl.1 rfl (Nat.le_of_ble_eq_true rfl) dX11_count_178 ⟨Nat.zero_le _, Nat.zero_le _⟩) hP hD hS hA (fun r4 u H locs h hP hD hS => ?_)
    have hP : va_P D vwCl (List.flatten ([cLockRail L0 (aU 0) (aR 0) (aR2 0) h_images (aS 0) n0 y0 o0 C ] ++ (wReader aU C us ua ++ (wRail aR C rs ra ++ (wRail aR2 C rs2 ra2 ++ (wSlots aS C sa sl ++ (wNight n0 aN C ns na nl ++ ([cYear y0 y1 y2 C y_isThere y_taken y_took] ++ ([cOb o0 C o_of]))))))))) H := hP
    have hD : va_D A (List.flatten ([cLockRail L0 (aU 0) (aR 0) (aR2 0) h_images (aS 0) n0 y0 o0 C ] ++ (wReader aU C us ua ++ (wRail aR C rs ra ++ (wRail aR2 C rs2 ra2 ++ (wSlots aS C sa sl ++ (wNight n0 aN C ns na nl ++ ([cYear y0 y1 y2 C y_isThere y_taken y_took] ++ ([cOb o0 C o_of]))))))))) := hD
    rw [← hQ]
    exact cRetI (v := r4) () hx hb hr hlocks hS hP hD h dX11_count_181
  by_cases c1_11 : p1 = 11
  · refine lv_tableIn (tgt := 182) hx hb dX11_count_1 (by rw [c1_11] <;> decide) (by rw [c1_11] <;> decide) (by rw [c1_11] <;> rfl) (by decide) ?_
    have h := h.2.2.2.2.2.2.2.2.2.2.2.1 c1_11
    refine lv_aload_n hx hb dX11_count_182 rfl (lv_at hl 0 rfl) ?_
    refine va_get (D := D) (ci := 11) (v := .ref (aR 0)) (C := RX11) (T := TX11) (N := 8) hx hb hw inW_X11 hown hK hP 0 rfl rfl 1 (by decide) (hw _ mw_2_144) (fun _ h9 => h9) rfl dX11_count_183 ?_
    refine va_getN (D := D) (ci := 4) (v := .ref (aR 19)) (C := RX4) (T := TX4) (N := 16) hx hb hw inW_X4 hown hK hP 4 rfl rfl 15 (by decide) hn325 (fun _ h9 => h9) rfl dX11_count_186 ?_
    refine va_getN (D := D) (ci := 10) (v := .int (rs 15)) (C := RX10) (T := TX10) (N := 3) hx hb hw inW_X10 hown hK hP 23 rfl rfl 0 (by decide) hn357 (fun _ h9 => h9) rfl dX11_count_189 ?_
    refine lv_if_eq (tgt := 199) hx hb dX11_count_192 (by decide) (fun c5 => ?_) (fun c5 => ?_)
    · have h := h.1 c5
      refine lv_iconst (v := 0) hx hb dX11_count_199 (by decide) ?_
      rw [← hQ]
      exact cRetI (v := 0) () hx hb hr hlocks hS hP hD h dX11_count_200
    · have h := h.2 c5
      refine lv_iconst (v := 1) hx hb dX11_count_195 (by decide) ?_
      refine lv_goto (tgt := 200) hx hb dX11_count_196 (by decide) ?_
      rw [← hQ]
      exact cRetI (v := 1) () hx hb hr hlocks hS hP hD h dX11_count_200
  by_cases c1_12 : p1 = 12
  · refine lv_tableIn (tgt := 201) hx hb dX11_count_1 (by rw [c1_12] <;> decide) (by rw [c1_12] <;> decide) (by rw [c1_12] <;> rfl) (by decide) ?_
    have h := h.2.2.2.2.2.2.2.2.2.2.2.2.1 c1_12
    refine lv_aload_n hx hb dX11_count_201 rfl (lv_at hl 0 rfl) ?_
    refine va_get (D := D) (ci := 11) (v := .ref (aS 0)) (C := RX11) (T := TX11) (N := 8) hx hb hw inW_X11 hown hK hP 0 rfl rfl 4 (by decide) (hw _ mw_2_147) (fun _ h9 => h9) rfl dX11_count_202 ?_
    refine gs_I21_84 (rs_VN21_63 (As := []) (rest := []) ⟨hx, hb, hml, hown, hw⟩ hK hN hP hD (k_X6_rows l D C _ aS  sa sl  h) ⟨va_cnB 0 hw (goodN mw_5_230) rfl rfl rfl (hN.m 81 rfl) (hw _ mw_1_10) (by decide +kernel) ⟨Nat.le_of_ble_eq_true rfl, Nat.le_of_ble_eq_true rfl⟩, hw _ mw_5_229, hw _ mw_s102⟩ rfl rfl rfl hl.1 rfl (Nat.le_of_ble_eq_true rfl) dX11_count_205 ⟨Nat.zero_le _, Nat.zero_le _⟩) hP hD hS hA (fun r6 u H locs h hP hD hS => ?_)
    have hP : va_P D vwCl (List.flatten ([cLockRail L0 (aU 0) (aR 0) (aR2 0) h_images (aS 0) n0 y0 o0 C ] ++ (wReader aU C us ua ++ (wRail aR C rs ra ++ (wRail aR2 C rs2 ra2 ++ (wSlots aS C sa sl ++ (wNight n0 aN C ns na nl ++ ([cYear y0 y1 y2 C y_isThere y_taken y_took] ++ ([cOb o0 C o_of]))))))))) H := hP
    have hD : va_D A (List.flatten ([cLockRail L0 (aU 0) (aR 0) (aR2 0) h_images (aS 0) n0 y0 o0 C ] ++ (wReader aU C us ua ++ (wRail aR C rs ra ++ (wRail aR2 C rs2 ra2 ++ (wSlots aS C sa sl ++ (wNight n0 aN C ns na nl ++ ([cYear y0 y1 y2 C y_isThere y_taken y_took] ++ ([cOb o0 C o_of]))))))))) := hD
    rw [← hQ]
    exact cRetI (v := r6) () hx hb hr hlocks hS hP hD h dX11_count_208
  refine lv_tableOut (tgt := 209) hx hb dX11_count_1 (sw_out13 c1_0 c1_1 c1_2 c1_3 c1_4 c1_5 c1_6 c1_7 c1_8 c1_9 c1_10 c1_11 c1_12) (by decide) ?_
  have h := h.2.2.2.2.2.2.2.2.2.2.2.2.2 c1_0 c1_1 c1_2 c1_3 c1_4 c1_5 c1_6 c1_7 c1_8 c1_9 c1_10 c1_11 c1_12
  refine lv_iconst (v := (-1)) hx hb dX11_count_209 (by decide) ?_
  rw [← hQ]
  exact cRetI (v := (-1)) () hx hb hr hlocks hS hP hD h dX11_count_210
abbrev vsX11_row : List Cond := Cond.code yX11_row cX11_row 4 (some .int) :: WS
abbrev rmX11_row : Room := { frames := 1, cells := 0, slots := 0, locals := 24 }
set_option maxHeartbeats 4000000 in
set_option maxRecDepth 100000 in
theorem k_X11_row (l : Launch) (D : va_G) (C : Nat → ClassId) (sz : Nat) (L0 : Nat) (aU : Nat → Nat) (aR : Nat → Nat) (aR2 : Nat → Nat) (aS : Nat → Nat) (n0 : Nat) (aN : Nat → Nat) (y0 : Nat) (y1 : Nat) (y2 : Nat) (o0 : Nat) (h_images : Nat) (us : Nat → Int32) (ua : Nat → Nat → Int32) (rs : Nat → Int32) (ra : Nat → Nat → Int32) (rs2 : Nat → Int32) (ra2 : Nat → Nat → Int32) (sa : Nat → Nat → Int32) (sl : Nat → Nat → Int64) (ns : Nat → Int32) (na : Nat → Nat → Int32) (nl : Nat → Nat → Int64) (y_isThere : Int32) (y_taken : Nat → Int32) (y_took : Nat → Int32) (o_of : Nat → Int64) (p1 : Int32) (p2 : Int32) (p3 : Int32) {post : Int32 → (Nat → Nat → Int32) → (Nat → Nat → Int64) → Prop} (h : P_X11_row sa sl p1 p2 p3 post) : Met l yX11_row vsX11_row rmX11_row (cPre D C [.ref L0, .int p1, .int p2, .int p3] sz ([cLockRail L0 (aU 0) (aR 0) (aR2 0) h_images (aS 0) n0 y0 o0 C ] ++ (wReader aU C us ua ++ (wRail aR C rs ra ++ (wRail aR2 C rs2 ra2 ++ (wSlots aS C sa sl ++ (wNight n0 aN C ns na nl ++ ([cYear y0 y1 y2 C y_isThere y_taken y_took] ++ ([cOb o0 C o_of]))))))))) (cQi D (fun (r : Int32) (u : (Nat → Nat → Int32) × (Nat → Nat → Int64)) => post r u.1 u.2) (fun u => [cLockRail L0 (aU 0) (aR 0) (aR2 0) h_images (aS 0) n0 y0 o0 C ] ++ (wReader aU C us ua ++ (wRail aR C rs ra ++ (wRail aR2 C rs2 ra2 ++ (wSlots aS C u.1 u.2 ++ (wNight n0 aN C ns na nl ++ ([cYear y0 y1 y2 C y_isThere y_taken y_took] ++ ([cOb o0 C o_of])))))))) (va_A (List.flatten ([cLockRail L0 (aU 0) (aR 0) (aR2 0) h_images (aS 0) n0 y0 o0 C ] ++ (wReader aU C us ua ++ (wRail aR C rs ra ++ (wRail aR2 C rs2 ra2 ++ (wSlots aS C sa sl ++ (wNight n0 aN C ns na nl ++ ([cYear y0 y1 y2 C y_isThere y_taken y_took] ++ ([cOb o0 C o_of]))))))))) sz)) 0 0 (va_A (List.flatten ([cLockRail L0 (aU 0) (aR 0) (aR2 0) h_images (aS 0) n0 y0 o0 C ] ++ (wReader aU C us ua ++ (wRail aR C rs ra ++ (wRail aR2 C rs2 ra2 ++ (wSlots aS C sa sl ++ (wNight n0 aN C ns na nl ++ ([cYear y0 y1 y2 C y_isThere y_taken y_took] ++ ([cOb o0 C o_of]))))))))) sz) := by
  refine cStart (QA := fun A => cQi D (fun (r : Int32) (u : (Nat → Nat → Int32) × (Nat → Nat → Int64)) => post r u.1 u.2) (fun u => [cLockRail L0 (aU 0) (aR 0) (aR2 0) h_images (aS 0) n0 y0 o0 C ] ++ (wReader aU C us ua ++ (wRail aR C rs ra ++ (wRail aR2 C rs2 ra2 ++ (wSlots aS C u.1 u.2 ++ (wNight n0 aN C ns na nl ++ ([cYear y0 y1 y2 C y_isThere y_taken y_took] ++ ([cOb o0 C o_of])))))))) A) (cc := cX11_row) (maxL := 4) (ret := (some .int)) (by decide) (Nat.le_of_ble_eq_true rfl) ?_
  intro p e s m args below meth c A ls hx hb hr hml hown hw hlocks hname hK hN hA hP hD hS hl
  generalize hQ : MQ below _ args s 0 0 A = Q
  have hl : lv_has ls 4 [(0, .ref L0), (1, .int p1), (2, .int p2), (3, .int p3)] := hl
  obtain ⟨H, hH⟩ : ∃ H, H = s.heap := ⟨_, rfl⟩
  obtain ⟨locs, hlo⟩ : ∃ z : List Loc, z = [] := ⟨_, rfl⟩
  have hP : va_P D vwCl (List.flatten ([cLockRail L0 (aU 0) (aR 0) (aR2 0) h_images (aS 0) n0 y0 o0 C ] ++ (wReader aU C us ua ++ (wRail aR C rs ra ++ (wRail aR2 C rs2 ra2 ++ (wSlots aS C sa sl ++ (wNight n0 aN C ns na nl ++ ([cYear y0 y1 y2 C y_isThere y_taken y_took] ++ ([cOb o0 C o_of]))))))))) H := by rw [hH]; exact hP
  have hS : va_S A s.heap H locs := by rw [hH, hlo]; exact hS
  rw [show W p l e rmX11_row s m args below meth c s.heap [] 0 0 Q (F0 m 0 ls []) = W p l e rmX11_row s m args below meth c H locs 0 0 Q (F0 m 0 ls []) from by rw [hH, hlo]]
  refine lv_aload_n hx hb dX11_row_0 rfl (lv_at hl 0 rfl) ?_
  refine va_get (D := D) (ci := 11) (v := .ref (aS 0)) (C := RX11) (T := TX11) (N := 8) hx hb hw inW_X11 hown hK hP 0 rfl rfl 4 (by decide) (hw _ mw_2_147) (fun _ h9 => h9) rfl dX11_row_1 ?_
  refine lv_iload_n hx hb dX11_row_4 rfl (lv_at hl 1 rfl) ?_
  refine gs_I21_84 (rs_VN21_63 (As := [.int p1]) (rest := []) ⟨hx, hb, hml, hown, hw⟩ hK hN hP hD (k_X6_isSlot l D C _ aS  sa sl p1 h) ⟨va_cnB 1 hw (goodN mw_5_184) rfl rfl rfl (hN.m 73 rfl) (hw _ mw_1_10) (by decide +kernel) ⟨Nat.le_of_ble_eq_true rfl, Nat.le_of_ble_eq_true rfl⟩, hw _ mw_5_183, hw _ mw_s96⟩ rfl rfl rfl hl.1 rfl (Nat.le_of_ble_eq_true rfl) dX11_row_5 ⟨Nat.zero_le _, Nat.zero_le _⟩) hP hD hS hA (fun r1 u H locs h hP hD hS => ?_)
  have hP : va_P D vwCl (List.flatten ([cLockRail L0 (aU 0) (aR 0) (aR2 0) h_images (aS 0) n0 y0 o0 C ] ++ (wReader aU C us ua ++ (wRail aR C rs ra ++ (wRail aR2 C rs2 ra2 ++ (wSlots aS C sa sl ++ (wNight n0 aN C ns na nl ++ ([cYear y0 y1 y2 C y_isThere y_taken y_took] ++ ([cOb o0 C o_of]))))))))) H := hP
  have hD : va_D A (List.flatten ([cLockRail L0 (aU 0) (aR 0) (aR2 0) h_images (aS 0) n0 y0 o0 C ] ++ (wReader aU C us ua ++ (wRail aR C rs ra ++ (wRail aR2 C rs2 ra2 ++ (wSlots aS C sa sl ++ (wNight n0 aN C ns na nl ++ ([cYear y0 y1 y2 C y_isThere y_taken y_took] ++ ([cOb o0 C o_of]))))))))) := hD
  refine lv_if_eq (tgt := 26) hx hb dX11_row_8 (by decide) (fun c2 => ?_) (fun c2 => ?_)
  · have h := h.1 c2
    refine lv_bipush (v := (-2)) hx hb dX11_row_26 (by decide) ?_
    rw [← hQ]
    exact cRetI (v := (-2)) (sa, sl) hx hb hr hlocks hS hP hD h dX11_row_28
  · have h := h.2 c2
    refine lv_iload_n hx hb dX11_row_11 rfl (lv_at hl 2 rfl) ?_
    refine lv_if_lt (tgt := 26) hx hb dX11_row_12 (by decide) (fun c3 => ?_) (fun c3 => ?_)
    · have h := h.1 c3
      refine lv_bipush (v := (-2)) hx hb dX11_row_26 (by decide) ?_
      rw [← hQ]
      exact cRetI (v := (-2)) (sa, sl) hx hb hr hlocks hS hP hD h dX11_row_28
    · have h := h.2 c3
      refine lv_iload_n hx hb dX11_row_15 rfl (lv_at hl 2 rfl) ?_
      refine lv_iconst (v := 4) hx hb dX11_row_16 (by decide) ?_
      refine lv_icmp_ge (tgt := 26) hx hb dX11_row_17 (by decide) (fun c4 => ?_) (fun c4 => ?_)
      · have h := h.1 c4
        refine lv_bipush (v := (-2)) hx hb dX11_row_26 (by decide) ?_
        rw [← hQ]
        exact cRetI (v := (-2)) (sa, sl) hx hb hr hlocks hS hP hD h dX11_row_28
      · have h := h.2 c4
        refine lv_iload_n hx hb dX11_row_20 rfl (lv_at hl 3 rfl) ?_
        refine lv_bipush (v := 60) hx hb dX11_row_21 (by decide) ?_
        refine lv_icmp_le (tgt := 29) hx hb dX11_row_23 (by decide) (fun c5 => ?_) (fun c5 => ?_)
        · have h := h.1 c5
          refine lv_iload_n hx hb dX11_row_29 rfl (lv_at hl 3 rfl) ?_
          refine lv_if_ge (tgt := 36) hx hb dX11_row_30 (by decide) (fun c6 => ?_) (fun c6 => ?_)
          · have h := h.1 c6
            refine lv_aload_n hx hb dX11_row_36 rfl (lv_at hl 0 rfl) ?_
            refine va_get (D := D) (ci := 11) (v := .ref (aS 0)) (C := RX11) (T := TX11) (N := 8) hx hb hw inW_X11 hown hK hP 0 rfl rfl 4 (by decide) (hw _ mw_2_147) (fun _ h9 => h9) rfl dX11_row_37 ?_
            refine lv_iload_n hx hb dX11_row_40 rfl (lv_at hl 1 rfl) ?_
            refine lv_iload_n hx hb dX11_row_41 rfl (lv_at hl 2 rfl) ?_
            refine lv_iload_n hx hb dX11_row_42 rfl (lv_at hl 3 rfl) ?_
            refine gs_V21_90 (rs_VN21_63 (As := [.int p1, .int p2, .int p3]) (rest := []) ⟨hx, hb, hml, hown, hw⟩ hK hN hP hD (k_X6_make l D C _ aS  sa sl p1 p2 p3 h) ⟨va_cnB 3 hw (goodN mw_6_7) rfl rfl rfl (hN.m 82 rfl) (hw _ mw_1_10) (by decide +kernel) ⟨Nat.le_of_ble_eq_true rfl, Nat.le_of_ble_eq_true rfl⟩, hw _ mw_6_6, hw _ mw_s103⟩ rfl rfl rfl hl.1 rfl (Nat.le_of_ble_eq_true rfl) dX11_row_43 ⟨Nat.zero_le _, Nat.zero_le _⟩) hP hD hS hA (fun u H locs h hP hD hS => ?_)
            obtain ⟨sa_7, sl_8⟩ := u
            have hP : va_P D vwCl (List.flatten ([cLockRail L0 (aU 0) (aR 0) (aR2 0) h_images (aS 0) n0 y0 o0 C ] ++ (wReader aU C us ua ++ (wRail aR C rs ra ++ (wRail aR2 C rs2 ra2 ++ (wSlots aS C sa_7 sl_8 ++ (wNight n0 aN C ns na nl ++ ([cYear y0 y1 y2 C y_isThere y_taken y_took] ++ ([cOb o0 C o_of]))))))))) H := hP
            have hD : va_D A (List.flatten ([cLockRail L0 (aU 0) (aR 0) (aR2 0) h_images (aS 0) n0 y0 o0 C ] ++ (wReader aU C us ua ++ (wRail aR C rs ra ++ (wRail aR2 C rs2 ra2 ++ (wSlots aS C sa_7 sl_8 ++ (wNight n0 aN C ns na nl ++ ([cYear y0 y1 y2 C y_isThere y_taken y_took] ++ ([cOb o0 C o_of]))))))))) := hD
            refine lv_iconst (v := 0) hx hb dX11_row_46 (by decide) ?_
            rw [← hQ]
            exact cRetI (v := 0) (sa_7, sl_8) hx hb hr hlocks hS hP hD h dX11_row_47
          · have h := h.2 c6
            refine lv_bipush (v := (-3)) hx hb dX11_row_33 (by decide) ?_
            rw [← hQ]
            exact cRetI (v := (-3)) (sa, sl) hx hb hr hlocks hS hP hD h dX11_row_35
        · have h := h.2 c5
          refine lv_bipush (v := (-2)) hx hb dX11_row_26 (by decide) ?_
          rw [← hQ]
          exact cRetI (v := (-2)) (sa, sl) hx hb hr hlocks hS hP hD h dX11_row_28
abbrev vsX11_write : List Cond := Cond.code yX11_write cX11_write 5 (some .int) :: WS
abbrev rmX11_write : Room := { frames := 2, cells := 0, slots := 0, locals := 46 }
set_option maxHeartbeats 4000000 in
set_option maxRecDepth 100000 in
theorem k_X11_write (l : Launch) (D : va_G) (C : Nat → ClassId) (sz : Nat) (L0 : Nat) (aU : Nat → Nat) (aR : Nat → Nat) (aR2 : Nat → Nat) (aS : Nat → Nat) (n0 : Nat) (aN : Nat → Nat) (y0 : Nat) (y1 : Nat) (y2 : Nat) (o0 : Nat) (h_images : Nat) (us : Nat → Int32) (ua : Nat → Nat → Int32) (rs : Nat → Int32) (ra : Nat → Nat → Int32) (rs2 : Nat → Int32) (ra2 : Nat → Nat → Int32) (sa : Nat → Nat → Int32) (sl : Nat → Nat → Int64) (ns : Nat → Int32) (na : Nat → Nat → Int32) (nl : Nat → Nat → Int64) (y_isThere : Int32) (y_taken : Nat → Int32) (y_took : Nat → Int32) (o_of : Nat → Int64) (p1 : Int32) (p2 : Int32) (p3 : Int64) {post : Int32 → (Nat → Nat → Int64) → Prop} (h : P_X11_write sa sl p1 p2 p3 post) : Met l yX11_write vsX11_write rmX11_write (cPre D C [.ref L0, .int p1, .int p2, .long p3] sz ([cLockRail L0 (aU 0) (aR 0) (aR2 0) h_images (aS 0) n0 y0 o0 C ] ++ (wReader aU C us ua ++ (wRail aR C rs ra ++ (wRail aR2 C rs2 ra2 ++ (wSlots aS C sa sl ++ (wNight n0 aN C ns na nl ++ ([cYear y0 y1 y2 C y_isThere y_taken y_took] ++ ([cOb o0 C o_of]))))))))) (cQi D (fun (r : Int32) (u : (Nat → Nat → Int64)) => post r u) (fun u => [cLockRail L0 (aU 0) (aR 0) (aR2 0) h_images (aS 0) n0 y0 o0 C ] ++ (wReader aU C us ua ++ (wRail aR C rs ra ++ (wRail aR2 C rs2 ra2 ++ (wSlots aS C sa u ++ (wNight n0 aN C ns na nl ++ ([cYear y0 y1 y2 C y_isThere y_taken y_took] ++ ([cOb o0 C o_of])))))))) (va_A (List.flatten ([cLockRail L0 (aU 0) (aR 0) (aR2 0) h_images (aS 0) n0 y0 o0 C ] ++ (wReader aU C us ua ++ (wRail aR C rs ra ++ (wRail aR2 C rs2 ra2 ++ (wSlots aS C sa sl ++ (wNight n0 aN C ns na nl ++ ([cYear y0 y1 y2 C y_isThere y_taken y_took] ++ ([cOb o0 C o_of]))))))))) sz)) 0 0 (va_A (List.flatten ([cLockRail L0 (aU 0) (aR 0) (aR2 0) h_images (aS 0) n0 y0 o0 C ] ++ (wReader aU C us ua ++ (wRail aR C rs ra ++ (wRail aR2 C rs2 ra2 ++ (wSlots aS C sa sl ++ (wNight n0 aN C ns na nl ++ ([cYear y0 y1 y2 C y_isThere y_taken y_took] ++ ([cOb o0 C o_of]))))))))) sz) := by
  refine cStart (QA := fun A => cQi D (fun (r : Int32) (u : (Nat → Nat → Int64)) => post r u) (fun u => [cLockRail L0 (aU 0) (aR 0) (aR2 0) h_images (aS 0) n0 y0 o0 C ] ++ (wReader aU C us ua ++ (wRail aR C rs ra ++ (wRail aR2 C rs2 ra2 ++ (wSlots aS C sa u ++ (wNight n0 aN C ns na nl ++ ([cYear y0 y1 y2 C y_isThere y_taken y_took] ++ ([cOb o0 C o_of])))))))) A) (cc := cX11_write) (maxL := 5) (ret := (some .int)) (by decide) (Nat.le_of_ble_eq_true rfl) ?_
  intro p e s m args below meth c A ls hx hb hr hml hown hw hlocks hname hK hN hA hP hD hS hl
  generalize hQ : MQ below _ args s 0 0 A = Q
  have hl : lv_has ls 5 [(0, .ref L0), (1, .int p1), (2, .int p2), (3, .long p3)] := hl
  obtain ⟨H, hH⟩ : ∃ H, H = s.heap := ⟨_, rfl⟩
  obtain ⟨locs, hlo⟩ : ∃ z : List Loc, z = [] := ⟨_, rfl⟩
  have hP : va_P D vwCl (List.flatten ([cLockRail L0 (aU 0) (aR 0) (aR2 0) h_images (aS 0) n0 y0 o0 C ] ++ (wReader aU C us ua ++ (wRail aR C rs ra ++ (wRail aR2 C rs2 ra2 ++ (wSlots aS C sa sl ++ (wNight n0 aN C ns na nl ++ ([cYear y0 y1 y2 C y_isThere y_taken y_took] ++ ([cOb o0 C o_of]))))))))) H := by rw [hH]; exact hP
  have hS : va_S A s.heap H locs := by rw [hH, hlo]; exact hS
  rw [show W p l e rmX11_write s m args below meth c s.heap [] 0 0 Q (F0 m 0 ls []) = W p l e rmX11_write s m args below meth c H locs 0 0 Q (F0 m 0 ls []) from by rw [hH, hlo]]
  refine lv_aload_n hx hb dX11_write_0 rfl (lv_at hl 0 rfl) ?_
  refine va_get (D := D) (ci := 11) (v := .ref (aS 0)) (C := RX11) (T := TX11) (N := 8) hx hb hw inW_X11 hown hK hP 0 rfl rfl 4 (by decide) (hw _ mw_2_147) (fun _ h9 => h9) rfl dX11_write_1 ?_
  refine lv_iload_n hx hb dX11_write_4 rfl (lv_at hl 1 rfl) ?_
  refine gs_I21_84 (rs_VN21_63 (As := [.int p1]) (rest := []) ⟨hx, hb, hml, hown, hw⟩ hK hN hP hD (k_X6_isSlot l D C _ aS  sa sl p1 h) ⟨va_cnB 1 hw (goodN mw_5_184) rfl rfl rfl (hN.m 73 rfl) (hw _ mw_1_10) (by decide +kernel) ⟨Nat.le_of_ble_eq_true rfl, Nat.le_of_ble_eq_true rfl⟩, hw _ mw_5_183, hw _ mw_s96⟩ rfl rfl rfl hl.1 rfl (Nat.le_of_ble_eq_true rfl) dX11_write_5 ⟨Nat.zero_le _, Nat.zero_le _⟩) hP hD hS hA (fun r1 u H locs h hP hD hS => ?_)
  have hP : va_P D vwCl (List.flatten ([cLockRail L0 (aU 0) (aR 0) (aR2 0) h_images (aS 0) n0 y0 o0 C ] ++ (wReader aU C us ua ++ (wRail aR C rs ra ++ (wRail aR2 C rs2 ra2 ++ (wSlots aS C sa sl ++ (wNight n0 aN C ns na nl ++ ([cYear y0 y1 y2 C y_isThere y_taken y_took] ++ ([cOb o0 C o_of]))))))))) H := hP
  have hD : va_D A (List.flatten ([cLockRail L0 (aU 0) (aR 0) (aR2 0) h_images (aS 0) n0 y0 o0 C ] ++ (wReader aU C us ua ++ (wRail aR C rs ra ++ (wRail aR2 C rs2 ra2 ++ (wSlots aS C sa sl ++ (wNight n0 aN C ns na nl ++ ([cYear y0 y1 y2 C y_isThere y_taken y_took] ++ ([cOb o0 C o_of]))))))))) := hD
  refine lv_if_ne (tgt := 14) hx hb dX11_write_8 (by decide) (fun c2 => ?_) (fun c2 => ?_)
  · have h := h.1 c2
    refine lv_aload_n hx hb dX11_write_14 rfl (lv_at hl 0 rfl) ?_
    refine va_get (D := D) (ci := 11) (v := .ref (aS 0)) (C := RX11) (T := TX11) (N := 8) hx hb hw inW_X11 hown hK hP 0 rfl rfl 4 (by decide) (hw _ mw_2_147) (fun _ h9 => h9) rfl dX11_write_15 ?_
    refine lv_iload_n hx hb dX11_write_18 rfl (lv_at hl 1 rfl) ?_
    refine gs_I21_84 (rs_VN21_63 (As := [.int p1]) (rest := []) ⟨hx, hb, hml, hown, hw⟩ hK hN hP hD (k_X6_hasRow l D C _ aS  sa sl p1 h) ⟨va_cnB 1 hw (goodN mw_5_188) rfl rfl rfl (hN.m 74 rfl) (hw _ mw_1_10) (by decide +kernel) ⟨Nat.le_of_ble_eq_true rfl, Nat.le_of_ble_eq_true rfl⟩, hw _ mw_5_187, hw _ mw_s97⟩ rfl rfl rfl hl.1 rfl (Nat.le_of_ble_eq_true rfl) dX11_write_19 ⟨Nat.zero_le _, Nat.zero_le _⟩) hP hD hS hA (fun r3 u H locs h hP hD hS => ?_)
    have hP : va_P D vwCl (List.flatten ([cLockRail L0 (aU 0) (aR 0) (aR2 0) h_images (aS 0) n0 y0 o0 C ] ++ (wReader aU C us ua ++ (wRail aR C rs ra ++ (wRail aR2 C rs2 ra2 ++ (wSlots aS C sa sl ++ (wNight n0 aN C ns na nl ++ ([cYear y0 y1 y2 C y_isThere y_taken y_took] ++ ([cOb o0 C o_of]))))))))) H := hP
    have hD : va_D A (List.flatten ([cLockRail L0 (aU 0) (aR 0) (aR2 0) h_images (aS 0) n0 y0 o0 C ] ++ (wReader aU C us ua ++ (wRail aR C rs ra ++ (wRail aR2 C rs2 ra2 ++ (wSlots aS C sa sl ++ (wNight n0 aN C ns na nl ++ ([cYear y0 y1 y2 C y_isThere y_taken y_took] ++ ([cOb o0 C o_of]))))))))) := hD
    refine lv_if_ne (tgt := 28) hx hb dX11_write_22 (by decide) (fun c4 => ?_) (fun c4 => ?_)
    · have h := h.1 c4
      refine lv_iload_n hx hb dX11_write_28 rfl (lv_at hl 2 rfl) ?_
      refine lv_if_lt (tgt := 44) hx hb dX11_write_29 (by decide) (fun c5 => ?_) (fun c5 => ?_)
      · have h := h.1 c5
        refine lv_bipush (v := (-7)) hx hb dX11_write_44 (by decide) ?_
        rw [← hQ]
        exact cRetI (v := (-7)) (sl) hx hb hr hlocks hS hP hD h dX11_write_46
      · have h := h.2 c5
        refine lv_iload_n hx hb dX11_write_32 rfl (lv_at hl 2 rfl) ?_
        refine lv_aload_n hx hb dX11_write_33 rfl (lv_at hl 0 rfl) ?_
        refine va_get (D := D) (ci := 11) (v := .ref (aS 0)) (C := RX11) (T := TX11) (N := 8) hx hb hw inW_X11 hown hK hP 0 rfl rfl 4 (by decide) (hw _ mw_2_147) (fun _ h9 => h9) rfl dX11_write_34 ?_
        refine lv_iload_n hx hb dX11_write_37 rfl (lv_at hl 1 rfl) ?_
        refine gs_I21_84 (rs_VN21_63 (As := [.int p1]) (rest := [.int p2]) ⟨hx, hb, hml, hown, hw⟩ hK hN hP hD (k_X6_sizeOf l D C _ aS  sa sl p1 h) ⟨va_cnB 1 hw (goodN mw_5_201) rfl rfl rfl (hN.m 77 rfl) (hw _ mw_1_10) (by decide +kernel) ⟨Nat.le_of_ble_eq_true rfl, Nat.le_of_ble_eq_true rfl⟩, hw _ mw_5_200, hw _ mw_s100⟩ rfl rfl rfl hl.1 rfl (Nat.le_of_ble_eq_true rfl) dX11_write_38 ⟨Nat.zero_le _, Nat.zero_le _⟩) hP hD hS hA (fun r6 u H locs h hP hD hS => ?_)
        have hP : va_P D vwCl (List.flatten ([cLockRail L0 (aU 0) (aR 0) (aR2 0) h_images (aS 0) n0 y0 o0 C ] ++ (wReader aU C us ua ++ (wRail aR C rs ra ++ (wRail aR2 C rs2 ra2 ++ (wSlots aS C sa sl ++ (wNight n0 aN C ns na nl ++ ([cYear y0 y1 y2 C y_isThere y_taken y_took] ++ ([cOb o0 C o_of]))))))))) H := hP
        have hD : va_D A (List.flatten ([cLockRail L0 (aU 0) (aR 0) (aR2 0) h_images (aS 0) n0 y0 o0 C ] ++ (wReader aU C us ua ++ (wRail aR C rs ra ++ (wRail aR2 C rs2 ra2 ++ (wSlots aS C sa sl ++ (wNight n0 aN C ns na nl ++ ([cYear y0 y1 y2 C y_isThere y_taken y_took] ++ ([cOb o0 C o_of]))))))))) := hD
        refine lv_icmp_lt (tgt := 47) hx hb dX11_write_41 (by decide) (fun c7 => ?_) (fun c7 => ?_)
        · have h := h.1 c7
          refine lv_aload_n hx hb dX11_write_47 rfl (lv_at hl 0 rfl) ?_
          refine va_get (D := D) (ci := 11) (v := .ref (aS 0)) (C := RX11) (T := TX11) (N := 8) hx hb hw inW_X11 hown hK hP 0 rfl rfl 4 (by decide) (hw _ mw_2_147) (fun _ h9 => h9) rfl dX11_write_48 ?_
          refine lv_iload_n hx hb dX11_write_51 rfl (lv_at hl 1 rfl) ?_
          refine lv_iload_n hx hb dX11_write_52 rfl (lv_at hl 2 rfl) ?_
          refine lv_lload_n hx hb dX11_write_53 rfl (lv_at hl 3 rfl) ?_
          refine gs_V21_90 (rs_VN21_63 (As := [.int p1, .int p2, .long p3]) (rest := []) ⟨hx, hb, hml, hown, hw⟩ hK hN hP hD (k_X6_put l D C _ aS  sa sl p1 p2 p3 h) ⟨va_cnB 3 hw (goodN mw_6_15) rfl rfl rfl (hN.m 83 rfl) (hw _ mw_1_10) (by decide +kernel) ⟨Nat.le_of_ble_eq_true rfl, Nat.le_of_ble_eq_true rfl⟩, hw _ mw_6_14, hw _ mw_s104⟩ rfl rfl rfl hl.1 rfl (Nat.le_of_ble_eq_true rfl) dX11_write_54 ⟨Nat.zero_le _, Nat.zero_le _⟩) hP hD hS hA (fun sl_8 H locs h hP hD hS => ?_)
          have hP : va_P D vwCl (List.flatten ([cLockRail L0 (aU 0) (aR 0) (aR2 0) h_images (aS 0) n0 y0 o0 C ] ++ (wReader aU C us ua ++ (wRail aR C rs ra ++ (wRail aR2 C rs2 ra2 ++ (wSlots aS C sa sl_8 ++ (wNight n0 aN C ns na nl ++ ([cYear y0 y1 y2 C y_isThere y_taken y_took] ++ ([cOb o0 C o_of]))))))))) H := hP
          have hD : va_D A (List.flatten ([cLockRail L0 (aU 0) (aR 0) (aR2 0) h_images (aS 0) n0 y0 o0 C ] ++ (wReader aU C us ua ++ (wRail aR C rs ra ++ (wRail aR2 C rs2 ra2 ++ (wSlots aS C sa sl_8 ++ (wNight n0 aN C ns na nl ++ ([cYear y0 y1 y2 C y_isThere y_taken y_took] ++ ([cOb o0 C o_of]))))))))) := hD
          refine lv_iconst (v := 0) hx hb dX11_write_57 (by decide) ?_
          rw [← hQ]
          exact cRetI (v := 0) (sl_8) hx hb hr hlocks hS hP hD h dX11_write_58
        · have h := h.2 c7
          refine lv_bipush (v := (-7)) hx hb dX11_write_44 (by decide) ?_
          rw [← hQ]
          exact cRetI (v := (-7)) (sl) hx hb hr hlocks hS hP hD h dX11_write_46
    · have h := h.2 c4
      refine lv_bipush (v := (-6)) hx hb dX11_write_25 (by decide) ?_
      rw [← hQ]
      exact cRetI (v := (-6)) (sl) hx hb hr hlocks hS hP hD h dX11_write_27
  · have h := h.2 c2
    refine lv_bipush (v := (-2)) hx hb dX11_write_11 (by decide) ?_
    rw [← hQ]
    exact cRetI (v := (-2)) (sl) hx hb hr hlocks hS hP hD h dX11_write_13
abbrev vsX11_paste : List Cond := Cond.code yX11_paste cX11_paste 6 (some .int) :: WS
abbrev rmX11_paste : Room := { frames := 2, cells := 0, slots := 0, locals := 65 }
set_option maxHeartbeats 4000000 in
set_option maxRecDepth 100000 in
theorem k_X11_paste (l : Launch) (D : va_G) (C : Nat → ClassId) (sz : Nat) (L0 : Nat) (aU : Nat → Nat) (aR : Nat → Nat) (aR2 : Nat → Nat) (aS : Nat → Nat) (n0 : Nat) (aN : Nat → Nat) (y0 : Nat) (y1 : Nat) (y2 : Nat) (o0 : Nat) (h_images : Nat) (us : Nat → Int32) (ua : Nat → Nat → Int32) (rs : Nat → Int32) (ra : Nat → Nat → Int32) (rs2 : Nat → Int32) (ra2 : Nat → Nat → Int32) (sa : Nat → Nat → Int32) (sl : Nat → Nat → Int64) (ns : Nat → Int32) (na : Nat → Nat → Int32) (nl : Nat → Nat → Int64) (y_isThere : Int32) (y_taken : Nat → Int32) (y_took : Nat → Int32) (o_of : Nat → Int64) (p1 : Int32) (p2 : Int32) (p3 : Int32) (p4 : Int32) (p5 : Int32) {post : Int32 → (Nat → Nat → Int64) → Prop} (h : P_X11_paste sa sl p1 p2 p3 p4 p5 post) : Met l yX11_paste vsX11_paste rmX11_paste (cPre D C [.ref L0, .int p1, .int p2, .int p3, .int p4, .int p5] sz ([cLockRail L0 (aU 0) (aR 0) (aR2 0) h_images (aS 0) n0 y0 o0 C ] ++ (wReader aU C us ua ++ (wRail aR C rs ra ++ (wRail aR2 C rs2 ra2 ++ (wSlots aS C sa sl ++ (wNight n0 aN C ns na nl ++ ([cYear y0 y1 y2 C y_isThere y_taken y_took] ++ ([cOb o0 C o_of]))))))))) (cQi D (fun (r : Int32) (u : (Nat → Nat → Int64)) => post r u) (fun u => [cLockRail L0 (aU 0) (aR 0) (aR2 0) h_images (aS 0) n0 y0 o0 C ] ++ (wReader aU C us ua ++ (wRail aR C rs ra ++ (wRail aR2 C rs2 ra2 ++ (wSlots aS C sa u ++ (wNight n0 aN C ns na nl ++ ([cYear y0 y1 y2 C y_isThere y_taken y_took] ++ ([cOb o0 C o_of])))))))) (va_A (List.flatten ([cLockRail L0 (aU 0) (aR 0) (aR2 0) h_images (aS 0) n0 y0 o0 C ] ++ (wReader aU C us ua ++ (wRail aR C rs ra ++ (wRail aR2 C rs2 ra2 ++ (wSlots aS C sa sl ++ (wNight n0 aN C ns na nl ++ ([cYear y0 y1 y2 C y_isThere y_taken y_took] ++ ([cOb o0 C o_of]))))))))) sz)) 0 0 (va_A (List.flatten ([cLockRail L0 (aU 0) (aR 0) (aR2 0) h_images (aS 0) n0 y0 o0 C ] ++ (wReader aU C us ua ++ (wRail aR C rs ra ++ (wRail aR2 C rs2 ra2 ++ (wSlots aS C sa sl ++ (wNight n0 aN C ns na nl ++ ([cYear y0 y1 y2 C y_isThere y_taken y_took] ++ ([cOb o0 C o_of]))))))))) sz) := by
  refine cStart (QA := fun A => cQi D (fun (r : Int32) (u : (Nat → Nat → Int64)) => post r u) (fun u => [cLockRail L0 (aU 0) (aR 0) (aR2 0) h_images (aS 0) n0 y0 o0 C ] ++ (wReader aU C us ua ++ (wRail aR C rs ra ++ (wRail aR2 C rs2 ra2 ++ (wSlots aS C sa u ++ (wNight n0 aN C ns na nl ++ ([cYear y0 y1 y2 C y_isThere y_taken y_took] ++ ([cOb o0 C o_of])))))))) A) (cc := cX11_paste) (maxL := 6) (ret := (some .int)) (by decide) (Nat.le_of_ble_eq_true rfl) ?_
  intro p e s m args below meth c A ls hx hb hr hml hown hw hlocks hname hK hN hA hP hD hS hl
  generalize hQ : MQ below _ args s 0 0 A = Q
  have hl : lv_has ls 6 [(0, .ref L0), (1, .int p1), (2, .int p2), (3, .int p3), (4, .int p4), (5, .int p5)] := hl
  obtain ⟨H, hH⟩ : ∃ H, H = s.heap := ⟨_, rfl⟩
  obtain ⟨locs, hlo⟩ : ∃ z : List Loc, z = [] := ⟨_, rfl⟩
  have hP : va_P D vwCl (List.flatten ([cLockRail L0 (aU 0) (aR 0) (aR2 0) h_images (aS 0) n0 y0 o0 C ] ++ (wReader aU C us ua ++ (wRail aR C rs ra ++ (wRail aR2 C rs2 ra2 ++ (wSlots aS C sa sl ++ (wNight n0 aN C ns na nl ++ ([cYear y0 y1 y2 C y_isThere y_taken y_took] ++ ([cOb o0 C o_of]))))))))) H := by rw [hH]; exact hP
  have hS : va_S A s.heap H locs := by rw [hH, hlo]; exact hS
  rw [show W p l e rmX11_paste s m args below meth c s.heap [] 0 0 Q (F0 m 0 ls []) = W p l e rmX11_paste s m args below meth c H locs 0 0 Q (F0 m 0 ls []) from by rw [hH, hlo]]
  refine lv_aload_n hx hb dX11_paste_0 rfl (lv_at hl 0 rfl) ?_
  refine va_get (D := D) (ci := 11) (v := .ref (aS 0)) (C := RX11) (T := TX11) (N := 8) hx hb hw inW_X11 hown hK hP 0 rfl rfl 4 (by decide) (hw _ mw_2_147) (fun _ h9 => h9) rfl dX11_paste_1 ?_
  refine lv_iload_n hx hb dX11_paste_4 rfl (lv_at hl 1 rfl) ?_
  refine gs_I21_84 (rs_VN21_63 (As := [.int p1]) (rest := []) ⟨hx, hb, hml, hown, hw⟩ hK hN hP hD (k_X6_isSlot l D C _ aS  sa sl p1 h) ⟨va_cnB 1 hw (goodN mw_5_184) rfl rfl rfl (hN.m 73 rfl) (hw _ mw_1_10) (by decide +kernel) ⟨Nat.le_of_ble_eq_true rfl, Nat.le_of_ble_eq_true rfl⟩, hw _ mw_5_183, hw _ mw_s96⟩ rfl rfl rfl hl.1 rfl (Nat.le_of_ble_eq_true rfl) dX11_paste_5 ⟨Nat.zero_le _, Nat.zero_le _⟩) hP hD hS hA (fun r1 u H locs h hP hD hS => ?_)
  have hP : va_P D vwCl (List.flatten ([cLockRail L0 (aU 0) (aR 0) (aR2 0) h_images (aS 0) n0 y0 o0 C ] ++ (wReader aU C us ua ++ (wRail aR C rs ra ++ (wRail aR2 C rs2 ra2 ++ (wSlots aS C sa sl ++ (wNight n0 aN C ns na nl ++ ([cYear y0 y1 y2 C y_isThere y_taken y_took] ++ ([cOb o0 C o_of]))))))))) H := hP
  have hD : va_D A (List.flatten ([cLockRail L0 (aU 0) (aR 0) (aR2 0) h_images (aS 0) n0 y0 o0 C ] ++ (wReader aU C us ua ++ (wRail aR C rs ra ++ (wRail aR2 C rs2 ra2 ++ (wSlots aS C sa sl ++ (wNight n0 aN C ns na nl ++ ([cYear y0 y1 y2 C y_isThere y_taken y_took] ++ ([cOb o0 C o_of]))))))))) := hD
  refine lv_if_eq (tgt := 22) hx hb dX11_paste_8 (by decide) (fun c2 => ?_) (fun c2 => ?_)
  · have h := h.1 c2
    refine lv_bipush (v := (-2)) hx hb dX11_paste_22 (by decide) ?_
    rw [← hQ]
    exact cRetI (v := (-2)) (sl) hx hb hr hlocks hS hP hD h dX11_paste_24
  · have h := h.2 c2
    refine lv_aload_n hx hb dX11_paste_11 rfl (lv_at hl 0 rfl) ?_
    refine va_get (D := D) (ci := 11) (v := .ref (aS 0)) (C := RX11) (T := TX11) (N := 8) hx hb hw inW_X11 hown hK hP 0 rfl rfl 4 (by decide) (hw _ mw_2_147) (fun _ h9 => h9) rfl dX11_paste_12 ?_
    refine lv_iload_n hx hb dX11_paste_15 rfl (lv_at hl 3 rfl) ?_
    refine gs_I21_84 (rs_VN21_63 (As := [.int p3]) (rest := []) ⟨hx, hb, hml, hown, hw⟩ hK hN hP hD (k_X6_isSlot l D C _ aS  sa sl p3 h) ⟨va_cnB 1 hw (goodN mw_5_184) rfl rfl rfl (hN.m 73 rfl) (hw _ mw_1_10) (by decide +kernel) ⟨Nat.le_of_ble_eq_true rfl, Nat.le_of_ble_eq_true rfl⟩, hw _ mw_5_183, hw _ mw_s96⟩ rfl rfl rfl hl.1 rfl (Nat.le_of_ble_eq_true rfl) dX11_paste_16 ⟨Nat.zero_le _, Nat.zero_le _⟩) hP hD hS hA (fun r3 u H locs h hP hD hS => ?_)
    have hP : va_P D vwCl (List.flatten ([cLockRail L0 (aU 0) (aR 0) (aR2 0) h_images (aS 0) n0 y0 o0 C ] ++ (wReader aU C us ua ++ (wRail aR C rs ra ++ (wRail aR2 C rs2 ra2 ++ (wSlots aS C sa sl ++ (wNight n0 aN C ns na nl ++ ([cYear y0 y1 y2 C y_isThere y_taken y_took] ++ ([cOb o0 C o_of]))))))))) H := hP
    have hD : va_D A (List.flatten ([cLockRail L0 (aU 0) (aR 0) (aR2 0) h_images (aS 0) n0 y0 o0 C ] ++ (wReader aU C us ua ++ (wRail aR C rs ra ++ (wRail aR2 C rs2 ra2 ++ (wSlots aS C sa sl ++ (wNight n0 aN C ns na nl ++ ([cYear y0 y1 y2 C y_isThere y_taken y_took] ++ ([cOb o0 C o_of]))))))))) := hD
    refine lv_if_ne (tgt := 25) hx hb dX11_paste_19 (by decide) (fun c4 => ?_) (fun c4 => ?_)
    · have h := h.1 c4
      refine lv_aload_n hx hb dX11_paste_25 rfl (lv_at hl 0 rfl) ?_
      refine va_get (D := D) (ci := 11) (v := .ref (aS 0)) (C := RX11) (T := TX11) (N := 8) hx hb hw inW_X11 hown hK hP 0 rfl rfl 4 (by decide) (hw _ mw_2_147) (fun _ h9 => h9) rfl dX11_paste_26 ?_
      refine lv_iload_n hx hb dX11_paste_29 rfl (lv_at hl 1 rfl) ?_
      refine gs_I21_84 (rs_VN21_63 (As := [.int p1]) (rest := []) ⟨hx, hb, hml, hown, hw⟩ hK hN hP hD (k_X6_hasRow l D C _ aS  sa sl p1 h) ⟨va_cnB 1 hw (goodN mw_5_188) rfl rfl rfl (hN.m 74 rfl) (hw _ mw_1_10) (by decide +kernel) ⟨Nat.le_of_ble_eq_true rfl, Nat.le_of_ble_eq_true rfl⟩, hw _ mw_5_187, hw _ mw_s97⟩ rfl rfl rfl hl.1 rfl (Nat.le_of_ble_eq_true rfl) dX11_paste_30 ⟨Nat.zero_le _, Nat.zero_le _⟩) hP hD hS hA (fun r5 u H locs h hP hD hS => ?_)
      have hP : va_P D vwCl (List.flatten ([cLockRail L0 (aU 0) (aR 0) (aR2 0) h_images (aS 0) n0 y0 o0 C ] ++ (wReader aU C us ua ++ (wRail aR C rs ra ++ (wRail aR2 C rs2 ra2 ++ (wSlots aS C sa sl ++ (wNight n0 aN C ns na nl ++ ([cYear y0 y1 y2 C y_isThere y_taken y_took] ++ ([cOb o0 C o_of]))))))))) H := hP
      have hD : va_D A (List.flatten ([cLockRail L0 (aU 0) (aR 0) (aR2 0) h_images (aS 0) n0 y0 o0 C ] ++ (wReader aU C us ua ++ (wRail aR C rs ra ++ (wRail aR2 C rs2 ra2 ++ (wSlots aS C sa sl ++ (wNight n0 aN C ns na nl ++ ([cYear y0 y1 y2 C y_isThere y_taken y_took] ++ ([cOb o0 C o_of]))))))))) := hD
      refine lv_if_eq (tgt := 47) hx hb dX11_paste_33 (by decide) (fun c6 => ?_) (fun c6 => ?_)
      · have h := h.1 c6
        refine lv_bipush (v := (-6)) hx hb dX11_paste_47 (by decide) ?_
        rw [← hQ]
        exact cRetI (v := (-6)) (sl) hx hb hr hlocks hS hP hD h dX11_paste_49
      · have h := h.2 c6
        refine lv_aload_n hx hb dX11_paste_36 rfl (lv_at hl 0 rfl) ?_
        refine va_get (D := D) (ci := 11) (v := .ref (aS 0)) (C := RX11) (T := TX11) (N := 8) hx hb hw inW_X11 hown hK hP 0 rfl rfl 4 (by decide) (hw _ mw_2_147) (fun _ h9 => h9) rfl dX11_paste_37 ?_
        refine lv_iload_n hx hb dX11_paste_40 rfl (lv_at hl 3 rfl) ?_
        refine gs_I21_84 (rs_VN21_63 (As := [.int p3]) (rest := []) ⟨hx, hb, hml, hown, hw⟩ hK hN hP hD (k_X6_hasRow l D C _ aS  sa sl p3 h) ⟨va_cnB 1 hw (goodN mw_5_188) rfl rfl rfl (hN.m 74 rfl) (hw _ mw_1_10) (by decide +kernel) ⟨Nat.le_of_ble_eq_true rfl, Nat.le_of_ble_eq_true rfl⟩, hw _ mw_5_187, hw _ mw_s97⟩ rfl rfl rfl hl.1 rfl (Nat.le_of_ble_eq_true rfl) dX11_paste_41 ⟨Nat.zero_le _, Nat.zero_le _⟩) hP hD hS hA (fun r7 u H locs h hP hD hS => ?_)
        have hP : va_P D vwCl (List.flatten ([cLockRail L0 (aU 0) (aR 0) (aR2 0) h_images (aS 0) n0 y0 o0 C ] ++ (wReader aU C us ua ++ (wRail aR C rs ra ++ (wRail aR2 C rs2 ra2 ++ (wSlots aS C sa sl ++ (wNight n0 aN C ns na nl ++ ([cYear y0 y1 y2 C y_isThere y_taken y_took] ++ ([cOb o0 C o_of]))))))))) H := hP
        have hD : va_D A (List.flatten ([cLockRail L0 (aU 0) (aR 0) (aR2 0) h_images (aS 0) n0 y0 o0 C ] ++ (wReader aU C us ua ++ (wRail aR C rs ra ++ (wRail aR2 C rs2 ra2 ++ (wSlots aS C sa sl ++ (wNight n0 aN C ns na nl ++ ([cYear y0 y1 y2 C y_isThere y_taken y_took] ++ ([cOb o0 C o_of]))))))))) := hD
        refine lv_if_ne (tgt := 50) hx hb dX11_paste_44 (by decide) (fun c8 => ?_) (fun c8 => ?_)
        · have h := h.1 c8
          refine lv_aload_n hx hb dX11_paste_50 rfl (lv_at hl 0 rfl) ?_
          refine va_get (D := D) (ci := 11) (v := .ref (aS 0)) (C := RX11) (T := TX11) (N := 8) hx hb hw inW_X11 hown hK hP 0 rfl rfl 4 (by decide) (hw _ mw_2_147) (fun _ h9 => h9) rfl dX11_paste_51 ?_
          refine lv_iload_n hx hb dX11_paste_54 rfl (lv_at hl 1 rfl) ?_
          refine lv_iload_n hx hb dX11_paste_55 rfl (lv_at hl 3 rfl) ?_
          refine gs_I21_84 (rs_VN21_63 (As := [.int p1, .int p3]) (rest := []) ⟨hx, hb, hml, hown, hw⟩ hK hN hP hD (k_X6_areAlike l D C _ aS  sa sl p1 p3 h) ⟨va_cnB 2 hw (goodN mw_6_26) rfl rfl rfl (hN.m 84 rfl) (hw _ mw_1_10) (by decide +kernel) ⟨Nat.le_of_ble_eq_true rfl, Nat.le_of_ble_eq_true rfl⟩, hw _ mw_6_25, hw _ mw_s105⟩ rfl rfl rfl hl.1 rfl (Nat.le_of_ble_eq_true rfl) dX11_paste_56 ⟨Nat.zero_le _, Nat.zero_le _⟩) hP hD hS hA (fun r9 u H locs h hP hD hS => ?_)
          have hP : va_P D vwCl (List.flatten ([cLockRail L0 (aU 0) (aR 0) (aR2 0) h_images (aS 0) n0 y0 o0 C ] ++ (wReader aU C us ua ++ (wRail aR C rs ra ++ (wRail aR2 C rs2 ra2 ++ (wSlots aS C sa sl ++ (wNight n0 aN C ns na nl ++ ([cYear y0 y1 y2 C y_isThere y_taken y_took] ++ ([cOb o0 C o_of]))))))))) H := hP
          have hD : va_D A (List.flatten ([cLockRail L0 (aU 0) (aR 0) (aR2 0) h_images (aS 0) n0 y0 o0 C ] ++ (wReader aU C us ua ++ (wRail aR C rs ra ++ (wRail aR2 C rs2 ra2 ++ (wSlots aS C sa sl ++ (wNight n0 aN C ns na nl ++ ([cYear y0 y1 y2 C y_isThere y_taken y_took] ++ ([cOb o0 C o_of]))))))))) := hD
          refine lv_if_ne (tgt := 65) hx hb dX11_paste_59 (by decide) (fun c10 => ?_) (fun c10 => ?_)
          · have h := h.1 c10
            refine lv_aload_n hx hb dX11_paste_65 rfl (lv_at hl 0 rfl) ?_
            refine va_get (D := D) (ci := 11) (v := .ref (aS 0)) (C := RX11) (T := TX11) (N := 8) hx hb hw inW_X11 hown hK hP 0 rfl rfl 4 (by decide) (hw _ mw_2_147) (fun _ h9 => h9) rfl dX11_paste_66 ?_
            refine lv_iload_n hx hb dX11_paste_69 rfl (lv_at hl 1 rfl) ?_
            refine lv_iload_n hx hb dX11_paste_70 rfl (lv_at hl 2 rfl) ?_
            refine lv_iload hx hb dX11_paste_71 (lv_at hl 5 rfl) ?_
            refine gs_I21_84 (rs_VN21_63 (As := [.int p1, .int p2, .int p5]) (rest := []) ⟨hx, hb, hml, hown, hw⟩ hK hN hP hD (k_X6_hasAll l D C _ aS  sa sl p1 p2 p5 h) ⟨va_cnB 3 hw (goodN mw_6_30) rfl rfl rfl (hN.m 85 rfl) (hw _ mw_1_10) (by decide +kernel) ⟨Nat.le_of_ble_eq_true rfl, Nat.le_of_ble_eq_true rfl⟩, hw _ mw_6_29, hw _ mw_s106⟩ rfl rfl rfl hl.1 rfl (Nat.le_of_ble_eq_true rfl) dX11_paste_73 ⟨Nat.zero_le _, Nat.zero_le _⟩) hP hD hS hA (fun r11 u H locs h hP hD hS => ?_)
            have hP : va_P D vwCl (List.flatten ([cLockRail L0 (aU 0) (aR 0) (aR2 0) h_images (aS 0) n0 y0 o0 C ] ++ (wReader aU C us ua ++ (wRail aR C rs ra ++ (wRail aR2 C rs2 ra2 ++ (wSlots aS C sa sl ++ (wNight n0 aN C ns na nl ++ ([cYear y0 y1 y2 C y_isThere y_taken y_took] ++ ([cOb o0 C o_of]))))))))) H := hP
            have hD : va_D A (List.flatten ([cLockRail L0 (aU 0) (aR 0) (aR2 0) h_images (aS 0) n0 y0 o0 C ] ++ (wReader aU C us ua ++ (wRail aR C rs ra ++ (wRail aR2 C rs2 ra2 ++ (wSlots aS C sa sl ++ (wNight n0 aN C ns na nl ++ ([cYear y0 y1 y2 C y_isThere y_taken y_took] ++ ([cOb o0 C o_of]))))))))) := hD
            refine lv_if_eq (tgt := 94) hx hb dX11_paste_76 (by decide) (fun c12 => ?_) (fun c12 => ?_)
            · have h := h.1 c12
              refine lv_bipush (v := (-7)) hx hb dX11_paste_94 (by decide) ?_
              rw [← hQ]
              exact cRetI (v := (-7)) (sl) hx hb hr hlocks hS hP hD h dX11_paste_96
            · have h := h.2 c12
              refine lv_aload_n hx hb dX11_paste_79 rfl (lv_at hl 0 rfl) ?_
              refine va_get (D := D) (ci := 11) (v := .ref (aS 0)) (C := RX11) (T := TX11) (N := 8) hx hb hw inW_X11 hown hK hP 0 rfl rfl 4 (by decide) (hw _ mw_2_147) (fun _ h9 => h9) rfl dX11_paste_80 ?_
              refine lv_iload_n hx hb dX11_paste_83 rfl (lv_at hl 3 rfl) ?_
              refine lv_iload hx hb dX11_paste_84 (lv_at hl 4 rfl) ?_
              refine lv_iload hx hb dX11_paste_86 (lv_at hl 5 rfl) ?_
              refine gs_I21_84 (rs_VN21_63 (As := [.int p3, .int p4, .int p5]) (rest := []) ⟨hx, hb, hml, hown, hw⟩ hK hN hP hD (k_X6_hasAll l D C _ aS  sa sl p3 p4 p5 h) ⟨va_cnB 3 hw (goodN mw_6_30) rfl rfl rfl (hN.m 85 rfl) (hw _ mw_1_10) (by decide +kernel) ⟨Nat.le_of_ble_eq_true rfl, Nat.le_of_ble_eq_true rfl⟩, hw _ mw_6_29, hw _ mw_s106⟩ rfl rfl rfl hl.1 rfl (Nat.le_of_ble_eq_true rfl) dX11_paste_88 ⟨Nat.zero_le _, Nat.zero_le _⟩) hP hD hS hA (fun r13 u H locs h hP hD hS => ?_)
              have hP : va_P D vwCl (List.flatten ([cLockRail L0 (aU 0) (aR 0) (aR2 0) h_images (aS 0) n0 y0 o0 C ] ++ (wReader aU C us ua ++ (wRail aR C rs ra ++ (wRail aR2 C rs2 ra2 ++ (wSlots aS C sa sl ++ (wNight n0 aN C ns na nl ++ ([cYear y0 y1 y2 C y_isThere y_taken y_took] ++ ([cOb o0 C o_of]))))))))) H := hP
              have hD : va_D A (List.flatten ([cLockRail L0 (aU 0) (aR 0) (aR2 0) h_images (aS 0) n0 y0 o0 C ] ++ (wReader aU C us ua ++ (wRail aR C rs ra ++ (wRail aR2 C rs2 ra2 ++ (wSlots aS C sa sl ++ (wNight n0 aN C ns na nl ++ ([cYear y0 y1 y2 C y_isThere y_taken y_took] ++ ([cOb o0 C o_of]))))))))) := hD
              refine lv_if_ne (tgt := 97) hx hb dX11_paste_91 (by decide) (fun c14 => ?_) (fun c14 => ?_)
              · have h := h.1 c14
                refine lv_aload_n hx hb dX11_paste_97 rfl (lv_at hl 0 rfl) ?_
                refine va_get (D := D) (ci := 11) (v := .ref (aS 0)) (C := RX11) (T := TX11) (N := 8) hx hb hw inW_X11 hown hK hP 0 rfl rfl 4 (by decide) (hw _ mw_2_147) (fun _ h9 => h9) rfl dX11_paste_98 ?_
                refine lv_iload_n hx hb dX11_paste_101 rfl (lv_at hl 1 rfl) ?_
                refine lv_iload_n hx hb dX11_paste_102 rfl (lv_at hl 2 rfl) ?_
                refine lv_iload_n hx hb dX11_paste_103 rfl (lv_at hl 3 rfl) ?_
                refine lv_iload hx hb dX11_paste_104 (lv_at hl 4 rfl) ?_
                refine lv_iload hx hb dX11_paste_106 (lv_at hl 5 rfl) ?_
                refine gs_V21_90 (rs_VN21_63 (As := [.int p1, .int p2, .int p3, .int p4, .int p5]) (rest := []) ⟨hx, hb, hml, hown, hw⟩ hK hN hP hD (k_X6_copy l D C _ aS  sa sl p1 p2 p3 p4 p5 h) ⟨va_cnB 5 hw (goodN mw_6_34) rfl rfl rfl (hN.m 86 rfl) (hw _ mw_1_10) (by decide +kernel) ⟨Nat.le_of_ble_eq_true rfl, Nat.le_of_ble_eq_true rfl⟩, hw _ mw_6_33, hw _ mw_s107⟩ rfl rfl rfl hl.1 rfl (Nat.le_of_ble_eq_true rfl) dX11_paste_108 ⟨Nat.zero_le _, Nat.zero_le _⟩) hP hD hS hA (fun sl_15 H locs h hP hD hS => ?_)
                have hP : va_P D vwCl (List.flatten ([cLockRail L0 (aU 0) (aR 0) (aR2 0) h_images (aS 0) n0 y0 o0 C ] ++ (wReader aU C us ua ++ (wRail aR C rs ra ++ (wRail aR2 C rs2 ra2 ++ (wSlots aS C sa sl_15 ++ (wNight n0 aN C ns na nl ++ ([cYear y0 y1 y2 C y_isThere y_taken y_took] ++ ([cOb o0 C o_of]))))))))) H := hP
                have hD : va_D A (List.flatten ([cLockRail L0 (aU 0) (aR 0) (aR2 0) h_images (aS 0) n0 y0 o0 C ] ++ (wReader aU C us ua ++ (wRail aR C rs ra ++ (wRail aR2 C rs2 ra2 ++ (wSlots aS C sa sl_15 ++ (wNight n0 aN C ns na nl ++ ([cYear y0 y1 y2 C y_isThere y_taken y_took] ++ ([cOb o0 C o_of]))))))))) := hD
                refine lv_iconst (v := 0) hx hb dX11_paste_111 (by decide) ?_
                rw [← hQ]
                exact cRetI (v := 0) (sl_15) hx hb hr hlocks hS hP hD h dX11_paste_112
              · have h := h.2 c14
                refine lv_bipush (v := (-7)) hx hb dX11_paste_94 (by decide) ?_
                rw [← hQ]
                exact cRetI (v := (-7)) (sl) hx hb hr hlocks hS hP hD h dX11_paste_96
          · have h := h.2 c10
            refine lv_bipush (v := (-8)) hx hb dX11_paste_62 (by decide) ?_
            rw [← hQ]
            exact cRetI (v := (-8)) (sl) hx hb hr hlocks hS hP hD h dX11_paste_64
        · have h := h.2 c8
          refine lv_bipush (v := (-6)) hx hb dX11_paste_47 (by decide) ?_
          rw [← hQ]
          exact cRetI (v := (-6)) (sl) hx hb hr hlocks hS hP hD h dX11_paste_49
    · have h := h.2 c4
      refine lv_bipush (v := (-2)) hx hb dX11_paste_22 (by decide) ?_
      rw [← hQ]
      exact cRetI (v := (-2)) (sl) hx hb hr hlocks hS hP hD h dX11_paste_24
