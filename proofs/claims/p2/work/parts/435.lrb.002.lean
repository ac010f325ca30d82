abbrev vsX11_good : List Cond := Cond.code yX11_good cX11_good 1 (some .long) :: WS
abbrev rmX11_good : Room := { frames := 6, cells := 0, slots := 0, locals := 158 }
set_option maxHeartbeats 4000000 in
set_option maxRecDepth 100000 in
theorem k_X11_good (l : Launch) (D : va_G) (C : Nat → ClassId) (sz : Nat) (L0 : Nat) (aU : Nat → Nat) (aR : Nat → Nat) (aR2 : Nat → Nat) (aS : Nat → Nat) (n0 : Nat) (aN : Nat → Nat) (y0 : Nat) (y1 : Nat) (y2 : Nat) (o0 : Nat) (h_images : Nat) (us : Nat → Int32) (ua : Nat → Nat → Int32) (rs : Nat → Int32) (ra : Nat → Nat → Int32) (rs2 : Nat → Int32) (ra2 : Nat → Nat → Int32) (sa : Nat → Nat → Int32) (sl : Nat → Nat → Int64) (ns : Nat → Int32) (na : Nat → Nat → Int32) (nl : Nat → Nat → Int64) (y_isThere : Int32) (y_taken : Nat → Int32) (y_took : Nat → Int32) (o_of : Nat → Int64)  {post : Int64 → (Nat → Int32) → (Nat → Nat → Int32) → (Nat → Int32) → (Nat → Nat → Int32) → (Nat → Nat → Int64) → Prop} (h : P_X11_good rs ra rs2 ra2 ns na nl post) : Met l yX11_good vsX11_good rmX11_good (cPre D C [.ref L0] sz ([cLockRail L0 (aU 0) (aR 0) (aR2 0) h_images (aS 0) n0 y0 o0 C ] ++ (wReader aU C us ua ++ (wRail aR C rs ra ++ (wRail aR2 C rs2 ra2 ++ (wSlots aS C sa sl ++ (wNight n0 aN C ns na nl ++ ([cYear y0 y1 y2 C y_isThere y_taken y_took] ++ ([cOb o0 C o_of]))))))))) (cQl D (fun (r : Int64) (u : (Nat → Nat) × (Nat → Int32) × (Nat → Nat → Int32) × (Nat → Int32) × (Nat → Nat → Int32) × (Nat → Nat → Int64)) => post r u.2.1 u.2.2.1 u.2.2.2.1 u.2.2.2.2.1 u.2.2.2.2.2) (fun u => [cLockRail L0 (aU 0) (aR 0) (aR2 0) h_images (aS 0) n0 y0 o0 C ] ++ (wReader aU C us ua ++ (wRail aR C rs ra ++ (wRail aR2 C u.2.1 u.2.2.1 ++ (wSlots aS C sa sl ++ (wNight n0 u.1 C u.2.2.2.1 u.2.2.2.2.1 u.2.2.2.2.2 ++ ([cYear y0 y1 y2 C y_isThere y_taken y_took] ++ ([cOb o0 C o_of])))))))) (va_A (List.flatten ([cLockRail L0 (aU 0) (aR 0) (aR2 0) h_images (aS 0) n0 y0 o0 C ] ++ (wReader aU C us ua ++ (wRail aR C rs ra ++ (wRail aR2 C rs2 ra2 ++ (wSlots aS C sa sl ++ (wNight n0 aN C ns na nl ++ ([cYear y0 y1 y2 C y_isThere y_taken y_took] ++ ([cOb o0 C o_of]))))))))) sz)) 0 0 (va_A (List.flatten ([cLockRail L0 (aU 0) (aR 0) (aR2 0) h_images (aS 0) n0 y0 o0 C ] ++ (wReader aU C us ua ++ (wRail aR C rs ra ++ (wRail aR2 C rs2 ra2 ++ (wSlots aS C sa sl ++ (wNight n0 aN C ns na nl ++ ([cYear y0 y1 y2 C y_isThere y_taken y_took] ++ ([cOb o0 C o_of]))))))))) sz) := by
  refine cStart (QA := fun A => cQl D (fun (r : Int64) (u : (Nat → Nat) × (Nat → Int32) × (Nat → Nat → Int32) × (Nat → Int32) × (Nat → Nat → Int32) × (Nat → Nat → Int64)) => post r u.2.1 u.2.2.1 u.2.2.2.1 u.2.2.2.2.1 u.2.2.2.2.2) (fun u => [cLockRail L0 (aU 0) (aR 0) (aR2 0) h_images (aS 0) n0 y0 o0 C ] ++ (wReader aU C us ua ++ (wRail aR C rs ra ++ (wRail aR2 C u.2.1 u.2.2.1 ++ (wSlots aS C sa sl ++ (wNight n0 u.1 C u.2.2.2.1 u.2.2.2.2.1 u.2.2.2.2.2 ++ ([cYear y0 y1 y2 C y_isThere y_taken y_took] ++ ([cOb o0 C o_of])))))))) A) (cc := cX11_good) (maxL := 1) (ret := (some .long)) (by decide) (Nat.le_of_ble_eq_true rfl) ?_
  intro p e s m args below meth c A ls hx hb hr hml hown hw hlocks hname hK hN hA hP hD hS hl
  generalize hQ : MQ below _ args s 0 0 A = Q
  have hl : lv_has ls 1 [(0, .ref L0)] := hl
  obtain ⟨H, hH⟩ : ∃ H, H = s.heap := ⟨_, rfl⟩
  obtain ⟨locs, hlo⟩ : ∃ z : List Loc, z = [] := ⟨_, rfl⟩
  have hP : va_P D vwCl (List.flatten ([cLockRail L0 (aU 0) (aR 0) (aR2 0) h_images (aS 0) n0 y0 o0 C ] ++ (wReader aU C us ua ++ (wRail aR C rs ra ++ (wRail aR2 C rs2 ra2 ++ (wSlots aS C sa sl ++ (wNight n0 aN C ns na nl ++ ([cYear y0 y1 y2 C y_isThere y_taken y_took] ++ ([cOb o0 C o_of]))))))))) H := by rw [hH]; exact hP
  have hS : va_S A s.heap H locs := by rw [hH, hlo]; exact hS
  rw [show W p l e rmX11_good s m args below meth c s.heap [] 0 0 Q (F0 m 0 ls []) = W p l e rmX11_good s m args below meth c H locs 0 0 Q (F0 m 0 ls []) from by rw [hH, hlo]]
  refine lv_aload_n hx hb dX11_good_0 rfl (lv_at hl 0 rfl) ?_
  refine va_get (D := D) (ci := 11) (v := .ref (aR 0)) (C := RX11) (T := TX11) (N := 8) hx hb hw inW_X11 hown hK hP 0 rfl rfl 1 (by decide) (hw _ mw_2_144) (fun _ h9 => h9) rfl dX11_good_1 ?_
  refine cGoI (wo := fun u => [cLockRail L0 (aU 0) (aR 0) (aR2 0) h_images (aS 0) n0 y0 o0 C ] ++ (wReader aU C us ua ++ (wRail aR C rs ra ++ (wRail aR2 C rs2 ra2 ++ (wSlots aS C sa sl ++ (wNight n0 aN C ns na nl ++ ([cYear y0 y1 y2 C y_isThere y_taken y_took] ++ ([cOb o0 C o_of])))))))) (cRunVN (As := []) (rest := []) ⟨hx, hb, hml, hown, hw⟩ hK hN hP hD [3, 4, 5, 6, 7, 8] rfl rfl (k_X4_isTold l D C _ aR  rs ra  h) ⟨va_cnB 0 hw (goodN mw_4_19) rfl rfl rfl (hN.m 44 rfl) (hw _ mw_1_4) (by decide +kernel) ⟨Nat.le_of_ble_eq_true rfl, Nat.le_of_ble_eq_true rfl⟩, hw _ mw_4_18, hw _ mw_s47⟩ rfl rfl rfl hl.1 rfl (Nat.le_of_ble_eq_true rfl) dX11_good_4 ⟨Nat.zero_le _, Nat.zero_le _⟩) hP hD hS hA [3, 4, 5, 6, 7, 8] [0, 1, 2, 9, 10, 11, 12, 13, 14, 15, 16, 17, 18, 19, 20] [0, 1, 2, 15, 16, 17, 18, 19, 20, 3, 4, 5, 6, 7, 8, 9, 10, 11, 12, 13, 14] rfl rfl rfl (by decide) rfl (fun _ => rfl) (fun r1 u H locs h hP hD hS => ?_)
  have hP : va_P D vwCl (List.flatten ([cLockRail L0 (aU 0) (aR 0) (aR2 0) h_images (aS 0) n0 y0 o0 C ] ++ (wReader aU C us ua ++ (wRail aR C rs ra ++ (wRail aR2 C rs2 ra2 ++ (wSlots aS C sa sl ++ (wNight n0 aN C ns na nl ++ ([cYear y0 y1 y2 C y_isThere y_taken y_took] ++ ([cOb o0 C o_of]))))))))) H := hP
  have hD : va_D A (List.flatten ([cLockRail L0 (aU 0) (aR 0) (aR2 0) h_images (aS 0) n0 y0 o0 C ] ++ (wReader aU C us ua ++ (wRail aR C rs ra ++ (wRail aR2 C rs2 ra2 ++ (wSlots aS C sa sl ++ (wNight n0 aN C ns na nl ++ ([cYear y0 y1 y2 C y_isThere y_taken y_took] ++ ([cOb o0 C o_of]))))))))) := hD
  refine lv_if_ne (tgt := 14) hx hb dX11_good_7 (by decide) (fun c2 => ?_) (fun c2 => ?_)
  · have h := h.1 c2
    refine lv_aload_n hx hb dX11_good_14 rfl (lv_at hl 0 rfl) ?_
    refine va_get (D := D) (ci := 11) (v := .ref (aR2 0)) (C := RX11) (T := TX11) (N := 8) hx hb hw inW_X11 hown hK hP 0 rfl rfl 2 (by decide) (hw _ mw_2_145) (fun _ h9 => h9) rfl dX11_good_15 ?_
    refine lv_aload_n hx hb dX11_good_18 rfl (lv_at hl 0 rfl) ?_
    refine va_get (D := D) (ci := 11) (v := .ref (aR 0)) (C := RX11) (T := TX11) (N := 8) hx hb hw inW_X11 hown hK hP 0 rfl rfl 1 (by decide) (hw _ mw_2_144) (fun _ h9 => h9) rfl dX11_good_19 ?_
    refine cGoV (wo := fun u => [cLockRail L0 (aU 0) (aR 0) (aR2 0) h_images (aS 0) n0 y0 o0 C ] ++ (wReader aU C us ua ++ (wRail aR C rs ra ++ (wRail aR2 C u.1 u.2 ++ (wSlots aS C sa sl ++ (wNight n0 aN C ns na nl ++ ([cYear y0 y1 y2 C y_isThere y_taken y_took] ++ ([cOb o0 C o_of])))))))) (cRunVN (As := [.ref (aR 0)]) (rest := []) ⟨hx, hb, hml, hown, hw⟩ hK hN hP hD [9, 10, 11, 12, 13, 14, 3, 4, 5, 6, 7, 8] rfl rfl (k_X4_copyFrom l D C _ aR2 aR  rs2 ra2 rs ra  h) ⟨va_cnB 1 hw (goodN mw_3_126) rfl rfl rfl (hN.m 23 rfl) (hw _ mw_1_4) (by decide +kernel) ⟨Nat.le_of_ble_eq_true rfl, Nat.le_of_ble_eq_true rfl⟩, hw _ mw_3_125, hw _ mw_s26⟩ rfl rfl rfl hl.1 rfl (Nat.le_of_ble_eq_true rfl) dX11_good_22 ⟨Nat.zero_le _, Nat.zero_le _⟩) hP hD hS hA [9, 10, 11, 12, 13, 14, 3, 4, 5, 6, 7, 8] [0, 1, 2, 15, 16, 17, 18, 19, 20] [0, 1, 2, 15, 16, 17, 18, 19, 20, 9, 10, 11, 12, 13, 14, 3, 4, 5, 6, 7, 8] rfl rfl rfl (by decide) rfl (fun _ => rfl) (fun u H locs h hP hD hS => ?_)
    obtain ⟨rs_3, ra_4⟩ := u
    have hP : va_P D vwCl (List.flatten ([cLockRail L0 (aU 0) (aR 0) (aR2 0) h_images (aS 0) n0 y0 o0 C ] ++ (wReader aU C us ua ++ (wRail aR C rs ra ++ (wRail aR2 C rs_3 ra_4 ++ (wSlots aS C sa sl ++ (wNight n0 aN C ns na nl ++ ([cYear y0 y1 y2 C y_isThere y_taken y_took] ++ ([cOb o0 C o_of]))))))))) H := hP
    have hD : va_D A (List.flatten ([cLockRail L0 (aU 0) (aR 0) (aR2 0) h_images (aS 0) n0 y0 o0 C ] ++ (wReader aU C us ua ++ (wRail aR C rs ra ++ (wRail aR2 C rs_3 ra_4 ++ (wSlots aS C sa sl ++ (wNight n0 aN C ns na nl ++ ([cYear y0 y1 y2 C y_isThere y_taken y_took] ++ ([cOb o0 C o_of]))))))))) := hD
    refine lv_aload_n hx hb dX11_good_25 rfl (lv_at hl 0 rfl) ?_
    refine lv_aload_n hx hb dX11_good_26 rfl (lv_at hl 0 rfl) ?_
    refine va_get (D := D) (ci := 11) (v := .ref (aR2 0)) (C := RX11) (T := TX11) (N := 8) hx hb hw inW_X11 hown hK hP 0 rfl rfl 2 (by decide) (hw _ mw_2_145) (fun _ h9 => h9) rfl dX11_good_27 ?_
    refine lv_bipush (v := 60) hx hb dX11_good_30 (by decide) ?_
    refine cGoI (wo := fun u => [cLockRail L0 (aU 0) (aR 0) (aR2 0) h_images (aS 0) n0 y0 o0 C ] ++ (wReader aU C us ua ++ (wRail aR C rs ra ++ (wRail aR2 C rs_3 u.2.1 ++ (wSlots aS C sa sl ++ (wNight n0 u.1 C u.2.2.1 u.2.2.2.1 u.2.2.2.2 ++ ([cYear y0 y1 y2 C y_isThere y_taken y_took] ++ ([cOb o0 C o_of])))))))) (cRunV (As := [.ref (aR2 0), .int 60]) (rest := []) ⟨hx, hb, hml, hown, hw⟩ hK hN hP hD [0, 9, 10, 11, 12, 13, 14, 16, 17, 18] rfl rfl (k_X11_changesOn l D C _ L0 aR2 n0 aN (aU 0) (aR 0) (aR2 0) h_images (aS 0) y0 o0  rs_3 ra_4 ns na nl 60 h) (cwV 2 hw (goodV mw_4_198 mw_4_200 mw_s72 mw_1_1 mw_4_201) rfl rfl rfl (by decide +kernel) ⟨Nat.le_of_ble_eq_true rfl, Nat.le_of_ble_eq_true rfl⟩) rfl rfl rfl hl.1 rfl (Nat.le_of_ble_eq_true rfl) dX11_good_32 ⟨Nat.zero_le _, Nat.zero_le _⟩) hP hD hS hA [0, 9, 10, 11, 12, 13, 14, 16, 17, 18] [1, 2, 3, 4, 5, 6, 7, 8, 15, 19, 20] [11, 0, 1, 2, 3, 4, 5, 6, 7, 12, 13, 14, 15, 16, 17, 8, 18, 19, 20, 9, 10] rfl rfl rfl (by decide) rfl (fun _ => rfl) (fun r10 u H locs h hP hD hS => ?_)
    obtain ⟨aN5, ra_6, ns_7, na_8, nl_9⟩ := u
    have hP : va_P D vwCl (List.flatten ([cLockRail L0 (aU 0) (aR 0) (aR2 0) h_images (aS 0) n0 y0 o0 C ] ++ (wReader aU C us ua ++ (wRail aR C rs ra ++ (wRail aR2 C rs_3 ra_6 ++ (wSlots aS C sa sl ++ (wNight n0 aN5 C ns_7 na_8 nl_9 ++ ([cYear y0 y1 y2 C y_isThere y_taken y_took] ++ ([cOb o0 C o_of]))))))))) H := hP
    have hD : va_D A (List.flatten ([cLockRail L0 (aU 0) (aR 0) (aR2 0) h_images (aS 0) n0 y0 o0 C ] ++ (wReader aU C us ua ++ (wRail aR C rs ra ++ (wRail aR2 C rs_3 ra_6 ++ (wSlots aS C sa sl ++ (wNight n0 aN5 C ns_7 na_8 nl_9 ++ ([cYear y0 y1 y2 C y_isThere y_taken y_took] ++ ([cOb o0 C o_of]))))))))) := hD
    refine lv_pop hx hb dX11_good_35 rfl ?_
    refine lv_aload_n hx hb dX11_good_36 rfl (lv_at hl 0 rfl) ?_
    refine lv_aload_n hx hb dX11_good_37 rfl (lv_at hl 0 rfl) ?_
    refine va_get (D := D) (ci := 11) (v := .ref (aR2 0)) (C := RX11) (T := TX11) (N := 8) hx hb hw inW_X11 hown hK hP 0 rfl rfl 2 (by decide) (hw _ mw_2_145) (fun _ h9 => h9) rfl dX11_good_38 ?_
    refine lv_iconst (v := 2) hx hb dX11_good_41 (by decide) ?_
    refine cGoL (wo := fun u => [cLockRail L0 (aU 0) (aR 0) (aR2 0) h_images (aS 0) n0 y0 o0 C ] ++ (wReader aU C us ua ++ (wRail aR C rs ra ++ (wRail aR2 C rs_3 ra_6 ++ (wSlots aS C sa sl ++ (wNight n0 u.1 C u.2.1 u.2.2.1 u.2.2.2 ++ ([cYear y0 y1 y2 C y_isThere y_taken y_took] ++ ([cOb o0 C o_of])))))))) (cRunV (As := [.ref (aR2 0), .int 2]) (rest := []) ⟨hx, hb, hml, hown, hw⟩ hK hN hP hD [0, 9, 10, 11, 12, 13, 14, 16, 17, 18] rfl rfl (k_X11_allOn l D C _ L0 aR2 n0 aN5 (aU 0) (aR 0) (aR2 0) h_images (aS 0) y0 o0  rs_3 ra_6 ns_7 na_8 nl_9 2 h) (cwV 2 hw (goodV mw_4_124 mw_4_126 mw_s63 mw_1_1 mw_4_127) rfl rfl rfl (by decide +kernel) ⟨Nat.le_of_ble_eq_true rfl, Nat.le_of_ble_eq_true rfl⟩) rfl rfl rfl hl.1 rfl (Nat.le_of_ble_eq_true rfl) dX11_good_42 ⟨Nat.zero_le _, Nat.zero_le _⟩) hP hD hS hA [0, 9, 10, 11, 12, 13, 14, 16, 17, 18] [1, 2, 3, 4, 5, 6, 7, 8, 15, 19, 20] [11, 0, 1, 2, 3, 4, 5, 6, 7, 12, 13, 14, 15, 16, 17, 8, 18, 19, 20, 9, 10] rfl rfl rfl (by decide) rfl (fun _ => rfl) (fun r15 u H locs h hP hD hS => ?_)
    obtain ⟨aN11, ns_12, na_13, nl_14⟩ := u
    have hP : va_P D vwCl (List.flatten ([cLockRail L0 (aU 0) (aR 0) (aR2 0) h_images (aS 0) n0 y0 o0 C ] ++ (wReader aU C us ua ++ (wRail aR C rs ra ++ (wRail aR2 C rs_3 ra_6 ++ (wSlots aS C sa sl ++ (wNight n0 aN11 C ns_12 na_13 nl_14 ++ ([cYear y0 y1 y2 C y_isThere y_taken y_took] ++ ([cOb o0 C o_of]))))))))) H := hP
    have hD : va_D A (List.flatten ([cLockRail L0 (aU 0) (aR 0) (aR2 0) h_images (aS 0) n0 y0 o0 C ] ++ (wReader aU C us ua ++ (wRail aR C rs ra ++ (wRail aR2 C rs_3 ra_6 ++ (wSlots aS C sa sl ++ (wNight n0 aN11 C ns_12 na_13 nl_14 ++ ([cYear y0 y1 y2 C y_isThere y_taken y_took] ++ ([cOb o0 C o_of]))))))))) := hD
    rw [← hQ]
    exact cRetL (v := r15) (aN11, rs_3, ra_6, ns_12, na_13, nl_14) hx hb hr hlocks hS hP hD h dX11_good_45
  · have h := h.2 c2
    refine lv_ldc2 (v := (-2)) hx hb hown (hw _ mw_4_20) dX11_good_10 ?_
    rw [← hQ]
    exact cRetL (v := (-2)) (aN, rs2, ra2, ns, na, nl) hx hb hr hlocks hS hP hD h dX11_good_13
abbrev vsX11_areTwo : List Cond := Cond.code yX11_areTwo cX11_areTwo 3 (some .boolean) :: WS
abbrev rmX11_areTwo : Room := { frames := 1, cells := 0, slots := 0, locals := 21 }
set_option maxHeartbeats 4000000 in
set_option maxRecDepth 100000 in
theorem k_X11_areTwo (l : Launch) (D : va_G) (C : Nat → ClassId) (sz : Nat) (L0 : Nat) (aR : Nat → Nat) (h_reader : Nat) (h_trial : Nat) (h_images : Nat) (h_slots : Nat) (h_night : Nat) (h_triedYear : Nat) (h_ofBikes : Nat) (rs : Nat → Int32) (ra : Nat → Nat → Int32) (p1 : Int32) (p2 : Int32) {post : Int32 → Prop} (h : P_X11_areTwo rs p1 p2 post) : Met l yX11_areTwo vsX11_areTwo rmX11_areTwo (cPre D C [.ref L0, .int p1, .int p2] sz ([cLockRail L0 h_reader (aR 0) h_trial h_images h_slots h_night h_triedYear h_ofBikes C ] ++ (wRail aR C rs ra))) (cQi D (fun (r : Int32) (u : Unit) => post r ) (fun u => [cLockRail L0 h_reader (aR 0) h_trial h_images h_slots h_night h_triedYear h_ofBikes C ] ++ (wRail aR C rs ra)) (va_A (List.flatten ([cLockRail L0 h_reader (aR 0) h_trial h_images h_slots h_night h_triedYear h_ofBikes C ] ++ (wRail aR C rs ra))) sz)) 0 0 (va_A (List.flatten ([cLockRail L0 h_reader (aR 0) h_trial h_images h_slots h_night h_triedYear h_ofBikes C ] ++ (wRail aR C rs ra))) sz) := by
  refine cStart (QA := fun A => cQi D (fun (r : Int32) (u : Unit) => post r ) (fun u => [cLockRail L0 h_reader (aR 0) h_trial h_images h_slots h_night h_triedYear h_ofBikes C ] ++ (wRail aR C rs ra)) A) (cc := cX11_areTwo) (maxL := 3) (ret := (some .boolean)) (by decide) (Nat.le_of_ble_eq_true rfl) ?_
  intro p e s m args below meth c A ls hx hb hr hml hown hw hlocks hname hK hN hA hP hD hS hl
  generalize hQ : MQ below _ args s 0 0 A = Q
  have hl : lv_has ls 3 [(0, .ref L0), (1, .int p1), (2, .int p2)] := hl
  obtain ⟨H, hH⟩ : ∃ H, H = s.heap := ⟨_, rfl⟩
  obtain ⟨locs, hlo⟩ : ∃ z : List Loc, z = [] := ⟨_, rfl⟩
  have hP : va_P D vwCl (List.flatten ([cLockRail L0 h_reader (aR 0) h_trial h_images h_slots h_night h_triedYear h_ofBikes C ] ++ (wRail aR C rs ra))) H := by rw [hH]; exact hP
  have hS : va_S A s.heap H locs := by rw [hH, hlo]; exact hS
  rw [show W p l e rmX11_areTwo s m args below meth c s.heap [] 0 0 Q (F0 m 0 ls []) = W p l e rmX11_areTwo s m args below meth c H locs 0 0 Q (F0 m 0 ls []) from by rw [hH, hlo]]
  refine lv_aload_n hx hb dX11_areTwo_0 rfl (lv_at hl 0 rfl) ?_
  refine va_get (D := D) (ci := 11) (v := .ref (aR 0)) (C := RX11) (T := TX11) (N := 8) hx hb hw inW_X11 hown hK hP 0 rfl rfl 1 (by decide) (hw _ mw_2_144) (fun _ h9 => h9) rfl dX11_areTwo_1 ?_
  refine lv_iload_n hx hb dX11_areTwo_4 rfl (lv_at hl 1 rfl) ?_
  refine cGoI (wo := fun u => [cLockRail L0 h_reader (aR 0) h_trial h_images h_slots h_night h_triedYear h_ofBikes C ] ++ (wRail aR C rs ra)) (cRunVN (As := [.int p1]) (rest := []) ⟨hx, hb, hml, hown, hw⟩ hK hN hP hD [1, 2, 3, 4, 5, 6] rfl rfl (k_X4_hasBike l D C _ aR  rs ra p1 h) ⟨va_cnB 1 hw (goodN mw_3_183) rfl rfl rfl (hN.m 31 rfl) (hw _ mw_1_4) (by decide +kernel) ⟨Nat.le_of_ble_eq_true rfl, Nat.le_of_ble_eq_true rfl⟩, hw _ mw_3_182, hw _ mw_s34⟩ rfl rfl rfl hl.1 rfl (Nat.le_of_ble_eq_true rfl) dX11_areTwo_5 ⟨Nat.zero_le _, Nat.zero_le _⟩) hP hD hS hA [1, 2, 3, 4, 5, 6] [0] [0, 1, 2, 3, 4, 5, 6] rfl rfl rfl (by decide) rfl (fun _ => rfl) (fun r1 u H locs h hP hD hS => ?_)
  have hP : va_P D vwCl (List.flatten ([cLockRail L0 h_reader (aR 0) h_trial h_images h_slots h_night h_triedYear h_ofBikes C ] ++ (wRail aR C rs ra))) H := hP
  have hD : va_D A (List.flatten ([cLockRail L0 h_reader (aR 0) h_trial h_images h_slots h_night h_triedYear h_ofBikes C ] ++ (wRail aR C rs ra))) := hD
  refine lv_if_eq (tgt := 31) hx hb dX11_areTwo_8 (by decide) (fun c2 => ?_) (fun c2 => ?_)
  · have h := h.1 c2
    refine lv_iconst (v := 0) hx hb dX11_areTwo_31 (by decide) ?_
    rw [← hQ]
    exact cRetZ (v := 0) () hx hb hr hlocks hS hP hD (Or.inl rfl) h dX11_areTwo_32
  · have h := h.2 c2
    refine lv_aload_n hx hb dX11_areTwo_11 rfl (lv_at hl 0 rfl) ?_
    refine va_get (D := D) (ci := 11) (v := .ref (aR 0)) (C := RX11) (T := TX11) (N := 8) hx hb hw inW_X11 hown hK hP 0 rfl rfl 1 (by decide) (hw _ mw_2_144) (fun _ h9 => h9) rfl dX11_areTwo_12 ?_
    refine lv_iload_n hx hb dX11_areTwo_15 rfl (lv_at hl 2 rfl) ?_
    refine cGoI (wo := fun u => [cLockRail L0 h_reader (aR 0) h_trial h_images h_slots h_night h_triedYear h_ofBikes C ] ++ (wRail aR C rs ra)) (cRunVN (As := [.int p2]) (rest := []) ⟨hx, hb, hml, hown, hw⟩ hK hN hP hD [1, 2, 3, 4, 5, 6] rfl rfl (k_X4_hasBike l D C _ aR  rs ra p2 h) ⟨va_cnB 1 hw (goodN mw_3_183) rfl rfl rfl (hN.m 31 rfl) (hw _ mw_1_4) (by decide +kernel) ⟨Nat.le_of_ble_eq_true rfl, Nat.le_of_ble_eq_true rfl⟩, hw _ mw_3_182, hw _ mw_s34⟩ rfl rfl rfl hl.1 rfl (Nat.le_of_ble_eq_true rfl) dX11_areTwo_16 ⟨Nat.zero_le _, Nat.zero_le _⟩) hP hD hS hA [1, 2, 3, 4, 5, 6] [0] [0, 1, 2, 3, 4, 5, 6] rfl rfl rfl (by decide) rfl (fun _ => rfl) (fun r3 u H locs h hP hD hS => ?_)
    have hP : va_P D vwCl (List.flatten ([cLockRail L0 h_reader (aR 0) h_trial h_images h_slots h_night h_triedYear h_ofBikes C ] ++ (wRail aR C rs ra))) H := hP
    have hD : va_D A (List.flatten ([cLockRail L0 h_reader (aR 0) h_trial h_images h_slots h_night h_triedYear h_ofBikes C ] ++ (wRail aR C rs ra))) := hD
    refine lv_if_eq (tgt := 31) hx hb dX11_areTwo_19 (by decide) (fun c4 => ?_) (fun c4 => ?_)
    · have h := h.1 c4
      refine lv_iconst (v := 0) hx hb dX11_areTwo_31 (by decide) ?_
      rw [← hQ]
      exact cRetZ (v := 0) () hx hb hr hlocks hS hP hD (Or.inl rfl) h dX11_areTwo_32
    · have h := h.2 c4
      refine lv_iload_n hx hb dX11_areTwo_22 rfl (lv_at hl 1 rfl) ?_
      refine lv_iload_n hx hb dX11_areTwo_23 rfl (lv_at hl 2 rfl) ?_
      refine lv_icmp_eq (tgt := 31) hx hb dX11_areTwo_24 (by decide) (fun c5 => ?_) (fun c5 => ?_)
      · have h := h.1 c5
        refine lv_iconst (v := 0) hx hb dX11_areTwo_31 (by decide) ?_
        rw [← hQ]
        exact cRetZ (v := 0) () hx hb hr hlocks hS hP hD (Or.inl rfl) h dX11_areTwo_32
      · have h := h.2 c5
        refine lv_iconst (v := 1) hx hb dX11_areTwo_27 (by decide) ?_
        refine lv_goto (tgt := 32) hx hb dX11_areTwo_28 (by decide) ?_
        rw [← hQ]
        exact cRetZ (v := 1) () hx hb hr hlocks hS hP hD (Or.inr rfl) h dX11_areTwo_32
abbrev vsX11_pair : List Cond := Cond.code yX11_pair cX11_pair 11 (some .int) :: WS
abbrev rmX11_pair : Room := { frames := 4, cells := 0, slots := 0, locals := 105 }
set_option maxHeartbeats 4000000 in
set_option maxRecDepth 100000 in
theorem k_X11_pair (l : Launch) (D : va_G) (C : Nat → ClassId) (sz : Nat) (L0 : Nat) (aU : Nat → Nat) (aR : Nat → Nat) (aR2 : Nat → Nat) (aS : Nat → Nat) (n0 : Nat) (aN : Nat → Nat) (y0 : Nat) (y1 : Nat) (y2 : Nat) (o0 : Nat) (h_images : Nat) (us : Nat → Int32) (ua : Nat → Nat → Int32) (rs : Nat → Int32) (ra : Nat → Nat → Int32) (rs2 : Nat → Int32) (ra2 : Nat → Nat → Int32) (sa : Nat → Nat → Int32) (sl : Nat → Nat → Int64) (ns : Nat → Int32) (na : Nat → Nat → Int32) (nl : Nat → Nat → Int64) (y_isThere : Int32) (y_taken : Nat → Int32) (y_took : Nat → Int32) (o_of : Nat → Int64) (p1 : Int32) (p2 : Int32) {post : Int32 → (Nat → Int32) → (Nat → Nat → Int32) → (Nat → Int32) → (Nat → Nat → Int32) → (Nat → Nat → Int64) → Prop} (h : P_X11_pair rs ra rs2 ra2 ns na nl p1 p2 post) : Met l yX11_pair vsX11_pair rmX11_pair (cPre D C [.ref L0, .int p1, .int p2] sz ([cLockRail L0 (aU 0) (aR 0) (aR2 0) h_images (aS 0) n0 y0 o0 C ] ++ (wReader aU C us ua ++ (wRail aR C rs ra ++ (wRail aR2 C rs2 ra2 ++ (wSlots aS C sa sl ++ (wNight n0 aN C ns na nl ++ ([cYear y0 y1 y2 C y_isThere y_taken y_took] ++ ([cOb o0 C o_of]))))))))) (cQi D (fun (r : Int32) (u : (Nat → Nat) × (Nat → Int32) × (Nat → Nat → Int32) × (Nat → Int32) × (Nat → Nat → Int32) × (Nat → Nat → Int64)) => post r u.2.1 u.2.2.1 u.2.2.2.1 u.2.2.2.2.1 u.2.2.2.2.2) (fun u => [cLockRail L0 (aU 0) (aR 0) (aR2 0) h_images (aS 0) n0 y0 o0 C ] ++ (wReader aU C us ua ++ (wRail aR C rs ra ++ (wRail aR2 C u.2.1 u.2.2.1 ++ (wSlots aS C sa sl ++ (wNight n0 u.1 C u.2.2.2.1 u.2.2.2.2.1 u.2.2.2.2.2 ++ ([cYear y0 y1 y2 C y_isThere y_taken y_took] ++ ([cOb o0 C o_of])))))))) (va_A (List.flatten ([cLockRail L0 (aU 0) (aR 0) (aR2 0) h_images (aS 0) n0 y0 o0 C ] ++ (wReader aU C us ua ++ (wRail aR C rs ra ++ (wRail aR2 C rs2 ra2 ++ (wSlots aS C sa sl ++ (wNight n0 aN C ns na nl ++ ([cYear y0 y1 y2 C y_isThere y_taken y_took] ++ ([cOb o0 C o_of]))))))))) sz)) 0 0 (va_A (List.flatten ([cLockRail L0 (aU 0) (aR 0) (aR2 0) h_images (aS 0) n0 y0 o0 C ] ++ (wReader aU C us ua ++ (wRail aR C rs ra ++ (wRail aR2 C rs2 ra2 ++ (wSlots aS C sa sl ++ (wNight n0 aN C ns na nl ++ ([cYear y0 y1 y2 C y_isThere y_taken y_took] ++ ([cOb o0 C o_of]))))))))) sz) := by
  refine cStart (QA := fun A => cQi D (fun (r : Int32) (u : (Nat → Nat) × (Nat → Int32) × (Nat → Nat → Int32) × (Nat → Int32) × (Nat → Nat → Int32) × (Nat → Nat → Int64)) => post r u.2.1 u.2.2.1 u.2.2.2.1 u.2.2.2.2.1 u.2.2.2.2.2) (fun u => [cLockRail L0 (aU 0) (aR 0) (aR2 0) h_images (aS 0) n0 y0 o0 C ] ++ (wReader aU C us ua ++ (wRail aR C rs ra ++ (wRail aR2 C u.2.1 u.2.2.1 ++ (wSlots aS C sa sl ++ (wNight n0 u.1 C u.2.2.2.1 u.2.2.2.2.1 u.2.2.2.2.2 ++ ([cYear y0 y1 y2 C y_isThere y_taken y_took] ++ ([cOb o0 C o_of])))))))) A) (cc := cX11_pair) (maxL := 11) (ret := (some .int)) (by decide) (Nat.le_of_ble_eq_true rfl) ?_
  intro p e s m args below meth c A ls hx hb hr hml hown hw hlocks hname hK hN hA hP hD hS hl
  generalize hQ : MQ below _ args s 0 0 A = Q
  have hl : lv_has ls 11 [(0, .ref L0), (1, .int p1), (2, .int p2)] := hl
  have hn97 : (Cond.fieldLinkNest "LockRail" 97 "LockRail$Rail" "bikes" "LLockRail$Bikes;" "LockRail").before args s = true := hN.f 61 rfl
  obtain ⟨H, hH⟩ : ∃ H, H = s.heap := ⟨_, rfl⟩
  obtain ⟨locs, hlo⟩ : ∃ z : List Loc, z = [] := ⟨_, rfl⟩
  have hP : va_P D vwCl (List.flatten ([cLockRail L0 (aU 0) (aR 0) (aR2 0) h_images (aS 0) n0 y0 o0 C ] ++ (wReader aU C us ua ++ (wRail aR C rs ra ++ (wRail aR2 C rs2 ra2 ++ (wSlots aS C sa sl ++ (wNight n0 aN C ns na nl ++ ([cYear y0 y1 y2 C y_isThere y_taken y_took] ++ ([cOb o0 C o_of]))))))))) H := by rw [hH]; exact hP
  have hS : va_S A s.heap H locs := by rw [hH, hlo]; exact hS
  rw [show W p l e rmX11_pair s m args below meth c s.heap [] 0 0 Q (F0 m 0 ls []) = W p l e rmX11_pair s m args below meth c H locs 0 0 Q (F0 m 0 ls []) from by rw [hH, hlo]]
  have N42 : ∀ (x3_ : Int32) (rs2 : Nat → Int32) (n42 : Nat) (x4_ : Int32) (x5_ : Int64) (x7_ : Int32) (ra2 : Nat → Nat → Int32) (ns : Nat → Int32) (na : Nat → Nat → Int32) (nl : Nat → Nat → Int64) (aN : Nat → Nat) (H : Heap) (locs : List Loc) (ls : Array Slot), P_X11_pair_42 rs ra p1 p2 post  x3_ rs2 n42 x4_ x5_ x7_ ra2 ns na nl → va_P D vwCl (List.flatten ([cLockRail L0 (aU 0) (aR 0) (aR2 0) h_images (aS 0) n0 y0 o0 C ] ++ (wReader aU C us ua ++ (wRail aR C rs ra ++ (wRail aR2 C rs2 ra2 ++ (wSlots aS C sa sl ++ (wNight n0 aN C ns na nl ++ ([cYear y0 y1 y2 C y_isThere y_taken y_took] ++ ([cOb o0 C o_of]))))))))) H → va_D A (List.flatten ([cLockRail L0 (aU 0) (aR 0) (aR2 0) h_images (aS 0) n0 y0 o0 C ] ++ (wReader aU C us ua ++ (wRail aR C rs ra ++ (wRail aR2 C rs2 ra2 ++ (wSlots aS C sa sl ++ (wNight n0 aN C ns na nl ++ ([cYear y0 y1 y2 C y_isThere y_taken y_took] ++ ([cOb o0 C o_of]))))))))) → va_S A s.heap H locs → lv_has ls 11 [(0, .ref L0), (1, .int p1), (2, .int p2), (3, .int x3_), (4, .int x4_), (5, .long x5_), (7, .int x7_)] → W p l e rmX11_pair s m args below meth c H locs 0 0 Q (F0 m 42 ls []) := by
    intro x3_ rs2
    intro n42
    induction n42 with
    | zero => intro x4_ x5_ x7_ ra2 ns na nl aN H locs ls h hP hD hS hl; exact False.elim h
    | succ n42 ih42 =>
      have N64 : ∀ (x7_ : Int32) (n64 : Nat) (x4_ : Int32) (x5_ : Int64) (x8_ : Int32) (ra2 : Nat → Nat → Int32) (ns : Nat → Int32) (na : Nat → Nat → Int32) (nl : Nat → Nat → Int64) (aN : Nat → Nat) (H : Heap) (locs : List Loc) (ls : Array Slot), P_X11_pair_64 rs ra p1 p2 x3_ rs2 post (P_X11_pair_42 rs ra p1 p2 post  x3_ rs2 n42) x7_ n64 x4_ x5_ x8_ ra2 ns na nl → va_P D vwCl (List.flatten ([cLockRail L0 (aU 0) (aR 0) (aR2 0) h_images (aS 0) n0 y0 o0 C ] ++ (wReader aU C us ua ++ (wRail aR C rs ra ++ (wRail aR2 C rs2 ra2 ++ (wSlots aS C sa sl ++ (wNight n0 aN C ns na nl ++ ([cYear y0 y1 y2 C y_isThere y_taken y_took] ++ ([cOb o0 C o_of]))))))))) H → va_D A (List.flatten ([cLockRail L0 (aU 0) (aR 0) (aR2 0) h_images (aS 0) n0 y0 o0 C ] ++ (wReader aU C us ua ++ (wRail aR C rs ra ++ (wRail aR2 C rs2 ra2 ++ (wSlots aS C sa sl ++ (wNight n0 aN C ns na nl ++ ([cYear y0 y1 y2 C y_isThere y_taken y_took] ++ ([cOb o0 C o_of]))))))))) → va_S A s.heap H locs → lv_has ls 11 [(0, .ref L0), (1, .int p1), (2, .int p2), (3, .int x3_), (4, .int x4_), (5, .long x5_), (7, .int x7_), (8, .int x8_)] → W p l e rmX11_pair s m args below meth c H locs 0 0 Q (F0 m 64 ls []) := by
        intro x7_
        intro n64
        induction n64 with
        | zero => intro x4_ x5_ x8_ ra2 ns na nl aN H locs ls h hP hD hS hl; exact False.elim h
        | succ n64 ih64 =>
          intro x4_ x5_ x8_ ra2 ns na nl aN H locs ls h hP hD hS hl
          refine lv_iload hx hb dX11_pair_64 (lv_at hl 7 rfl) ?_
          refine lv_iload_n hx hb dX11_pair_66 rfl (lv_at hl 3 rfl) ?_
          refine lv_icmp_ge (tgt := 151) hx hb dX11_pair_67 (by decide) (fun c1 => ?_) (fun c1 => ?_)
          · have h := h.1 c1
            refine lv_iinc (v := (x7_ + 1)) (lv' := [(7, .int (x7_ + 1)), (0, .ref L0), (1, .int p1), (2, .int p2), (3, .int x3_), (4, .int x4_), (5, .long x5_), (8, .int x8_)]) hx hb dX11_pair_151 hl (k := 6) rfl rfl (by decide) rfl (fun ls hl => ?_)
            refine lv_goto (tgt := 42) hx hb dX11_pair_154 (by decide) ?_
            exact ih42 x4_ x5_ (x7_ + 1) ra2 ns na nl aN _ _ _ h hP hD hS (lv_sub hl [1, 2, 3, 4, 5, 6, 0] rfl)
          · have h := h.2 c1
            refine lv_aload_n hx hb dX11_pair_70 rfl (lv_at hl 0 rfl) ?_
            refine va_get (D := D) (ci := 11) (v := .ref (aR2 0)) (C := RX11) (T := TX11) (N := 8) hx hb hw inW_X11 hown hK hP 0 rfl rfl 2 (by decide) (hw _ mw_2_145) (fun _ h9 => h9) rfl dX11_pair_71 ?_
            refine va_getN (D := D) (ci := 4) (v := .ref (aR2 7)) (C := RX4) (T := TX4) (N := 16) hx hb hw inW_X4 hown hK hP 26 rfl rfl 5 (by decide) hn97 (fun _ h9 => h9) rfl dX11_pair_74 ?_
            refine lv_iload_n hx hb dX11_pair_77 rfl (lv_at hl 2 rfl) ?_
            refine lv_iload hx hb dX11_pair_78 (lv_at hl 7 rfl) ?_
            refine cGoV (wo := fun u => [cLockRail L0 (aU 0) (aR 0) (aR2 0) h_images (aS 0) n0 y0 o0 C ] ++ (wReader aU C us ua ++ (wRail aR C rs ra ++ (wRail aR2 C rs2 (va_up (va_up ra2 7 u.1) 8 u.2) ++ (wSlots aS C sa sl ++ (wNight n0 aN C ns na nl ++ ([cYear y0 y1 y2 C y_isThere y_taken y_took] ++ ([cOb o0 C o_of])))))))) (cRunVN (As := [.int p2, .int x8_]) (rest := []) ⟨hx, hb, hml, hown, hw⟩ hK hN hP hD [12] rfl rfl (k_X0_setOption l D C _ (aR2 7) (aR2 8) (aR2 9) (aR2 10) (aR2 11) (aR2 12)  (rs2 13) (ra2 4) (ra2 5) (ra2 6) (ra2 7) (ra2 8) p2 x8_ h) ⟨va_cnB 2 hw (goodN mw_4_153) rfl rfl rfl (hN.m 58 rfl) (hw _ mw_1_7) (by decide +kernel) ⟨Nat.le_of_ble_eq_true rfl, Nat.le_of_ble_eq_true rfl⟩, hw _ mw_4_152, hw _ mw_s68⟩ rfl rfl rfl hl.1 rfl (Nat.le_of_ble_eq_true rfl) dX11_pair_80 ⟨Nat.zero_le _, Nat.zero_le _⟩) hP hD hS hA [12] [0, 1, 2, 3, 4, 5, 6, 7, 8, 9, 10, 11, 13, 14, 15, 16, 17, 18, 19, 20] [0, 1, 2, 3, 4, 5, 6, 7, 8, 9, 10, 11, 20, 12, 13, 14, 15, 16, 17, 18, 19] rfl rfl rfl (by decide) rfl (fun _ => rfl) (fun u H locs h hP hD hS => ?_)
            obtain ⟨loc_2, mar_3⟩ := u
            have hP : va_P D vwCl (List.flatten ([cLockRail L0 (aU 0) (aR 0) (aR2 0) h_images (aS 0) n0 y0 o0 C ] ++ (wReader aU C us ua ++ (wRail aR C rs ra ++ (wRail aR2 C rs2 (va_up (va_up ra2 7 loc_2) 8 mar_3) ++ (wSlots aS C sa sl ++ (wNight n0 aN C ns na nl ++ ([cYear y0 y1 y2 C y_isThere y_taken y_took] ++ ([cOb o0 C o_of]))))))))) H := hP
            have hD : va_D A (List.flatten ([cLockRail L0 (aU 0) (aR 0) (aR2 0) h_images (aS 0) n0 y0 o0 C ] ++ (wReader aU C us ua ++ (wRail aR C rs ra ++ (wRail aR2 C rs2 (va_up (va_up ra2 7 loc_2) 8 mar_3) ++ (wSlots aS C sa sl ++ (wNight n0 aN C ns na nl ++ ([cYear y0 y1 y2 C y_isThere y_taken y_took] ++ ([cOb o0 C o_of]))))))))) := hD
            refine lv_aload_n hx hb dX11_pair_83 rfl (lv_at hl 0 rfl) ?_
            refine va_get (D := D) (ci := 11) (v := .ref n0) (C := RX11) (T := TX11) (N := 8) hx hb hw inW_X11 hown hK hP 0 rfl rfl 5 (by decide) (hw _ mw_2_148) (fun _ h9 => h9) rfl dX11_pair_84 ?_
            refine lv_aload_n hx hb dX11_pair_87 rfl (lv_at hl 0 rfl) ?_
            refine va_get (D := D) (ci := 11) (v := .ref (aR2 0)) (C := RX11) (T := TX11) (N := 8) hx hb hw inW_X11 hown hK hP 0 rfl rfl 2 (by decide) (hw _ mw_2_145) (fun _ h9 => h9) rfl dX11_pair_88 ?_
            refine cGoV (wo := fun u => [cLockRail L0 (aU 0) (aR 0) (aR2 0) h_images (aS 0) n0 y0 o0 C ] ++ (wReader aU C us ua ++ (wRail aR C rs ra ++ (wRail aR2 C rs2 (va_up (va_up ra2 7 loc_2) 8 mar_3) ++ (wSlots aS C sa sl ++ (wNight n0 u.1 C u.2.1 u.2.2.1 u.2.2.2 ++ ([cYear y0 y1 y2 C y_isThere y_taken y_took] ++ ([cOb o0 C o_of])))))))) (cRunVN (As := [.ref (aR2 0)]) (rest := []) ⟨hx, hb, hml, hown, hw⟩ hK hN hP hD [16, 17, 18, 9, 10, 11, 12, 13, 14] rfl rfl (k_X3_play l D C _ n0 aN aR2  ns na nl rs2 (va_up (va_up ra2 7 loc_2) 8 mar_3)  h) ⟨va_cnB 1 hw (goodN mw_4_24) rfl rfl rfl (hN.m 45 rfl) (hw _ mw_1_11) (by decide +kernel) ⟨Nat.le_of_ble_eq_true rfl, Nat.le_of_ble_eq_true rfl⟩, hw _ mw_4_23, hw _ mw_s48⟩ rfl rfl rfl hl.1 rfl (Nat.le_of_ble_eq_true rfl) dX11_pair_91 ⟨Nat.zero_le _, Nat.zero_le _⟩) hP hD hS hA [16, 17, 18, 9, 10, 11, 12, 13, 14] [0, 1, 2, 3, 4, 5, 6, 7, 8, 15, 19, 20] [0, 1, 2, 3, 4, 5, 6, 7, 8, 15, 16, 17, 18, 19, 20, 9, 12, 13, 14, 10, 11] rfl rfl rfl (by decide) rfl (fun _ => rfl) (fun u H locs h hP hD hS => ?_)
            obtain ⟨aN4, ns_5, na_6, nl_7⟩ := u
            have hP : va_P D vwCl (List.flatten ([cLockRail L0 (aU 0) (aR 0) (aR2 0) h_images (aS 0) n0 y0 o0 C ] ++ (wReader aU C us ua ++ (wRail aR C rs ra ++ (wRail aR2 C rs2 (va_up (va_up ra2 7 loc_2) 8 mar_3) ++ (wSlots aS C sa sl ++ (wNight n0 aN4 C ns_5 na_6 nl_7 ++ ([cYear y0 y1 y2 C y_isThere y_taken y_took] ++ ([cOb o0 C o_of]))))))))) H := hP
            have hD : va_D A (List.flatten ([cLockRail L0 (aU 0) (aR 0) (aR2 0) h_images (aS 0) n0 y0 o0 C ] ++ (wReader aU C us ua ++ (wRail aR C rs ra ++ (wRail aR2 C rs2 (va_up (va_up ra2 7 loc_2) 8 mar_3) ++ (wSlots aS C sa sl ++ (wNight n0 aN4 C ns_5 na_6 nl_7 ++ ([cYear y0 y1 y2 C y_isThere y_taken y_took] ++ ([cOb o0 C o_of]))))))))) := hD
            refine lv_aload_n hx hb dX11_pair_94 rfl (lv_at hl 0 rfl) ?_
            refine va_get (D := D) (ci := 11) (v := .ref n0) (C := RX11) (T := TX11) (N := 8) hx hb hw inW_X11 hown hK hP 0 rfl rfl 5 (by decide) (hw _ mw_2_148) (fun _ h9 => h9) rfl dX11_pair_95 ?_
            refine lv_aload_n hx hb dX11_pair_98 rfl (lv_at hl 0 rfl) ?_
            refine va_get (D := D) (ci := 11) (v := .ref (aR2 0)) (C := RX11) (T := TX11) (N := 8) hx hb hw inW_X11 hown hK hP 0 rfl rfl 2 (by decide) (hw _ mw_2_145) (fun _ h9 => h9) rfl dX11_pair_99 ?_
            refine lv_iload_n hx hb dX11_pair_102 rfl (lv_at hl 1 rfl) ?_
            refine lv_iconst (v := 2) hx hb dX11_pair_103 (by decide) ?_
            refine cGoL (wo := fun u => [cLockRail L0 (aU 0) (aR 0) (aR2 0) h_images (aS 0) n0 y0 o0 C ] ++ (wReader aU C us ua ++ (wRail aR C rs ra ++ (wRail aR2 C rs2 (va_up (va_up ra2 7 loc_2) 8 mar_3) ++ (wSlots aS C sa sl ++ (wNight n0 aN4 C ns_5 na_6 nl_7 ++ ([cYear y0 y1 y2 C y_isThere y_taken y_took] ++ ([cOb o0 C o_of])))))))) (cRunVN (As := [.ref (aR2 0), .int p1, .int 2]) (rest := []) ⟨hx, hb, hml, hown, hw⟩ hK hN hP hD [16, 17, 18, 9, 10, 11, 12, 13, 14] rfl rfl (k_X3_costOf l D C _ n0 aN4 aR2  ns_5 na_6 nl_7 rs2 (va_up (va_up ra2 7 loc_2) 8 mar_3) p1 2 h) ⟨va_cnB 3 hw (goodN mw_4_104) rfl rfl rfl (hN.m 52 rfl) (hw _ mw_1_11) (by decide +kernel) ⟨Nat.le_of_ble_eq_true rfl, Nat.le_of_ble_eq_true rfl⟩, hw _ mw_4_103, hw _ mw_s59⟩ rfl rfl rfl hl.1 rfl (Nat.le_of_ble_eq_true rfl) dX11_pair_104 ⟨Nat.zero_le _, Nat.zero_le _⟩) hP hD hS hA [16, 17, 18, 9, 10, 11, 12, 13, 14] [0, 1, 2, 3, 4, 5, 6, 7, 8, 15, 19, 20] [0, 1, 2, 3, 4, 5, 6, 7, 8, 15, 16, 17, 18, 19, 20, 9, 12, 13, 14, 10, 11] rfl rfl rfl (by decide) rfl (fun _ => rfl) (fun r8 u H locs h hP hD hS => ?_)
            have hP : va_P D vwCl (List.flatten ([cLockRail L0 (aU 0) (aR 0) (aR2 0) h_images (aS 0) n0 y0 o0 C ] ++ (wReader aU C us ua ++ (wRail aR C rs ra ++ (wRail aR2 C rs2 (va_up (va_up ra2 7 loc_2) 8 mar_3) ++ (wSlots aS C sa sl ++ (wNight n0 aN4 C ns_5 na_6 nl_7 ++ ([cYear y0 y1 y2 C y_isThere y_taken y_took] ++ ([cOb o0 C o_of]))))))))) H := hP
            have hD : va_D A (List.flatten ([cLockRail L0 (aU 0) (aR 0) (aR2 0) h_images (aS 0) n0 y0 o0 C ] ++ (wReader aU C us ua ++ (wRail aR C rs ra ++ (wRail aR2 C rs2 (va_up (va_up ra2 7 loc_2) 8 mar_3) ++ (wSlots aS C sa sl ++ (wNight n0 aN4 C ns_5 na_6 nl_7 ++ ([cYear y0 y1 y2 C y_isThere y_taken y_took] ++ ([cOb o0 C o_of]))))))))) := hD
            refine lv_aload_n hx hb dX11_pair_107 rfl (lv_at hl 0 rfl) ?_
            refine va_get (D := D) (ci := 11) (v := .ref n0) (C := RX11) (T := TX11) (N := 8) hx hb hw inW_X11 hown hK hP 0 rfl rfl 5 (by decide) (hw _ mw_2_148) (fun _ h9 => h9) rfl dX11_pair_108 ?_
            refine lv_aload_n hx hb dX11_pair_111 rfl (lv_at hl 0 rfl) ?_
            refine va_get (D := D) (ci := 11) (v := .ref (aR2 0)) (C := RX11) (T := TX11) (N := 8) hx hb hw inW_X11 hown hK hP 0 rfl rfl 2 (by decide) (hw _ mw_2_145) (fun _ h9 => h9) rfl dX11_pair_112 ?_
            refine lv_iload_n hx hb dX11_pair_115 rfl (lv_at hl 2 rfl) ?_
            refine lv_iconst (v := 2) hx hb dX11_pair_116 (by decide) ?_
            refine cGoL (wo := fun u => [cLockRail L0 (aU 0) (aR 0) (aR2 0) h_images (aS 0) n0 y0 o0 C ] ++ (wReader aU C us ua ++ (wRail aR C rs ra ++ (wRail aR2 C rs2 (va_up (va_up ra2 7 loc_2) 8 mar_3) ++ (wSlots aS C sa sl ++ (wNight n0 aN4 C ns_5 na_6 nl_7 ++ ([cYear y0 y1 y2 C y_isThere y_taken y_took] ++ ([cOb o0 C o_of])))))))) (cRunVN (As := [.ref (aR2 0), .int p2, .int 2]) (rest := [.long r8]) ⟨hx, hb, hml, hown, hw⟩ hK hN hP hD [16, 17, 18, 9, 10, 11, 12, 13, 14] rfl rfl (k_X3_costOf l D C _ n0 aN4 aR2  ns_5 na_6 nl_7 rs2 (va_up (va_up ra2 7 loc_2) 8 mar_3) p2 2 h) ⟨va_cnB 3 hw (goodN mw_4_104) rfl rfl rfl (hN.m 52 rfl) (hw _ mw_1_11) (by decide +kernel) ⟨Nat.le_of_ble_eq_true rfl, Nat.le_of_ble_eq_true rfl⟩, hw _ mw_4_103, hw _ mw_s59⟩ rfl rfl rfl hl.1 rfl (Nat.le_of_ble_eq_true rfl) dX11_pair_117 ⟨Nat.zero_le _, Nat.zero_le _⟩) hP hD hS hA [16, 17, 18, 9, 10, 11, 12, 13, 14] [0, 1, 2, 3, 4, 5, 6, 7, 8, 15, 19, 20] [0, 1, 2, 3, 4, 5, 6, 7, 8, 15, 16, 17, 18, 19, 20, 9, 12, 13, 14, 10, 11] rfl rfl rfl (by decide) rfl (fun _ => rfl) (fun r9 u H locs h hP hD hS => ?_)
            have hP : va_P D vwCl (List.flatten ([cLockRail L0 (aU 0) (aR 0) (aR2 0) h_images (aS 0) n0 y0 o0 C ] ++ (wReader aU C us ua ++ (wRail aR C rs ra ++ (wRail aR2 C rs2 (va_up (va_up ra2 7 loc_2) 8 mar_3) ++ (wSlots aS C sa sl ++ (wNight n0 aN4 C ns_5 na_6 nl_7 ++ ([cYear y0 y1 y2 C y_isThere y_taken y_took] ++ ([cOb o0 C o_of]))))))))) H := hP
            have hD : va_D A (List.flatten ([cLockRail L0 (aU 0) (aR 0) (aR2 0) h_images (aS 0) n0 y0 o0 C ] ++ (wReader aU C us ua ++ (wRail aR C rs ra ++ (wRail aR2 C rs2 (va_up (va_up ra2 7 loc_2) 8 mar_3) ++ (wSlots aS C sa sl ++ (wNight n0 aN4 C ns_5 na_6 nl_7 ++ ([cYear y0 y1 y2 C y_isThere y_taken y_took] ++ ([cOb o0 C o_of]))))))))) := hD
            refine lv_ladd hx hb dX11_pair_120 ?_
            refine lv_topl (fun x10 ex10 => ?_)
            have h := h x10 ex10
            refine lv_lstore (lv' := [(9, .long x10), (0, .ref L0), (1, .int p1), (2, .int p2), (3, .int x3_), (4, .int x4_), (5, .long x5_), (7, .int x7_), (8, .int x8_)]) hx hb dX11_pair_121 hl (by decide) rfl (fun ls hl => ?_)
            refine lv_lload hx hb dX11_pair_123 (lv_at hl 0 rfl) ?_
            refine lv_lload hx hb dX11_pair_125 (lv_at hl 6 rfl) ?_
            refine W.lcmp hx hb dX11_pair_127 ?_
            refine lv_if_ge (tgt := 145) hx hb dX11_pair_128 (by decide) (fun c11 => ?_) (fun c11 => ?_)
            · have c11 : x5_ ≤ x10 := (lg_cmp_ge _ _).mp c11
              have h := h.1 c11
              refine lv_iinc (v := (x8_ + 1)) (lv' := [(8, .int (x8_ + 1)), (9, .long x10), (0, .ref L0), (1, .int p1), (2, .int p2), (3, .int x3_), (4, .int x4_), (5, .long x5_), (7, .int x7_)]) hx hb dX11_pair_145 hl (k := 8) rfl rfl (by decide) rfl (fun ls hl => ?_)
              refine lv_goto (tgt := 64) hx hb dX11_pair_148 (by decide) ?_
              exact ih64 x4_ x5_ (x8_ + 1) (va_up (va_up ra2 7 loc_2) 8 mar_3) ns_5 na_6 nl_7 aN4 _ _ _ h hP hD hS (lv_sub hl [2, 3, 4, 5, 6, 7, 8, 0] rfl)
            · have c11 : ¬ x5_ ≤ x10 := fun q => c11 ((lg_cmp_ge _ _).mpr q)
              have h := h.2 c11
              refine lv_lload hx hb dX11_pair_131 (lv_at hl 0 rfl) ?_
              refine lv_lstore (lv' := [(5, .long x10), (9, .long x10), (0, .ref L0), (1, .int p1), (2, .int p2), (3, .int x3_), (4, .int x4_), (7, .int x7_), (8, .int x8_)]) hx hb dX11_pair_133 hl (by decide) rfl (fun ls hl => ?_)
              refine lv_bipush (v := 100) hx hb dX11_pair_135 (by decide) ?_
              refine lv_iload hx hb dX11_pair_137 (lv_at hl 7 rfl) ?_
              refine lv_imul hx hb dX11_pair_139 ?_
              refine lv_iload hx hb dX11_pair_140 (lv_at hl 8 rfl) ?_
              refine lv_iadd hx hb dX11_pair_142 ?_
              refine lv_topi (fun x12 ex12 => ?_)
              have h := h x12 ex12
              refine lv_istore (lv' := [(4, .int x12), (5, .long x10), (9, .long x10), (0, .ref L0), (1, .int p1), (2, .int p2), (3, .int x3_), (7, .int x7_), (8, .int x8_)]) hx hb dX11_pair_143 hl (by decide) rfl (fun ls hl => ?_)
              refine lv_iinc (v := (x8_ + 1)) (lv' := [(8, .int (x8_ + 1)), (4, .int x12), (5, .long x10), (9, .long x10), (0, .ref L0), (1, .int p1), (2, .int p2), (3, .int x3_), (7, .int x7_)]) hx hb dX11_pair_145 hl (k := 8) rfl rfl (by decide) rfl (fun ls hl => ?_)
              refine lv_goto (tgt := 64) hx hb dX11_pair_148 (by decide) ?_
              exact ih64 x12 x10 (x8_ + 1) (va_up (va_up ra2 7 loc_2) 8 mar_3) ns_5 na_6 nl_7 aN4 _ _ _ h hP hD hS (lv_sub hl [4, 5, 6, 7, 1, 2, 8, 0] rfl)
      intro x4_ x5_ x7_ ra2 ns na nl aN H locs ls h hP hD hS hl
      refine lv_iload hx hb dX11_pair_42 (lv_at hl 6 rfl) ?_
      refine lv_iload_n hx hb dX11_pair_44 rfl (lv_at hl 3 rfl) ?_
      refine lv_icmp_ge (tgt := 157) hx hb dX11_pair_45 (by decide) (fun c13 => ?_) (fun c13 => ?_)
      · have h := h.1 c13
        refine lv_iload hx hb dX11_pair_157 (lv_at hl 4 rfl) ?_
        rw [← hQ]
        exact cRetI (v := x4_) (aN, rs2, ra2, ns, na, nl) hx hb hr hlocks hS hP hD h dX11_pair_159
      · have h := h.2 c13
        refine lv_aload_n hx hb dX11_pair_48 rfl (lv_at hl 0 rfl) ?_
        refine va_get (D := D) (ci := 11) (v := .ref (aR2 0)) (C := RX11) (T := TX11) (N := 8) hx hb hw inW_X11 hown hK hP 0 rfl rfl 2 (by decide) (hw _ mw_2_145) (fun _ h9 => h9) rfl dX11_pair_49 ?_
        refine va_getN (D := D) (ci := 4) (v := .ref (aR2 7)) (C := RX4) (T := TX4) (N := 16) hx hb hw inW_X4 hown hK hP 26 rfl rfl 5 (by decide) hn97 (fun _ h9 => h9) rfl dX11_pair_52 ?_
        refine lv_iload_n hx hb dX11_pair_55 rfl (lv_at hl 1 rfl) ?_
        refine lv_iload hx hb dX11_pair_56 (lv_at hl 6 rfl) ?_
        refine cGoV (wo := fun u => [cLockRail L0 (aU 0) (aR 0) (aR2 0) h_images (aS 0) n0 y0 o0 C ] ++ (wReader aU C us ua ++ (wRail aR C rs ra ++ (wRail aR2 C rs2 (va_up (va_up ra2 7 u.1) 8 u.2) ++ (wSlots aS C sa sl ++ (wNight n0 aN C ns na nl ++ ([cYear y0 y1 y2 C y_isThere y_taken y_took] ++ ([cOb o0 C o_of])))))))) (cRunVN (As := [.int p1, .int x7_]) (rest := []) ⟨hx, hb, hml, hown, hw⟩ hK hN hP hD [12] rfl rfl (k_X0_setOption l D C _ (aR2 7) (aR2 8) (aR2 9) (aR2 10) (aR2 11) (aR2 12)  (rs2 13) (ra2 4) (ra2 5) (ra2 6) (ra2 7) (ra2 8) p1 x7_ h) ⟨va_cnB 2 hw (goodN mw_4_153) rfl rfl rfl (hN.m 58 rfl) (hw _ mw_1_7) (by decide +kernel) ⟨Nat.le_of_ble_eq_true rfl, Nat.le_of_ble_eq_true rfl⟩, hw _ mw_4_152, hw _ mw_s68⟩ rfl rfl rfl hl.1 rfl (Nat.le_of_ble_eq_true rfl) dX11_pair_58 ⟨Nat.zero_le _, Nat.zero_le _⟩) hP hD hS hA [12] [0, 1, 2, 3, 4, 5, 6, 7, 8, 9, 10, 11, 13, 14, 15, 16, 17, 18, 19, 20] [0, 1, 2, 3, 4, 5, 6, 7, 8, 9, 10, 11, 20, 12, 13, 14, 15, 16, 17, 18, 19] rfl rfl rfl (by decide) rfl (fun _ => rfl) (fun u H locs h hP hD hS => ?_)
        obtain ⟨loc_14, mar_15⟩ := u
        have hP : va_P D vwCl (List.flatten ([cLockRail L0 (aU 0) (aR 0) (aR2 0) h_images (aS 0) n0 y0 o0 C ] ++ (wReader aU C us ua ++ (wRail aR C rs ra ++ (wRail aR2 C rs2 (va_up (va_up ra2 7 loc_14) 8 mar_15) ++ (wSlots aS C sa sl ++ (wNight n0 aN C ns na nl ++ ([cYear y0 y1 y2 C y_isThere y_taken y_took] ++ ([cOb o0 C o_of]))))))))) H := hP
        have hD : va_D A (List.flatten ([cLockRail L0 (aU 0) (aR 0) (aR2 0) h_images (aS 0) n0 y0 o0 C ] ++ (wReader aU C us ua ++ (wRail aR C rs ra ++ (wRail aR2 C rs2 (va_up (va_up ra2 7 loc_14) 8 mar_15) ++ (wSlots aS C sa sl ++ (wNight n0 aN C ns na nl ++ ([cYear y0 y1 y2 C y_isThere y_taken y_took] ++ ([cOb o0 C o_of]))))))))) := hD
        refine lv_iconst (v := 0) hx hb dX11_pair_61 (by decide) ?_
        refine lv_istore (lv' := [(8, .int 0), (0, .ref L0), (1, .int p1), (2, .int p2), (3, .int x3_), (4, .int x4_), (5, .long x5_), (7, .int x7_)]) hx hb dX11_pair_62 hl (by decide) rfl (fun ls hl => ?_)
        obtain ⟨n, h⟩ := h
        exact N64 x7_ n x4_ x5_ 0 (va_up (va_up ra2 7 loc_14) 8 mar_15) ns na nl aN _ _ _ h hP hD hS (lv_sub hl [1, 2, 3, 4, 5, 6, 7, 0] rfl)
  refine lv_aload_n hx hb dX11_pair_0 rfl (lv_at hl 0 rfl) ?_
  refine lv_iload_n hx hb dX11_pair_1 rfl (lv_at hl 1 rfl) ?_
  refine lv_iload_n hx hb dX11_pair_2 rfl (lv_at hl 2 rfl) ?_
  refine cGoI (wo := fun u => [cLockRail L0 (aU 0) (aR 0) (aR2 0) h_images (aS 0) n0 y0 o0 C ] ++ (wReader aU C us ua ++ (wRail aR C rs ra ++ (wRail aR2 C rs2 ra2 ++ (wSlots aS C sa sl ++ (wNight n0 aN C ns na nl ++ ([cYear y0 y1 y2 C y_isThere y_taken y_took] ++ ([cOb o0 C o_of])))))))) (cRunV (As := [.int p1, .int p2]) (rest := []) ⟨hx, hb, hml, hown, hw⟩ hK hN hP hD [0, 3, 4, 5, 6, 7, 8] rfl rfl (k_X11_areTwo l D C _ L0 aR (aU 0) (aR2 0) h_images (aS 0) n0 y0 o0  rs ra p1 p2 h) (cwV 2 hw (goodV mw_4_214 mw_4_216 mw_s74 mw_1_1 mw_4_217) rfl rfl rfl (by decide +kernel) ⟨Nat.le_of_ble_eq_true rfl, Nat.le_of_ble_eq_true rfl⟩) rfl rfl rfl hl.1 rfl (Nat.le_of_ble_eq_true rfl) dX11_pair_3 ⟨Nat.zero_le _, Nat.zero_le _⟩) hP hD hS hA [0, 3, 4, 5, 6, 7, 8] [1, 2, 9, 10, 11, 12, 13, 14, 15, 16, 17, 18, 19, 20] [14, 0, 1, 15, 16, 17, 18, 19, 20, 2, 3, 4, 5, 6, 7, 8, 9, 10, 11, 12, 13] rfl rfl rfl (by decide) rfl (fun _ => rfl) (fun r16 u H locs h hP hD hS => ?_)
  have hP : va_P D vwCl (List.flatten ([cLockRail L0 (aU 0) (aR 0) (aR2 0) h_images (aS 0) n0 y0 o0 C ] ++ (wReader aU C us ua ++ (wRail aR C rs ra ++ (wRail aR2 C rs2 ra2 ++ (wSlots aS C sa sl ++ (wNight n0 aN C ns na nl ++ ([cYear y0 y1 y2 C y_isThere y_taken y_took] ++ ([cOb o0 C o_of]))))))))) H := hP
  have hD : va_D A (List.flatten ([cLockRail L0 (aU 0) (aR 0) (aR2 0) h_images (aS 0) n0 y0 o0 C ] ++ (wReader aU C us ua ++ (wRail aR C rs ra ++ (wRail aR2 C rs2 ra2 ++ (wSlots aS C sa sl ++ (wNight n0 aN C ns na nl ++ ([cYear y0 y1 y2 C y_isThere y_taken y_took] ++ ([cOb o0 C o_of]))))))))) := hD
  refine lv_if_ne (tgt := 12) hx hb dX11_pair_6 (by decide) (fun c17 => ?_) (fun c17 => ?_)
  · have h := h.1 c17
    refine lv_aload_n hx hb dX11_pair_12 rfl (lv_at hl 0 rfl) ?_
    refine va_get (D := D) (ci := 11) (v := .ref (aR2 0)) (C := RX11) (T := TX11) (N := 8) hx hb hw inW_X11 hown hK hP 0 rfl rfl 2 (by decide) (hw _ mw_2_145) (fun _ h9 => h9) rfl dX11_pair_13 ?_
    refine lv_aload_n hx hb dX11_pair_16 rfl (lv_at hl 0 rfl) ?_
    refine va_get (D := D) (ci := 11) (v := .ref (aR 0)) (C := RX11) (T := TX11) (N := 8) hx hb hw inW_X11 hown hK hP 0 rfl rfl 1 (by decide) (hw _ mw_2_144) (fun _ h9 => h9) rfl dX11_pair_17 ?_
    refine cGoV (wo := fun u => [cLockRail L0 (aU 0) (aR 0) (aR2 0) h_images (aS 0) n0 y0 o0 C ] ++ (wReader aU C us ua ++ (wRail aR C rs ra ++ (wRail aR2 C u.1 u.2 ++ (wSlots aS C sa sl ++ (wNight n0 aN C ns na nl ++ ([cYear y0 y1 y2 C y_isThere y_taken y_took] ++ ([cOb o0 C o_of])))))))) (cRunVN (As := [.ref (aR 0)]) (rest := []) ⟨hx, hb, hml, hown, hw⟩ hK hN hP hD [9, 10, 11, 12, 13, 14, 3, 4, 5, 6, 7, 8] rfl rfl (k_X4_copyFrom l D C _ aR2 aR  rs2 ra2 rs ra  h) ⟨va_cnB 1 hw (goodN mw_3_126) rfl rfl rfl (hN.m 23 rfl) (hw _ mw_1_4) (by decide +kernel) ⟨Nat.le_of_ble_eq_true rfl, Nat.le_of_ble_eq_true rfl⟩, hw _ mw_3_125, hw _ mw_s26⟩ rfl rfl rfl hl.1 rfl (Nat.le_of_ble_eq_true rfl) dX11_pair_20 ⟨Nat.zero_le _, Nat.zero_le _⟩) hP hD hS hA [9, 10, 11, 12, 13, 14, 3, 4, 5, 6, 7, 8] [0, 1, 2, 15, 16, 17, 18, 19, 20] [0, 1, 2, 15, 16, 17, 18, 19, 20, 9, 10, 11, 12, 13, 14, 3, 4, 5, 6, 7, 8] rfl rfl rfl (by decide) rfl (fun _ => rfl) (fun u H locs h hP hD hS => ?_)
    obtain ⟨rs_18, ra_19⟩ := u
    have hP : va_P D vwCl (List.flatten ([cLockRail L0 (aU 0) (aR 0) (aR2 0) h_images (aS 0) n0 y0 o0 C ] ++ (wReader aU C us ua ++ (wRail aR C rs ra ++ (wRail aR2 C rs_18 ra_19 ++ (wSlots aS C sa sl ++ (wNight n0 aN C ns na nl ++ ([cYear y0 y1 y2 C y_isThere y_taken y_took] ++ ([cOb o0 C o_of]))))))))) H := hP
    have hD : va_D A (List.flatten ([cLockRail L0 (aU 0) (aR 0) (aR2 0) h_images (aS 0) n0 y0 o0 C ] ++ (wReader aU C us ua ++ (wRail aR C rs ra ++ (wRail aR2 C rs_18 ra_19 ++ (wSlots aS C sa sl ++ (wNight n0 aN C ns na nl ++ ([cYear y0 y1 y2 C y_isThere y_taken y_took] ++ ([cOb o0 C o_of]))))))))) := hD
    refine lv_aload_n hx hb dX11_pair_23 rfl (lv_at hl 0 rfl) ?_
    refine va_get (D := D) (ci := 11) (v := .ref (aR2 0)) (C := RX11) (T := TX11) (N := 8) hx hb hw inW_X11 hown hK hP 0 rfl rfl 2 (by decide) (hw _ mw_2_145) (fun _ h9 => h9) rfl dX11_pair_24 ?_
    refine cGoI (wo := fun u => [cLockRail L0 (aU 0) (aR 0) (aR2 0) h_images (aS 0) n0 y0 o0 C ] ++ (wReader aU C us ua ++ (wRail aR C rs ra ++ (wRail aR2 C rs_18 ra_19 ++ (wSlots aS C sa sl ++ (wNight n0 aN C ns na nl ++ ([cYear y0 y1 y2 C y_isThere y_taken y_took] ++ ([cOb o0 C o_of])))))))) (cRunVN (As := []) (rest := []) ⟨hx, hb, hml, hown, hw⟩ hK hN hP hD [9, 10, 11, 12, 13, 14] rfl rfl (k_X4_options l D C _ aR2  rs_18 ra_19  h) ⟨va_cnB 0 hw (goodN mw_4_144) rfl rfl rfl (hN.m 59 rfl) (hw _ mw_1_4) (by decide +kernel) ⟨Nat.le_of_ble_eq_true rfl, Nat.le_of_ble_eq_true rfl⟩, hw _ mw_4_143, hw _ mw_s66⟩ rfl rfl rfl hl.1 rfl (Nat.le_of_ble_eq_true rfl) dX11_pair_27 ⟨Nat.zero_le _, Nat.zero_le _⟩) hP hD hS hA [9, 10, 11, 12, 13, 14] [0, 1, 2, 3, 4, 5, 6, 7, 8, 15, 16, 17, 18, 19, 20] [0, 1, 2, 3, 4, 5, 6, 7, 8, 15, 16, 17, 18, 19, 20, 9, 10, 11, 12, 13, 14] rfl rfl rfl (by decide) rfl (fun _ => rfl) (fun r20 u H locs h hP hD hS => ?_)
    have hP : va_P D vwCl (List.flatten ([cLockRail L0 (aU 0) (aR 0) (aR2 0) h_images (aS 0) n0 y0 o0 C ] ++ (wReader aU C us ua ++ (wRail aR C rs ra ++ (wRail aR2 C rs_18 ra_19 ++ (wSlots aS C sa sl ++ (wNight n0 aN C ns na nl ++ ([cYear y0 y1 y2 C y_isThere y_taken y_took] ++ ([cOb o0 C o_of]))))))))) H := hP
    have hD : va_D A (List.flatten ([cLockRail L0 (aU 0) (aR 0) (aR2 0) h_images (aS 0) n0 y0 o0 C ] ++ (wReader aU C us ua ++ (wRail aR C rs ra ++ (wRail aR2 C rs_18 ra_19 ++ (wSlots aS C sa sl ++ (wNight n0 aN C ns na nl ++ ([cYear y0 y1 y2 C y_isThere y_taken y_took] ++ ([cOb o0 C o_of]))))))))) := hD
    refine lv_istore_n (lv' := [(3, .int r20), (0, .ref L0), (1, .int p1), (2, .int p2)]) hx hb dX11_pair_30 rfl hl (by decide) rfl (fun ls hl => ?_)
    refine lv_iconst (v := 0) hx hb dX11_pair_31 (by decide) ?_
    refine lv_istore (lv' := [(4, .int 0), (3, .int r20), (0, .ref L0), (1, .int p1), (2, .int p2)]) hx hb dX11_pair_32 hl (by decide) rfl (fun ls hl => ?_)
    refine lv_ldc2 (v := 9223372036854775807) hx hb hown (hw _ mw_4_170) dX11_pair_34 ?_
    refine lv_lstore (lv' := [(5, .long 9223372036854775807), (4, .int 0), (3, .int r20), (0, .ref L0), (1, .int p1), (2, .int p2)]) hx hb dX11_pair_37 hl (by decide) rfl (fun ls hl => ?_)
    refine lv_iconst (v := 0) hx hb dX11_pair_39 (by decide) ?_
    refine lv_istore (lv' := [(7, .int 0), (5, .long 9223372036854775807), (4, .int 0), (3, .int r20), (0, .ref L0), (1, .int p1), (2, .int p2)]) hx hb dX11_pair_40 hl (by decide) rfl (fun ls hl => ?_)
    obtain ⟨n, h⟩ := h
    exact N42 r20 rs_18 n 0 9223372036854775807 0 ra_19 ns na nl aN _ _ _ h hP hD hS (lv_sub hl [4, 5, 6, 3, 2, 1, 0] rfl)
  · have h := h.2 c17
    refine lv_bipush (v := (-2)) hx hb dX11_pair_9 (by decide) ?_
    rw [← hQ]
    exact cRetI (v := (-2)) (aN, rs2, ra2, ns, na, nl) hx hb hr hlocks hS hP hD h dX11_pair_11
abbrev vsX11_wasted : List Cond := Cond.code yX11_wasted cX11_wasted 2 (some .long) :: WS
abbrev rmX11_wasted : Room := { frames := 5, cells := 0, slots := 0, locals := 127 }
set_option maxHeartbeats 4000000 in
set_option maxRecDepth 100000 in
theorem k_X11_wasted (l : Launch) (D : va_G) (C : Nat → ClassId) (sz : Nat) (L0 : Nat) (aU : Nat → Nat) (aR : Nat → Nat) (aR2 : Nat → Nat) (aS : Nat → Nat) (n0 : Nat) (aN : Nat → Nat) (y0 : Nat) (y1 : Nat) (y2 : Nat) (o0 : Nat) (h_images : Nat) (us : Nat → Int32) (ua : Nat → Nat → Int32) (rs : Nat → Int32) (ra : Nat → Nat → Int32) (rs2 : Nat → Int32) (ra2 : Nat → Nat → Int32) (sa : Nat → Nat → Int32) (sl : Nat → Nat → Int64) (ns : Nat → Int32) (na : Nat → Nat → Int32) (nl : Nat → Nat → Int64) (y_isThere : Int32) (y_taken : Nat → Int32) (y_took : Nat → Int32) (o_of : Nat → Int64)  {post : Int64 → (Nat → Int32) → (Nat → Nat → Int32) → (Nat → Int32) → (Nat → Nat → Int32) → (Nat → Nat → Int64) → Prop} (h : P_X11_wasted rs ra rs2 ra2 ns na nl post) : Met l yX11_wasted vsX11_wasted rmX11_wasted (cPre D C [.ref L0] sz ([cLockRail L0 (aU 0) (aR 0) (aR2 0) h_images (aS 0) n0 y0 o0 C ] ++ (wReader aU C us ua ++ (wRail aR C rs ra ++ (wRail aR2 C rs2 ra2 ++ (wSlots aS C sa sl ++ (wNight n0 aN C ns na nl ++ ([cYear y0 y1 y2 C y_isThere y_taken y_took] ++ ([cOb o0 C o_of]))))))))) (cQl D (fun (r : Int64) (u : (Nat → Nat) × (Nat → Int32) × (Nat → Nat → Int32) × (Nat → Int32) × (Nat → Nat → Int32) × (Nat → Nat → Int64)) => post r u.2.1 u.2.2.1 u.2.2.2.1 u.2.2.2.2.1 u.2.2.2.2.2) (fun u => [cLockRail L0 (aU 0) (aR 0) (aR2 0) h_images (aS 0) n0 y0 o0 C ] ++ (wReader aU C us ua ++ (wRail aR C rs ra ++ (wRail aR2 C u.2.1 u.2.2.1 ++ (wSlots aS C sa sl ++ (wNight n0 u.1 C u.2.2.2.1 u.2.2.2.2.1 u.2.2.2.2.2 ++ ([cYear y0 y1 y2 C y_isThere y_taken y_took] ++ ([cOb o0 C o_of])))))))) (va_A (List.flatten ([cLockRail L0 (aU 0) (aR 0) (aR2 0) h_images (aS 0) n0 y0 o0 C ] ++ (wReader aU C us ua ++ (wRail aR C rs ra ++ (wRail aR2 C rs2 ra2 ++ (wSlots aS C sa sl ++ (wNight n0 aN C ns na nl ++ ([cYear y0 y1 y2 C y_isThere y_taken y_took] ++ ([cOb o0 C o_of]))))))))) sz)) 0 0 (va_A (List.flatten ([cLockRail L0 (aU 0) (aR 0) (aR2 0) h_images (aS 0) n0 y0 o0 C ] ++ (wReader aU C us ua ++ (wRail aR C rs ra ++ (wRail aR2 C rs2 ra2 ++ (wSlots aS C sa sl ++ (wNight n0 aN C ns na nl ++ ([cYear y0 y1 y2 C y_isThere y_taken y_took] ++ ([cOb o0 C o_of]))))))))) sz) := by
  refine cStart (QA := fun A => cQl D (fun (r : Int64) (u : (Nat → Nat) × (Nat → Int32) × (Nat → Nat → Int32) × (Nat → Int32) × (Nat → Nat → Int32) × (Nat → Nat → Int64)) => post r u.2.1 u.2.2.1 u.2.2.2.1 u.2.2.2.2.1 u.2.2.2.2.2) (fun u => [cLockRail L0 (aU 0) (aR 0) (aR2 0) h_images (aS 0) n0 y0 o0 C ] ++ (wReader aU C us ua ++ (wRail aR C rs ra ++ (wRail aR2 C u.2.1 u.2.2.1 ++ (wSlots aS C sa sl ++ (wNight n0 u.1 C u.2.2.2.1 u.2.2.2.2.1 u.2.2.2.2.2 ++ ([cYear y0 y1 y2 C y_isThere y_taken y_took] ++ ([cOb o0 C o_of])))))))) A) (cc := cX11_wasted) (maxL := 2) (ret := (some .long)) (by decide) (Nat.le_of_ble_eq_true rfl) ?_
  intro p e s m args below meth c A ls hx hb hr hml hown hw hlocks hname hK hN hA hP hD hS hl
  generalize hQ : MQ below _ args s 0 0 A = Q
  have hl : lv_has ls 2 [(0, .ref L0)] := hl
  have hn97 : (Cond.fieldLinkNest "LockRail" 97 "LockRail$Rail" "bikes" "LLockRail$Bikes;" "LockRail").before args s = true := hN.f 61 rfl
  have hn161 : (Cond.fieldLinkNest "LockRail" 161 "LockRail$Bikes" "count" "I" "LockRail").before args s = true := hN.f 20 rfl
  obtain ⟨H, hH⟩ : ∃ H, H = s.heap := ⟨_, rfl⟩
  obtain ⟨locs, hlo⟩ : ∃ z : List Loc, z = [] := ⟨_, rfl⟩
  have hP : va_P D vwCl (List.flatten ([cLockRail L0 (aU 0) (aR 0) (aR2 0) h_images (aS 0) n0 y0 o0 C ] ++ (wReader aU C us ua ++ (wRail aR C rs ra ++ (wRail aR2 C rs2 ra2 ++ (wSlots aS C sa sl ++ (wNight n0 aN C ns na nl ++ ([cYear y0 y1 y2 C y_isThere y_taken y_took] ++ ([cOb o0 C o_of]))))))))) H := by rw [hH]; exact hP
  have hS : va_S A s.heap H locs := by rw [hH, hlo]; exact hS
  rw [show W p l e rmX11_wasted s m args below meth c s.heap [] 0 0 Q (F0 m 0 ls []) = W p l e rmX11_wasted s m args below meth c H locs 0 0 Q (F0 m 0 ls []) from by rw [hH, hlo]]
  have N59 : ∀ (rs2 : Nat → Int32) (ra2 : Nat → Nat → Int32) (ns : Nat → Int32) (na : Nat → Nat → Int32) (nl : Nat → Nat → Int64) (aN : Nat → Nat) (H : Heap) (locs : List Loc) (ls : Array Slot), P_X11_wasted_59 rs ra post  rs2 ra2 ns na nl → va_P D vwCl (List.flatten ([cLockRail L0 (aU 0) (aR 0) (aR2 0) h_images (aS 0) n0 y0 o0 C ] ++ (wReader aU C us ua ++ (wRail aR C rs ra ++ (wRail aR2 C rs2 ra2 ++ (wSlots aS C sa sl ++ (wNight n0 aN C ns na nl ++ ([cYear y0 y1 y2 C y_isThere y_taken y_took] ++ ([cOb o0 C o_of]))))))))) H → va_D A (List.flatten ([cLockRail L0 (aU 0) (aR 0) (aR2 0) h_images (aS 0) n0 y0 o0 C ] ++ (wReader aU C us ua ++ (wRail aR C rs ra ++ (wRail aR2 C rs2 ra2 ++ (wSlots aS C sa sl ++ (wNight n0 aN C ns na nl ++ ([cYear y0 y1 y2 C y_isThere y_taken y_took] ++ ([cOb o0 C o_of]))))))))) → va_S A s.heap H locs → lv_has ls 2 [(0, .ref L0)] → W p l e rmX11_wasted s m args below meth c H locs 0 0 Q (F0 m 59 ls []) := by
    intro rs2 ra2 ns na nl aN H locs ls h hP hD hS hl
    refine lv_aload_n hx hb dX11_wasted_59 rfl (lv_at hl 0 rfl) ?_
    refine lv_aload_n hx hb dX11_wasted_60 rfl (lv_at hl 0 rfl) ?_
    refine va_get (D := D) (ci := 11) (v := .ref (aR 0)) (C := RX11) (T := TX11) (N := 8) hx hb hw inW_X11 hown hK hP 0 rfl rfl 1 (by decide) (hw _ mw_2_144) (fun _ h9 => h9) rfl dX11_wasted_61 ?_
    refine lv_iconst (v := 2) hx hb dX11_wasted_64 (by decide) ?_
    refine cGoL (wo := fun u => [cLockRail L0 (aU 0) (aR 0) (aR2 0) h_images (aS 0) n0 y0 o0 C ] ++ (wReader aU C us ua ++ (wRail aR C rs ra ++ (wRail aR2 C rs2 ra2 ++ (wSlots aS C sa sl ++ (wNight n0 u.1 C u.2.1 u.2.2.1 u.2.2.2 ++ ([cYear y0 y1 y2 C y_isThere y_taken y_took] ++ ([cOb o0 C o_of])))))))) (cRunV (As := [.ref (aR 0), .int 2]) (rest := []) ⟨hx, hb, hml, hown, hw⟩ hK hN hP hD [0, 3, 4, 5, 6, 7, 8, 16, 17, 18] rfl rfl (k_X11_allOn l D C _ L0 aR n0 aN (aU 0) (aR 0) (aR2 0) h_images (aS 0) y0 o0  rs ra ns na nl 2 h) (cwV 2 hw (goodV mw_4_124 mw_4_126 mw_s63 mw_1_1 mw_4_127) rfl rfl rfl (by decide +kernel) ⟨Nat.le_of_ble_eq_true rfl, Nat.le_of_ble_eq_true rfl⟩) rfl rfl rfl hl.1 rfl (Nat.le_of_ble_eq_true rfl) dX11_wasted_65 ⟨Nat.zero_le _, Nat.zero_le _⟩) hP hD hS hA [0, 3, 4, 5, 6, 7, 8, 16, 17, 18] [1, 2, 9, 10, 11, 12, 13, 14, 15, 19, 20] [11, 0, 1, 12, 13, 14, 15, 16, 17, 2, 3, 4, 5, 6, 7, 8, 18, 19, 20, 9, 10] rfl rfl rfl (by decide) rfl (fun _ => rfl) (fun r5 u H locs h hP hD hS => ?_)
    obtain ⟨aN1, ns_2, na_3, nl_4⟩ := u
    have hP : va_P D vwCl (List.flatten ([cLockRail L0 (aU 0) (aR 0) (aR2 0) h_images (aS 0) n0 y0 o0 C ] ++ (wReader aU C us ua ++ (wRail aR C rs ra ++ (wRail aR2 C rs2 ra2 ++ (wSlots aS C sa sl ++ (wNight n0 aN1 C ns_2 na_3 nl_4 ++ ([cYear y0 y1 y2 C y_isThere y_taken y_took] ++ ([cOb o0 C o_of]))))))))) H := hP
    have hD : va_D A (List.flatten ([cLockRail L0 (aU 0) (aR 0) (aR2 0) h_images (aS 0) n0 y0 o0 C ] ++ (wReader aU C us ua ++ (wRail aR C rs ra ++ (wRail aR2 C rs2 ra2 ++ (wSlots aS C sa sl ++ (wNight n0 aN1 C ns_2 na_3 nl_4 ++ ([cYear y0 y1 y2 C y_isThere y_taken y_took] ++ ([cOb o0 C o_of]))))))))) := hD
    refine lv_aload_n hx hb dX11_wasted_68 rfl (lv_at hl 0 rfl) ?_
    refine lv_aload_n hx hb dX11_wasted_69 rfl (lv_at hl 0 rfl) ?_
    refine va_get (D := D) (ci := 11) (v := .ref (aR2 0)) (C := RX11) (T := TX11) (N := 8) hx hb hw inW_X11 hown hK hP 0 rfl rfl 2 (by decide) (hw _ mw_2_145) (fun _ h9 => h9) rfl dX11_wasted_70 ?_
    refine lv_iconst (v := 2) hx hb dX11_wasted_73 (by decide) ?_
    refine cGoL (wo := fun u => [cLockRail L0 (aU 0) (aR 0) (aR2 0) h_images (aS 0) n0 y0 o0 C ] ++ (wReader aU C us ua ++ (wRail aR C rs ra ++ (wRail aR2 C rs2 ra2 ++ (wSlots aS C sa sl ++ (wNight n0 u.1 C u.2.1 u.2.2.1 u.2.2.2 ++ ([cYear y0 y1 y2 C y_isThere y_taken y_took] ++ ([cOb o0 C o_of])))))))) (cRunV (As := [.ref (aR2 0), .int 2]) (rest := [.long r5]) ⟨hx, hb, hml, hown, hw⟩ hK hN hP hD [0, 9, 10, 11, 12, 13, 14, 16, 17, 18] rfl rfl (k_X11_allOn l D C _ L0 aR2 n0 aN1 (aU 0) (aR 0) (aR2 0) h_images (aS 0) y0 o0  rs2 ra2 ns_2 na_3 nl_4 2 h) (cwV 2 hw (goodV mw_4_124 mw_4_126 mw_s63 mw_1_1 mw_4_127) rfl rfl rfl (by decide +kernel) ⟨Nat.le_of_ble_eq_true rfl, Nat.le_of_ble_eq_true rfl⟩) rfl rfl rfl hl.1 rfl (Nat.le_of_ble_eq_true rfl) dX11_wasted_74 ⟨Nat.zero_le _, Nat.zero_le _⟩) hP hD hS hA [0, 9, 10, 11, 12, 13, 14, 16, 17, 18] [1, 2, 3, 4, 5, 6, 7, 8, 15, 19, 20] [11, 0, 1, 2, 3, 4, 5, 6, 7, 12, 13, 14, 15, 16, 17, 8, 18, 19, 20, 9, 10] rfl rfl rfl (by decide) rfl (fun _ => rfl) (fun r10 u H locs h hP hD hS => ?_)
    obtain ⟨aN6, ns_7, na_8, nl_9⟩ := u
    have hP : va_P D vwCl (List.flatten ([cLockRail L0 (aU 0) (aR 0) (aR2 0) h_images (aS 0) n0 y0 o0 C ] ++ (wReader aU C us ua ++ (wRail aR C rs ra ++ (wRail aR2 C rs2 ra2 ++ (wSlots aS C sa sl ++ (wNight n0 aN6 C ns_7 na_8 nl_9 ++ ([cYear y0 y1 y2 C y_isThere y_taken y_took] ++ ([cOb o0 C o_of]))))))))) H := hP
    have hD : va_D A (List.flatten ([cLockRail L0 (aU 0) (aR 0) (aR2 0) h_images (aS 0) n0 y0 o0 C ] ++ (wReader aU C us ua ++ (wRail aR C rs ra ++ (wRail aR2 C rs2 ra2 ++ (wSlots aS C sa sl ++ (wNight n0 aN6 C ns_7 na_8 nl_9 ++ ([cYear y0 y1 y2 C y_isThere y_taken y_took] ++ ([cOb o0 C o_of]))))))))) := hD
    refine lv_lsub hx hb dX11_wasted_77 ?_
    rw [← hQ]
    exact cRetL (v := (r5 - r10)) (aN6, rs2, ra2, ns_7, na_8, nl_9) hx hb hr hlocks hS hP hD h dX11_wasted_78
  have N27 : ∀ (rs2 : Nat → Int32) (ns : Nat → Int32) (na : Nat → Nat → Int32) (nl : Nat → Nat → Int64) (n27 : Nat) (x1_ : Int32) (ra2 : Nat → Nat → Int32) (aN : Nat → Nat) (H : Heap) (locs : List Loc) (ls : Array Slot), P_X11_wasted_27 rs ra post (fun (rs2 : Nat → Int32) (ra2 : Nat → Nat → Int32) (ns : Nat → Int32) (na : Nat → Nat → Int32) (nl : Nat → Nat → Int64) => P_X11_wasted_59 rs ra post  rs2 ra2 ns na nl) rs2 ns na nl n27 x1_ ra2 → va_P D vwCl (List.flatten ([cLockRail L0 (aU 0) (aR 0) (aR2 0) h_images (aS 0) n0 y0 o0 C ] ++ (wReader aU C us ua ++ (wRail aR C rs ra ++ (wRail aR2 C rs2 ra2 ++ (wSlots aS C sa sl ++ (wNight n0 aN C ns na nl ++ ([cYear y0 y1 y2 C y_isThere y_taken y_took] ++ ([cOb o0 C o_of]))))))))) H → va_D A (List.flatten ([cLockRail L0 (aU 0) (aR 0) (aR2 0) h_images (aS 0) n0 y0 o0 C ] ++ (wReader aU C us ua ++ (wRail aR C rs ra ++ (wRail aR2 C rs2 ra2 ++ (wSlots aS C sa sl ++ (wNight n0 aN C ns na nl ++ ([cYear y0 y1 y2 C y_isThere y_taken y_took] ++ ([cOb o0 C o_of]))))))))) → va_S A s.heap H locs → lv_has ls 2 [(0, .ref L0), (1, .int x1_)] → W p l e rmX11_wasted s m args below meth c H locs 0 0 Q (F0 m 27 ls []) := by
    intro rs2 ns na nl
    intro n27
    induction n27 with
    | zero => intro x1_ ra2 aN H locs ls h hP hD hS hl; exact False.elim h
    | succ n27 ih27 =>
      intro x1_ ra2 aN H locs ls h hP hD hS hl
      refine lv_iload_n hx hb dX11_wasted_27 rfl (lv_at hl 1 rfl) ?_
      refine lv_aload_n hx hb dX11_wasted_28 rfl (lv_at hl 0 rfl) ?_
      refine va_get (D := D) (ci := 11) (v := .ref (aR2 0)) (C := RX11) (T := TX11) (N := 8) hx hb hw inW_X11 hown hK hP 0 rfl rfl 2 (by decide) (hw _ mw_2_145) (fun _ h9 => h9) rfl dX11_wasted_29 ?_
      refine va_getN (D := D) (ci := 4) (v := .ref (aR2 7)) (C := RX4) (T := TX4) (N := 16) hx hb hw inW_X4 hown hK hP 26 rfl rfl 5 (by decide) hn97 (fun _ h9 => h9) rfl dX11_wasted_32 ?_
      refine va_getN (D := D) (ci := 0) (v := .int (rs2 13)) (C := RX0) (T := TX0) (N := 6) hx hb hw inW_X0 hown hK hP 33 rfl rfl 0 (by decide) hn161 (fun _ h9 => h9) rfl dX11_wasted_35 ?_
      refine lv_icmp_ge (tgt := 59) hx hb dX11_wasted_38 (by decide) (fun c11 => ?_) (fun c11 => ?_)
      · have h := h.1 c11
        exact N59 rs2 ra2 ns na nl aN _ _ _ h hP hD hS (lv_sub hl [0] rfl)
      · have h := h.2 c11
        refine lv_aload_n hx hb dX11_wasted_41 rfl (lv_at hl 0 rfl) ?_
        refine va_get (D := D) (ci := 11) (v := .ref (aR2 0)) (C := RX11) (T := TX11) (N := 8) hx hb hw inW_X11 hown hK hP 0 rfl rfl 2 (by decide) (hw _ mw_2_145) (fun _ h9 => h9) rfl dX11_wasted_42 ?_
        refine va_getN (D := D) (ci := 4) (v := .ref (aR2 7)) (C := RX4) (T := TX4) (N := 16) hx hb hw inW_X4 hown hK hP 26 rfl rfl 5 (by decide) hn97 (fun _ h9 => h9) rfl dX11_wasted_45 ?_
        refine lv_iload_n hx hb dX11_wasted_48 rfl (lv_at hl 1 rfl) ?_
        refine lv_iconst (v := 0) hx hb dX11_wasted_49 (by decide) ?_
        refine cGoV (wo := fun u => [cLockRail L0 (aU 0) (aR 0) (aR2 0) h_images (aS 0) n0 y0 o0 C ] ++ (wReader aU C us ua ++ (wRail aR C rs ra ++ (wRail aR2 C rs2 (va_up (va_up ra2 7 u.1) 8 u.2) ++ (wSlots aS C sa sl ++ (wNight n0 aN C ns na nl ++ ([cYear y0 y1 y2 C y_isThere y_taken y_took] ++ ([cOb o0 C o_of])))))))) (cRunVN (As := [.int x1_, .int 0]) (rest := []) ⟨hx, hb, hml, hown, hw⟩ hK hN hP hD [12] rfl rfl (k_X0_setOption l D C _ (aR2 7) (aR2 8) (aR2 9) (aR2 10) (aR2 11) (aR2 12)  (rs2 13) (ra2 4) (ra2 5) (ra2 6) (ra2 7) (ra2 8) x1_ 0 h) ⟨va_cnB 2 hw (goodN mw_4_153) rfl rfl rfl (hN.m 58 rfl) (hw _ mw_1_7) (by decide +kernel) ⟨Nat.le_of_ble_eq_true rfl, Nat.le_of_ble_eq_true rfl⟩, hw _ mw_4_152, hw _ mw_s68⟩ rfl rfl rfl hl.1 rfl (Nat.le_of_ble_eq_true rfl) dX11_wasted_50 ⟨Nat.zero_le _, Nat.zero_le _⟩) hP hD hS hA [12] [0, 1, 2, 3, 4, 5, 6, 7, 8, 9, 10, 11, 13, 14, 15, 16, 17, 18, 19, 20] [0, 1, 2, 3, 4, 5, 6, 7, 8, 9, 10, 11, 20, 12, 13, 14, 15, 16, 17, 18, 19] rfl rfl rfl (by decide) rfl (fun _ => rfl) (fun u H locs h hP hD hS => ?_)
        obtain ⟨loc_12, mar_13⟩ := u
        have hP : va_P D vwCl (List.flatten ([cLockRail L0 (aU 0) (aR 0) (aR2 0) h_images (aS 0) n0 y0 o0 C ] ++ (wReader aU C us ua ++ (wRail aR C rs ra ++ (wRail aR2 C rs2 (va_up (va_up ra2 7 loc_12) 8 mar_13) ++ (wSlots aS C sa sl ++ (wNight n0 aN C ns na nl ++ ([cYear y0 y1 y2 C y_isThere y_taken y_took] ++ ([cOb o0 C o_of]))))))))) H := hP
        have hD : va_D A (List.flatten ([cLockRail L0 (aU 0) (aR 0) (aR2 0) h_images (aS 0) n0 y0 o0 C ] ++ (wReader aU C us ua ++ (wRail aR C rs ra ++ (wRail aR2 C rs2 (va_up (va_up ra2 7 loc_12) 8 mar_13) ++ (wSlots aS C sa sl ++ (wNight n0 aN C ns na nl ++ ([cYear y0 y1 y2 C y_isThere y_taken y_took] ++ ([cOb o0 C o_of]))))))))) := hD
        refine lv_iinc (v := (x1_ + 1)) (lv' := [(1, .int (x1_ + 1)), (0, .ref L0)]) hx hb dX11_wasted_53 hl (k := 1) rfl rfl (by decide) rfl (fun ls hl => ?_)
        refine lv_goto (tgt := 27) hx hb dX11_wasted_56 (by decide) ?_
        exact ih27 (x1_ + 1) (va_up (va_up ra2 7 loc_12) 8 mar_13) aN _ _ _ h hP hD hS (lv_sub hl [1, 0] rfl)
  refine lv_aload_n hx hb dX11_wasted_0 rfl (lv_at hl 0 rfl) ?_
  refine va_get (D := D) (ci := 11) (v := .ref (aR 0)) (C := RX11) (T := TX11) (N := 8) hx hb hw inW_X11 hown hK hP 0 rfl rfl 1 (by decide) (hw _ mw_2_144) (fun _ h9 => h9) rfl dX11_wasted_1 ?_
  refine cGoI (wo := fun u => [cLockRail L0 (aU 0) (aR 0) (aR2 0) h_images (aS 0) n0 y0 o0 C ] ++ (wReader aU C us ua ++ (wRail aR C rs ra ++ (wRail aR2 C rs2 ra2 ++ (wSlots aS C sa sl ++ (wNight n0 aN C ns na nl ++ ([cYear y0 y1 y2 C y_isThere y_taken y_took] ++ ([cOb o0 C o_of])))))))) (cRunVN (As := []) (rest := []) ⟨hx, hb, hml, hown, hw⟩ hK hN hP hD [3, 4, 5, 6, 7, 8] rfl rfl (k_X4_isTold l D C _ aR  rs ra  h) ⟨va_cnB 0 hw (goodN mw_4_19) rfl rfl rfl (hN.m 44 rfl) (hw _ mw_1_4) (by decide +kernel) ⟨Nat.le_of_ble_eq_true rfl, Nat.le_of_ble_eq_true rfl⟩, hw _ mw_4_18, hw _ mw_s47⟩ rfl rfl rfl hl.1 rfl (Nat.le_of_ble_eq_true rfl) dX11_wasted_4 ⟨Nat.zero_le _, Nat.zero_le _⟩) hP hD hS hA [3, 4, 5, 6, 7, 8] [0, 1, 2, 9, 10, 11, 12, 13, 14, 15, 16, 17, 18, 19, 20] [0, 1, 2, 15, 16, 17, 18, 19, 20, 3, 4, 5, 6, 7, 8, 9, 10, 11, 12, 13, 14] rfl rfl rfl (by decide) rfl (fun _ => rfl) (fun r14 u H locs h hP hD hS => ?_)
  have hP : va_P D vwCl (List.flatten ([cLockRail L0 (aU 0) (aR 0) (aR2 0) h_images (aS 0) n0 y0 o0 C ] ++ (wReader aU C us ua ++ (wRail aR C rs ra ++ (wRail aR2 C rs2 ra2 ++ (wSlots aS C sa sl ++ (wNight n0 aN C ns na nl ++ ([cYear y0 y1 y2 C y_isThere y_taken y_took] ++ ([cOb o0 C o_of]))))))))) H := hP
  have hD : va_D A (List.flatten ([cLockRail L0 (aU 0) (aR 0) (aR2 0) h_images (aS 0) n0 y0 o0 C ] ++ (wReader aU C us ua ++ (wRail aR C rs ra ++ (wRail aR2 C rs2 ra2 ++ (wSlots aS C sa sl ++ (wNight n0 aN C ns na nl ++ ([cYear y0 y1 y2 C y_isThere y_taken y_took] ++ ([cOb o0 C o_of]))))))))) := hD
  refine lv_if_ne (tgt := 14) hx hb dX11_wasted_7 (by decide) (fun c15 => ?_) (fun c15 => ?_)
  · have h := h.1 c15
    refine lv_aload_n hx hb dX11_wasted_14 rfl (lv_at hl 0 rfl) ?_
    refine va_get (D := D) (ci := 11) (v := .ref (aR2 0)) (C := RX11) (T := TX11) (N := 8) hx hb hw inW_X11 hown hK hP 0 rfl rfl 2 (by decide) (hw _ mw_2_145) (fun _ h9 => h9) rfl dX11_wasted_15 ?_
    refine lv_aload_n hx hb dX11_wasted_18 rfl (lv_at hl 0 rfl) ?_
    refine va_get (D := D) (ci := 11) (v := .ref (aR 0)) (C := RX11) (T := TX11) (N := 8) hx hb hw inW_X11 hown hK hP 0 rfl rfl 1 (by decide) (hw _ mw_2_144) (fun _ h9 => h9) rfl dX11_wasted_19 ?_
    refine cGoV (wo := fun u => [cLockRail L0 (aU 0) (aR 0) (aR2 0) h_images (aS 0) n0 y0 o0 C ] ++ (wReader aU C us ua ++ (wRail aR C rs ra ++ (wRail aR2 C u.1 u.2 ++ (wSlots aS C sa sl ++ (wNight n0 aN C ns na nl ++ ([cYear y0 y1 y2 C y_isThere y_taken y_took] ++ ([cOb o0 C o_of])))))))) (cRunVN (As := [.ref (aR 0)]) (rest := []) ⟨hx, hb, hml, hown, hw⟩ hK hN hP hD [9, 10, 11, 12, 13, 14, 3, 4, 5, 6, 7, 8] rfl rfl (k_X4_copyFrom l D C _ aR2 aR  rs2 ra2 rs ra  h) ⟨va_cnB 1 hw (goodN mw_3_126) rfl rfl rfl (hN.m 23 rfl) (hw _ mw_1_4) (by decide +kernel) ⟨Nat.le_of_ble_eq_true rfl, Nat.le_of_ble_eq_true rfl⟩, hw _ mw_3_125, hw _ mw_s26⟩ rfl rfl rfl hl.1 rfl (Nat.le_of_ble_eq_true rfl) dX11_wasted_22 ⟨Nat.zero_le _, Nat.zero_le _⟩) hP hD hS hA [9, 10, 11, 12, 13, 14, 3, 4, 5, 6, 7, 8] [0, 1, 2, 15, 16, 17, 18, 19, 20] [0, 1, 2, 15, 16, 17, 18, 19, 20, 9, 10, 11, 12, 13, 14, 3, 4, 5, 6, 7, 8] rfl rfl rfl (by decide) rfl (fun _ => rfl) (fun u H locs h hP hD hS => ?_)
    obtain ⟨rs_16, ra_17⟩ := u
    have hP : va_P D vwCl (List.flatten ([cLockRail L0 (aU 0) (aR 0) (aR2 0) h_images (aS 0) n0 y0 o0 C ] ++ (wReader aU C us ua ++ (wRail aR C rs ra ++ (wRail aR2 C rs_16 ra_17 ++ (wSlots aS C sa sl ++ (wNight n0 aN C ns na nl ++ ([cYear y0 y1 y2 C y_isThere y_taken y_took] ++ ([cOb o0 C o_of]))))))))) H := hP
    have hD : va_D A (List.flatten ([cLockRail L0 (aU 0) (aR 0) (aR2 0) h_images (aS 0) n0 y0 o0 C ] ++ (wReader aU C us ua ++ (wRail aR C rs ra ++ (wRail aR2 C rs_16 ra_17 ++ (wSlots aS C sa sl ++ (wNight n0 aN C ns na nl ++ ([cYear y0 y1 y2 C y_isThere y_taken y_took] ++ ([cOb o0 C o_of]))))))))) := hD
    refine lv_iconst (v := 0) hx hb dX11_wasted_25 (by decide) ?_
    refine lv_istore_n (lv' := [(1, .int 0), (0, .ref L0)]) hx hb dX11_wasted_26 rfl hl (by decide) rfl (fun ls hl => ?_)
    obtain ⟨n, h⟩ := h
    exact N27 rs_16 ns na nl n 0 ra_17 aN _ _ _ h hP hD hS (lv_sub hl [1, 0] rfl)
  · have h := h.2 c15
    refine lv_ldc2 (v := (-1000000000000)) hx hb hown (hw _ mw_4_222) dX11_wasted_10 ?_
    rw [← hQ]
    exact cRetL (v := (-1000000000000)) (aN, rs2, ra2, ns, na, nl) hx hb hr hlocks hS hP hD h dX11_wasted_13
abbrev vsX11_findGrownRisks : List Cond := Cond.code yX11_findGrownRisks cX11_findGrownRisks 4 none :: WS
abbrev rmX11_findGrownRisks : Room := { frames := 4, cells := 0, slots := 0, locals := 105 }
set_option maxHeartbeats 4000000 in
set_option maxRecDepth 100000 in
theorem k_X11_findGrownRisks (l : Launch) (D : va_G) (C : Nat → ClassId) (sz : Nat) (L0 : Nat) (aR : Nat → Nat) (aR2 : Nat → Nat) (n0 : Nat) (aN : Nat → Nat) (o0 : Nat) (h_reader : Nat) (h_images : Nat) (h_slots : Nat) (h_triedYear : Nat) (rs : Nat → Int32) (ra : Nat → Nat → Int32) (rs2 : Nat → Int32) (ra2 : Nat → Nat → Int32) (ns : Nat → Int32) (na : Nat → Nat → Int32) (nl : Nat → Nat → Int64) (o_of : Nat → Int64) (p1 : Int32) (p2 : Int32) {post : (Nat → Int32) → (Nat → Nat → Int32) → (Nat → Int32) → (Nat → Nat → Int32) → (Nat → Nat → Int64) → (Nat → Int64) → Prop} (h : P_X11_findGrownRisks rs ra rs2 ra2 ns na nl o_of p1 p2 post) : Met l yX11_findGrownRisks vsX11_findGrownRisks rmX11_findGrownRisks (cPre D C [.ref L0, .int p1, .int p2] sz ([cLockRail L0 h_reader (aR 0) (aR2 0) h_images h_slots n0 h_triedYear o0 C ] ++ (wRail aR C rs ra ++ (wRail aR2 C rs2 ra2 ++ (wNight n0 aN C ns na nl ++ ([cOb o0 C o_of])))))) (cQv D (fun (u : (Nat → Nat) × (Nat → Int32) × (Nat → Nat → Int32) × (Nat → Int32) × (Nat → Nat → Int32) × (Nat → Nat → Int64) × (Nat → Int64)) => post u.2.1 u.2.2.1 u.2.2.2.1 u.2.2.2.2.1 u.2.2.2.2.2.1 u.2.2.2.2.2.2) (fun u => [cLockRail L0 h_reader (aR 0) (aR2 0) h_images h_slots n0 h_triedYear o0 C ] ++ (wRail aR C rs ra ++ (wRail aR2 C u.2.1 u.2.2.1 ++ (wNight n0 u.1 C u.2.2.2.1 u.2.2.2.2.1 u.2.2.2.2.2.1 ++ ([cOb o0 C u.2.2.2.2.2.2]))))) (va_A (List.flatten ([cLockRail L0 h_reader (aR 0) (aR2 0) h_images h_slots n0 h_triedYear o0 C ] ++ (wRail aR C rs ra ++ (wRail aR2 C rs2 ra2 ++ (wNight n0 aN C ns na nl ++ ([cOb o0 C o_of])))))) sz)) 0 0 (va_A (List.flatten ([cLockRail L0 h_reader (aR 0) (aR2 0) h_images h_slots n0 h_triedYear o0 C ] ++ (wRail aR C rs ra ++ (wRail aR2 C rs2 ra2 ++ (wNight n0 aN C ns na nl ++ ([cOb o0 C o_of])))))) sz) := by
  refine cStart (QA := fun A => cQv D (fun (u : (Nat → Nat) × (Nat → Int32) × (Nat → Nat → Int32) × (Nat → Int32) × (Nat → Nat → Int32) × (Nat → Nat → Int64) × (Nat → Int64)) => post u.2.1 u.2.2.1 u.2.2.2.1 u.2.2.2.2.1 u.2.2.2.2.2.1 u.2.2.2.2.2.2) (fun u => [cLockRail L0 h_reader (aR 0) (aR2 0) h_images h_slots n0 h_triedYear o0 C ] ++ (wRail aR C rs ra ++ (wRail aR2 C u.2.1 u.2.2.1 ++ (wNight n0 u.1 C u.2.2.2.1 u.2.2.2.2.1 u.2.2.2.2.2.1 ++ ([cOb o0 C u.2.2.2.2.2.2]))))) A) (cc := cX11_findGrownRisks) (maxL := 4) (ret := none) (by decide) (Nat.le_of_ble_eq_true rfl) ?_
  intro p e s m args below meth c A ls hx hb hr hml hown hw hlocks hname hK hN hA hP hD hS hl
  generalize hQ : MQ below _ args s 0 0 A = Q
  have hl : lv_has ls 4 [(0, .ref L0), (1, .int p1), (2, .int p2)] := hl
  have hn97 : (Cond.fieldLinkNest "LockRail" 97 "LockRail$Rail" "bikes" "LLockRail$Bikes;" "LockRail").before args s = true := hN.f 61 rfl
  have hn161 : (Cond.fieldLinkNest "LockRail" 161 "LockRail$Bikes" "count" "I" "LockRail").before args s = true := hN.f 20 rfl
  obtain ⟨H, hH⟩ : ∃ H, H = s.heap := ⟨_, rfl⟩
  obtain ⟨locs, hlo⟩ : ∃ z : List Loc, z = [] := ⟨_, rfl⟩
  have hP : va_P D vwCl (List.flatten ([cLockRail L0 h_reader (aR 0) (aR2 0) h_images h_slots n0 h_triedYear o0 C ] ++ (wRail aR C rs ra ++ (wRail aR2 C rs2 ra2 ++ (wNight n0 aN C ns na nl ++ ([cOb o0 C o_of])))))) H := by rw [hH]; exact hP
  have hS : va_S A s.heap H locs := by rw [hH, hlo]; exact hS
  rw [show W p l e rmX11_findGrownRisks s m args below meth c s.heap [] 0 0 Q (F0 m 0 ls []) = W p l e rmX11_findGrownRisks s m args below meth c H locs 0 0 Q (F0 m 0 ls []) from by rw [hH, hlo]]
  have N84 : ∀ (rs2 : Nat → Int32) (ra2 : Nat → Nat → Int32) (ns : Nat → Int32) (na : Nat → Nat → Int32) (nl : Nat → Nat → Int64) (n84 : Nat) (x3_ : Int32) (o_of : Nat → Int64) (aN : Nat → Nat) (H : Heap) (locs : List Loc) (ls : Array Slot), P_X11_findGrownRisks_84 rs ra p1 p2 post  rs2 ra2 ns na nl n84 x3_ o_of → va_P D vwCl (List.flatten ([cLockRail L0 h_reader (aR 0) (aR2 0) h_images h_slots n0 h_triedYear o0 C ] ++ (wRail aR C rs ra ++ (wRail aR2 C rs2 ra2 ++ (wNight n0 aN C ns na nl ++ ([cOb o0 C o_of])))))) H → va_D A (List.flatten ([cLockRail L0 h_reader (aR 0) (aR2 0) h_images h_slots n0 h_triedYear o0 C ] ++ (wRail aR C rs ra ++ (wRail aR2 C rs2 ra2 ++ (wNight n0 aN C ns na nl ++ ([cOb o0 C o_of])))))) → va_S A s.heap H locs → lv_has ls 4 [(0, .ref L0), (3, .int x3_)] → W p l e rmX11_findGrownRisks s m args below meth c H locs 0 0 Q (F0 m 84 ls []) := by
    intro rs2 ra2 ns na nl
    intro n84
    induction n84 with
    | zero => intro x3_ o_of aN H locs ls h hP hD hS hl; exact False.elim h
    | succ n84 ih84 =>
      intro x3_ o_of aN H locs ls h hP hD hS hl
      refine lv_iload_n hx hb dX11_findGrownRisks_84 rfl (lv_at hl 1 rfl) ?_
      refine lv_aload_n hx hb dX11_findGrownRisks_85 rfl (lv_at hl 0 rfl) ?_
      refine va_get (D := D) (ci := 11) (v := .ref (aR 0)) (C := RX11) (T := TX11) (N := 8) hx hb hw inW_X11 hown hK hP 0 rfl rfl 1 (by decide) (hw _ mw_2_144) (fun _ h9 => h9) rfl dX11_findGrownRisks_86 ?_
      refine va_getN (D := D) (ci := 4) (v := .ref (aR 7)) (C := RX4) (T := TX4) (N := 16) hx hb hw inW_X4 hown hK hP 1 rfl rfl 5 (by decide) hn97 (fun _ h9 => h9) rfl dX11_findGrownRisks_89 ?_
      refine va_getN (D := D) (ci := 0) (v := .int (rs 13)) (C := RX0) (T := TX0) (N := 6) hx hb hw inW_X0 hown hK hP 8 rfl rfl 0 (by decide) hn161 (fun _ h9 => h9) rfl dX11_findGrownRisks_92 ?_
      refine lv_icmp_ge (tgt := 121) hx hb dX11_findGrownRisks_95 (by decide) (fun c1 => ?_) (fun c1 => ?_)
      · have h := h.1 c1
        rw [← hQ]
        exact cRetV (aN, rs2, ra2, ns, na, nl, o_of) hx hb hr hlocks hS hP hD h dX11_findGrownRisks_121
      · have h := h.2 c1
        refine lv_aload_n hx hb dX11_findGrownRisks_98 rfl (lv_at hl 0 rfl) ?_
        refine va_get (D := D) (ci := 11) (v := .ref o0) (C := RX11) (T := TX11) (N := 8) hx hb hw inW_X11 hown hK hP 0 rfl rfl 7 (by decide) (hw _ mw_2_150) (fun _ h9 => h9) rfl dX11_findGrownRisks_99 ?_
        refine lv_iload_n hx hb dX11_findGrownRisks_102 rfl (lv_at hl 1 rfl) ?_
        refine lv_dup2_11 hx hb dX11_findGrownRisks_103 rfl rfl ?_
        refine cLald hx hb hK hP 62 1 rfl rfl x3_.toNatClampNeg rfl h.1 dX11_findGrownRisks_104 ?_
        have h := h.2
        refine lv_aload_n hx hb dX11_findGrownRisks_105 rfl (lv_at hl 0 rfl) ?_
        refine va_get (D := D) (ci := 11) (v := .ref n0) (C := RX11) (T := TX11) (N := 8) hx hb hw inW_X11 hown hK hP 0 rfl rfl 5 (by decide) (hw _ mw_2_148) (fun _ h9 => h9) rfl dX11_findGrownRisks_106 ?_
        refine lv_iload_n hx hb dX11_findGrownRisks_109 rfl (lv_at hl 1 rfl) ?_
        refine cGoL (wo := fun u => [cLockRail L0 h_reader (aR 0) (aR2 0) h_images h_slots n0 h_triedYear o0 C ] ++ (wRail aR C rs ra ++ (wRail aR2 C rs2 ra2 ++ (wNight n0 aN C ns na nl ++ ([cOb o0 C o_of]))))) (cRunVN (As := [.int x3_]) (rest := [.long (o_of x3_.toNatClampNeg), .int x3_, .ref o0]) ⟨hx, hb, hml, hown, hw⟩ hK hN hP hD [13, 14, 15] rfl rfl (k_X3_riskOf l D C _ n0 aN  ns na nl x3_ h) ⟨va_cnB 1 hw (goodN mw_4_84) rfl rfl rfl (hN.m 50 rfl) (hw _ mw_1_11) (by decide +kernel) ⟨Nat.le_of_ble_eq_true rfl, Nat.le_of_ble_eq_true rfl⟩, hw _ mw_4_83, hw _ mw_s57⟩ rfl rfl rfl hl.1 rfl (Nat.le_of_ble_eq_true rfl) dX11_findGrownRisks_110 ⟨Nat.zero_le _, Nat.zero_le _⟩) hP hD hS hA [13, 14, 15] [0, 1, 2, 3, 4, 5, 6, 7, 8, 9, 10, 11, 12, 16] [0, 1, 2, 3, 4, 5, 6, 7, 8, 9, 10, 11, 12, 14, 15, 16, 13] rfl rfl rfl (by decide) rfl (fun _ => rfl) (fun r2 u H locs h hP hD hS => ?_)
        have hP : va_P D vwCl (List.flatten ([cLockRail L0 h_reader (aR 0) (aR2 0) h_images h_slots n0 h_triedYear o0 C ] ++ (wRail aR C rs ra ++ (wRail aR2 C rs2 ra2 ++ (wNight n0 aN C ns na nl ++ ([cOb o0 C o_of])))))) H := hP
        have hD : va_D A (List.flatten ([cLockRail L0 h_reader (aR 0) (aR2 0) h_images h_slots n0 h_triedYear o0 C ] ++ (wRail aR C rs ra ++ (wRail aR2 C rs2 ra2 ++ (wNight n0 aN C ns na nl ++ ([cOb o0 C o_of])))))) := hD
        refine lv_ladd hx hb dX11_findGrownRisks_113 ?_
        refine cLast hx hb hK hP hD hS 62 1 rfl rfl x3_.toNatClampNeg rfl h.1 dX11_findGrownRisks_114 (fun H locs hP hD hS => ?_)
        have h := h.2
        refine lv_iinc (v := (x3_ + 1)) (lv' := [(3, .int (x3_ + 1)), (0, .ref L0)]) hx hb dX11_findGrownRisks_115 hl (k := 1) rfl rfl (by decide) rfl (fun ls hl => ?_)
        refine lv_goto (tgt := 84) hx hb dX11_findGrownRisks_118 (by decide) ?_
        have hP : va_P D vwCl (List.flatten ([cLockRail L0 h_reader (aR 0) (aR2 0) h_images h_slots n0 h_triedYear o0 C ] ++ (wRail aR C rs ra ++ (wRail aR2 C rs2 ra2 ++ (wNight n0 aN C ns na nl ++ ([cOb o0 C (vp_updL o_of x3_.toNatClampNeg ((o_of x3_.toNatClampNeg) + r2))])))))) H := hP
        have hD : va_D A (List.flatten ([cLockRail L0 h_reader (aR 0) (aR2 0) h_images h_slots n0 h_triedYear o0 C ] ++ (wRail aR C rs ra ++ (wRail aR2 C rs2 ra2 ++ (wNight n0 aN C ns na nl ++ ([cOb o0 C (vp_updL o_of x3_.toNatClampNeg ((o_of x3_.toNatClampNeg) + r2))])))))) := hD
        exact ih84 (x3_ + 1) (vp_updL o_of x3_.toNatClampNeg ((o_of x3_.toNatClampNeg) + r2)) aN _ _ _ h hP hD hS (lv_sub hl [1, 0] rfl)
  have N48 : ∀ (rs2 : Nat → Int32) (ra2 : Nat → Nat → Int32) (ns : Nat → Int32) (na : Nat → Nat → Int32) (nl : Nat → Nat → Int64) (o_of : Nat → Int64) (aN : Nat → Nat) (H : Heap) (locs : List Loc) (ls : Array Slot), P_X11_findGrownRisks_48 rs ra p1 p2 post  rs2 ra2 ns na nl o_of → va_P D vwCl (List.flatten ([cLockRail L0 h_reader (aR 0) (aR2 0) h_images h_slots n0 h_triedYear o0 C ] ++ (wRail aR C rs ra ++ (wRail aR2 C rs2 ra2 ++ (wNight n0 aN C ns na nl ++ ([cOb o0 C o_of])))))) H → va_D A (List.flatten ([cLockRail L0 h_reader (aR 0) (aR2 0) h_images h_slots n0 h_triedYear o0 C ] ++ (wRail aR C rs ra ++ (wRail aR2 C rs2 ra2 ++ (wNight n0 aN C ns na nl ++ ([cOb o0 C o_of])))))) → va_S A s.heap H locs → lv_has ls 4 [(0, .ref L0), (1, .int p1), (2, .int p2)] → W p l e rmX11_findGrownRisks s m args below meth c H locs 0 0 Q (F0 m 48 ls []) := by
    intro rs2 ra2 ns na nl o_of aN H locs ls h hP hD hS hl
    refine lv_aload_n hx hb dX11_findGrownRisks_48 rfl (lv_at hl 0 rfl) ?_
    refine va_get (D := D) (ci := 11) (v := .ref (aR2 0)) (C := RX11) (T := TX11) (N := 8) hx hb hw inW_X11 hown hK hP 0 rfl rfl 2 (by decide) (hw _ mw_2_145) (fun _ h9 => h9) rfl dX11_findGrownRisks_49 ?_
    refine lv_aload_n hx hb dX11_findGrownRisks_52 rfl (lv_at hl 0 rfl) ?_
    refine va_get (D := D) (ci := 11) (v := .ref (aR 0)) (C := RX11) (T := TX11) (N := 8) hx hb hw inW_X11 hown hK hP 0 rfl rfl 1 (by decide) (hw _ mw_2_144) (fun _ h9 => h9) rfl dX11_findGrownRisks_53 ?_
    refine cGoV (wo := fun u => [cLockRail L0 h_reader (aR 0) (aR2 0) h_images h_slots n0 h_triedYear o0 C ] ++ (wRail aR C rs ra ++ (wRail aR2 C u.1 u.2 ++ (wNight n0 aN C ns na nl ++ ([cOb o0 C o_of]))))) (cRunVN (As := [.ref (aR 0)]) (rest := []) ⟨hx, hb, hml, hown, hw⟩ hK hN hP hD [7, 8, 9, 10, 11, 12, 1, 2, 3, 4, 5, 6] rfl rfl (k_X4_copyFrom l D C _ aR2 aR  rs2 ra2 rs ra  h) ⟨va_cnB 1 hw (goodN mw_3_126) rfl rfl rfl (hN.m 23 rfl) (hw _ mw_1_4) (by decide +kernel) ⟨Nat.le_of_ble_eq_true rfl, Nat.le_of_ble_eq_true rfl⟩, hw _ mw_3_125, hw _ mw_s26⟩ rfl rfl rfl hl.1 rfl (Nat.le_of_ble_eq_true rfl) dX11_findGrownRisks_56 ⟨Nat.zero_le _, Nat.zero_le _⟩) hP hD hS hA [7, 8, 9, 10, 11, 12, 1, 2, 3, 4, 5, 6] [0, 13, 14, 15, 16] [0, 11, 12, 13, 14, 15, 16, 5, 6, 7, 8, 9, 10, 1, 2, 3, 4] rfl rfl rfl (by decide) rfl (fun _ => rfl) (fun u H locs h hP hD hS => ?_)
    obtain ⟨rs_3, ra_4⟩ := u
    have hP : va_P D vwCl (List.flatten ([cLockRail L0 h_reader (aR 0) (aR2 0) h_images h_slots n0 h_triedYear o0 C ] ++ (wRail aR C rs ra ++ (wRail aR2 C rs_3 ra_4 ++ (wNight n0 aN C ns na nl ++ ([cOb o0 C o_of])))))) H := hP
    have hD : va_D A (List.flatten ([cLockRail L0 h_reader (aR 0) (aR2 0) h_images h_slots n0 h_triedYear o0 C ] ++ (wRail aR C rs ra ++ (wRail aR2 C rs_3 ra_4 ++ (wNight n0 aN C ns na nl ++ ([cOb o0 C o_of])))))) := hD
    refine lv_aload_n hx hb dX11_findGrownRisks_59 rfl (lv_at hl 0 rfl) ?_
    refine va_get (D := D) (ci := 11) (v := .ref (aR2 0)) (C := RX11) (T := TX11) (N := 8) hx hb hw inW_X11 hown hK hP 0 rfl rfl 2 (by decide) (hw _ mw_2_145) (fun _ h9 => h9) rfl dX11_findGrownRisks_60 ?_
    refine va_getN (D := D) (ci := 4) (v := .ref (aR2 7)) (C := RX4) (T := TX4) (N := 16) hx hb hw inW_X4 hown hK hP 23 rfl rfl 5 (by decide) hn97 (fun _ h9 => h9) rfl dX11_findGrownRisks_63 ?_
    refine lv_iload_n hx hb dX11_findGrownRisks_66 rfl (lv_at hl 1 rfl) ?_
    refine lv_iload_n hx hb dX11_findGrownRisks_67 rfl (lv_at hl 2 rfl) ?_
    refine cGoV (wo := fun u => [cLockRail L0 h_reader (aR 0) (aR2 0) h_images h_slots n0 h_triedYear o0 C ] ++ (wRail aR C rs ra ++ (wRail aR2 C rs_3 (va_up (va_up ra_4 7 u.1) 8 u.2) ++ (wNight n0 aN C ns na nl ++ ([cOb o0 C o_of]))))) (cRunVN (As := [.int p1, .int p2]) (rest := []) ⟨hx, hb, hml, hown, hw⟩ hK hN hP hD [10] rfl rfl (k_X0_setOption l D C _ (aR2 7) (aR2 8) (aR2 9) (aR2 10) (aR2 11) (aR2 12)  (rs_3 13) (ra_4 4) (ra_4 5) (ra_4 6) (ra_4 7) (ra_4 8) p1 p2 h) ⟨va_cnB 2 hw (goodN mw_4_153) rfl rfl rfl (hN.m 58 rfl) (hw _ mw_1_7) (by decide +kernel) ⟨Nat.le_of_ble_eq_true rfl, Nat.le_of_ble_eq_true rfl⟩, hw _ mw_4_152, hw _ mw_s68⟩ rfl rfl rfl hl.1 rfl (Nat.le_of_ble_eq_true rfl) dX11_findGrownRisks_68 ⟨Nat.zero_le _, Nat.zero_le _⟩) hP hD hS hA [10] [0, 1, 2, 3, 4, 5, 6, 7, 8, 9, 11, 12, 13, 14, 15, 16] [0, 1, 2, 3, 4, 5, 6, 7, 8, 9, 16, 10, 11, 12, 13, 14, 15] rfl rfl rfl (by decide) rfl (fun _ => rfl) (fun u H locs h hP hD hS => ?_)
    obtain ⟨loc_5, mar_6⟩ := u
    have hP : va_P D vwCl (List.flatten ([cLockRail L0 h_reader (aR 0) (aR2 0) h_images h_slots n0 h_triedYear o0 C ] ++ (wRail aR C rs ra ++ (wRail aR2 C rs_3 (va_up (va_up ra_4 7 loc_5) 8 mar_6) ++ (wNight n0 aN C ns na nl ++ ([cOb o0 C o_of])))))) H := hP
    have hD : va_D A (List.flatten ([cLockRail L0 h_reader (aR 0) (aR2 0) h_images h_slots n0 h_triedYear o0 C ] ++ (wRail aR C rs ra ++ (wRail aR2 C rs_3 (va_up (va_up ra_4 7 loc_5) 8 mar_6) ++ (wNight n0 aN C ns na nl ++ ([cOb o0 C o_of])))))) := hD
    refine lv_aload_n hx hb dX11_findGrownRisks_71 rfl (lv_at hl 0 rfl) ?_
    refine va_get (D := D) (ci := 11) (v := .ref n0) (C := RX11) (T := TX11) (N := 8) hx hb hw inW_X11 hown hK hP 0 rfl rfl 5 (by decide) (hw _ mw_2_148) (fun _ h9 => h9) rfl dX11_findGrownRisks_72 ?_
    refine lv_aload_n hx hb dX11_findGrownRisks_75 rfl (lv_at hl 0 rfl) ?_
    refine va_get (D := D) (ci := 11) (v := .ref (aR2 0)) (C := RX11) (T := TX11) (N := 8) hx hb hw inW_X11 hown hK hP 0 rfl rfl 2 (by decide) (hw _ mw_2_145) (fun _ h9 => h9) rfl dX11_findGrownRisks_76 ?_
    refine cGoV (wo := fun u => [cLockRail L0 h_reader (aR 0) (aR2 0) h_images h_slots n0 h_triedYear o0 C ] ++ (wRail aR C rs ra ++ (wRail aR2 C rs_3 (va_up (va_up ra_4 7 loc_5) 8 mar_6) ++ (wNight n0 u.1 C u.2.1 u.2.2.1 u.2.2.2 ++ ([cOb o0 C o_of]))))) (cRunVN (As := [.ref (aR2 0)]) (rest := []) ⟨hx, hb, hml, hown, hw⟩ hK hN hP hD [13, 14, 15, 7, 8, 9, 10, 11, 12] rfl rfl (k_X3_play l D C _ n0 aN aR2  ns na nl rs_3 (va_up (va_up ra_4 7 loc_5) 8 mar_6)  h) ⟨va_cnB 1 hw (goodN mw_4_24) rfl rfl rfl (hN.m 45 rfl) (hw _ mw_1_11) (by decide +kernel) ⟨Nat.le_of_ble_eq_true rfl, Nat.le_of_ble_eq_true rfl⟩, hw _ mw_4_23, hw _ mw_s48⟩ rfl rfl rfl hl.1 rfl (Nat.le_of_ble_eq_true rfl) dX11_findGrownRisks_79 ⟨Nat.zero_le _, Nat.zero_le _⟩) hP hD hS hA [13, 14, 15, 7, 8, 9, 10, 11, 12] [0, 1, 2, 3, 4, 5, 6, 16] [0, 1, 2, 3, 4, 5, 6, 11, 12, 13, 14, 15, 16, 8, 9, 10, 7] rfl rfl rfl (by decide) rfl (fun _ => rfl) (fun u H locs h hP hD hS => ?_)
    obtain ⟨aN7, ns_8, na_9, nl_10⟩ := u
    have hP : va_P D vwCl (List.flatten ([cLockRail L0 h_reader (aR 0) (aR2 0) h_images h_slots n0 h_triedYear o0 C ] ++ (wRail aR C rs ra ++ (wRail aR2 C rs_3 (va_up (va_up ra_4 7 loc_5) 8 mar_6) ++ (wNight n0 aN7 C ns_8 na_9 nl_10 ++ ([cOb o0 C o_of])))))) H := hP
    have hD : va_D A (List.flatten ([cLockRail L0 h_reader (aR 0) (aR2 0) h_images h_slots n0 h_triedYear o0 C ] ++ (wRail aR C rs ra ++ (wRail aR2 C rs_3 (va_up (va_up ra_4 7 loc_5) 8 mar_6) ++ (wNight n0 aN7 C ns_8 na_9 nl_10 ++ ([cOb o0 C o_of])))))) := hD
    refine lv_iconst (v := 0) hx hb dX11_findGrownRisks_82 (by decide) ?_
    refine lv_istore_n (lv' := [(3, .int 0), (0, .ref L0), (1, .int p1), (2, .int p2)]) hx hb dX11_findGrownRisks_83 rfl hl (by decide) rfl (fun ls hl => ?_)
    obtain ⟨n, h⟩ := h
    exact N84 rs_3 (va_up (va_up ra_4 7 loc_5) 8 mar_6) ns_8 na_9 nl_10 n 0 o_of aN7 _ _ _ h hP hD hS (lv_sub hl [1, 0] rfl)
  have N13 : ∀ (rs2 : Nat → Int32) (ra2 : Nat → Nat → Int32) (ns : Nat → Int32) (na : Nat → Nat → Int32) (nl : Nat → Nat → Int64) (n13 : Nat) (x3_ : Int32) (o_of : Nat → Int64) (aN : Nat → Nat) (H : Heap) (locs : List Loc) (ls : Array Slot), P_X11_findGrownRisks_13 rs ra p1 p2 post (fun (rs2 : Nat → Int32) (ra2 : Nat → Nat → Int32) (ns : Nat → Int32) (na : Nat → Nat → Int32) (nl : Nat → Nat → Int64) (o_of : Nat → Int64) => P_X11_findGrownRisks_48 rs ra p1 p2 post  rs2 ra2 ns na nl o_of) rs2 ra2 ns na nl n13 x3_ o_of → va_P D vwCl (List.flatten ([cLockRail L0 h_reader (aR 0) (aR2 0) h_images h_slots n0 h_triedYear o0 C ] ++ (wRail aR C rs ra ++ (wRail aR2 C rs2 ra2 ++ (wNight n0 aN C ns na nl ++ ([cOb o0 C o_of])))))) H → va_D A (List.flatten ([cLockRail L0 h_reader (aR 0) (aR2 0) h_images h_slots n0 h_triedYear o0 C ] ++ (wRail aR C rs ra ++ (wRail aR2 C rs2 ra2 ++ (wNight n0 aN C ns na nl ++ ([cOb o0 C o_of])))))) → va_S A s.heap H locs → lv_has ls 4 [(0, .ref L0), (1, .int p1), (2, .int p2), (3, .int x3_)] → W p l e rmX11_findGrownRisks s m args below meth c H locs 0 0 Q (F0 m 13 ls []) := by
    intro rs2 ra2 ns na nl
    intro n13
    induction n13 with
    | zero => intro x3_ o_of aN H locs ls h hP hD hS hl; exact False.elim h
    | succ n13 ih13 =>
      intro x3_ o_of aN H locs ls h hP hD hS hl
      refine lv_iload_n hx hb dX11_findGrownRisks_13 rfl (lv_at hl 3 rfl) ?_
      refine lv_aload_n hx hb dX11_findGrownRisks_14 rfl (lv_at hl 0 rfl) ?_
      refine va_get (D := D) (ci := 11) (v := .ref (aR 0)) (C := RX11) (T := TX11) (N := 8) hx hb hw inW_X11 hown hK hP 0 rfl rfl 1 (by decide) (hw _ mw_2_144) (fun _ h9 => h9) rfl dX11_findGrownRisks_15 ?_
      refine va_getN (D := D) (ci := 4) (v := .ref (aR 7)) (C := RX4) (T := TX4) (N := 16) hx hb hw inW_X4 hown hK hP 1 rfl rfl 5 (by decide) hn97 (fun _ h9 => h9) rfl dX11_findGrownRisks_18 ?_
      refine va_getN (D := D) (ci := 0) (v := .int (rs 13)) (C := RX0) (T := TX0) (N := 6) hx hb hw inW_X0 hown hK hP 8 rfl rfl 0 (by decide) hn161 (fun _ h9 => h9) rfl dX11_findGrownRisks_21 ?_
      refine lv_icmp_ge (tgt := 48) hx hb dX11_findGrownRisks_24 (by decide) (fun c11 => ?_) (fun c11 => ?_)
      · have h := h.1 c11
        exact N48 rs2 ra2 ns na nl o_of aN _ _ _ h hP hD hS (lv_sub hl [0, 1, 2] rfl)
      · have h := h.2 c11
        refine lv_aload_n hx hb dX11_findGrownRisks_27 rfl (lv_at hl 0 rfl) ?_
        refine va_get (D := D) (ci := 11) (v := .ref o0) (C := RX11) (T := TX11) (N := 8) hx hb hw inW_X11 hown hK hP 0 rfl rfl 7 (by decide) (hw _ mw_2_150) (fun _ h9 => h9) rfl dX11_findGrownRisks_28 ?_
        refine lv_iload_n hx hb dX11_findGrownRisks_31 rfl (lv_at hl 3 rfl) ?_
        refine lv_aload_n hx hb dX11_findGrownRisks_32 rfl (lv_at hl 0 rfl) ?_
        refine va_get (D := D) (ci := 11) (v := .ref n0) (C := RX11) (T := TX11) (N := 8) hx hb hw inW_X11 hown hK hP 0 rfl rfl 5 (by decide) (hw _ mw_2_148) (fun _ h9 => h9) rfl dX11_findGrownRisks_33 ?_
        refine lv_iload_n hx hb dX11_findGrownRisks_36 rfl (lv_at hl 3 rfl) ?_
        refine cGoL (wo := fun u => [cLockRail L0 h_reader (aR 0) (aR2 0) h_images h_slots n0 h_triedYear o0 C ] ++ (wRail aR C rs ra ++ (wRail aR2 C rs2 ra2 ++ (wNight n0 aN C ns na nl ++ ([cOb o0 C o_of]))))) (cRunVN (As := [.int x3_]) (rest := [.int x3_, .ref o0]) ⟨hx, hb, hml, hown, hw⟩ hK hN hP hD [13, 14, 15] rfl rfl (k_X3_riskOf l D C _ n0 aN  ns na nl x3_ h) ⟨va_cnB 1 hw (goodN mw_4_84) rfl rfl rfl (hN.m 50 rfl) (hw _ mw_1_11) (by decide +kernel) ⟨Nat.le_of_ble_eq_true rfl, Nat.le_of_ble_eq_true rfl⟩, hw _ mw_4_83, hw _ mw_s57⟩ rfl rfl rfl hl.1 rfl (Nat.le_of_ble_eq_true rfl) dX11_findGrownRisks_37 ⟨Nat.zero_le _, Nat.zero_le _⟩) hP hD hS hA [13, 14, 15] [0, 1, 2, 3, 4, 5, 6, 7, 8, 9, 10, 11, 12, 16] [0, 1, 2, 3, 4, 5, 6, 7, 8, 9, 10, 11, 12, 14, 15, 16, 13] rfl rfl rfl (by decide) rfl (fun _ => rfl) (fun r12 u H locs h hP hD hS => ?_)
        have hP : va_P D vwCl (List.flatten ([cLockRail L0 h_reader (aR 0) (aR2 0) h_images h_slots n0 h_triedYear o0 C ] ++ (wRail aR C rs ra ++ (wRail aR2 C rs2 ra2 ++ (wNight n0 aN C ns na nl ++ ([cOb o0 C o_of])))))) H := hP
        have hD : va_D A (List.flatten ([cLockRail L0 h_reader (aR 0) (aR2 0) h_images h_slots n0 h_triedYear o0 C ] ++ (wRail aR C rs ra ++ (wRail aR2 C rs2 ra2 ++ (wNight n0 aN C ns na nl ++ ([cOb o0 C o_of])))))) := hD
        refine lv_lneg hx hb dX11_findGrownRisks_40 ?_
        refine cLast hx hb hK hP hD hS 62 1 rfl rfl x3_.toNatClampNeg rfl h.1 dX11_findGrownRisks_41 (fun H locs hP hD hS => ?_)
        have h := h.2
        refine lv_iinc (v := (x3_ + 1)) (lv' := [(3, .int (x3_ + 1)), (0, .ref L0), (1, .int p1), (2, .int p2)]) hx hb dX11_findGrownRisks_42 hl (k := 3) rfl rfl (by decide) rfl (fun ls hl => ?_)
        refine lv_goto (tgt := 13) hx hb dX11_findGrownRisks_45 (by decide) ?_
        have hP : va_P D vwCl (List.flatten ([cLockRail L0 h_reader (aR 0) (aR2 0) h_images h_slots n0 h_triedYear o0 C ] ++ (wRail aR C rs ra ++ (wRail aR2 C rs2 ra2 ++ (wNight n0 aN C ns na nl ++ ([cOb o0 C (vp_updL o_of x3_.toNatClampNeg (-r12))])))))) H := hP
        have hD : va_D A (List.flatten ([cLockRail L0 h_reader (aR 0) (aR2 0) h_images h_slots n0 h_triedYear o0 C ] ++ (wRail aR C rs ra ++ (wRail aR2 C rs2 ra2 ++ (wNight n0 aN C ns na nl ++ ([cOb o0 C (vp_updL o_of x3_.toNatClampNeg (-r12))])))))) := hD
        exact ih13 (x3_ + 1) (vp_updL o_of x3_.toNatClampNeg (-r12)) aN _ _ _ h hP hD hS (lv_sub hl [1, 2, 3, 0] rfl)
  refine lv_aload_n hx hb dX11_findGrownRisks_0 rfl (lv_at hl 0 rfl) ?_
  refine va_get (D := D) (ci := 11) (v := .ref n0) (C := RX11) (T := TX11) (N := 8) hx hb hw inW_X11 hown hK hP 0 rfl rfl 5 (by decide) (hw _ mw_2_148) (fun _ h9 => h9) rfl dX11_findGrownRisks_1 ?_
  refine lv_aload_n hx hb dX11_findGrownRisks_4 rfl (lv_at hl 0 rfl) ?_
  refine va_get (D := D) (ci := 11) (v := .ref (aR 0)) (C := RX11) (T := TX11) (N := 8) hx hb hw inW_X11 hown hK hP 0 rfl rfl 1 (by decide) (hw _ mw_2_144) (fun _ h9 => h9) rfl dX11_findGrownRisks_5 ?_
  refine cGoV (wo := fun u => [cLockRail L0 h_reader (aR 0) (aR2 0) h_images h_slots n0 h_triedYear o0 C ] ++ (wRail aR C rs ra ++ (wRail aR2 C rs2 ra2 ++ (wNight n0 u.1 C u.2.1 u.2.2.1 u.2.2.2 ++ ([cOb o0 C o_of]))))) (cRunVN (As := [.ref (aR 0)]) (rest := []) ⟨hx, hb, hml, hown, hw⟩ hK hN hP hD [13, 14, 15, 1, 2, 3, 4, 5, 6] rfl rfl (k_X3_play l D C _ n0 aN aR  ns na nl rs ra  h) ⟨va_cnB 1 hw (goodN mw_4_24) rfl rfl rfl (hN.m 45 rfl) (hw _ mw_1_11) (by decide +kernel) ⟨Nat.le_of_ble_eq_true rfl, Nat.le_of_ble_eq_true rfl⟩, hw _ mw_4_23, hw _ mw_s48⟩ rfl rfl rfl hl.1 rfl (Nat.le_of_ble_eq_true rfl) dX11_findGrownRisks_8 ⟨Nat.zero_le _, Nat.zero_le _⟩) hP hD hS hA [13, 14, 15, 1, 2, 3, 4, 5, 6] [0, 7, 8, 9, 10, 11, 12, 16] [0, 11, 12, 13, 14, 15, 16, 1, 2, 3, 4, 5, 6, 8, 9, 10, 7] rfl rfl rfl (by decide) rfl (fun _ => rfl) (fun u H locs h hP hD hS => ?_)
  obtain ⟨aN13, ns_14, na_15, nl_16⟩ := u
  have hP : va_P D vwCl (List.flatten ([cLockRail L0 h_reader (aR 0) (aR2 0) h_images h_slots n0 h_triedYear o0 C ] ++ (wRail aR C rs ra ++ (wRail aR2 C rs2 ra2 ++ (wNight n0 aN13 C ns_14 na_15 nl_16 ++ ([cOb o0 C o_of])))))) H := hP
  have hD : va_D A (List.flatten ([cLockRail L0 h_reader (aR 0) (aR2 0) h_images h_slots n0 h_triedYear o0 C ] ++ (wRail aR C rs ra ++ (wRail aR2 C rs2 ra2 ++ (wNight n0 aN13 C ns_14 na_15 nl_16 ++ ([cOb o0 C o_of])))))) := hD
  refine lv_iconst (v := 0) hx hb dX11_findGrownRisks_11 (by decide) ?_
  refine lv_istore_n (lv' := [(3, .int 0), (0, .ref L0), (1, .int p1), (2, .int p2)]) hx hb dX11_findGrownRisks_12 rfl hl (by decide) rfl (fun ls hl => ?_)
  obtain ⟨n, h⟩ := h
  exact N13 rs2 ra2 ns_14 na_15 nl_16 n 0 o_of aN13 _ _ _ h hP hD hS (lv_sub hl [1, 2, 3, 0] rfl)
