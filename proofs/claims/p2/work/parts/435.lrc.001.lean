abbrev vsX11_watch : List Cond := Cond.code yX11_watch cX11_watch 3 (some .int) :: WS
abbrev rmX11_watch : Room := { frames := 0, cells := 0, slots := 0, locals := 0 }
set_option maxHeartbeats 4000000 in
set_option maxRecDepth 100000 in
theorem k_X11_watch (l : Launch) (D : va_G) (C : Nat → ClassId) (sz : Nat) (L0 : Nat) (aU : Nat → Nat) (aR : Nat → Nat) (aR2 : Nat → Nat) (aS : Nat → Nat) (n0 : Nat) (aN : Nat → Nat) (y0 : Nat) (y1 : Nat) (y2 : Nat) (o0 : Nat) (h_images : Nat) (us : Nat → Int32) (ua : Nat → Nat → Int32) (rs : Nat → Int32) (ra : Nat → Nat → Int32) (rs2 : Nat → Int32) (ra2 : Nat → Nat → Int32) (sa : Nat → Nat → Int32) (sl : Nat → Nat → Int64) (ns : Nat → Int32) (na : Nat → Nat → Int32) (nl : Nat → Nat → Int64) (y_isThere : Int32) (y_taken : Nat → Int32) (y_took : Nat → Int32) (o_of : Nat → Int64) (p1 : Int32) {post : Int32 → (Nat → Int32) → Prop} (h : P_X11_watch rs p1 post) : Met l yX11_watch vsX11_watch rmX11_watch (cPre D C [.ref L0, .int p1] sz ([cLockRail L0 (aU 0) (aR 0) (aR2 0) h_images (aS 0) n0 y0 o0 C ] ++ (wReader aU C us ua ++ (wRail aR C rs ra ++ (wRail aR2 C rs2 ra2 ++ (wSlots aS C sa sl ++ (wNight n0 aN C ns na nl ++ ([cYear y0 y1 y2 C y_isThere y_taken y_took] ++ ([cOb o0 C o_of]))))))))) (cQi D (fun (r : Int32) (u : (Nat → Int32)) => post r u) (fun u => [cLockRail L0 (aU 0) (aR 0) (aR2 0) h_images (aS 0) n0 y0 o0 C ] ++ (wReader aU C us ua ++ (wRail aR C u ra ++ (wRail aR2 C rs2 ra2 ++ (wSlots aS C sa sl ++ (wNight n0 aN C ns na nl ++ ([cYear y0 y1 y2 C y_isThere y_taken y_took] ++ ([cOb o0 C o_of])))))))) (va_A (List.flatten ([cLockRail L0 (aU 0) (aR 0) (aR2 0) h_images (aS 0) n0 y0 o0 C ] ++ (wReader aU C us ua ++ (wRail aR C rs ra ++ (wRail aR2 C rs2 ra2 ++ (wSlots aS C sa sl ++ (wNight n0 aN C ns na nl ++ ([cYear y0 y1 y2 C y_isThere y_taken y_took] ++ ([cOb o0 C o_of]))))))))) sz)) 0 0 (va_A (List.flatten ([cLockRail L0 (aU 0) (aR 0) (aR2 0) h_images (aS 0) n0 y0 o0 C ] ++ (wReader aU C us ua ++ (wRail aR C rs ra ++ (wRail aR2 C rs2 ra2 ++ (wSlots aS C sa sl ++ (wNight n0 aN C ns na nl ++ ([cYear y0 y1 y2 C y_isThere y_taken y_took] ++ ([cOb o0 C o_of]))))))))) sz) := by
  refine cStart (QA := fun A => cQi D (fun (r : Int32) (u : (Nat → Int32)) => post r u) (fun u => [cLockRail L0 (aU 0) (aR 0) (aR2 0) h_images (aS 0) n0 y0 o0 C ] ++ (wReader aU C us ua ++ (wRail aR C u ra ++ (wRail aR2 C rs2 ra2 ++ (wSlots aS C sa sl ++ (wNight n0 aN C ns na nl ++ ([cYear y0 y1 y2 C y_isThere y_taken y_took] ++ ([cOb o0 C o_of])))))))) A) (cc := cX11_watch) (maxL := 3) (ret := (some .int)) (by decide) (Nat.le_of_ble_eq_true rfl) ?_
  intro p e s m args below meth c A ls hx hb hr hml hown hw hlocks hname hK hN hA hP hD hS hl
  generalize hQ : MQ below _ args s 0 0 A = Q
  have hl : lv_has ls 3 [(0, .ref L0), (1, .int p1)] := hl
  have hn241 : (Cond.fieldLinkNest "LockRail" 241 "LockRail$Rail" "watchTold" "Z" "LockRail").before args s = true := hN.f 70 rfl
  have hn245 : (Cond.fieldLinkNest "LockRail" 245 "LockRail$Rail" "watched" "Z" "LockRail").before args s = true := hN.f 73 rfl
  obtain ⟨H, hH⟩ : ∃ H, H = s.heap := ⟨_, rfl⟩
  obtain ⟨locs, hlo⟩ : ∃ z : List Loc, z = [] := ⟨_, rfl⟩
  have hP : va_P D vwCl (List.flatten ([cLockRail L0 (aU 0) (aR 0) (aR2 0) h_images (aS 0) n0 y0 o0 C ] ++ (wReader aU C us ua ++ (wRail aR C rs ra ++ (wRail aR2 C rs2 ra2 ++ (wSlots aS C sa sl ++ (wNight n0 aN C ns na nl ++ ([cYear y0 y1 y2 C y_isThere y_taken y_took] ++ ([cOb o0 C o_of]))))))))) H := by rw [hH]; exact hP
  have hS : va_S A s.heap H locs := by rw [hH, hlo]; exact hS
  rw [show W p l e rmX11_watch s m args below meth c s.heap [] 0 0 Q (F0 m 0 ls []) = W p l e rmX11_watch s m args below meth c H locs 0 0 Q (F0 m 0 ls []) from by rw [hH, hlo]]
  refine lv_aload_n hx hb dX11_watch_0 rfl (lv_at hl 0 rfl) ?_
  refine va_get (D := D) (ci := 11) (v := .ref (aR 0)) (C := RX11) (T := TX11) (N := 8) hx hb hw inW_X11 hown hK hP 0 rfl rfl 1 (by decide) (hw _ mw_2_144) (fun _ h9 => h9) rfl dX11_watch_1 ?_
  refine va_getN (D := D) (ci := 4) (v := .int (rs 7)) (C := RX4) (T := TX4) (N := 16) hx hb hw inW_X4 hown hK hP 4 rfl rfl 11 (by decide) hn241 (fun _ h9 => h9) rfl dX11_watch_4 ?_
  refine lv_if_ne (tgt := 13) hx hb dX11_watch_7 (by decide) (fun c1 => ?_) (fun c1 => ?_)
  · have h := h.1 c1
    refine lv_aload_n hx hb dX11_watch_13 rfl (lv_at hl 0 rfl) ?_
    refine va_get (D := D) (ci := 11) (v := .ref (aR 0)) (C := RX11) (T := TX11) (N := 8) hx hb hw inW_X11 hown hK hP 0 rfl rfl 1 (by decide) (hw _ mw_2_144) (fun _ h9 => h9) rfl dX11_watch_14 ?_
    refine va_getN (D := D) (ci := 4) (v := .int (rs 10)) (C := RX4) (T := TX4) (N := 16) hx hb hw inW_X4 hown hK hP 4 rfl rfl 14 (by decide) hn245 (fun _ h9 => h9) rfl dX11_watch_17 ?_
    refine lv_if_eq (tgt := 27) hx hb dX11_watch_20 (by decide) (fun c2 => ?_) (fun c2 => ?_)
    · have h := h.1 c2
      refine lv_iconst (v := 0) hx hb dX11_watch_27 (by decide) ?_
      refine lv_istore_n (lv' := [(2, .int 0), (0, .ref L0), (1, .int p1)]) hx hb dX11_watch_28 rfl hl (by decide) rfl (fun ls hl => ?_)
      refine lv_aload_n hx hb dX11_watch_29 rfl (lv_at hl 1 rfl) ?_
      refine va_get (D := D) (ci := 11) (v := .ref (aR 0)) (C := RX11) (T := TX11) (N := 8) hx hb hw inW_X11 hown hK hP 0 rfl rfl 1 (by decide) (hw _ mw_2_144) (fun _ h9 => h9) rfl dX11_watch_30 ?_
      refine lv_iload_n hx hb dX11_watch_33 rfl (lv_at hl 2 rfl) ?_
      refine va_putN (D := D) (ci := 4) (v := .int p1) (ty := .boolean) (C := RX4) (T := TX4) (N := 16) hx hb hw inW_X4 tyX4 tyX4_ok nmX4 hown hK hP hD hS 4 rfl rfl 14 (by decide) hn245 (fun _ h9 => h9) rfl (by decide +kernel) (zb_n h.1) (zb_f h.1) (Nat.le_of_ble_eq_true rfl) dX11_watch_34 (fun H locs hP hD hS => ?_)
      have h := h.2
      refine lv_iload_n hx hb dX11_watch_37 rfl (lv_at hl 0 rfl) ?_
      have hP : va_P D vwCl (List.flatten ([cLockRail L0 (aU 0) (aR 0) (aR2 0) h_images (aS 0) n0 y0 o0 C ] ++ (wReader aU C us ua ++ (wRail aR C (va_up rs 10 p1) ra ++ (wRail aR2 C rs2 ra2 ++ (wSlots aS C sa sl ++ (wNight n0 aN C ns na nl ++ ([cYear y0 y1 y2 C y_isThere y_taken y_took] ++ ([cOb o0 C o_of]))))))))) H := hP
      have hD : va_D A (List.flatten ([cLockRail L0 (aU 0) (aR 0) (aR2 0) h_images (aS 0) n0 y0 o0 C ] ++ (wReader aU C us ua ++ (wRail aR C (va_up rs 10 p1) ra ++ (wRail aR2 C rs2 ra2 ++ (wSlots aS C sa sl ++ (wNight n0 aN C ns na nl ++ ([cYear y0 y1 y2 C y_isThere y_taken y_took] ++ ([cOb o0 C o_of]))))))))) := hD
      rw [← hQ]
      exact cRetI (v := 0) ((va_up rs 10 p1)) hx hb hr hlocks hS hP hD h dX11_watch_38
    · have h := h.2 c2
      refine lv_iconst (v := 1) hx hb dX11_watch_23 (by decide) ?_
      refine lv_goto (tgt := 28) hx hb dX11_watch_24 (by decide) ?_
      refine lv_istore_n (lv' := [(2, .int 1), (0, .ref L0), (1, .int p1)]) hx hb dX11_watch_28 rfl hl (by decide) rfl (fun ls hl => ?_)
      refine lv_aload_n hx hb dX11_watch_29 rfl (lv_at hl 1 rfl) ?_
      refine va_get (D := D) (ci := 11) (v := .ref (aR 0)) (C := RX11) (T := TX11) (N := 8) hx hb hw inW_X11 hown hK hP 0 rfl rfl 1 (by decide) (hw _ mw_2_144) (fun _ h9 => h9) rfl dX11_watch_30 ?_
      refine lv_iload_n hx hb dX11_watch_33 rfl (lv_at hl 2 rfl) ?_
      refine va_putN (D := D) (ci := 4) (v := .int p1) (ty := .boolean) (C := RX4) (T := TX4) (N := 16) hx hb hw inW_X4 tyX4 tyX4_ok nmX4 hown hK hP hD hS 4 rfl rfl 14 (by decide) hn245 (fun _ h9 => h9) rfl (by decide +kernel) (zb_n h.1) (zb_f h.1) (Nat.le_of_ble_eq_true rfl) dX11_watch_34 (fun H locs hP hD hS => ?_)
      have h := h.2
      refine lv_iload_n hx hb dX11_watch_37 rfl (lv_at hl 0 rfl) ?_
      have hP : va_P D vwCl (List.flatten ([cLockRail L0 (aU 0) (aR 0) (aR2 0) h_images (aS 0) n0 y0 o0 C ] ++ (wReader aU C us ua ++ (wRail aR C (va_up rs 10 p1) ra ++ (wRail aR2 C rs2 ra2 ++ (wSlots aS C sa sl ++ (wNight n0 aN C ns na nl ++ ([cYear y0 y1 y2 C y_isThere y_taken y_took] ++ ([cOb o0 C o_of]))))))))) H := hP
      have hD : va_D A (List.flatten ([cLockRail L0 (aU 0) (aR 0) (aR2 0) h_images (aS 0) n0 y0 o0 C ] ++ (wReader aU C us ua ++ (wRail aR C (va_up rs 10 p1) ra ++ (wRail aR2 C rs2 ra2 ++ (wSlots aS C sa sl ++ (wNight n0 aN C ns na nl ++ ([cYear y0 y1 y2 C y_isThere y_taken y_took] ++ ([cOb o0 C o_of]))))))))) := hD
      rw [← hQ]
      exact cRetI (v := 1) ((va_up rs 10 p1)) hx hb hr hlocks hS hP hD h dX11_watch_38
  · have h := h.2 c1
    refine lv_bipush (v := (-2)) hx hb dX11_watch_10 (by decide) ?_
    rw [← hQ]
    exact cRetI (v := (-2)) (rs) hx hb hr hlocks hS hP hD h dX11_watch_12
abbrev vsX11_penny : List Cond := Cond.code yX11_penny cX11_penny 3 (some .long) :: WS
abbrev rmX11_penny : Room := { frames := 5, cells := 0, slots := 0, locals := 127 }
set_option maxHeartbeats 4000000 in
set_option maxRecDepth 100000 in
theorem k_X11_penny (l : Launch) (D : va_G) (C : Nat → ClassId) (sz : Nat) (L0 : Nat) (aU : Nat → Nat) (aR : Nat → Nat) (aR2 : Nat → Nat) (aS : Nat → Nat) (n0 : Nat) (aN : Nat → Nat) (y0 : Nat) (y1 : Nat) (y2 : Nat) (o0 : Nat) (h_images : Nat) (us : Nat → Int32) (ua : Nat → Nat → Int32) (rs : Nat → Int32) (ra : Nat → Nat → Int32) (rs2 : Nat → Int32) (ra2 : Nat → Nat → Int32) (sa : Nat → Nat → Int32) (sl : Nat → Nat → Int64) (ns : Nat → Int32) (na : Nat → Nat → Int32) (nl : Nat → Nat → Int64) (y_isThere : Int32) (y_taken : Nat → Int32) (y_took : Nat → Int32) (o_of : Nat → Int64)  {post : Int64 → (Nat → Int32) → (Nat → Nat → Int32) → (Nat → Int32) → (Nat → Nat → Int32) → (Nat → Nat → Int64) → Prop} (h : P_X11_penny rs ra rs2 ra2 ns na nl post) : Met l yX11_penny vsX11_penny rmX11_penny (cPre D C [.ref L0] sz ([cLockRail L0 (aU 0) (aR 0) (aR2 0) h_images (aS 0) n0 y0 o0 C ] ++ (wReader aU C us ua ++ (wRail aR C rs ra ++ (wRail aR2 C rs2 ra2 ++ (wSlots aS C sa sl ++ (wNight n0 aN C ns na nl ++ ([cYear y0 y1 y2 C y_isThere y_taken y_took] ++ ([cOb o0 C o_of]))))))))) (cQl D (fun (r : Int64) (u : (Nat → Nat) × (Nat → Int32) × (Nat → Nat → Int32) × (Nat → Int32) × (Nat → Nat → Int32) × (Nat → Nat → Int64)) => post r u.2.1 u.2.2.1 u.2.2.2.1 u.2.2.2.2.1 u.2.2.2.2.2) (fun u => [cLockRail L0 (aU 0) (aR 0) (aR2 0) h_images (aS 0) n0 y0 o0 C ] ++ (wReader aU C us ua ++ (wRail aR C rs ra ++ (wRail aR2 C u.2.1 u.2.2.1 ++ (wSlots aS C sa sl ++ (wNight n0 u.1 C u.2.2.2.1 u.2.2.2.2.1 u.2.2.2.2.2 ++ ([cYear y0 y1 y2 C y_isThere y_taken y_took] ++ ([cOb o0 C o_of])))))))) (va_A (List.flatten ([cLockRail L0 (aU 0) (aR 0) (aR2 0) h_images (aS 0) n0 y0 o0 C ] ++ (wReader aU C us ua ++ (wRail aR C rs ra ++ (wRail aR2 C rs2 ra2 ++ (wSlots aS C sa sl ++ (wNight n0 aN C ns na nl ++ ([cYear y0 y1 y2 C y_isThere y_taken y_took] ++ ([cOb o0 C o_of]))))))))) sz)) 0 0 (va_A (List.flatten ([cLockRail L0 (aU 0) (aR 0) (aR2 0) h_images (aS 0) n0 y0 o0 C ] ++ (wReader aU C us ua ++ (wRail aR C rs ra ++ (wRail aR2 C rs2 ra2 ++ (wSlots aS C sa sl ++ (wNight n0 aN C ns na nl ++ ([cYear y0 y1 y2 C y_isThere y_taken y_took] ++ ([cOb o0 C o_of]))))))))) sz) := by
  refine cStart (QA := fun A => cQl D (fun (r : Int64) (u : (Nat → Nat) × (Nat → Int32) × (Nat → Nat → Int32) × (Nat → Int32) × (Nat → Nat → Int32) × (Nat → Nat → Int64)) => post r u.2.1 u.2.2.1 u.2.2.2.1 u.2.2.2.2.1 u.2.2.2.2.2) (fun u => [cLockRail L0 (aU 0) (aR 0) (aR2 0) h_images (aS 0) n0 y0 o0 C ] ++ (wReader aU C us ua ++ (wRail aR C rs ra ++ (wRail aR2 C u.2.1 u.2.2.1 ++ (wSlots aS C sa sl ++ (wNight n0 u.1 C u.2.2.2.1 u.2.2.2.2.1 u.2.2.2.2.2 ++ ([cYear y0 y1 y2 C y_isThere y_taken y_took] ++ ([cOb o0 C o_of])))))))) A) (cc := cX11_penny) (maxL := 3) (ret := (some .long)) (by decide) (Nat.le_of_ble_eq_true rfl) ?_
  intro p e s m args below meth c A ls hx hb hr hml hown hw hlocks hname hK hN hA hP hD hS hl
  generalize hQ : MQ below _ args s 0 0 A = Q
  have hl : lv_has ls 3 [(0, .ref L0)] := hl
  have hn241 : (Cond.fieldLinkNest "LockRail" 241 "LockRail$Rail" "watchTold" "Z" "LockRail").before args s = true := hN.f 70 rfl
  have hn245 : (Cond.fieldLinkNest "LockRail" 245 "LockRail$Rail" "watched" "Z" "LockRail").before args s = true := hN.f 73 rfl
  obtain ⟨H, hH⟩ : ∃ H, H = s.heap := ⟨_, rfl⟩
  obtain ⟨locs, hlo⟩ : ∃ z : List Loc, z = [] := ⟨_, rfl⟩
  have hP : va_P D vwCl (List.flatten ([cLockRail L0 (aU 0) (aR 0) (aR2 0) h_images (aS 0) n0 y0 o0 C ] ++ (wReader aU C us ua ++ (wRail aR C rs ra ++ (wRail aR2 C rs2 ra2 ++ (wSlots aS C sa sl ++ (wNight n0 aN C ns na nl ++ ([cYear y0 y1 y2 C y_isThere y_taken y_took] ++ ([cOb o0 C o_of]))))))))) H := by rw [hH]; exact hP
  have hS : va_S A s.heap H locs := by rw [hH, hlo]; exact hS
  rw [show W p l e rmX11_penny s m args below meth c s.heap [] 0 0 Q (F0 m 0 ls []) = W p l e rmX11_penny s m args below meth c H locs 0 0 Q (F0 m 0 ls []) from by rw [hH, hlo]]
  refine lv_aload_n hx hb dX11_penny_0 rfl (lv_at hl 0 rfl) ?_
  refine va_get (D := D) (ci := 11) (v := .ref (aR 0)) (C := RX11) (T := TX11) (N := 8) hx hb hw inW_X11 hown hK hP 0 rfl rfl 1 (by decide) (hw _ mw_2_144) (fun _ h9 => h9) rfl dX11_penny_1 ?_
  refine va_getN (D := D) (ci := 4) (v := .int (rs 7)) (C := RX4) (T := TX4) (N := 16) hx hb hw inW_X4 hown hK hP 4 rfl rfl 11 (by decide) hn241 (fun _ h9 => h9) rfl dX11_penny_4 ?_
  refine lv_if_ne (tgt := 14) hx hb dX11_penny_7 (by decide) (fun c1 => ?_) (fun c1 => ?_)
  · have h := h.1 c1
    refine lv_aload_n hx hb dX11_penny_14 rfl (lv_at hl 0 rfl) ?_
    refine va_get (D := D) (ci := 11) (v := .ref (aR2 0)) (C := RX11) (T := TX11) (N := 8) hx hb hw inW_X11 hown hK hP 0 rfl rfl 2 (by decide) (hw _ mw_2_145) (fun _ h9 => h9) rfl dX11_penny_15 ?_
    refine lv_aload_n hx hb dX11_penny_18 rfl (lv_at hl 0 rfl) ?_
    refine va_get (D := D) (ci := 11) (v := .ref (aR 0)) (C := RX11) (T := TX11) (N := 8) hx hb hw inW_X11 hown hK hP 0 rfl rfl 1 (by decide) (hw _ mw_2_144) (fun _ h9 => h9) rfl dX11_penny_19 ?_
    refine cGoV (wo := fun u => [cLockRail L0 (aU 0) (aR 0) (aR2 0) h_images (aS 0) n0 y0 o0 C ] ++ (wReader aU C us ua ++ (wRail aR C rs ra ++ (wRail aR2 C u.1 u.2 ++ (wSlots aS C sa sl ++ (wNight n0 aN C ns na nl ++ ([cYear y0 y1 y2 C y_isThere y_taken y_took] ++ ([cOb o0 C o_of])))))))) (cRunVN (As := [.ref (aR 0)]) (rest := []) ⟨hx, hb, hml, hown, hw⟩ hK hN hP hD [9, 10, 11, 12, 13, 14, 3, 4, 5, 6, 7, 8] rfl rfl (k_X4_copyFrom l D C _ aR2 aR  rs2 ra2 rs ra  h) ⟨va_cnB 1 hw (goodN mw_3_126) rfl rfl rfl (hN.m 23 rfl) (hw _ mw_1_4) (by decide +kernel) ⟨Nat.le_of_ble_eq_true rfl, Nat.le_of_ble_eq_true rfl⟩, hw _ mw_3_125, hw _ mw_s26⟩ rfl rfl rfl hl.1 rfl (Nat.le_of_ble_eq_true rfl) dX11_penny_22 ⟨Nat.zero_le _, Nat.zero_le _⟩) hP hD hS hA [9, 10, 11, 12, 13, 14, 3, 4, 5, 6, 7, 8] [0, 1, 2, 15, 16, 17, 18, 19, 20] [0, 1, 2, 15, 16, 17, 18, 19, 20, 9, 10, 11, 12, 13, 14, 3, 4, 5, 6, 7, 8] rfl rfl rfl (by decide) rfl (fun _ => rfl) (fun u H locs h hP hD hS => ?_)
    obtain ⟨rs_2, ra_3⟩ := u
    have hP : va_P D vwCl (List.flatten ([cLockRail L0 (aU 0) (aR 0) (aR2 0) h_images (aS 0) n0 y0 o0 C ] ++ (wReader aU C us ua ++ (wRail aR C rs ra ++ (wRail aR2 C rs_2 ra_3 ++ (wSlots aS C sa sl ++ (wNight n0 aN C ns na nl ++ ([cYear y0 y1 y2 C y_isThere y_taken y_took] ++ ([cOb o0 C o_of]))))))))) H := hP
    have hD : va_D A (List.flatten ([cLockRail L0 (aU 0) (aR 0) (aR2 0) h_images (aS 0) n0 y0 o0 C ] ++ (wReader aU C us ua ++ (wRail aR C rs ra ++ (wRail aR2 C rs_2 ra_3 ++ (wSlots aS C sa sl ++ (wNight n0 aN C ns na nl ++ ([cYear y0 y1 y2 C y_isThere y_taken y_took] ++ ([cOb o0 C o_of]))))))))) := hD
    refine lv_aload_n hx hb dX11_penny_25 rfl (lv_at hl 0 rfl) ?_
    refine va_get (D := D) (ci := 11) (v := .ref (aR2 0)) (C := RX11) (T := TX11) (N := 8) hx hb hw inW_X11 hown hK hP 0 rfl rfl 2 (by decide) (hw _ mw_2_145) (fun _ h9 => h9) rfl dX11_penny_26 ?_
    refine lv_iconst (v := 0) hx hb dX11_penny_29 (by decide) ?_
    refine va_putN (D := D) (ci := 4) (v := .int 0) (ty := .boolean) (C := RX4) (T := TX4) (N := 16) hx hb hw inW_X4 tyX4 tyX4_ok nmX4 hown hK hP hD hS 26 rfl rfl 14 (by decide) hn245 (fun _ h9 => h9) rfl (by decide +kernel) rfl rfl (Nat.le_of_ble_eq_true rfl) dX11_penny_30 (fun H locs hP hD hS => ?_)
    refine lv_aload_n hx hb dX11_penny_33 rfl (lv_at hl 0 rfl) ?_
    refine lv_aload_n hx hb dX11_penny_34 rfl (lv_at hl 0 rfl) ?_
    refine va_get (D := D) (ci := 11) (v := .ref (aR2 0)) (C := RX11) (T := TX11) (N := 8) hx hb hw inW_X11 hown hK hP 0 rfl rfl 2 (by decide) (hw _ mw_2_145) (fun _ h9 => h9) rfl dX11_penny_35 ?_
    refine lv_iconst (v := 1) hx hb dX11_penny_38 (by decide) ?_
    have hP : va_P D vwCl (List.flatten ([cLockRail L0 (aU 0) (aR 0) (aR2 0) h_images (aS 0) n0 y0 o0 C ] ++ (wReader aU C us ua ++ (wRail aR C rs ra ++ (wRail aR2 C (va_up rs_2 10 0) ra_3 ++ (wSlots aS C sa sl ++ (wNight n0 aN C ns na nl ++ ([cYear y0 y1 y2 C y_isThere y_taken y_took] ++ ([cOb o0 C o_of]))))))))) H := hP
    have hD : va_D A (List.flatten ([cLockRail L0 (aU 0) (aR 0) (aR2 0) h_images (aS 0) n0 y0 o0 C ] ++ (wReader aU C us ua ++ (wRail aR C rs ra ++ (wRail aR2 C (va_up rs_2 10 0) ra_3 ++ (wSlots aS C sa sl ++ (wNight n0 aN C ns na nl ++ ([cYear y0 y1 y2 C y_isThere y_taken y_took] ++ ([cOb o0 C o_of]))))))))) := hD
    refine cGoL (wo := fun u => [cLockRail L0 (aU 0) (aR 0) (aR2 0) h_images (aS 0) n0 y0 o0 C ] ++ (wReader aU C us ua ++ (wRail aR C rs ra ++ (wRail aR2 C (va_up rs_2 10 0) ra_3 ++ (wSlots aS C sa sl ++ (wNight n0 u.1 C u.2.1 u.2.2.1 u.2.2.2 ++ ([cYear y0 y1 y2 C y_isThere y_taken y_took] ++ ([cOb o0 C o_of])))))))) (cRunV (As := [.ref (aR2 0), .int 1]) (rest := []) ⟨hx, hb, hml, hown, hw⟩ hK hN hP hD [0, 9, 10, 11, 12, 13, 14, 16, 17, 18] rfl rfl (k_X11_allOn l D C _ L0 aR2 n0 aN (aU 0) (aR 0) (aR2 0) h_images (aS 0) y0 o0  (va_up rs_2 10 0) ra_3 ns na nl 1 h) (cwV 2 hw (goodV mw_4_124 mw_4_126 mw_s63 mw_1_1 mw_4_127) rfl rfl rfl (by decide +kernel) ⟨Nat.le_of_ble_eq_true rfl, Nat.le_of_ble_eq_true rfl⟩) rfl rfl rfl hl.1 rfl (Nat.le_of_ble_eq_true rfl) dX11_penny_39 ⟨Nat.zero_le _, Nat.zero_le _⟩) hP hD hS hA [0, 9, 10, 11, 12, 13, 14, 16, 17, 18] [1, 2, 3, 4, 5, 6, 7, 8, 15, 19, 20] [11, 0, 1, 2, 3, 4, 5, 6, 7, 12, 13, 14, 15, 16, 17, 8, 18, 19, 20, 9, 10] rfl rfl rfl (by decide) rfl (fun _ => rfl) (fun r8 u H locs h hP hD hS => ?_)
    obtain ⟨aN4, ns_5, na_6, nl_7⟩ := u
    have hP : va_P D vwCl (List.flatten ([cLockRail L0 (aU 0) (aR 0) (aR2 0) h_images (aS 0) n0 y0 o0 C ] ++ (wReader aU C us ua ++ (wRail aR C rs ra ++ (wRail aR2 C (va_up rs_2 10 0) ra_3 ++ (wSlots aS C sa sl ++ (wNight n0 aN4 C ns_5 na_6 nl_7 ++ ([cYear y0 y1 y2 C y_isThere y_taken y_took] ++ ([cOb o0 C o_of]))))))))) H := hP
    have hD : va_D A (List.flatten ([cLockRail L0 (aU 0) (aR 0) (aR2 0) h_images (aS 0) n0 y0 o0 C ] ++ (wReader aU C us ua ++ (wRail aR C rs ra ++ (wRail aR2 C (va_up rs_2 10 0) ra_3 ++ (wSlots aS C sa sl ++ (wNight n0 aN4 C ns_5 na_6 nl_7 ++ ([cYear y0 y1 y2 C y_isThere y_taken y_took] ++ ([cOb o0 C o_of]))))))))) := hD
    refine lv_lstore_n (lv' := [(1, .long r8), (0, .ref L0)]) hx hb dX11_penny_42 rfl hl (by decide) rfl (fun ls hl => ?_)
    refine lv_aload_n hx hb dX11_penny_43 rfl (lv_at hl 1 rfl) ?_
    refine va_get (D := D) (ci := 11) (v := .ref (aR2 0)) (C := RX11) (T := TX11) (N := 8) hx hb hw inW_X11 hown hK hP 0 rfl rfl 2 (by decide) (hw _ mw_2_145) (fun _ h9 => h9) rfl dX11_penny_44 ?_
    refine lv_iconst (v := 1) hx hb dX11_penny_47 (by decide) ?_
    refine va_putN (D := D) (ci := 4) (v := .int 1) (ty := .boolean) (C := RX4) (T := TX4) (N := 16) hx hb hw inW_X4 tyX4 tyX4_ok nmX4 hown hK hP hD hS 26 rfl rfl 14 (by decide) hn245 (fun _ h9 => h9) rfl (by decide +kernel) rfl rfl (Nat.le_of_ble_eq_true rfl) dX11_penny_48 (fun H locs hP hD hS => ?_)
    refine lv_lload_n hx hb dX11_penny_51 rfl (lv_at hl 0 rfl) ?_
    refine lv_aload_n hx hb dX11_penny_52 rfl (lv_at hl 1 rfl) ?_
    refine lv_aload_n hx hb dX11_penny_53 rfl (lv_at hl 1 rfl) ?_
    refine va_get (D := D) (ci := 11) (v := .ref (aR2 0)) (C := RX11) (T := TX11) (N := 8) hx hb hw inW_X11 hown hK hP 0 rfl rfl 2 (by decide) (hw _ mw_2_145) (fun _ h9 => h9) rfl dX11_penny_54 ?_
    refine lv_iconst (v := 1) hx hb dX11_penny_57 (by decide) ?_
    have hP : va_P D vwCl (List.flatten ([cLockRail L0 (aU 0) (aR 0) (aR2 0) h_images (aS 0) n0 y0 o0 C ] ++ (wReader aU C us ua ++ (wRail aR C rs ra ++ (wRail aR2 C (va_up rs_2 10 1) ra_3 ++ (wSlots aS C sa sl ++ (wNight n0 aN4 C ns_5 na_6 nl_7 ++ ([cYear y0 y1 y2 C y_isThere y_taken y_took] ++ ([cOb o0 C o_of]))))))))) H := hP
    have hD : va_D A (List.flatten ([cLockRail L0 (aU 0) (aR 0) (aR2 0) h_images (aS 0) n0 y0 o0 C ] ++ (wReader aU C us ua ++ (wRail aR C rs ra ++ (wRail aR2 C (va_up rs_2 10 1) ra_3 ++ (wSlots aS C sa sl ++ (wNight n0 aN4 C ns_5 na_6 nl_7 ++ ([cYear y0 y1 y2 C y_isThere y_taken y_took] ++ ([cOb o0 C o_of]))))))))) := hD
    refine cGoL (wo := fun u => [cLockRail L0 (aU 0) (aR 0) (aR2 0) h_images (aS 0) n0 y0 o0 C ] ++ (wReader aU C us ua ++ (wRail aR C rs ra ++ (wRail aR2 C (va_up rs_2 10 1) ra_3 ++ (wSlots aS C sa sl ++ (wNight n0 u.1 C u.2.1 u.2.2.1 u.2.2.2 ++ ([cYear y0 y1 y2 C y_isThere y_taken y_took] ++ ([cOb o0 C o_of])))))))) (cRunV (As := [.ref (aR2 0), .int 1]) (rest := [.long r8]) ⟨hx, hb, hml, hown, hw⟩ hK hN hP hD [0, 9, 10, 11, 12, 13, 14, 16, 17, 18] rfl rfl (k_X11_allOn l D C _ L0 aR2 n0 aN4 (aU 0) (aR 0) (aR2 0) h_images (aS 0) y0 o0  (va_up rs_2 10 1) ra_3 ns_5 na_6 nl_7 1 h) (cwV 2 hw (goodV mw_4_124 mw_4_126 mw_s63 mw_1_1 mw_4_127) rfl rfl rfl (by decide +kernel) ⟨Nat.le_of_ble_eq_true rfl, Nat.le_of_ble_eq_true rfl⟩) rfl rfl rfl hl.1 rfl (Nat.le_of_ble_eq_true rfl) dX11_penny_58 ⟨Nat.zero_le _, Nat.zero_le _⟩) hP hD hS hA [0, 9, 10, 11, 12, 13, 14, 16, 17, 18] [1, 2, 3, 4, 5, 6, 7, 8, 15, 19, 20] [11, 0, 1, 2, 3, 4, 5, 6, 7, 12, 13, 14, 15, 16, 17, 8, 18, 19, 20, 9, 10] rfl rfl rfl (by decide) rfl (fun _ => rfl) (fun r13 u H locs h hP hD hS => ?_)
    obtain ⟨aN9, ns_10, na_11, nl_12⟩ := u
    have hP : va_P D vwCl (List.flatten ([cLockRail L0 (aU 0) (aR 0) (aR2 0) h_images (aS 0) n0 y0 o0 C ] ++ (wReader aU C us ua ++ (wRail aR C rs ra ++ (wRail aR2 C (va_up rs_2 10 1) ra_3 ++ (wSlots aS C sa sl ++ (wNight n0 aN9 C ns_10 na_11 nl_12 ++ ([cYear y0 y1 y2 C y_isThere y_taken y_took] ++ ([cOb o0 C o_of]))))))))) H := hP
    have hD : va_D A (List.flatten ([cLockRail L0 (aU 0) (aR 0) (aR2 0) h_images (aS 0) n0 y0 o0 C ] ++ (wReader aU C us ua ++ (wRail aR C rs ra ++ (wRail aR2 C (va_up rs_2 10 1) ra_3 ++ (wSlots aS C sa sl ++ (wNight n0 aN9 C ns_10 na_11 nl_12 ++ ([cYear y0 y1 y2 C y_isThere y_taken y_took] ++ ([cOb o0 C o_of]))))))))) := hD
    refine lv_lsub hx hb dX11_penny_61 ?_
    refine lv_aload_n hx hb dX11_penny_62 rfl (lv_at hl 1 rfl) ?_
    refine va_get (D := D) (ci := 11) (v := .ref (aR 0)) (C := RX11) (T := TX11) (N := 8) hx hb hw inW_X11 hown hK hP 0 rfl rfl 1 (by decide) (hw _ mw_2_144) (fun _ h9 => h9) rfl dX11_penny_63 ?_
    refine cGoL (wo := fun u => [cLockRail L0 (aU 0) (aR 0) (aR2 0) h_images (aS 0) n0 y0 o0 C ] ++ (wReader aU C us ua ++ (wRail aR C rs ra ++ (wRail aR2 C (va_up rs_2 10 1) ra_3 ++ (wSlots aS C sa sl ++ (wNight n0 aN9 C ns_10 na_11 nl_12 ++ ([cYear y0 y1 y2 C y_isThere y_taken y_took] ++ ([cOb o0 C o_of])))))))) (cRunVN (As := []) (rest := [.long (r8 - r13)]) ⟨hx, hb, hml, hown, hw⟩ hK hN hP hD [3, 4, 5, 6, 7, 8] rfl rfl (k_X4_wages l D C _ aR  rs ra  h) ⟨va_cnB 0 hw (goodN mw_4_119) rfl rfl rfl (hN.m 62 rfl) (hw _ mw_1_4) (by decide +kernel) ⟨Nat.le_of_ble_eq_true rfl, Nat.le_of_ble_eq_true rfl⟩, hw _ mw_4_118, hw _ mw_s62⟩ rfl rfl rfl hl.1 rfl (Nat.le_of_ble_eq_true rfl) dX11_penny_66 ⟨Nat.zero_le _, Nat.zero_le _⟩) hP hD hS hA [3, 4, 5, 6, 7, 8] [0, 1, 2, 9, 10, 11, 12, 13, 14, 15, 16, 17, 18, 19, 20] [0, 1, 2, 15, 16, 17, 18, 19, 20, 3, 4, 5, 6, 7, 8, 9, 10, 11, 12, 13, 14] rfl rfl rfl (by decide) rfl (fun _ => rfl) (fun r14 u H locs h hP hD hS => ?_)
    have hP : va_P D vwCl (List.flatten ([cLockRail L0 (aU 0) (aR 0) (aR2 0) h_images (aS 0) n0 y0 o0 C ] ++ (wReader aU C us ua ++ (wRail aR C rs ra ++ (wRail aR2 C (va_up rs_2 10 1) ra_3 ++ (wSlots aS C sa sl ++ (wNight n0 aN9 C ns_10 na_11 nl_12 ++ ([cYear y0 y1 y2 C y_isThere y_taken y_took] ++ ([cOb o0 C o_of]))))))))) H := hP
    have hD : va_D A (List.flatten ([cLockRail L0 (aU 0) (aR 0) (aR2 0) h_images (aS 0) n0 y0 o0 C ] ++ (wReader aU C us ua ++ (wRail aR C rs ra ++ (wRail aR2 C (va_up rs_2 10 1) ra_3 ++ (wSlots aS C sa sl ++ (wNight n0 aN9 C ns_10 na_11 nl_12 ++ ([cYear y0 y1 y2 C y_isThere y_taken y_took] ++ ([cOb o0 C o_of]))))))))) := hD
    refine lv_lsub hx hb dX11_penny_69 ?_
    rw [← hQ]
    exact cRetL (v := ((r8 - r13) - r14)) (aN9, (va_up rs_2 10 1), ra_3, ns_10, na_11, nl_12) hx hb hr hlocks hS hP hD h dX11_penny_70
  · have h := h.2 c1
    refine lv_ldc2 (v := (-1000000000000)) hx hb hown (hw _ mw_4_222) dX11_penny_10 ?_
    rw [← hQ]
    exact cRetL (v := (-1000000000000)) (aN, rs2, ra2, ns, na, nl) hx hb hr hlocks hS hP hD h dX11_penny_13
abbrev vsX11_findSpared : List Cond := Cond.code yX11_findSpared cX11_findSpared 5 none :: WS
abbrev rmX11_findSpared : Room := { frames := 4, cells := 0, slots := 0, locals := 105 }
set_option maxHeartbeats 4000000 in
set_option maxRecDepth 100000 in
theorem k_X11_findSpared (l : Launch) (D : va_G) (C : Nat → ClassId) (sz : Nat) (L0 : Nat) (aR : Nat → Nat) (aR2 : Nat → Nat) (n0 : Nat) (aN : Nat → Nat) (o0 : Nat) (h_reader : Nat) (h_images : Nat) (h_slots : Nat) (h_triedYear : Nat) (rs : Nat → Int32) (ra : Nat → Nat → Int32) (rs2 : Nat → Int32) (ra2 : Nat → Nat → Int32) (ns : Nat → Int32) (na : Nat → Nat → Int32) (nl : Nat → Nat → Int64) (o_of : Nat → Int64)  {post : (Nat → Int32) → (Nat → Nat → Int32) → (Nat → Int32) → (Nat → Nat → Int32) → (Nat → Nat → Int64) → (Nat → Int64) → Prop} (h : P_X11_findSpared rs ra rs2 ra2 ns na nl o_of post) : Met l yX11_findSpared vsX11_findSpared rmX11_findSpared (cPre D C [.ref L0] sz ([cLockRail L0 h_reader (aR 0) (aR2 0) h_images h_slots n0 h_triedYear o0 C ] ++ (wRail aR C rs ra ++ (wRail aR2 C rs2 ra2 ++ (wNight n0 aN C ns na nl ++ ([cOb o0 C o_of])))))) (cQv D (fun (u : (Nat → Nat) × (Nat → Int32) × (Nat → Nat → Int32) × (Nat → Int32) × (Nat → Nat → Int32) × (Nat → Nat → Int64) × (Nat → Int64)) => post u.2.1 u.2.2.1 u.2.2.2.1 u.2.2.2.2.1 u.2.2.2.2.2.1 u.2.2.2.2.2.2) (fun u => [cLockRail L0 h_reader (aR 0) (aR2 0) h_images h_slots n0 h_triedYear o0 C ] ++ (wRail aR C rs ra ++ (wRail aR2 C u.2.1 u.2.2.1 ++ (wNight n0 u.1 C u.2.2.2.1 u.2.2.2.2.1 u.2.2.2.2.2.1 ++ ([cOb o0 C u.2.2.2.2.2.2]))))) (va_A (List.flatten ([cLockRail L0 h_reader (aR 0) (aR2 0) h_images h_slots n0 h_triedYear o0 C ] ++ (wRail aR C rs ra ++ (wRail aR2 C rs2 ra2 ++ (wNight n0 aN C ns na nl ++ ([cOb o0 C o_of])))))) sz)) 0 0 (va_A (List.flatten ([cLockRail L0 h_reader (aR 0) (aR2 0) h_images h_slots n0 h_triedYear o0 C ] ++ (wRail aR C rs ra ++ (wRail aR2 C rs2 ra2 ++ (wNight n0 aN C ns na nl ++ ([cOb o0 C o_of])))))) sz) := by
  refine cStart (QA := fun A => cQv D (fun (u : (Nat → Nat) × (Nat → Int32) × (Nat → Nat → Int32) × (Nat → Int32) × (Nat → Nat → Int32) × (Nat → Nat → Int64) × (Nat → Int64)) => post u.2.1 u.2.2.1 u.2.2.2.1 u.2.2.2.2.1 u.2.2.2.2.2.1 u.2.2.2.2.2.2) (fun u => [cLockRail L0 h_reader (aR 0) (aR2 0) h_images h_slots n0 h_triedYear o0 C ] ++ (wRail aR C rs ra ++ (wRail aR2 C u.2.1 u.2.2.1 ++ (wNight n0 u.1 C u.2.2.2.1 u.2.2.2.2.1 u.2.2.2.2.2.1 ++ ([cOb o0 C u.2.2.2.2.2.2]))))) A) (cc := cX11_findSpared) (maxL := 5) (ret := none) (by decide) (Nat.le_of_ble_eq_true rfl) ?_
  intro p e s m args below meth c A ls hx hb hr hml hown hw hlocks hname hK hN hA hP hD hS hl
  generalize hQ : MQ below _ args s 0 0 A = Q
  have hl : lv_has ls 5 [(0, .ref L0)] := hl
  have hn97 : (Cond.fieldLinkNest "LockRail" 97 "LockRail$Rail" "bikes" "LLockRail$Bikes;" "LockRail").before args s = true := hN.f 61 rfl
  have hn161 : (Cond.fieldLinkNest "LockRail" 161 "LockRail$Bikes" "count" "I" "LockRail").before args s = true := hN.f 20 rfl
  have hn245 : (Cond.fieldLinkNest "LockRail" 245 "LockRail$Rail" "watched" "Z" "LockRail").before args s = true := hN.f 73 rfl
  obtain ⟨H, hH⟩ : ∃ H, H = s.heap := ⟨_, rfl⟩
  obtain ⟨locs, hlo⟩ : ∃ z : List Loc, z = [] := ⟨_, rfl⟩
  have hP : va_P D vwCl (List.flatten ([cLockRail L0 h_reader (aR 0) (aR2 0) h_images h_slots n0 h_triedYear o0 C ] ++ (wRail aR C rs ra ++ (wRail aR2 C rs2 ra2 ++ (wNight n0 aN C ns na nl ++ ([cOb o0 C o_of])))))) H := by rw [hH]; exact hP
  have hS : va_S A s.heap H locs := by rw [hH, hlo]; exact hS
  rw [show W p l e rmX11_findSpared s m args below meth c s.heap [] 0 0 Q (F0 m 0 ls []) = W p l e rmX11_findSpared s m args below meth c H locs 0 0 Q (F0 m 0 ls []) from by rw [hH, hlo]]
  have N92 : ∀ (rs2 : Nat → Int32) (ra2 : Nat → Nat → Int32) (ns : Nat → Int32) (na : Nat → Nat → Int32) (nl : Nat → Nat → Int64) (n92 : Nat) (x1_ : Int32) (o_of : Nat → Int64) (aN : Nat → Nat) (H : Heap) (locs : List Loc) (ls : Array Slot), P_X11_findSpared_92 rs ra post  rs2 ra2 ns na nl n92 x1_ o_of → va_P D vwCl (List.flatten ([cLockRail L0 h_reader (aR 0) (aR2 0) h_images h_slots n0 h_triedYear o0 C ] ++ (wRail aR C rs ra ++ (wRail aR2 C rs2 ra2 ++ (wNight n0 aN C ns na nl ++ ([cOb o0 C o_of])))))) H → va_D A (List.flatten ([cLockRail L0 h_reader (aR 0) (aR2 0) h_images h_slots n0 h_triedYear o0 C ] ++ (wRail aR C rs ra ++ (wRail aR2 C rs2 ra2 ++ (wNight n0 aN C ns na nl ++ ([cOb o0 C o_of])))))) → va_S A s.heap H locs → lv_has ls 5 [(0, .ref L0), (1, .int x1_)] → W p l e rmX11_findSpared s m args below meth c H locs 0 0 Q (F0 m 92 ls []) := by
    intro rs2 ra2 ns na nl
    intro n92
    induction n92 with
    | zero => intro x1_ o_of aN H locs ls h hP hD hS hl; exact False.elim h
    | succ n92 ih92 =>
      have N130 : ∀ (x1_ : Int32) (x2_ : Int64) (n130 : Nat) (x4_ : Int32) (o_of : Nat → Int64) (aN : Nat → Nat) (H : Heap) (locs : List Loc) (ls : Array Slot), P_X11_findSpared_130 rs ra rs2 ra2 ns na nl post (P_X11_findSpared_92 rs ra post  rs2 ra2 ns na nl n92) x1_ x2_ n130 x4_ o_of → va_P D vwCl (List.flatten ([cLockRail L0 h_reader (aR 0) (aR2 0) h_images h_slots n0 h_triedYear o0 C ] ++ (wRail aR C rs ra ++ (wRail aR2 C rs2 ra2 ++ (wNight n0 aN C ns na nl ++ ([cOb o0 C o_of])))))) H → va_D A (List.flatten ([cLockRail L0 h_reader (aR 0) (aR2 0) h_images h_slots n0 h_triedYear o0 C ] ++ (wRail aR C rs ra ++ (wRail aR2 C rs2 ra2 ++ (wNight n0 aN C ns na nl ++ ([cOb o0 C o_of])))))) → va_S A s.heap H locs → lv_has ls 5 [(0, .ref L0), (1, .int x1_), (2, .long x2_), (4, .int x4_)] → W p l e rmX11_findSpared s m args below meth c H locs 0 0 Q (F0 m 130 ls []) := by
        intro x1_ x2_
        intro n130
        induction n130 with
        | zero => intro x4_ o_of aN H locs ls h hP hD hS hl; exact False.elim h
        | succ n130 ih130 =>
          intro x4_ o_of aN H locs ls h hP hD hS hl
          refine lv_iload hx hb dX11_findSpared_130 (lv_at hl 3 rfl) ?_
          refine lv_if_le (tgt := 171) hx hb dX11_findSpared_132 (by decide) (fun c1 => ?_) (fun c1 => ?_)
          · have h := h.1 c1
            refine lv_aload_n hx hb dX11_findSpared_171 rfl (lv_at hl 0 rfl) ?_
            refine va_get (D := D) (ci := 11) (v := .ref o0) (C := RX11) (T := TX11) (N := 8) hx hb hw inW_X11 hown hK hP 0 rfl rfl 7 (by decide) (hw _ mw_2_150) (fun _ h9 => h9) rfl dX11_findSpared_172 ?_
            refine lv_iload hx hb dX11_findSpared_175 (lv_at hl 3 rfl) ?_
            refine lv_lload_n hx hb dX11_findSpared_177 rfl (lv_at hl 2 rfl) ?_
            refine cLast hx hb hK hP hD hS 62 1 rfl rfl x4_.toNatClampNeg rfl h.1 dX11_findSpared_178 (fun H locs hP hD hS => ?_)
            have h := h.2
            refine lv_iinc (v := (x1_ + 1)) (lv' := [(1, .int (x1_ + 1)), (0, .ref L0), (2, .long x2_), (4, .int x4_)]) hx hb dX11_findSpared_179 hl (k := 1) rfl rfl (by decide) rfl (fun ls hl => ?_)
            refine lv_goto (tgt := 92) hx hb dX11_findSpared_182 (by decide) ?_
            have hP : va_P D vwCl (List.flatten ([cLockRail L0 h_reader (aR 0) (aR2 0) h_images h_slots n0 h_triedYear o0 C ] ++ (wRail aR C rs ra ++ (wRail aR2 C rs2 ra2 ++ (wNight n0 aN C ns na nl ++ ([cOb o0 C (vp_updL o_of x4_.toNatClampNeg x2_)])))))) H := hP
            have hD : va_D A (List.flatten ([cLockRail L0 h_reader (aR 0) (aR2 0) h_images h_slots n0 h_triedYear o0 C ] ++ (wRail aR C rs ra ++ (wRail aR2 C rs2 ra2 ++ (wNight n0 aN C ns na nl ++ ([cOb o0 C (vp_updL o_of x4_.toNatClampNeg x2_)])))))) := hD
            exact ih92 (x1_ + 1) (vp_updL o_of x4_.toNatClampNeg x2_) aN _ _ _ h hP hD hS (lv_sub hl [1, 0] rfl)
          · have h := h.2 c1
            refine lv_aload_n hx hb dX11_findSpared_135 rfl (lv_at hl 0 rfl) ?_
            refine va_get (D := D) (ci := 11) (v := .ref o0) (C := RX11) (T := TX11) (N := 8) hx hb hw inW_X11 hown hK hP 0 rfl rfl 7 (by decide) (hw _ mw_2_150) (fun _ h9 => h9) rfl dX11_findSpared_136 ?_
            refine lv_iload hx hb dX11_findSpared_139 (lv_at hl 3 rfl) ?_
            refine lv_iconst (v := 1) hx hb dX11_findSpared_141 (by decide) ?_
            refine lv_isub hx hb dX11_findSpared_142 ?_
            refine cLald hx hb hK hP 62 1 rfl rfl ((x4_ - 1).toNatClampNeg) rfl h.1 dX11_findSpared_143 ?_
            have h := h.2
            refine lv_lload_n hx hb dX11_findSpared_144 rfl (lv_at hl 2 rfl) ?_
            refine W.lcmp hx hb dX11_findSpared_145 ?_
            refine lv_if_ge (tgt := 171) hx hb dX11_findSpared_146 (by decide) (fun c2 => ?_) (fun c2 => ?_)
            · have c2 : x2_ ≤ (o_of ((x4_ - 1).toNatClampNeg)) := (lg_cmp_ge _ _).mp c2
              have h := h.1 c2
              refine lv_aload_n hx hb dX11_findSpared_171 rfl (lv_at hl 0 rfl) ?_
              refine va_get (D := D) (ci := 11) (v := .ref o0) (C := RX11) (T := TX11) (N := 8) hx hb hw inW_X11 hown hK hP 0 rfl rfl 7 (by decide) (hw _ mw_2_150) (fun _ h9 => h9) rfl dX11_findSpared_172 ?_
              refine lv_iload hx hb dX11_findSpared_175 (lv_at hl 3 rfl) ?_
              refine lv_lload_n hx hb dX11_findSpared_177 rfl (lv_at hl 2 rfl) ?_
              refine cLast hx hb hK hP hD hS 62 1 rfl rfl x4_.toNatClampNeg rfl h.1 dX11_findSpared_178 (fun H locs hP hD hS => ?_)
              have h := h.2
              refine lv_iinc (v := (x1_ + 1)) (lv' := [(1, .int (x1_ + 1)), (0, .ref L0), (2, .long x2_), (4, .int x4_)]) hx hb dX11_findSpared_179 hl (k := 1) rfl rfl (by decide) rfl (fun ls hl => ?_)
              refine lv_goto (tgt := 92) hx hb dX11_findSpared_182 (by decide) ?_
              have hP : va_P D vwCl (List.flatten ([cLockRail L0 h_reader (aR 0) (aR2 0) h_images h_slots n0 h_triedYear o0 C ] ++ (wRail aR C rs ra ++ (wRail aR2 C rs2 ra2 ++ (wNight n0 aN C ns na nl ++ ([cOb o0 C (vp_updL o_of x4_.toNatClampNeg x2_)])))))) H := hP
              have hD : va_D A (List.flatten ([cLockRail L0 h_reader (aR 0) (aR2 0) h_images h_slots n0 h_triedYear o0 C ] ++ (wRail aR C rs ra ++ (wRail aR2 C rs2 ra2 ++ (wNight n0 aN C ns na nl ++ ([cOb o0 C (vp_updL o_of x4_.toNatClampNeg x2_)])))))) := hD
              exact ih92 (x1_ + 1) (vp_updL o_of x4_.toNatClampNeg x2_) aN _ _ _ h hP hD hS (lv_sub hl [1, 0] rfl)
            · have c2 : ¬ x2_ ≤ (o_of ((x4_ - 1).toNatClampNeg)) := fun q => c2 ((lg_cmp_ge _ _).mpr q)
              have h := h.2 c2
              refine lv_aload_n hx hb dX11_findSpared_149 rfl (lv_at hl 0 rfl) ?_
              refine va_get (D := D) (ci := 11) (v := .ref o0) (C := RX11) (T := TX11) (N := 8) hx hb hw inW_X11 hown hK hP 0 rfl rfl 7 (by decide) (hw _ mw_2_150) (fun _ h9 => h9) rfl dX11_findSpared_150 ?_
              refine lv_iload hx hb dX11_findSpared_153 (lv_at hl 3 rfl) ?_
              refine lv_aload_n hx hb dX11_findSpared_155 rfl (lv_at hl 0 rfl) ?_
              refine va_get (D := D) (ci := 11) (v := .ref o0) (C := RX11) (T := TX11) (N := 8) hx hb hw inW_X11 hown hK hP 0 rfl rfl 7 (by decide) (hw _ mw_2_150) (fun _ h9 => h9) rfl dX11_findSpared_156 ?_
              refine lv_iload hx hb dX11_findSpared_159 (lv_at hl 3 rfl) ?_
              refine lv_iconst (v := 1) hx hb dX11_findSpared_161 (by decide) ?_
              refine lv_isub hx hb dX11_findSpared_162 ?_
              refine cLald hx hb hK hP 62 1 rfl rfl ((x4_ - 1).toNatClampNeg) rfl h.1 dX11_findSpared_163 ?_
              have h := h.2
              refine cLast hx hb hK hP hD hS 62 1 rfl rfl x4_.toNatClampNeg rfl h.1 dX11_findSpared_164 (fun H locs hP hD hS => ?_)
              have h := h.2
              refine lv_iinc (v := (x4_ + (-1))) (lv' := [(4, .int (x4_ + (-1))), (0, .ref L0), (1, .int x1_), (2, .long x2_)]) hx hb dX11_findSpared_165 hl (k := 3) rfl rfl (by decide) rfl (fun ls hl => ?_)
              refine lv_goto (tgt := 130) hx hb dX11_findSpared_168 (by decide) ?_
              have hP : va_P D vwCl (List.flatten ([cLockRail L0 h_reader (aR 0) (aR2 0) h_images h_slots n0 h_triedYear o0 C ] ++ (wRail aR C rs ra ++ (wRail aR2 C rs2 ra2 ++ (wNight n0 aN C ns na nl ++ ([cOb o0 C (vp_updL o_of x4_.toNatClampNeg (o_of ((x4_ - 1).toNatClampNeg)))])))))) H := hP
              have hD : va_D A (List.flatten ([cLockRail L0 h_reader (aR 0) (aR2 0) h_images h_slots n0 h_triedYear o0 C ] ++ (wRail aR C rs ra ++ (wRail aR2 C rs2 ra2 ++ (wNight n0 aN C ns na nl ++ ([cOb o0 C (vp_updL o_of x4_.toNatClampNeg (o_of ((x4_ - 1).toNatClampNeg)))])))))) := hD
              exact ih130 (x4_ + (-1)) (vp_updL o_of x4_.toNatClampNeg (o_of ((x4_ - 1).toNatClampNeg))) aN _ _ _ h hP hD hS (lv_sub hl [1, 2, 3, 0] rfl)
      intro x1_ o_of aN H locs ls h hP hD hS hl
      refine lv_iload_n hx hb dX11_findSpared_92 rfl (lv_at hl 1 rfl) ?_
      refine lv_aload_n hx hb dX11_findSpared_93 rfl (lv_at hl 0 rfl) ?_
      refine va_get (D := D) (ci := 11) (v := .ref (aR2 0)) (C := RX11) (T := TX11) (N := 8) hx hb hw inW_X11 hown hK hP 0 rfl rfl 2 (by decide) (hw _ mw_2_145) (fun _ h9 => h9) rfl dX11_findSpared_94 ?_
      refine va_getN (D := D) (ci := 4) (v := .ref (aR2 7)) (C := RX4) (T := TX4) (N := 16) hx hb hw inW_X4 hown hK hP 23 rfl rfl 5 (by decide) hn97 (fun _ h9 => h9) rfl dX11_findSpared_97 ?_
      refine va_getN (D := D) (ci := 0) (v := .int (rs2 13)) (C := RX0) (T := TX0) (N := 6) hx hb hw inW_X0 hown hK hP 30 rfl rfl 0 (by decide) hn161 (fun _ h9 => h9) rfl dX11_findSpared_100 ?_
      refine lv_icmp_ge (tgt := 185) hx hb dX11_findSpared_103 (by decide) (fun c3 => ?_) (fun c3 => ?_)
      · have h := h.1 c3
        rw [← hQ]
        exact cRetV (aN, rs2, ra2, ns, na, nl, o_of) hx hb hr hlocks hS hP hD h dX11_findSpared_185
      · have h := h.2 c3
        refine lv_aload_n hx hb dX11_findSpared_106 rfl (lv_at hl 0 rfl) ?_
        refine va_get (D := D) (ci := 11) (v := .ref o0) (C := RX11) (T := TX11) (N := 8) hx hb hw inW_X11 hown hK hP 0 rfl rfl 7 (by decide) (hw _ mw_2_150) (fun _ h9 => h9) rfl dX11_findSpared_107 ?_
        refine lv_iload_n hx hb dX11_findSpared_110 rfl (lv_at hl 1 rfl) ?_
        refine cLald hx hb hK hP 62 1 rfl rfl x1_.toNatClampNeg rfl h.1 dX11_findSpared_111 ?_
        have h := h.2
        refine lv_aload_n hx hb dX11_findSpared_112 rfl (lv_at hl 0 rfl) ?_
        refine va_get (D := D) (ci := 11) (v := .ref n0) (C := RX11) (T := TX11) (N := 8) hx hb hw inW_X11 hown hK hP 0 rfl rfl 5 (by decide) (hw _ mw_2_148) (fun _ h9 => h9) rfl dX11_findSpared_113 ?_
        refine lv_aload_n hx hb dX11_findSpared_116 rfl (lv_at hl 0 rfl) ?_
        refine va_get (D := D) (ci := 11) (v := .ref (aR2 0)) (C := RX11) (T := TX11) (N := 8) hx hb hw inW_X11 hown hK hP 0 rfl rfl 2 (by decide) (hw _ mw_2_145) (fun _ h9 => h9) rfl dX11_findSpared_117 ?_
        refine lv_iload_n hx hb dX11_findSpared_120 rfl (lv_at hl 1 rfl) ?_
        refine lv_iconst (v := 1) hx hb dX11_findSpared_121 (by decide) ?_
        refine cGoL (wo := fun u => [cLockRail L0 h_reader (aR 0) (aR2 0) h_images h_slots n0 h_triedYear o0 C ] ++ (wRail aR C rs ra ++ (wRail aR2 C rs2 ra2 ++ (wNight n0 aN C ns na nl ++ ([cOb o0 C o_of]))))) (cRunVN (As := [.ref (aR2 0), .int x1_, .int 1]) (rest := [.long (o_of x1_.toNatClampNeg)]) ⟨hx, hb, hml, hown, hw⟩ hK hN hP hD [13, 14, 15, 7, 8, 9, 10, 11, 12] rfl rfl (k_X3_costOf l D C _ n0 aN aR2  ns na nl rs2 ra2 x1_ 1 h) ⟨va_cnB 3 hw (goodN mw_4_104) rfl rfl rfl (hN.m 52 rfl) (hw _ mw_1_11) (by decide +kernel) ⟨Nat.le_of_ble_eq_true rfl, Nat.le_of_ble_eq_true rfl⟩, hw _ mw_4_103, hw _ mw_s59⟩ rfl rfl rfl hl.1 rfl (Nat.le_of_ble_eq_true rfl) dX11_findSpared_122 ⟨Nat.zero_le _, Nat.zero_le _⟩) hP hD hS hA [13, 14, 15, 7, 8, 9, 10, 11, 12] [0, 1, 2, 3, 4, 5, 6, 16] [0, 1, 2, 3, 4, 5, 6, 11, 12, 13, 14, 15, 16, 8, 9, 10, 7] rfl rfl rfl (by decide) rfl (fun _ => rfl) (fun r4 u H locs h hP hD hS => ?_)
        have hP : va_P D vwCl (List.flatten ([cLockRail L0 h_reader (aR 0) (aR2 0) h_images h_slots n0 h_triedYear o0 C ] ++ (wRail aR C rs ra ++ (wRail aR2 C rs2 ra2 ++ (wNight n0 aN C ns na nl ++ ([cOb o0 C o_of])))))) H := hP
        have hD : va_D A (List.flatten ([cLockRail L0 h_reader (aR 0) (aR2 0) h_images h_slots n0 h_triedYear o0 C ] ++ (wRail aR C rs ra ++ (wRail aR2 C rs2 ra2 ++ (wNight n0 aN C ns na nl ++ ([cOb o0 C o_of])))))) := hD
        refine lv_lsub hx hb dX11_findSpared_125 ?_
        refine lv_topl (fun x5 ex5 => ?_)
        have h := h x5 ex5
        refine lv_lstore_n (lv' := [(2, .long x5), (0, .ref L0), (1, .int x1_)]) hx hb dX11_findSpared_126 rfl hl (by decide) rfl (fun ls hl => ?_)
        refine lv_iload_n hx hb dX11_findSpared_127 rfl (lv_at hl 2 rfl) ?_
        refine lv_istore (lv' := [(4, .int x1_), (2, .long x5), (0, .ref L0), (1, .int x1_)]) hx hb dX11_findSpared_128 hl (by decide) rfl (fun ls hl => ?_)
        obtain ⟨n, h⟩ := h
        exact N130 x1_ x5 n x1_ o_of aN _ _ _ h hP hD hS (lv_sub hl [2, 3, 1, 0] rfl)
  have N71 : ∀ (rs2 : Nat → Int32) (ra2 : Nat → Nat → Int32) (ns : Nat → Int32) (na : Nat → Nat → Int32) (nl : Nat → Nat → Int64) (o_of : Nat → Int64) (aN : Nat → Nat) (H : Heap) (locs : List Loc) (ls : Array Slot), P_X11_findSpared_71 rs ra post  rs2 ra2 ns na nl o_of → va_P D vwCl (List.flatten ([cLockRail L0 h_reader (aR 0) (aR2 0) h_images h_slots n0 h_triedYear o0 C ] ++ (wRail aR C rs ra ++ (wRail aR2 C rs2 ra2 ++ (wNight n0 aN C ns na nl ++ ([cOb o0 C o_of])))))) H → va_D A (List.flatten ([cLockRail L0 h_reader (aR 0) (aR2 0) h_images h_slots n0 h_triedYear o0 C ] ++ (wRail aR C rs ra ++ (wRail aR2 C rs2 ra2 ++ (wNight n0 aN C ns na nl ++ ([cOb o0 C o_of])))))) → va_S A s.heap H locs → lv_has ls 5 [(0, .ref L0)] → W p l e rmX11_findSpared s m args below meth c H locs 0 0 Q (F0 m 71 ls []) := by
    intro rs2 ra2 ns na nl o_of aN H locs ls h hP hD hS hl
    refine lv_aload_n hx hb dX11_findSpared_71 rfl (lv_at hl 0 rfl) ?_
    refine va_get (D := D) (ci := 11) (v := .ref (aR2 0)) (C := RX11) (T := TX11) (N := 8) hx hb hw inW_X11 hown hK hP 0 rfl rfl 2 (by decide) (hw _ mw_2_145) (fun _ h9 => h9) rfl dX11_findSpared_72 ?_
    refine lv_iconst (v := 1) hx hb dX11_findSpared_75 (by decide) ?_
    refine va_putN (D := D) (ci := 4) (v := .int 1) (ty := .boolean) (C := RX4) (T := TX4) (N := 16) hx hb hw inW_X4 tyX4 tyX4_ok nmX4 hown hK hP hD hS 23 rfl rfl 14 (by decide) hn245 (fun _ h9 => h9) rfl (by decide +kernel) rfl rfl (Nat.le_of_ble_eq_true rfl) dX11_findSpared_76 (fun H locs hP hD hS => ?_)
    refine lv_aload_n hx hb dX11_findSpared_79 rfl (lv_at hl 0 rfl) ?_
    refine va_get (D := D) (ci := 11) (v := .ref n0) (C := RX11) (T := TX11) (N := 8) hx hb hw inW_X11 hown hK hP 0 rfl rfl 5 (by decide) (hw _ mw_2_148) (fun _ h9 => h9) rfl dX11_findSpared_80 ?_
    refine lv_aload_n hx hb dX11_findSpared_83 rfl (lv_at hl 0 rfl) ?_
    refine va_get (D := D) (ci := 11) (v := .ref (aR2 0)) (C := RX11) (T := TX11) (N := 8) hx hb hw inW_X11 hown hK hP 0 rfl rfl 2 (by decide) (hw _ mw_2_145) (fun _ h9 => h9) rfl dX11_findSpared_84 ?_
    have hP : va_P D vwCl (List.flatten ([cLockRail L0 h_reader (aR 0) (aR2 0) h_images h_slots n0 h_triedYear o0 C ] ++ (wRail aR C rs ra ++ (wRail aR2 C (va_up rs2 10 1) ra2 ++ (wNight n0 aN C ns na nl ++ ([cOb o0 C o_of])))))) H := hP
    have hD : va_D A (List.flatten ([cLockRail L0 h_reader (aR 0) (aR2 0) h_images h_slots n0 h_triedYear o0 C ] ++ (wRail aR C rs ra ++ (wRail aR2 C (va_up rs2 10 1) ra2 ++ (wNight n0 aN C ns na nl ++ ([cOb o0 C o_of])))))) := hD
    refine cGoV (wo := fun u => [cLockRail L0 h_reader (aR 0) (aR2 0) h_images h_slots n0 h_triedYear o0 C ] ++ (wRail aR C rs ra ++ (wRail aR2 C (va_up rs2 10 1) ra2 ++ (wNight n0 u.1 C u.2.1 u.2.2.1 u.2.2.2 ++ ([cOb o0 C o_of]))))) (cRunVN (As := [.ref (aR2 0)]) (rest := []) ⟨hx, hb, hml, hown, hw⟩ hK hN hP hD [13, 14, 15, 7, 8, 9, 10, 11, 12] rfl rfl (k_X3_play l D C _ n0 aN aR2  ns na nl (va_up rs2 10 1) ra2  h) ⟨va_cnB 1 hw (goodN mw_4_24) rfl rfl rfl (hN.m 45 rfl) (hw _ mw_1_11) (by decide +kernel) ⟨Nat.le_of_ble_eq_true rfl, Nat.le_of_ble_eq_true rfl⟩, hw _ mw_4_23, hw _ mw_s48⟩ rfl rfl rfl hl.1 rfl (Nat.le_of_ble_eq_true rfl) dX11_findSpared_87 ⟨Nat.zero_le _, Nat.zero_le _⟩) hP hD hS hA [13, 14, 15, 7, 8, 9, 10, 11, 12] [0, 1, 2, 3, 4, 5, 6, 16] [0, 1, 2, 3, 4, 5, 6, 11, 12, 13, 14, 15, 16, 8, 9, 10, 7] rfl rfl rfl (by decide) rfl (fun _ => rfl) (fun u H locs h hP hD hS => ?_)
    obtain ⟨aN6, ns_7, na_8, nl_9⟩ := u
    have hP : va_P D vwCl (List.flatten ([cLockRail L0 h_reader (aR 0) (aR2 0) h_images h_slots n0 h_triedYear o0 C ] ++ (wRail aR C rs ra ++ (wRail aR2 C (va_up rs2 10 1) ra2 ++ (wNight n0 aN6 C ns_7 na_8 nl_9 ++ ([cOb o0 C o_of])))))) H := hP
    have hD : va_D A (List.flatten ([cLockRail L0 h_reader (aR 0) (aR2 0) h_images h_slots n0 h_triedYear o0 C ] ++ (wRail aR C rs ra ++ (wRail aR2 C (va_up rs2 10 1) ra2 ++ (wNight n0 aN6 C ns_7 na_8 nl_9 ++ ([cOb o0 C o_of])))))) := hD
    refine lv_iconst (v := 0) hx hb dX11_findSpared_90 (by decide) ?_
    refine lv_istore_n (lv' := [(1, .int 0), (0, .ref L0)]) hx hb dX11_findSpared_91 rfl hl (by decide) rfl (fun ls hl => ?_)
    obtain ⟨n, h⟩ := h
    exact N92 (va_up rs2 10 1) ra2 ns_7 na_8 nl_9 n 0 o_of aN6 _ _ _ h hP hD hS (lv_sub hl [1, 0] rfl)
  have N32 : ∀ (rs2 : Nat → Int32) (ra2 : Nat → Nat → Int32) (ns : Nat → Int32) (na : Nat → Nat → Int32) (nl : Nat → Nat → Int64) (n32 : Nat) (x1_ : Int32) (o_of : Nat → Int64) (aN : Nat → Nat) (H : Heap) (locs : List Loc) (ls : Array Slot), P_X11_findSpared_32 rs ra post (fun (rs2 : Nat → Int32) (ra2 : Nat → Nat → Int32) (ns : Nat → Int32) (na : Nat → Nat → Int32) (nl : Nat → Nat → Int64) (o_of : Nat → Int64) => P_X11_findSpared_71 rs ra post  rs2 ra2 ns na nl o_of) rs2 ra2 ns na nl n32 x1_ o_of → va_P D vwCl (List.flatten ([cLockRail L0 h_reader (aR 0) (aR2 0) h_images h_slots n0 h_triedYear o0 C ] ++ (wRail aR C rs ra ++ (wRail aR2 C rs2 ra2 ++ (wNight n0 aN C ns na nl ++ ([cOb o0 C o_of])))))) H → va_D A (List.flatten ([cLockRail L0 h_reader (aR 0) (aR2 0) h_images h_slots n0 h_triedYear o0 C ] ++ (wRail aR C rs ra ++ (wRail aR2 C rs2 ra2 ++ (wNight n0 aN C ns na nl ++ ([cOb o0 C o_of])))))) → va_S A s.heap H locs → lv_has ls 5 [(0, .ref L0), (1, .int x1_)] → W p l e rmX11_findSpared s m args below meth c H locs 0 0 Q (F0 m 32 ls []) := by
    intro rs2 ra2 ns na nl
    intro n32
    induction n32 with
    | zero => intro x1_ o_of aN H locs ls h hP hD hS hl; exact False.elim h
    | succ n32 ih32 =>
      intro x1_ o_of aN H locs ls h hP hD hS hl
      refine lv_iload_n hx hb dX11_findSpared_32 rfl (lv_at hl 1 rfl) ?_
      refine lv_aload_n hx hb dX11_findSpared_33 rfl (lv_at hl 0 rfl) ?_
      refine va_get (D := D) (ci := 11) (v := .ref (aR2 0)) (C := RX11) (T := TX11) (N := 8) hx hb hw inW_X11 hown hK hP 0 rfl rfl 2 (by decide) (hw _ mw_2_145) (fun _ h9 => h9) rfl dX11_findSpared_34 ?_
      refine va_getN (D := D) (ci := 4) (v := .ref (aR2 7)) (C := RX4) (T := TX4) (N := 16) hx hb hw inW_X4 hown hK hP 23 rfl rfl 5 (by decide) hn97 (fun _ h9 => h9) rfl dX11_findSpared_37 ?_
      refine va_getN (D := D) (ci := 0) (v := .int (rs2 13)) (C := RX0) (T := TX0) (N := 6) hx hb hw inW_X0 hown hK hP 30 rfl rfl 0 (by decide) hn161 (fun _ h9 => h9) rfl dX11_findSpared_40 ?_
      refine lv_icmp_ge (tgt := 71) hx hb dX11_findSpared_43 (by decide) (fun c10 => ?_) (fun c10 => ?_)
      · have h := h.1 c10
        exact N71 rs2 ra2 ns na nl o_of aN _ _ _ h hP hD hS (lv_sub hl [0] rfl)
      · have h := h.2 c10
        refine lv_aload_n hx hb dX11_findSpared_46 rfl (lv_at hl 0 rfl) ?_
        refine va_get (D := D) (ci := 11) (v := .ref o0) (C := RX11) (T := TX11) (N := 8) hx hb hw inW_X11 hown hK hP 0 rfl rfl 7 (by decide) (hw _ mw_2_150) (fun _ h9 => h9) rfl dX11_findSpared_47 ?_
        refine lv_iload_n hx hb dX11_findSpared_50 rfl (lv_at hl 1 rfl) ?_
        refine lv_aload_n hx hb dX11_findSpared_51 rfl (lv_at hl 0 rfl) ?_
        refine va_get (D := D) (ci := 11) (v := .ref n0) (C := RX11) (T := TX11) (N := 8) hx hb hw inW_X11 hown hK hP 0 rfl rfl 5 (by decide) (hw _ mw_2_148) (fun _ h9 => h9) rfl dX11_findSpared_52 ?_
        refine lv_aload_n hx hb dX11_findSpared_55 rfl (lv_at hl 0 rfl) ?_
        refine va_get (D := D) (ci := 11) (v := .ref (aR2 0)) (C := RX11) (T := TX11) (N := 8) hx hb hw inW_X11 hown hK hP 0 rfl rfl 2 (by decide) (hw _ mw_2_145) (fun _ h9 => h9) rfl dX11_findSpared_56 ?_
        refine lv_iload_n hx hb dX11_findSpared_59 rfl (lv_at hl 1 rfl) ?_
        refine lv_iconst (v := 1) hx hb dX11_findSpared_60 (by decide) ?_
        refine cGoL (wo := fun u => [cLockRail L0 h_reader (aR 0) (aR2 0) h_images h_slots n0 h_triedYear o0 C ] ++ (wRail aR C rs ra ++ (wRail aR2 C rs2 ra2 ++ (wNight n0 aN C ns na nl ++ ([cOb o0 C o_of]))))) (cRunVN (As := [.ref (aR2 0), .int x1_, .int 1]) (rest := [.int x1_, .ref o0]) ⟨hx, hb, hml, hown, hw⟩ hK hN hP hD [13, 14, 15, 7, 8, 9, 10, 11, 12] rfl rfl (k_X3_costOf l D C _ n0 aN aR2  ns na nl rs2 ra2 x1_ 1 h) ⟨va_cnB 3 hw (goodN mw_4_104) rfl rfl rfl (hN.m 52 rfl) (hw _ mw_1_11) (by decide +kernel) ⟨Nat.le_of_ble_eq_true rfl, Nat.le_of_ble_eq_true rfl⟩, hw _ mw_4_103, hw _ mw_s59⟩ rfl rfl rfl hl.1 rfl (Nat.le_of_ble_eq_true rfl) dX11_findSpared_61 ⟨Nat.zero_le _, Nat.zero_le _⟩) hP hD hS hA [13, 14, 15, 7, 8, 9, 10, 11, 12] [0, 1, 2, 3, 4, 5, 6, 16] [0, 1, 2, 3, 4, 5, 6, 11, 12, 13, 14, 15, 16, 8, 9, 10, 7] rfl rfl rfl (by decide) rfl (fun _ => rfl) (fun r11 u H locs h hP hD hS => ?_)
        have hP : va_P D vwCl (List.flatten ([cLockRail L0 h_reader (aR 0) (aR2 0) h_images h_slots n0 h_triedYear o0 C ] ++ (wRail aR C rs ra ++ (wRail aR2 C rs2 ra2 ++ (wNight n0 aN C ns na nl ++ ([cOb o0 C o_of])))))) H := hP
        have hD : va_D A (List.flatten ([cLockRail L0 h_reader (aR 0) (aR2 0) h_images h_slots n0 h_triedYear o0 C ] ++ (wRail aR C rs ra ++ (wRail aR2 C rs2 ra2 ++ (wNight n0 aN C ns na nl ++ ([cOb o0 C o_of])))))) := hD
        refine cLast hx hb hK hP hD hS 62 1 rfl rfl x1_.toNatClampNeg rfl h.1 dX11_findSpared_64 (fun H locs hP hD hS => ?_)
        have h := h.2
        refine lv_iinc (v := (x1_ + 1)) (lv' := [(1, .int (x1_ + 1)), (0, .ref L0)]) hx hb dX11_findSpared_65 hl (k := 1) rfl rfl (by decide) rfl (fun ls hl => ?_)
        refine lv_goto (tgt := 32) hx hb dX11_findSpared_68 (by decide) ?_
        have hP : va_P D vwCl (List.flatten ([cLockRail L0 h_reader (aR 0) (aR2 0) h_images h_slots n0 h_triedYear o0 C ] ++ (wRail aR C rs ra ++ (wRail aR2 C rs2 ra2 ++ (wNight n0 aN C ns na nl ++ ([cOb o0 C (vp_updL o_of x1_.toNatClampNeg r11)])))))) H := hP
        have hD : va_D A (List.flatten ([cLockRail L0 h_reader (aR 0) (aR2 0) h_images h_slots n0 h_triedYear o0 C ] ++ (wRail aR C rs ra ++ (wRail aR2 C rs2 ra2 ++ (wNight n0 aN C ns na nl ++ ([cOb o0 C (vp_updL o_of x1_.toNatClampNeg r11)])))))) := hD
        exact ih32 (x1_ + 1) (vp_updL o_of x1_.toNatClampNeg r11) aN _ _ _ h hP hD hS (lv_sub hl [1, 0] rfl)
  refine lv_aload_n hx hb dX11_findSpared_0 rfl (lv_at hl 0 rfl) ?_
  refine va_get (D := D) (ci := 11) (v := .ref (aR2 0)) (C := RX11) (T := TX11) (N := 8) hx hb hw inW_X11 hown hK hP 0 rfl rfl 2 (by decide) (hw _ mw_2_145) (fun _ h9 => h9) rfl dX11_findSpared_1 ?_
  refine lv_aload_n hx hb dX11_findSpared_4 rfl (lv_at hl 0 rfl) ?_
  refine va_get (D := D) (ci := 11) (v := .ref (aR 0)) (C := RX11) (T := TX11) (N := 8) hx hb hw inW_X11 hown hK hP 0 rfl rfl 1 (by decide) (hw _ mw_2_144) (fun _ h9 => h9) rfl dX11_findSpared_5 ?_
  refine cGoV (wo := fun u => [cLockRail L0 h_reader (aR 0) (aR2 0) h_images h_slots n0 h_triedYear o0 C ] ++ (wRail aR C rs ra ++ (wRail aR2 C u.1 u.2 ++ (wNight n0 aN C ns na nl ++ ([cOb o0 C o_of]))))) (cRunVN (As := [.ref (aR 0)]) (rest := []) ⟨hx, hb, hml, hown, hw⟩ hK hN hP hD [7, 8, 9, 10, 11, 12, 1, 2, 3, 4, 5, 6] rfl rfl (k_X4_copyFrom l D C _ aR2 aR  rs2 ra2 rs ra  h) ⟨va_cnB 1 hw (goodN mw_3_126) rfl rfl rfl (hN.m 23 rfl) (hw _ mw_1_4) (by decide +kernel) ⟨Nat.le_of_ble_eq_true rfl, Nat.le_of_ble_eq_true rfl⟩, hw _ mw_3_125, hw _ mw_s26⟩ rfl rfl rfl hl.1 rfl (Nat.le_of_ble_eq_true rfl) dX11_findSpared_8 ⟨Nat.zero_le _, Nat.zero_le _⟩) hP hD hS hA [7, 8, 9, 10, 11, 12, 1, 2, 3, 4, 5, 6] [0, 13, 14, 15, 16] [0, 11, 12, 13, 14, 15, 16, 5, 6, 7, 8, 9, 10, 1, 2, 3, 4] rfl rfl rfl (by decide) rfl (fun _ => rfl) (fun u H locs h hP hD hS => ?_)
  obtain ⟨rs_12, ra_13⟩ := u
  have hP : va_P D vwCl (List.flatten ([cLockRail L0 h_reader (aR 0) (aR2 0) h_images h_slots n0 h_triedYear o0 C ] ++ (wRail aR C rs ra ++ (wRail aR2 C rs_12 ra_13 ++ (wNight n0 aN C ns na nl ++ ([cOb o0 C o_of])))))) H := hP
  have hD : va_D A (List.flatten ([cLockRail L0 h_reader (aR 0) (aR2 0) h_images h_slots n0 h_triedYear o0 C ] ++ (wRail aR C rs ra ++ (wRail aR2 C rs_12 ra_13 ++ (wNight n0 aN C ns na nl ++ ([cOb o0 C o_of])))))) := hD
  refine lv_aload_n hx hb dX11_findSpared_11 rfl (lv_at hl 0 rfl) ?_
  refine va_get (D := D) (ci := 11) (v := .ref (aR2 0)) (C := RX11) (T := TX11) (N := 8) hx hb hw inW_X11 hown hK hP 0 rfl rfl 2 (by decide) (hw _ mw_2_145) (fun _ h9 => h9) rfl dX11_findSpared_12 ?_
  refine lv_iconst (v := 0) hx hb dX11_findSpared_15 (by decide) ?_
  refine va_putN (D := D) (ci := 4) (v := .int 0) (ty := .boolean) (C := RX4) (T := TX4) (N := 16) hx hb hw inW_X4 tyX4 tyX4_ok nmX4 hown hK hP hD hS 23 rfl rfl 14 (by decide) hn245 (fun _ h9 => h9) rfl (by decide +kernel) rfl rfl (Nat.le_of_ble_eq_true rfl) dX11_findSpared_16 (fun H locs hP hD hS => ?_)
  refine lv_aload_n hx hb dX11_findSpared_19 rfl (lv_at hl 0 rfl) ?_
  refine va_get (D := D) (ci := 11) (v := .ref n0) (C := RX11) (T := TX11) (N := 8) hx hb hw inW_X11 hown hK hP 0 rfl rfl 5 (by decide) (hw _ mw_2_148) (fun _ h9 => h9) rfl dX11_findSpared_20 ?_
  refine lv_aload_n hx hb dX11_findSpared_23 rfl (lv_at hl 0 rfl) ?_
  refine va_get (D := D) (ci := 11) (v := .ref (aR2 0)) (C := RX11) (T := TX11) (N := 8) hx hb hw inW_X11 hown hK hP 0 rfl rfl 2 (by decide) (hw _ mw_2_145) (fun _ h9 => h9) rfl dX11_findSpared_24 ?_
  have hP : va_P D vwCl (List.flatten ([cLockRail L0 h_reader (aR 0) (aR2 0) h_images h_slots n0 h_triedYear o0 C ] ++ (wRail aR C rs ra ++ (wRail aR2 C (va_up rs_12 10 0) ra_13 ++ (wNight n0 aN C ns na nl ++ ([cOb o0 C o_of])))))) H := hP
  have hD : va_D A (List.flatten ([cLockRail L0 h_reader (aR 0) (aR2 0) h_images h_slots n0 h_triedYear o0 C ] ++ (wRail aR C rs ra ++ (wRail aR2 C (va_up rs_12 10 0) ra_13 ++ (wNight n0 aN C ns na nl ++ ([cOb o0 C o_of])))))) := hD
  refine cGoV (wo := fun u => [cLockRail L0 h_reader (aR 0) (aR2 0) h_images h_slots n0 h_triedYear o0 C ] ++ (wRail aR C rs ra ++ (wRail aR2 C (va_up rs_12 10 0) ra_13 ++ (wNight n0 u.1 C u.2.1 u.2.2.1 u.2.2.2 ++ ([cOb o0 C o_of]))))) (cRunVN (As := [.ref (aR2 0)]) (rest := []) ⟨hx, hb, hml, hown, hw⟩ hK hN hP hD [13, 14, 15, 7, 8, 9, 10, 11, 12] rfl rfl (k_X3_play l D C _ n0 aN aR2  ns na nl (va_up rs_12 10 0) ra_13  h) ⟨va_cnB 1 hw (goodN mw_4_24) rfl rfl rfl (hN.m 45 rfl) (hw _ mw_1_11) (by decide +kernel) ⟨Nat.le_of_ble_eq_true rfl, Nat.le_of_ble_eq_true rfl⟩, hw _ mw_4_23, hw _ mw_s48⟩ rfl rfl rfl hl.1 rfl (Nat.le_of_ble_eq_true rfl) dX11_findSpared_27 ⟨Nat.zero_le _, Nat.zero_le _⟩) hP hD hS hA [13, 14, 15, 7, 8, 9, 10, 11, 12] [0, 1, 2, 3, 4, 5, 6, 16] [0, 1, 2, 3, 4, 5, 6, 11, 12, 13, 14, 15, 16, 8, 9, 10, 7] rfl rfl rfl (by decide) rfl (fun _ => rfl) (fun u H locs h hP hD hS => ?_)
  obtain ⟨aN14, ns_15, na_16, nl_17⟩ := u
  have hP : va_P D vwCl (List.flatten ([cLockRail L0 h_reader (aR 0) (aR2 0) h_images h_slots n0 h_triedYear o0 C ] ++ (wRail aR C rs ra ++ (wRail aR2 C (va_up rs_12 10 0) ra_13 ++ (wNight n0 aN14 C ns_15 na_16 nl_17 ++ ([cOb o0 C o_of])))))) H := hP
  have hD : va_D A (List.flatten ([cLockRail L0 h_reader (aR 0) (aR2 0) h_images h_slots n0 h_triedYear o0 C ] ++ (wRail aR C rs ra ++ (wRail aR2 C (va_up rs_12 10 0) ra_13 ++ (wNight n0 aN14 C ns_15 na_16 nl_17 ++ ([cOb o0 C o_of])))))) := hD
  refine lv_iconst (v := 0) hx hb dX11_findSpared_30 (by decide) ?_
  refine lv_istore_n (lv' := [(1, .int 0), (0, .ref L0)]) hx hb dX11_findSpared_31 rfl hl (by decide) rfl (fun ls hl => ?_)
  obtain ⟨n, h⟩ := h
  exact N32 (va_up rs_12 10 0) ra_13 ns_15 na_16 nl_17 n 0 o_of aN14 _ _ _ h hP hD hS (lv_sub hl [1, 0] rfl)
abbrev vsX11_enough : List Cond := Cond.code yX11_enough cX11_enough 5 (some .int) :: WS
abbrev rmX11_enough : Room := { frames := 5, cells := 0, slots := 0, locals := 129 }
set_option maxHeartbeats 4000000 in
set_option maxRecDepth 100000 in
theorem k_X11_enough (l : Launch) (D : va_G) (C : Nat → ClassId) (sz : Nat) (L0 : Nat) (aU : Nat → Nat) (aR : Nat → Nat) (aR2 : Nat → Nat) (aS : Nat → Nat) (n0 : Nat) (aN : Nat → Nat) (y0 : Nat) (y1 : Nat) (y2 : Nat) (o0 : Nat) (h_images : Nat) (us : Nat → Int32) (ua : Nat → Nat → Int32) (rs : Nat → Int32) (ra : Nat → Nat → Int32) (rs2 : Nat → Int32) (ra2 : Nat → Nat → Int32) (sa : Nat → Nat → Int32) (sl : Nat → Nat → Int64) (ns : Nat → Int32) (na : Nat → Nat → Int32) (nl : Nat → Nat → Int64) (y_isThere : Int32) (y_taken : Nat → Int32) (y_took : Nat → Int32) (o_of : Nat → Int64)  {post : Int32 → (Nat → Int32) → (Nat → Nat → Int32) → (Nat → Int32) → (Nat → Nat → Int32) → (Nat → Nat → Int64) → (Nat → Int64) → Prop} (h : P_X11_enough rs ra rs2 ra2 ns na nl o_of post) : Met l yX11_enough vsX11_enough rmX11_enough (cPre D C [.ref L0] sz ([cLockRail L0 (aU 0) (aR 0) (aR2 0) h_images (aS 0) n0 y0 o0 C ] ++ (wReader aU C us ua ++ (wRail aR C rs ra ++ (wRail aR2 C rs2 ra2 ++ (wSlots aS C sa sl ++ (wNight n0 aN C ns na nl ++ ([cYear y0 y1 y2 C y_isThere y_taken y_took] ++ ([cOb o0 C o_of]))))))))) (cQi D (fun (r : Int32) (u : (Nat → Nat) × (Nat → Int32) × (Nat → Nat → Int32) × (Nat → Int32) × (Nat → Nat → Int32) × (Nat → Nat → Int64) × (Nat → Int64)) => post r u.2.1 u.2.2.1 u.2.2.2.1 u.2.2.2.2.1 u.2.2.2.2.2.1 u.2.2.2.2.2.2) (fun u => [cLockRail L0 (aU 0) (aR 0) (aR2 0) h_images (aS 0) n0 y0 o0 C ] ++ (wReader aU C us ua ++ (wRail aR C rs ra ++ (wRail aR2 C u.2.1 u.2.2.1 ++ (wSlots aS C sa sl ++ (wNight n0 u.1 C u.2.2.2.1 u.2.2.2.2.1 u.2.2.2.2.2.1 ++ ([cYear y0 y1 y2 C y_isThere y_taken y_took] ++ ([cOb o0 C u.2.2.2.2.2.2])))))))) (va_A (List.flatten ([cLockRail L0 (aU 0) (aR 0) (aR2 0) h_images (aS 0) n0 y0 o0 C ] ++ (wReader aU C us ua ++ (wRail aR C rs ra ++ (wRail aR2 C rs2 ra2 ++ (wSlots aS C sa sl ++ (wNight n0 aN C ns na nl ++ ([cYear y0 y1 y2 C y_isThere y_taken y_took] ++ ([cOb o0 C o_of]))))))))) sz)) 0 0 (va_A (List.flatten ([cLockRail L0 (aU 0) (aR 0) (aR2 0) h_images (aS 0) n0 y0 o0 C ] ++ (wReader aU C us ua ++ (wRail aR C rs ra ++ (wRail aR2 C rs2 ra2 ++ (wSlots aS C sa sl ++ (wNight n0 aN C ns na nl ++ ([cYear y0 y1 y2 C y_isThere y_taken y_took] ++ ([cOb o0 C o_of]))))))))) sz) := by
  refine cStart (QA := fun A => cQi D (fun (r : Int32) (u : (Nat → Nat) × (Nat → Int32) × (Nat → Nat → Int32) × (Nat → Int32) × (Nat → Nat → Int32) × (Nat → Nat → Int64) × (Nat → Int64)) => post r u.2.1 u.2.2.1 u.2.2.2.1 u.2.2.2.2.1 u.2.2.2.2.2.1 u.2.2.2.2.2.2) (fun u => [cLockRail L0 (aU 0) (aR 0) (aR2 0) h_images (aS 0) n0 y0 o0 C ] ++ (wReader aU C us ua ++ (wRail aR C rs ra ++ (wRail aR2 C u.2.1 u.2.2.1 ++ (wSlots aS C sa sl ++ (wNight n0 u.1 C u.2.2.2.1 u.2.2.2.2.1 u.2.2.2.2.2.1 ++ ([cYear y0 y1 y2 C y_isThere y_taken y_took] ++ ([cOb o0 C u.2.2.2.2.2.2])))))))) A) (cc := cX11_enough) (maxL := 5) (ret := (some .int)) (by decide) (Nat.le_of_ble_eq_true rfl) ?_
  intro p e s m args below meth c A ls hx hb hr hml hown hw hlocks hname hK hN hA hP hD hS hl
  generalize hQ : MQ below _ args s 0 0 A = Q
  have hl : lv_has ls 5 [(0, .ref L0)] := hl
  have hn97 : (Cond.fieldLinkNest "LockRail" 97 "LockRail$Rail" "bikes" "LLockRail$Bikes;" "LockRail").before args s = true := hN.f 61 rfl
  have hn161 : (Cond.fieldLinkNest "LockRail" 161 "LockRail$Bikes" "count" "I" "LockRail").before args s = true := hN.f 20 rfl
  have hn241 : (Cond.fieldLinkNest "LockRail" 241 "LockRail$Rail" "watchTold" "Z" "LockRail").before args s = true := hN.f 70 rfl
  obtain ⟨H, hH⟩ : ∃ H, H = s.heap := ⟨_, rfl⟩
  obtain ⟨locs, hlo⟩ : ∃ z : List Loc, z = [] := ⟨_, rfl⟩
  have hP : va_P D vwCl (List.flatten ([cLockRail L0 (aU 0) (aR 0) (aR2 0) h_images (aS 0) n0 y0 o0 C ] ++ (wReader aU C us ua ++ (wRail aR C rs ra ++ (wRail aR2 C rs2 ra2 ++ (wSlots aS C sa sl ++ (wNight n0 aN C ns na nl ++ ([cYear y0 y1 y2 C y_isThere y_taken y_took] ++ ([cOb o0 C o_of]))))))))) H := by rw [hH]; exact hP
  have hS : va_S A s.heap H locs := by rw [hH, hlo]; exact hS
  rw [show W p l e rmX11_enough s m args below meth c s.heap [] 0 0 Q (F0 m 0 ls []) = W p l e rmX11_enough s m args below meth c H locs 0 0 Q (F0 m 0 ls []) from by rw [hH, hlo]]
  have N70 : ∀ (x1_ : Int32) (x2_ : Int64) (rs2 : Nat → Int32) (ra2 : Nat → Nat → Int32) (ns : Nat → Int32) (na : Nat → Nat → Int32) (nl : Nat → Nat → Int64) (o_of : Nat → Int64) (aN : Nat → Nat) (H : Heap) (locs : List Loc) (ls : Array Slot), P_X11_enough_70 rs ra post  x1_ x2_ rs2 ra2 ns na nl o_of → va_P D vwCl (List.flatten ([cLockRail L0 (aU 0) (aR 0) (aR2 0) h_images (aS 0) n0 y0 o0 C ] ++ (wReader aU C us ua ++ (wRail aR C rs ra ++ (wRail aR2 C rs2 ra2 ++ (wSlots aS C sa sl ++ (wNight n0 aN C ns na nl ++ ([cYear y0 y1 y2 C y_isThere y_taken y_took] ++ ([cOb o0 C o_of]))))))))) H → va_D A (List.flatten ([cLockRail L0 (aU 0) (aR 0) (aR2 0) h_images (aS 0) n0 y0 o0 C ] ++ (wReader aU C us ua ++ (wRail aR C rs ra ++ (wRail aR2 C rs2 ra2 ++ (wSlots aS C sa sl ++ (wNight n0 aN C ns na nl ++ ([cYear y0 y1 y2 C y_isThere y_taken y_took] ++ ([cOb o0 C o_of]))))))))) → va_S A s.heap H locs → lv_has ls 5 [(0, .ref L0), (1, .int x1_), (2, .long x2_)] → W p l e rmX11_enough s m args below meth c H locs 0 0 Q (F0 m 70 ls []) := by
    intro x1_ x2_ rs2 ra2 ns na nl o_of aN H locs ls h hP hD hS hl
    refine lv_lload_n hx hb dX11_enough_70 rfl (lv_at hl 2 rfl) ?_
    refine lv_aload_n hx hb dX11_enough_71 rfl (lv_at hl 0 rfl) ?_
    refine va_get (D := D) (ci := 11) (v := .ref (aR 0)) (C := RX11) (T := TX11) (N := 8) hx hb hw inW_X11 hown hK hP 0 rfl rfl 1 (by decide) (hw _ mw_2_144) (fun _ h9 => h9) rfl dX11_enough_72 ?_
    refine cGoL (wo := fun u => [cLockRail L0 (aU 0) (aR 0) (aR2 0) h_images (aS 0) n0 y0 o0 C ] ++ (wReader aU C us ua ++ (wRail aR C rs ra ++ (wRail aR2 C rs2 ra2 ++ (wSlots aS C sa sl ++ (wNight n0 aN C ns na nl ++ ([cYear y0 y1 y2 C y_isThere y_taken y_took] ++ ([cOb o0 C o_of])))))))) (cRunVN (As := []) (rest := [.long x2_]) ⟨hx, hb, hml, hown, hw⟩ hK hN hP hD [3, 4, 5, 6, 7, 8] rfl rfl (k_X4_wages l D C _ aR  rs ra  h) ⟨va_cnB 0 hw (goodN mw_4_119) rfl rfl rfl (hN.m 62 rfl) (hw _ mw_1_4) (by decide +kernel) ⟨Nat.le_of_ble_eq_true rfl, Nat.le_of_ble_eq_true rfl⟩, hw _ mw_4_118, hw _ mw_s62⟩ rfl rfl rfl hl.1 rfl (Nat.le_of_ble_eq_true rfl) dX11_enough_75 ⟨Nat.zero_le _, Nat.zero_le _⟩) hP hD hS hA [3, 4, 5, 6, 7, 8] [0, 1, 2, 9, 10, 11, 12, 13, 14, 15, 16, 17, 18, 19, 20] [0, 1, 2, 15, 16, 17, 18, 19, 20, 3, 4, 5, 6, 7, 8, 9, 10, 11, 12, 13, 14] rfl rfl rfl (by decide) rfl (fun _ => rfl) (fun r1 u H locs h hP hD hS => ?_)
    have hP : va_P D vwCl (List.flatten ([cLockRail L0 (aU 0) (aR 0) (aR2 0) h_images (aS 0) n0 y0 o0 C ] ++ (wReader aU C us ua ++ (wRail aR C rs ra ++ (wRail aR2 C rs2 ra2 ++ (wSlots aS C sa sl ++ (wNight n0 aN C ns na nl ++ ([cYear y0 y1 y2 C y_isThere y_taken y_took] ++ ([cOb o0 C o_of]))))))))) H := hP
    have hD : va_D A (List.flatten ([cLockRail L0 (aU 0) (aR 0) (aR2 0) h_images (aS 0) n0 y0 o0 C ] ++ (wReader aU C us ua ++ (wRail aR C rs ra ++ (wRail aR2 C rs2 ra2 ++ (wSlots aS C sa sl ++ (wNight n0 aN C ns na nl ++ ([cYear y0 y1 y2 C y_isThere y_taken y_took] ++ ([cOb o0 C o_of]))))))))) := hD
    refine W.lcmp hx hb dX11_enough_78 ?_
    refine lv_if_lt (tgt := 86) hx hb dX11_enough_79 (by decide) (fun c2 => ?_) (fun c2 => ?_)
    · have c2 : x2_ < r1 := (lg_cmp_lt _ _).mp c2
      have h := h.1 c2
      refine lv_iconst (v := (-1)) hx hb dX11_enough_86 (by decide) ?_
      rw [← hQ]
      exact cRetI (v := (-1)) (aN, rs2, ra2, ns, na, nl, o_of) hx hb hr hlocks hS hP hD h dX11_enough_87
    · have c2 : ¬ x2_ < r1 := fun q => c2 ((lg_cmp_lt _ _).mpr q)
      have h := h.2 c2
      refine lv_iload_n hx hb dX11_enough_82 rfl (lv_at hl 1 rfl) ?_
      refine lv_goto (tgt := 87) hx hb dX11_enough_83 (by decide) ?_
      rw [← hQ]
      exact cRetI (v := x1_) (aN, rs2, ra2, ns, na, nl, o_of) hx hb hr hlocks hS hP hD h dX11_enough_87
  have N24 : ∀ (rs2 : Nat → Int32) (ra2 : Nat → Nat → Int32) (ns : Nat → Int32) (na : Nat → Nat → Int32) (nl : Nat → Nat → Int64) (o_of : Nat → Int64) (n24 : Nat) (x1_ : Int32) (x2_ : Int64) (x4_ : Int32) (aN : Nat → Nat) (H : Heap) (locs : List Loc) (ls : Array Slot), P_X11_enough_24 rs ra post (fun (x1_ : Int32) (x2_ : Int64) (rs2 : Nat → Int32) (ra2 : Nat → Nat → Int32) (ns : Nat → Int32) (na : Nat → Nat → Int32) (nl : Nat → Nat → Int64) (o_of : Nat → Int64) => P_X11_enough_70 rs ra post  x1_ x2_ rs2 ra2 ns na nl o_of) rs2 ra2 ns na nl o_of n24 x1_ x2_ x4_ → va_P D vwCl (List.flatten ([cLockRail L0 (aU 0) (aR 0) (aR2 0) h_images (aS 0) n0 y0 o0 C ] ++ (wReader aU C us ua ++ (wRail aR C rs ra ++ (wRail aR2 C rs2 ra2 ++ (wSlots aS C sa sl ++ (wNight n0 aN C ns na nl ++ ([cYear y0 y1 y2 C y_isThere y_taken y_took] ++ ([cOb o0 C o_of]))))))))) H → va_D A (List.flatten ([cLockRail L0 (aU 0) (aR 0) (aR2 0) h_images (aS 0) n0 y0 o0 C ] ++ (wReader aU C us ua ++ (wRail aR C rs ra ++ (wRail aR2 C rs2 ra2 ++ (wSlots aS C sa sl ++ (wNight n0 aN C ns na nl ++ ([cYear y0 y1 y2 C y_isThere y_taken y_took] ++ ([cOb o0 C o_of]))))))))) → va_S A s.heap H locs → lv_has ls 5 [(0, .ref L0), (1, .int x1_), (2, .long x2_), (4, .int x4_)] → W p l e rmX11_enough s m args below meth c H locs 0 0 Q (F0 m 24 ls []) := by
    intro rs2 ra2 ns na nl o_of
    intro n24
    induction n24 with
    | zero => intro x1_ x2_ x4_ aN H locs ls h hP hD hS hl; exact False.elim h
    | succ n24 ih24 =>
      intro x1_ x2_ x4_ aN H locs ls h hP hD hS hl
      refine lv_iload hx hb dX11_enough_24 (lv_at hl 3 rfl) ?_
      refine lv_aload_n hx hb dX11_enough_26 rfl (lv_at hl 0 rfl) ?_
      refine va_get (D := D) (ci := 11) (v := .ref (aR 0)) (C := RX11) (T := TX11) (N := 8) hx hb hw inW_X11 hown hK hP 0 rfl rfl 1 (by decide) (hw _ mw_2_144) (fun _ h9 => h9) rfl dX11_enough_27 ?_
      refine va_getN (D := D) (ci := 4) (v := .ref (aR 7)) (C := RX4) (T := TX4) (N := 16) hx hb hw inW_X4 hown hK hP 4 rfl rfl 5 (by decide) hn97 (fun _ h9 => h9) rfl dX11_enough_30 ?_
      refine va_getN (D := D) (ci := 0) (v := .int (rs 13)) (C := RX0) (T := TX0) (N := 6) hx hb hw inW_X0 hown hK hP 11 rfl rfl 0 (by decide) hn161 (fun _ h9 => h9) rfl dX11_enough_33 ?_
      refine lv_icmp_ge (tgt := 70) hx hb dX11_enough_36 (by decide) (fun c3 => ?_) (fun c3 => ?_)
      · have h := h.1 c3
        exact N70 x1_ x2_ rs2 ra2 ns na nl o_of aN _ _ _ h hP hD hS (lv_sub hl [0, 1, 2] rfl)
      · have h := h.2 c3
        refine lv_lload_n hx hb dX11_enough_39 rfl (lv_at hl 2 rfl) ?_
        refine lv_aload_n hx hb dX11_enough_40 rfl (lv_at hl 0 rfl) ?_
        refine va_get (D := D) (ci := 11) (v := .ref (aR 0)) (C := RX11) (T := TX11) (N := 8) hx hb hw inW_X11 hown hK hP 0 rfl rfl 1 (by decide) (hw _ mw_2_144) (fun _ h9 => h9) rfl dX11_enough_41 ?_
        refine cGoL (wo := fun u => [cLockRail L0 (aU 0) (aR 0) (aR2 0) h_images (aS 0) n0 y0 o0 C ] ++ (wReader aU C us ua ++ (wRail aR C rs ra ++ (wRail aR2 C rs2 ra2 ++ (wSlots aS C sa sl ++ (wNight n0 aN C ns na nl ++ ([cYear y0 y1 y2 C y_isThere y_taken y_took] ++ ([cOb o0 C o_of])))))))) (cRunVN (As := []) (rest := [.long x2_]) ⟨hx, hb, hml, hown, hw⟩ hK hN hP hD [3, 4, 5, 6, 7, 8] rfl rfl (k_X4_wages l D C _ aR  rs ra  h) ⟨va_cnB 0 hw (goodN mw_4_119) rfl rfl rfl (hN.m 62 rfl) (hw _ mw_1_4) (by decide +kernel) ⟨Nat.le_of_ble_eq_true rfl, Nat.le_of_ble_eq_true rfl⟩, hw _ mw_4_118, hw _ mw_s62⟩ rfl rfl rfl hl.1 rfl (Nat.le_of_ble_eq_true rfl) dX11_enough_44 ⟨Nat.zero_le _, Nat.zero_le _⟩) hP hD hS hA [3, 4, 5, 6, 7, 8] [0, 1, 2, 9, 10, 11, 12, 13, 14, 15, 16, 17, 18, 19, 20] [0, 1, 2, 15, 16, 17, 18, 19, 20, 3, 4, 5, 6, 7, 8, 9, 10, 11, 12, 13, 14] rfl rfl rfl (by decide) rfl (fun _ => rfl) (fun r4 u H locs h hP hD hS => ?_)
        have hP : va_P D vwCl (List.flatten ([cLockRail L0 (aU 0) (aR 0) (aR2 0) h_images (aS 0) n0 y0 o0 C ] ++ (wReader aU C us ua ++ (wRail aR C rs ra ++ (wRail aR2 C rs2 ra2 ++ (wSlots aS C sa sl ++ (wNight n0 aN C ns na nl ++ ([cYear y0 y1 y2 C y_isThere y_taken y_took] ++ ([cOb o0 C o_of]))))))))) H := hP
        have hD : va_D A (List.flatten ([cLockRail L0 (aU 0) (aR 0) (aR2 0) h_images (aS 0) n0 y0 o0 C ] ++ (wReader aU C us ua ++ (wRail aR C rs ra ++ (wRail aR2 C rs2 ra2 ++ (wSlots aS C sa sl ++ (wNight n0 aN C ns na nl ++ ([cYear y0 y1 y2 C y_isThere y_taken y_took] ++ ([cOb o0 C o_of]))))))))) := hD
        refine W.lcmp hx hb dX11_enough_47 ?_
        refine lv_if_ge (tgt := 70) hx hb dX11_enough_48 (by decide) (fun c5 => ?_) (fun c5 => ?_)
        · have c5 : r4 ≤ x2_ := (lg_cmp_ge _ _).mp c5
          have h := h.1 c5
          exact N70 x1_ x2_ rs2 ra2 ns na nl o_of aN _ _ _ h hP hD hS (lv_sub hl [0, 1, 2] rfl)
        · have c5 : ¬ r4 ≤ x2_ := fun q => c5 ((lg_cmp_ge _ _).mpr q)
          have h := h.2 c5
          refine lv_lload_n hx hb dX11_enough_51 rfl (lv_at hl 2 rfl) ?_
          refine lv_aload_n hx hb dX11_enough_52 rfl (lv_at hl 0 rfl) ?_
          refine va_get (D := D) (ci := 11) (v := .ref o0) (C := RX11) (T := TX11) (N := 8) hx hb hw inW_X11 hown hK hP 0 rfl rfl 7 (by decide) (hw _ mw_2_150) (fun _ h9 => h9) rfl dX11_enough_53 ?_
          refine lv_iload hx hb dX11_enough_56 (lv_at hl 3 rfl) ?_
          refine cLald hx hb hK hP 72 1 rfl rfl x4_.toNatClampNeg rfl h.1 dX11_enough_58 ?_
          have h := h.2
          refine lv_ladd hx hb dX11_enough_59 ?_
          refine lv_topl (fun x6 ex6 => ?_)
          have h := h x6 ex6
          refine lv_lstore_n (lv' := [(2, .long x6), (0, .ref L0), (1, .int x1_), (4, .int x4_)]) hx hb dX11_enough_60 rfl hl (by decide) rfl (fun ls hl => ?_)
          refine lv_iinc (v := (x1_ + 1)) (lv' := [(1, .int (x1_ + 1)), (2, .long x6), (0, .ref L0), (4, .int x4_)]) hx hb dX11_enough_61 hl (k := 2) rfl rfl (by decide) rfl (fun ls hl => ?_)
          refine lv_iinc (v := (x4_ + 1)) (lv' := [(4, .int (x4_ + 1)), (1, .int (x1_ + 1)), (2, .long x6), (0, .ref L0)]) hx hb dX11_enough_64 hl (k := 3) rfl rfl (by decide) rfl (fun ls hl => ?_)
          refine lv_goto (tgt := 24) hx hb dX11_enough_67 (by decide) ?_
          exact ih24 (x1_ + 1) x6 (x4_ + 1) aN _ _ _ h hP hD hS (lv_sub hl [3, 1, 2, 0] rfl)
  refine lv_aload_n hx hb dX11_enough_0 rfl (lv_at hl 0 rfl) ?_
  refine va_get (D := D) (ci := 11) (v := .ref (aR 0)) (C := RX11) (T := TX11) (N := 8) hx hb hw inW_X11 hown hK hP 0 rfl rfl 1 (by decide) (hw _ mw_2_144) (fun _ h9 => h9) rfl dX11_enough_1 ?_
  refine va_getN (D := D) (ci := 4) (v := .int (rs 7)) (C := RX4) (T := TX4) (N := 16) hx hb hw inW_X4 hown hK hP 4 rfl rfl 11 (by decide) hn241 (fun _ h9 => h9) rfl dX11_enough_4 ?_
  refine lv_if_ne (tgt := 13) hx hb dX11_enough_7 (by decide) (fun c7 => ?_) (fun c7 => ?_)
  · have h := h.1 c7
    refine lv_aload_n hx hb dX11_enough_13 rfl (lv_at hl 0 rfl) ?_
    refine cGoV (wo := fun u => [cLockRail L0 (aU 0) (aR 0) (aR2 0) h_images (aS 0) n0 y0 o0 C ] ++ (wReader aU C us ua ++ (wRail aR C rs ra ++ (wRail aR2 C u.2.1 u.2.2.1 ++ (wSlots aS C sa sl ++ (wNight n0 u.1 C u.2.2.2.1 u.2.2.2.2.1 u.2.2.2.2.2.1 ++ ([cYear y0 y1 y2 C y_isThere y_taken y_took] ++ ([cOb o0 C u.2.2.2.2.2.2])))))))) (cRunV (As := []) (rest := []) ⟨hx, hb, hml, hown, hw⟩ hK hN hP hD [0, 3, 4, 5, 6, 7, 8, 9, 10, 11, 12, 13, 14, 16, 17, 18, 20] rfl rfl (k_X11_findSpared l D C _ L0 aR aR2 n0 aN o0 (aU 0) h_images (aS 0) y0  rs ra rs2 ra2 ns na nl o_of  h) (cwV 0 hw (goodV mw_5_41 mw_5_43 mw_s77 mw_1_1 mw_5_44) rfl rfl rfl (by decide +kernel) ⟨Nat.le_of_ble_eq_true rfl, Nat.le_of_ble_eq_true rfl⟩) rfl rfl rfl hl.1 rfl (Nat.le_of_ble_eq_true rfl) dX11_enough_14 ⟨Nat.zero_le _, Nat.zero_le _⟩) hP hD hS hA [0, 3, 4, 5, 6, 7, 8, 9, 10, 11, 12, 13, 14, 16, 17, 18, 20] [1, 2, 15, 19] [4, 0, 1, 5, 6, 7, 8, 9, 10, 11, 12, 13, 14, 15, 16, 2, 17, 18, 19, 3, 20] rfl rfl rfl (by decide) rfl (fun _ => rfl) (fun u H locs h hP hD hS => ?_)
    obtain ⟨aN8, rs_9, ra_10, ns_11, na_12, nl_13, of_14⟩ := u
    have hP : va_P D vwCl (List.flatten ([cLockRail L0 (aU 0) (aR 0) (aR2 0) h_images (aS 0) n0 y0 o0 C ] ++ (wReader aU C us ua ++ (wRail aR C rs ra ++ (wRail aR2 C rs_9 ra_10 ++ (wSlots aS C sa sl ++ (wNight n0 aN8 C ns_11 na_12 nl_13 ++ ([cYear y0 y1 y2 C y_isThere y_taken y_took] ++ ([cOb o0 C of_14]))))))))) H := hP
    have hD : va_D A (List.flatten ([cLockRail L0 (aU 0) (aR 0) (aR2 0) h_images (aS 0) n0 y0 o0 C ] ++ (wReader aU C us ua ++ (wRail aR C rs ra ++ (wRail aR2 C rs_9 ra_10 ++ (wSlots aS C sa sl ++ (wNight n0 aN8 C ns_11 na_12 nl_13 ++ ([cYear y0 y1 y2 C y_isThere y_taken y_took] ++ ([cOb o0 C of_14]))))))))) := hD
    refine lv_iconst (v := 0) hx hb dX11_enough_17 (by decide) ?_
    refine lv_istore_n (lv' := [(1, .int 0), (0, .ref L0)]) hx hb dX11_enough_18 rfl hl (by decide) rfl (fun ls hl => ?_)
    refine lv_lconst (v := 0) hx hb dX11_enough_19 (by decide) ?_
    refine lv_lstore_n (lv' := [(2, .long 0), (1, .int 0), (0, .ref L0)]) hx hb dX11_enough_20 rfl hl (by decide) rfl (fun ls hl => ?_)
    refine lv_iconst (v := 0) hx hb dX11_enough_21 (by decide) ?_
    refine lv_istore (lv' := [(4, .int 0), (2, .long 0), (1, .int 0), (0, .ref L0)]) hx hb dX11_enough_22 hl (by decide) rfl (fun ls hl => ?_)
    obtain ⟨n, h⟩ := h
    exact N24 rs_9 ra_10 ns_11 na_12 nl_13 of_14 n 0 0 0 aN8 _ _ _ h hP hD hS (lv_sub hl [3, 2, 1, 0] rfl)
  · have h := h.2 c7
    refine lv_bipush (v := (-2)) hx hb dX11_enough_10 (by decide) ?_
    rw [← hQ]
    exact cRetI (v := (-2)) (aN, rs2, ra2, ns, na, nl, o_of) hx hb hr hlocks hS hP hD h dX11_enough_12
abbrev vsX11_anyWanted : List Cond := Cond.code yX11_anyWanted cX11_anyWanted 3 (some .boolean) :: WS
abbrev rmX11_anyWanted : Room := { frames := 4, cells := 0, slots := 0, locals := 98 }
set_option maxHeartbeats 4000000 in
set_option maxRecDepth 100000 in
theorem k_X11_anyWanted (l : Launch) (D : va_G) (C : Nat → ClassId) (sz : Nat) (L0 : Nat) (aR0 : Nat → Nat) (n0 : Nat) (aN : Nat → Nat) (h_reader : Nat) (h_rail : Nat) (h_trial : Nat) (h_images : Nat) (h_slots : Nat) (h_triedYear : Nat) (h_ofBikes : Nat) (rs0 : Nat → Int32) (ra0 : Nat → Nat → Int32) (ns : Nat → Int32) (na : Nat → Nat → Int32) (nl : Nat → Nat → Int64)  {post : Int32 → (Nat → Int32) → (Nat → Nat → Int32) → Prop} (h : P_X11_anyWanted rs0 ra0 ns na post) : Met l yX11_anyWanted vsX11_anyWanted rmX11_anyWanted (cPre D C [.ref L0, .ref (aR0 0)] sz ([cLockRail L0 h_reader h_rail h_trial h_images h_slots n0 h_triedYear h_ofBikes C ] ++ (wRail aR0 C rs0 ra0 ++ (wNight n0 aN C ns na nl)))) (cQi D (fun (r : Int32) (u : (Nat → Int32) × (Nat → Nat → Int32)) => post r u.1 u.2) (fun u => [cLockRail L0 h_reader h_rail h_trial h_images h_slots n0 h_triedYear h_ofBikes C ] ++ (wRail aR0 C rs0 ra0 ++ (wNight n0 aN C u.1 u.2 nl))) (va_A (List.flatten ([cLockRail L0 h_reader h_rail h_trial h_images h_slots n0 h_triedYear h_ofBikes C ] ++ (wRail aR0 C rs0 ra0 ++ (wNight n0 aN C ns na nl)))) sz)) 0 0 (va_A (List.flatten ([cLockRail L0 h_reader h_rail h_trial h_images h_slots n0 h_triedYear h_ofBikes C ] ++ (wRail aR0 C rs0 ra0 ++ (wNight n0 aN C ns na nl)))) sz) := by
  refine cStart (QA := fun A => cQi D (fun (r : Int32) (u : (Nat → Int32) × (Nat → Nat → Int32)) => post r u.1 u.2) (fun u => [cLockRail L0 h_reader h_rail h_trial h_images h_slots n0 h_triedYear h_ofBikes C ] ++ (wRail aR0 C rs0 ra0 ++ (wNight n0 aN C u.1 u.2 nl))) A) (cc := cX11_anyWanted) (maxL := 3) (ret := (some .boolean)) (by decide) (Nat.le_of_ble_eq_true rfl) ?_
  intro p e s m args below meth c A ls hx hb hr hml hown hw hlocks hname hK hN hA hP hD hS hl
  generalize hQ : MQ below _ args s 0 0 A = Q
  have hl : lv_has ls 3 [(0, .ref L0), (1, .ref (aR0 0))] := hl
  have hn279 : (Cond.fieldLinkNest "LockRail" 279 "LockRail$Rail" "thieves" "LLockRail$Thieves;" "LockRail").before args s = true := hN.f 64 rfl
  have hn283 : (Cond.fieldLinkNest "LockRail" 283 "LockRail$Thieves" "count" "I" "LockRail").before args s = true := hN.f 35 rfl
  obtain ⟨H, hH⟩ : ∃ H, H = s.heap := ⟨_, rfl⟩
  obtain ⟨locs, hlo⟩ : ∃ z : List Loc, z = [] := ⟨_, rfl⟩
  have hP : va_P D vwCl (List.flatten ([cLockRail L0 h_reader h_rail h_trial h_images h_slots n0 h_triedYear h_ofBikes C ] ++ (wRail aR0 C rs0 ra0 ++ (wNight n0 aN C ns na nl)))) H := by rw [hH]; exact hP
  have hS : va_S A s.heap H locs := by rw [hH, hlo]; exact hS
  rw [show W p l e rmX11_anyWanted s m args below meth c s.heap [] 0 0 Q (F0 m 0 ls []) = W p l e rmX11_anyWanted s m args below meth c H locs 0 0 Q (F0 m 0 ls []) from by rw [hH, hlo]]
  have N10 : ∀ (ns : Nat → Int32) (na : Nat → Nat → Int32) (n10 : Nat) (x2_ : Int32) (H : Heap) (locs : List Loc) (ls : Array Slot), P_X11_anyWanted_10 rs0 ra0 post  ns na n10 x2_ → va_P D vwCl (List.flatten ([cLockRail L0 h_reader h_rail h_trial h_images h_slots n0 h_triedYear h_ofBikes C ] ++ (wRail aR0 C rs0 ra0 ++ (wNight n0 aN C ns na nl)))) H → va_D A (List.flatten ([cLockRail L0 h_reader h_rail h_trial h_images h_slots n0 h_triedYear h_ofBikes C ] ++ (wRail aR0 C rs0 ra0 ++ (wNight n0 aN C ns na nl)))) → va_S A s.heap H locs → lv_has ls 3 [(0, .ref L0), (1, .ref (aR0 0)), (2, .int x2_)] → W p l e rmX11_anyWanted s m args below meth c H locs 0 0 Q (F0 m 10 ls []) := by
    intro ns na
    intro n10
    induction n10 with
    | zero => intro x2_ H locs ls h hP hD hS hl; exact False.elim h
    | succ n10 ih10 =>
      intro x2_ H locs ls h hP hD hS hl
      refine lv_iload_n hx hb dX11_anyWanted_10 rfl (lv_at hl 2 rfl) ?_
      refine lv_aload_n hx hb dX11_anyWanted_11 rfl (lv_at hl 1 rfl) ?_
      refine va_getN (D := D) (ci := 4) (v := .ref (aR0 13)) (C := RX4) (T := TX4) (N := 16) hx hb hw inW_X4 hown hK hP 1 rfl rfl 6 (by decide) hn279 (fun _ h9 => h9) rfl dX11_anyWanted_12 ?_
      refine va_getN (D := D) (ci := 9) (v := .int (rs0 14)) (C := RX9) (T := TX9) (N := 6) hx hb hw inW_X9 hown hK hP 14 rfl rfl 0 (by decide) hn283 (fun _ h9 => h9) rfl dX11_anyWanted_15 ?_
      refine lv_icmp_ge (tgt := 41) hx hb dX11_anyWanted_18 (by decide) (fun c1 => ?_) (fun c1 => ?_)
      · have h := h.1 c1
        refine lv_iconst (v := 0) hx hb dX11_anyWanted_41 (by decide) ?_
        rw [← hQ]
        exact cRetZ (v := 0) (ns, na) hx hb hr hlocks hS hP hD (Or.inl rfl) h dX11_anyWanted_42
      · have h := h.2 c1
        refine lv_aload_n hx hb dX11_anyWanted_21 rfl (lv_at hl 0 rfl) ?_
        refine va_get (D := D) (ci := 11) (v := .ref n0) (C := RX11) (T := TX11) (N := 8) hx hb hw inW_X11 hown hK hP 0 rfl rfl 5 (by decide) (hw _ mw_2_148) (fun _ h9 => h9) rfl dX11_anyWanted_22 ?_
        refine lv_aload_n hx hb dX11_anyWanted_25 rfl (lv_at hl 1 rfl) ?_
        refine lv_iload_n hx hb dX11_anyWanted_26 rfl (lv_at hl 2 rfl) ?_
        refine cGoI (wo := fun u => [cLockRail L0 h_reader h_rail h_trial h_images h_slots n0 h_triedYear h_ofBikes C ] ++ (wRail aR0 C rs0 ra0 ++ (wNight n0 aN C ns na nl))) (cRunVN (As := [.ref (aR0 0), .int x2_]) (rest := []) ⟨hx, hb, hml, hown, hw⟩ hK hN hP hD [7, 8, 9, 1, 2, 3, 4, 5, 6] rfl rfl (k_X3_wantedBy l D C _ n0 aN aR0  ns na nl rs0 ra0 x2_ h) ⟨va_cnB 2 hw (goodN mw_4_7) rfl rfl rfl (hN.m 43 rfl) (hw _ mw_1_11) (by decide +kernel) ⟨Nat.le_of_ble_eq_true rfl, Nat.le_of_ble_eq_true rfl⟩, hw _ mw_4_6, hw _ mw_s45⟩ rfl rfl rfl hl.1 rfl (Nat.le_of_ble_eq_true rfl) dX11_anyWanted_27 ⟨Nat.zero_le _, Nat.zero_le _⟩) hP hD hS hA [7, 8, 9, 1, 2, 3, 4, 5, 6] [0] [0, 4, 5, 6, 7, 8, 9, 1, 2, 3] rfl rfl rfl (by decide) rfl (fun _ => rfl) (fun r2 u H locs h hP hD hS => ?_)
        have hP : va_P D vwCl (List.flatten ([cLockRail L0 h_reader h_rail h_trial h_images h_slots n0 h_triedYear h_ofBikes C ] ++ (wRail aR0 C rs0 ra0 ++ (wNight n0 aN C ns na nl)))) H := hP
        have hD : va_D A (List.flatten ([cLockRail L0 h_reader h_rail h_trial h_images h_slots n0 h_triedYear h_ofBikes C ] ++ (wRail aR0 C rs0 ra0 ++ (wNight n0 aN C ns na nl)))) := hD
        refine lv_if_le (tgt := 35) hx hb dX11_anyWanted_30 (by decide) (fun c3 => ?_) (fun c3 => ?_)
        · have h := h.1 c3
          refine lv_iinc (v := (x2_ + 1)) (lv' := [(2, .int (x2_ + 1)), (0, .ref L0), (1, .ref (aR0 0))]) hx hb dX11_anyWanted_35 hl (k := 2) rfl rfl (by decide) rfl (fun ls hl => ?_)
          refine lv_goto (tgt := 10) hx hb dX11_anyWanted_38 (by decide) ?_
          exact ih10 (x2_ + 1) _ _ _ h hP hD hS (lv_sub hl [1, 2, 0] rfl)
        · have h := h.2 c3
          refine lv_iconst (v := 1) hx hb dX11_anyWanted_33 (by decide) ?_
          rw [← hQ]
          exact cRetZ (v := 1) (ns, na) hx hb hr hlocks hS hP hD (Or.inr rfl) h dX11_anyWanted_34
  refine lv_aload_n hx hb dX11_anyWanted_0 rfl (lv_at hl 0 rfl) ?_
  refine va_get (D := D) (ci := 11) (v := .ref n0) (C := RX11) (T := TX11) (N := 8) hx hb hw inW_X11 hown hK hP 0 rfl rfl 5 (by decide) (hw _ mw_2_148) (fun _ h9 => h9) rfl dX11_anyWanted_1 ?_
  refine lv_aload_n hx hb dX11_anyWanted_4 rfl (lv_at hl 1 rfl) ?_
  refine cGoV (wo := fun u => [cLockRail L0 h_reader h_rail h_trial h_images h_slots n0 h_triedYear h_ofBikes C ] ++ (wRail aR0 C rs0 ra0 ++ (wNight n0 aN C u.1 u.2 nl))) (cRunVN (As := [.ref (aR0 0)]) (rest := []) ⟨hx, hb, hml, hown, hw⟩ hK hN hP hD [7, 8, 9, 1, 2, 3, 4, 5, 6] rfl rfl (k_X3_lookAt l D C _ n0 aN aR0  ns na nl rs0 ra0  h) ⟨va_cnB 1 hw (goodN mw_3_219) rfl rfl rfl (hN.m 37 rfl) (hw _ mw_1_11) (by decide +kernel) ⟨Nat.le_of_ble_eq_true rfl, Nat.le_of_ble_eq_true rfl⟩, hw _ mw_3_218, hw _ mw_s40⟩ rfl rfl rfl hl.1 rfl (Nat.le_of_ble_eq_true rfl) dX11_anyWanted_5 ⟨Nat.zero_le _, Nat.zero_le _⟩) hP hD hS hA [7, 8, 9, 1, 2, 3, 4, 5, 6] [0] [0, 4, 5, 6, 7, 8, 9, 1, 2, 3] rfl rfl rfl (by decide) rfl (fun _ => rfl) (fun u H locs h hP hD hS => ?_)
  obtain ⟨ns_4, na_5⟩ := u
  have hP : va_P D vwCl (List.flatten ([cLockRail L0 h_reader h_rail h_trial h_images h_slots n0 h_triedYear h_ofBikes C ] ++ (wRail aR0 C rs0 ra0 ++ (wNight n0 aN C ns_4 na_5 nl)))) H := hP
  have hD : va_D A (List.flatten ([cLockRail L0 h_reader h_rail h_trial h_images h_slots n0 h_triedYear h_ofBikes C ] ++ (wRail aR0 C rs0 ra0 ++ (wNight n0 aN C ns_4 na_5 nl)))) := hD
  refine lv_iconst (v := 0) hx hb dX11_anyWanted_8 (by decide) ?_
  refine lv_istore_n (lv' := [(2, .int 0), (0, .ref L0), (1, .ref (aR0 0))]) hx hb dX11_anyWanted_9 rfl hl (by decide) rfl (fun ls hl => ?_)
  obtain ⟨n, h⟩ := h
  exact N10 ns_4 na_5 n 0 _ _ _ h hP hD hS (lv_sub hl [1, 2, 0] rfl)
