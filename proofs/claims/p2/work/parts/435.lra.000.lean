abbrev vsX11_feed : List Cond := Cond.code yX11_feed cX11_feed 7 (some .int) :: WS
abbrev rmX11_feed : Room := { frames := 1, cells := 0, slots := 0, locals := 22 }
set_option maxHeartbeats 4000000 in
set_option maxRecDepth 100000 in
theorem k_X11_feed (l : Launch) (D : va_G) (C : Nat → ClassId) (sz : Nat) (L0 : Nat) (aU : Nat → Nat) (aR : Nat → Nat) (aR2 : Nat → Nat) (aS : Nat → Nat) (n0 : Nat) (aN : Nat → Nat) (y0 : Nat) (y1 : Nat) (y2 : Nat) (o0 : Nat) (h_images : Nat) (us : Nat → Int32) (ua : Nat → Nat → Int32) (rs : Nat → Int32) (ra : Nat → Nat → Int32) (rs2 : Nat → Int32) (ra2 : Nat → Nat → Int32) (sa : Nat → Nat → Int32) (sl : Nat → Nat → Int64) (ns : Nat → Int32) (na : Nat → Nat → Int32) (nl : Nat → Nat → Int64) (y_isThere : Int32) (y_taken : Nat → Int32) (y_took : Nat → Int32) (o_of : Nat → Int64) (p1 : Int32) (p2 : Int32) (p3 : Int32) (p4 : Int32) (p5 : Int32) {post : Int32 → (Nat → Int32) → (Nat → Nat → Int32) → Prop} (h : P_X11_feed us ua p1 p2 p3 p4 p5 post) : Met l yX11_feed vsX11_feed rmX11_feed (cPre D C [.ref L0, .int p1, .int p2, .int p3, .int p4, .int p5] sz ([cLockRail L0 (aU 0) (aR 0) (aR2 0) h_images (aS 0) n0 y0 o0 C ] ++ (wReader aU C us ua ++ (wRail aR C rs ra ++ (wRail aR2 C rs2 ra2 ++ (wSlots aS C sa sl ++ (wNight n0 aN C ns na nl ++ ([cYear y0 y1 y2 C y_isThere y_taken y_took] ++ ([cOb o0 C o_of]))))))))) (cQi D (fun (r : Int32) (u : (Nat → Int32) × (Nat → Nat → Int32)) => post r u.1 u.2) (fun u => [cLockRail L0 (aU 0) (aR 0) (aR2 0) h_images (aS 0) n0 y0 o0 C ] ++ (wReader aU C u.1 u.2 ++ (wRail aR C rs ra ++ (wRail aR2 C rs2 ra2 ++ (wSlots aS C sa sl ++ (wNight n0 aN C ns na nl ++ ([cYear y0 y1 y2 C y_isThere y_taken y_took] ++ ([cOb o0 C o_of])))))))) (va_A (List.flatten ([cLockRail L0 (aU 0) (aR 0) (aR2 0) h_images (aS 0) n0 y0 o0 C ] ++ (wReader aU C us ua ++ (wRail aR C rs ra ++ (wRail aR2 C rs2 ra2 ++ (wSlots aS C sa sl ++ (wNight n0 aN C ns na nl ++ ([cYear y0 y1 y2 C y_isThere y_taken y_took] ++ ([cOb o0 C o_of]))))))))) sz)) 0 0 (va_A (List.flatten ([cLockRail L0 (aU 0) (aR 0) (aR2 0) h_images (aS 0) n0 y0 o0 C ] ++ (wReader aU C us ua ++ (wRail aR C rs ra ++ (wRail aR2 C rs2 ra2 ++ (wSlots aS C sa sl ++ (wNight n0 aN C ns na nl ++ ([cYear y0 y1 y2 C y_isThere y_taken y_took] ++ ([cOb o0 C o_of]))))))))) sz) := by
  refine cStart (QA := fun A => cQi D (fun (r : Int32) (u : (Nat → Int32) × (Nat → Nat → Int32)) => post r u.1 u.2) (fun u => [cLockRail L0 (aU 0) (aR 0) (aR2 0) h_images (aS 0) n0 y0 o0 C ] ++ (wReader aU C u.1 u.2 ++ (wRail aR C rs ra ++ (wRail aR2 C rs2 ra2 ++ (wSlots aS C sa sl ++ (wNight n0 aN C ns na nl ++ ([cYear y0 y1 y2 C y_isThere y_taken y_took] ++ ([cOb o0 C o_of])))))))) A) (cc := cX11_feed) (maxL := 7) (ret := (some .int)) (by decide) (Nat.le_of_ble_eq_true rfl) ?_
  intro p e s m args below meth c A ls hx hb hr hml hown hw hlocks hname hK hN hA hP hD hS hl
  generalize hQ : MQ below _ args s 0 0 A = Q
  have hl : lv_has ls 7 [(0, .ref L0), (1, .int p1), (2, .int p2), (3, .int p3), (4, .int p4), (5, .int p5)] := hl
  have hn55 : (Cond.fieldLinkNest "LockRail" 55 "LockRail$Reader" "tape" "LLockRail$Tape;" "LockRail").before args s = true := hN.f 4 rfl
  have hn59 : (Cond.fieldLinkNest "LockRail" 59 "LockRail$Tape" "length" "I" "LockRail").before args s = true := hN.f 0 rfl
  obtain ⟨H, hH⟩ : ∃ H, H = s.heap := ⟨_, rfl⟩
  obtain ⟨locs, hlo⟩ : ∃ z : List Loc, z = [] := ⟨_, rfl⟩
  have hP : va_P D vwCl (List.flatten ([cLockRail L0 (aU 0) (aR 0) (aR2 0) h_images (aS 0) n0 y0 o0 C ] ++ (wReader aU C us ua ++ (wRail aR C rs ra ++ (wRail aR2 C rs2 ra2 ++ (wSlots aS C sa sl ++ (wNight n0 aN C ns na nl ++ ([cYear y0 y1 y2 C y_isThere y_taken y_took] ++ ([cOb o0 C o_of]))))))))) H := by rw [hH]; exact hP
  have hS : va_S A s.heap H locs := by rw [hH, hlo]; exact hS
  rw [show W p l e rmX11_feed s m args below meth c s.heap [] 0 0 Q (F0 m 0 ls []) = W p l e rmX11_feed s m args below meth c H locs 0 0 Q (F0 m 0 ls []) from by rw [hH, hlo]]
  refine lv_aload_n hx hb dX11_feed_0 rfl (lv_at hl 0 rfl) ?_
  refine va_get (D := D) (ci := 11) (v := .ref (aU 0)) (C := RX11) (T := TX11) (N := 8) hx hb hw inW_X11 hown hK hP 0 rfl rfl 0 (by decide) (hw _ mw_2_143) (fun _ h9 => h9) rfl dX11_feed_1 ?_
  refine va_getN (D := D) (ci := 5) (v := .ref (aU 1)) (C := RX5) (T := TX5) (N := 3) hx hb hw inW_X5 hown hK hP 1 rfl rfl 0 (by decide) hn55 (fun _ h9 => h9) rfl dX11_feed_4 ?_
  refine lv_astore (lv' := [(6, .ref (aU 1)), (0, .ref L0), (1, .int p1), (2, .int p2), (3, .int p3), (4, .int p4), (5, .int p5)]) hx hb dX11_feed_7 hl (by decide) rfl (fun ls hl => ?_)
  refine lv_aload hx hb dX11_feed_9 (lv_at hl 0 rfl) ?_
  refine va_getN (D := D) (ci := 8) (v := .int (us 2)) (C := RX8) (T := TX8) (N := 6) hx hb hw inW_X8 hown hK hP 2 rfl rfl 1 (by decide) hn59 (fun _ h9 => h9) rfl dX11_feed_11 ?_
  refine lv_bipush (v := 20) hx hb dX11_feed_14 (by decide) ?_
  refine lv_iadd hx hb dX11_feed_16 ?_
  refine lv_sipush (v := 1600) hx hb dX11_feed_17 (by decide) ?_
  refine lv_icmp_le (tgt := 25) hx hb dX11_feed_20 (by decide) (fun c1 => ?_) (fun c1 => ?_)
  · have h := h.1 c1
    refine lv_aload hx hb dX11_feed_25 (lv_at hl 0 rfl) ?_
    refine lv_iload_n hx hb dX11_feed_27 rfl (lv_at hl 2 rfl) ?_
    refine cGoV (wo := fun u => [cLockRail L0 (aU 0) (aR 0) (aR2 0) h_images (aS 0) n0 y0 o0 C ] ++ (wReader aU C (va_up us 2 u.2) (va_up ua 0 u.1) ++ (wRail aR C rs ra ++ (wRail aR2 C rs2 ra2 ++ (wSlots aS C sa sl ++ (wNight n0 aN C ns na nl ++ ([cYear y0 y1 y2 C y_isThere y_taken y_took] ++ ([cOb o0 C o_of])))))))) (cRunVN (As := [.int p1]) (rest := []) ⟨hx, hb, hml, hown, hw⟩ hK hN hP hD [2] rfl rfl (k_X8_append l D C _ (aU 1) (aU 2)  (ua 0) (us 2) (us 3) (us 4) (us 5) (us 6) p1 h) ⟨va_cnB 1 hw (goodN mw_2_175) rfl rfl rfl (hN.m 12 rfl) (hw _ mw_1_3) (by decide +kernel) ⟨Nat.le_of_ble_eq_true rfl, Nat.le_of_ble_eq_true rfl⟩, hw _ mw_2_174, hw _ mw_s0⟩ rfl rfl rfl hl.1 rfl (Nat.le_of_ble_eq_true rfl) dX11_feed_28 ⟨Nat.zero_le _, Nat.zero_le _⟩) hP hD hS hA [2] [0, 1, 3, 4, 5, 6, 7, 8, 9, 10, 11, 12, 13, 14, 15, 16, 17, 18, 19, 20] [0, 1, 20, 2, 3, 4, 5, 6, 7, 8, 9, 10, 11, 12, 13, 14, 15, 16, 17, 18, 19] rfl rfl rfl (by decide) rfl (fun _ => rfl) (fun u H locs h hP hD hS => ?_)
    obtain ⟨byt_2, len_3⟩ := u
    have hP : va_P D vwCl (List.flatten ([cLockRail L0 (aU 0) (aR 0) (aR2 0) h_images (aS 0) n0 y0 o0 C ] ++ (wReader aU C (va_up us 2 len_3) (va_up ua 0 byt_2) ++ (wRail aR C rs ra ++ (wRail aR2 C rs2 ra2 ++ (wSlots aS C sa sl ++ (wNight n0 aN C ns na nl ++ ([cYear y0 y1 y2 C y_isThere y_taken y_took] ++ ([cOb o0 C o_of]))))))))) H := hP
    have hD : va_D A (List.flatten ([cLockRail L0 (aU 0) (aR 0) (aR2 0) h_images (aS 0) n0 y0 o0 C ] ++ (wReader aU C (va_up us 2 len_3) (va_up ua 0 byt_2) ++ (wRail aR C rs ra ++ (wRail aR2 C rs2 ra2 ++ (wSlots aS C sa sl ++ (wNight n0 aN C ns na nl ++ ([cYear y0 y1 y2 C y_isThere y_taken y_took] ++ ([cOb o0 C o_of]))))))))) := hD
    refine lv_aload hx hb dX11_feed_31 (lv_at hl 0 rfl) ?_
    refine lv_iload_n hx hb dX11_feed_33 rfl (lv_at hl 3 rfl) ?_
    refine cGoV (wo := fun u => [cLockRail L0 (aU 0) (aR 0) (aR2 0) h_images (aS 0) n0 y0 o0 C ] ++ (wReader aU C (va_up us 2 u.2) (va_up ua 0 u.1) ++ (wRail aR C rs ra ++ (wRail aR2 C rs2 ra2 ++ (wSlots aS C sa sl ++ (wNight n0 aN C ns na nl ++ ([cYear y0 y1 y2 C y_isThere y_taken y_took] ++ ([cOb o0 C o_of])))))))) (cRunVN (As := [.int p2]) (rest := []) ⟨hx, hb, hml, hown, hw⟩ hK hN hP hD [2] rfl rfl (k_X8_append l D C _ (aU 1) (aU 2)  byt_2 len_3 (us 3) (us 4) (us 5) (us 6) p2 h) ⟨va_cnB 1 hw (goodN mw_2_175) rfl rfl rfl (hN.m 12 rfl) (hw _ mw_1_3) (by decide +kernel) ⟨Nat.le_of_ble_eq_true rfl, Nat.le_of_ble_eq_true rfl⟩, hw _ mw_2_174, hw _ mw_s0⟩ rfl rfl rfl hl.1 rfl (Nat.le_of_ble_eq_true rfl) dX11_feed_34 ⟨Nat.zero_le _, Nat.zero_le _⟩) hP hD hS hA [2] [0, 1, 3, 4, 5, 6, 7, 8, 9, 10, 11, 12, 13, 14, 15, 16, 17, 18, 19, 20] [0, 1, 20, 2, 3, 4, 5, 6, 7, 8, 9, 10, 11, 12, 13, 14, 15, 16, 17, 18, 19] rfl rfl rfl (by decide) rfl (fun _ => rfl) (fun u H locs h hP hD hS => ?_)
    obtain ⟨byt_4, len_5⟩ := u
    have hP : va_P D vwCl (List.flatten ([cLockRail L0 (aU 0) (aR 0) (aR2 0) h_images (aS 0) n0 y0 o0 C ] ++ (wReader aU C (va_up us 2 len_5) (va_up ua 0 byt_4) ++ (wRail aR C rs ra ++ (wRail aR2 C rs2 ra2 ++ (wSlots aS C sa sl ++ (wNight n0 aN C ns na nl ++ ([cYear y0 y1 y2 C y_isThere y_taken y_took] ++ ([cOb o0 C o_of]))))))))) H := hP
    have hD : va_D A (List.flatten ([cLockRail L0 (aU 0) (aR 0) (aR2 0) h_images (aS 0) n0 y0 o0 C ] ++ (wReader aU C (va_up us 2 len_5) (va_up ua 0 byt_4) ++ (wRail aR C rs ra ++ (wRail aR2 C rs2 ra2 ++ (wSlots aS C sa sl ++ (wNight n0 aN C ns na nl ++ ([cYear y0 y1 y2 C y_isThere y_taken y_took] ++ ([cOb o0 C o_of]))))))))) := hD
    refine lv_aload hx hb dX11_feed_37 (lv_at hl 0 rfl) ?_
    refine lv_iload_n hx hb dX11_feed_39 rfl (lv_at hl 4 rfl) ?_
    refine cGoV (wo := fun u => [cLockRail L0 (aU 0) (aR 0) (aR2 0) h_images (aS 0) n0 y0 o0 C ] ++ (wReader aU C (va_up us 2 u.2) (va_up ua 0 u.1) ++ (wRail aR C rs ra ++ (wRail aR2 C rs2 ra2 ++ (wSlots aS C sa sl ++ (wNight n0 aN C ns na nl ++ ([cYear y0 y1 y2 C y_isThere y_taken y_took] ++ ([cOb o0 C o_of])))))))) (cRunVN (As := [.int p3]) (rest := []) ⟨hx, hb, hml, hown, hw⟩ hK hN hP hD [2] rfl rfl (k_X8_append l D C _ (aU 1) (aU 2)  byt_4 len_5 (us 3) (us 4) (us 5) (us 6) p3 h) ⟨va_cnB 1 hw (goodN mw_2_175) rfl rfl rfl (hN.m 12 rfl) (hw _ mw_1_3) (by decide +kernel) ⟨Nat.le_of_ble_eq_true rfl, Nat.le_of_ble_eq_true rfl⟩, hw _ mw_2_174, hw _ mw_s0⟩ rfl rfl rfl hl.1 rfl (Nat.le_of_ble_eq_true rfl) dX11_feed_40 ⟨Nat.zero_le _, Nat.zero_le _⟩) hP hD hS hA [2] [0, 1, 3, 4, 5, 6, 7, 8, 9, 10, 11, 12, 13, 14, 15, 16, 17, 18, 19, 20] [0, 1, 20, 2, 3, 4, 5, 6, 7, 8, 9, 10, 11, 12, 13, 14, 15, 16, 17, 18, 19] rfl rfl rfl (by decide) rfl (fun _ => rfl) (fun u H locs h hP hD hS => ?_)
    obtain ⟨byt_6, len_7⟩ := u
    have hP : va_P D vwCl (List.flatten ([cLockRail L0 (aU 0) (aR 0) (aR2 0) h_images (aS 0) n0 y0 o0 C ] ++ (wReader aU C (va_up us 2 len_7) (va_up ua 0 byt_6) ++ (wRail aR C rs ra ++ (wRail aR2 C rs2 ra2 ++ (wSlots aS C sa sl ++ (wNight n0 aN C ns na nl ++ ([cYear y0 y1 y2 C y_isThere y_taken y_took] ++ ([cOb o0 C o_of]))))))))) H := hP
    have hD : va_D A (List.flatten ([cLockRail L0 (aU 0) (aR 0) (aR2 0) h_images (aS 0) n0 y0 o0 C ] ++ (wReader aU C (va_up us 2 len_7) (va_up ua 0 byt_6) ++ (wRail aR C rs ra ++ (wRail aR2 C rs2 ra2 ++ (wSlots aS C sa sl ++ (wNight n0 aN C ns na nl ++ ([cYear y0 y1 y2 C y_isThere y_taken y_took] ++ ([cOb o0 C o_of]))))))))) := hD
    refine lv_aload hx hb dX11_feed_43 (lv_at hl 0 rfl) ?_
    refine lv_iload hx hb dX11_feed_45 (lv_at hl 5 rfl) ?_
    refine cGoV (wo := fun u => [cLockRail L0 (aU 0) (aR 0) (aR2 0) h_images (aS 0) n0 y0 o0 C ] ++ (wReader aU C (va_up us 2 u.2) (va_up ua 0 u.1) ++ (wRail aR C rs ra ++ (wRail aR2 C rs2 ra2 ++ (wSlots aS C sa sl ++ (wNight n0 aN C ns na nl ++ ([cYear y0 y1 y2 C y_isThere y_taken y_took] ++ ([cOb o0 C o_of])))))))) (cRunVN (As := [.int p4]) (rest := []) ⟨hx, hb, hml, hown, hw⟩ hK hN hP hD [2] rfl rfl (k_X8_append l D C _ (aU 1) (aU 2)  byt_6 len_7 (us 3) (us 4) (us 5) (us 6) p4 h) ⟨va_cnB 1 hw (goodN mw_2_175) rfl rfl rfl (hN.m 12 rfl) (hw _ mw_1_3) (by decide +kernel) ⟨Nat.le_of_ble_eq_true rfl, Nat.le_of_ble_eq_true rfl⟩, hw _ mw_2_174, hw _ mw_s0⟩ rfl rfl rfl hl.1 rfl (Nat.le_of_ble_eq_true rfl) dX11_feed_47 ⟨Nat.zero_le _, Nat.zero_le _⟩) hP hD hS hA [2] [0, 1, 3, 4, 5, 6, 7, 8, 9, 10, 11, 12, 13, 14, 15, 16, 17, 18, 19, 20] [0, 1, 20, 2, 3, 4, 5, 6, 7, 8, 9, 10, 11, 12, 13, 14, 15, 16, 17, 18, 19] rfl rfl rfl (by decide) rfl (fun _ => rfl) (fun u H locs h hP hD hS => ?_)
    obtain ⟨byt_8, len_9⟩ := u
    have hP : va_P D vwCl (List.flatten ([cLockRail L0 (aU 0) (aR 0) (aR2 0) h_images (aS 0) n0 y0 o0 C ] ++ (wReader aU C (va_up us 2 len_9) (va_up ua 0 byt_8) ++ (wRail aR C rs ra ++ (wRail aR2 C rs2 ra2 ++ (wSlots aS C sa sl ++ (wNight n0 aN C ns na nl ++ ([cYear y0 y1 y2 C y_isThere y_taken y_took] ++ ([cOb o0 C o_of]))))))))) H := hP
    have hD : va_D A (List.flatten ([cLockRail L0 (aU 0) (aR 0) (aR2 0) h_images (aS 0) n0 y0 o0 C ] ++ (wReader aU C (va_up us 2 len_9) (va_up ua 0 byt_8) ++ (wRail aR C rs ra ++ (wRail aR2 C rs2 ra2 ++ (wSlots aS C sa sl ++ (wNight n0 aN C ns na nl ++ ([cYear y0 y1 y2 C y_isThere y_taken y_took] ++ ([cOb o0 C o_of]))))))))) := hD
    refine lv_aload hx hb dX11_feed_50 (lv_at hl 0 rfl) ?_
    refine lv_iload hx hb dX11_feed_52 (lv_at hl 6 rfl) ?_
    refine cGoV (wo := fun u => [cLockRail L0 (aU 0) (aR 0) (aR2 0) h_images (aS 0) n0 y0 o0 C ] ++ (wReader aU C (va_up us 2 u.2) (va_up ua 0 u.1) ++ (wRail aR C rs ra ++ (wRail aR2 C rs2 ra2 ++ (wSlots aS C sa sl ++ (wNight n0 aN C ns na nl ++ ([cYear y0 y1 y2 C y_isThere y_taken y_took] ++ ([cOb o0 C o_of])))))))) (cRunVN (As := [.int p5]) (rest := []) ⟨hx, hb, hml, hown, hw⟩ hK hN hP hD [2] rfl rfl (k_X8_append l D C _ (aU 1) (aU 2)  byt_8 len_9 (us 3) (us 4) (us 5) (us 6) p5 h) ⟨va_cnB 1 hw (goodN mw_2_175) rfl rfl rfl (hN.m 12 rfl) (hw _ mw_1_3) (by decide +kernel) ⟨Nat.le_of_ble_eq_true rfl, Nat.le_of_ble_eq_true rfl⟩, hw _ mw_2_174, hw _ mw_s0⟩ rfl rfl rfl hl.1 rfl (Nat.le_of_ble_eq_true rfl) dX11_feed_54 ⟨Nat.zero_le _, Nat.zero_le _⟩) hP hD hS hA [2] [0, 1, 3, 4, 5, 6, 7, 8, 9, 10, 11, 12, 13, 14, 15, 16, 17, 18, 19, 20] [0, 1, 20, 2, 3, 4, 5, 6, 7, 8, 9, 10, 11, 12, 13, 14, 15, 16, 17, 18, 19] rfl rfl rfl (by decide) rfl (fun _ => rfl) (fun u H locs h hP hD hS => ?_)
    obtain ⟨byt_10, len_11⟩ := u
    have hP : va_P D vwCl (List.flatten ([cLockRail L0 (aU 0) (aR 0) (aR2 0) h_images (aS 0) n0 y0 o0 C ] ++ (wReader aU C (va_up us 2 len_11) (va_up ua 0 byt_10) ++ (wRail aR C rs ra ++ (wRail aR2 C rs2 ra2 ++ (wSlots aS C sa sl ++ (wNight n0 aN C ns na nl ++ ([cYear y0 y1 y2 C y_isThere y_taken y_took] ++ ([cOb o0 C o_of]))))))))) H := hP
    have hD : va_D A (List.flatten ([cLockRail L0 (aU 0) (aR 0) (aR2 0) h_images (aS 0) n0 y0 o0 C ] ++ (wReader aU C (va_up us 2 len_11) (va_up ua 0 byt_10) ++ (wRail aR C rs ra ++ (wRail aR2 C rs2 ra2 ++ (wSlots aS C sa sl ++ (wNight n0 aN C ns na nl ++ ([cYear y0 y1 y2 C y_isThere y_taken y_took] ++ ([cOb o0 C o_of]))))))))) := hD
    refine lv_aload hx hb dX11_feed_57 (lv_at hl 0 rfl) ?_
    refine va_getN (D := D) (ci := 8) (v := .int len_11) (C := RX8) (T := TX8) (N := 6) hx hb hw inW_X8 hown hK hP 2 rfl rfl 1 (by decide) hn59 (fun _ h9 => h9) rfl dX11_feed_59 ?_
    rw [← hQ]
    exact cRetI (v := len_11) ((va_up us 2 len_11), (va_up ua 0 byt_10)) hx hb hr hlocks hS hP hD h dX11_feed_62
  · have h := h.2 c1
    refine lv_iconst (v := (-1)) hx hb dX11_feed_23 (by decide) ?_
    rw [← hQ]
    exact cRetI (v := (-1)) (us, ua) hx hb hr hlocks hS hP hD h dX11_feed_24
abbrev vsX11_end : List Cond := Cond.code yX11_end cX11_end 3 (some .int) :: WS
abbrev rmX11_end : Room := { frames := 0, cells := 0, slots := 0, locals := 0 }
set_option maxHeartbeats 4000000 in
set_option maxRecDepth 100000 in
theorem k_X11_end (l : Launch) (D : va_G) (C : Nat → ClassId) (sz : Nat) (L0 : Nat) (aU : Nat → Nat) (aR : Nat → Nat) (aR2 : Nat → Nat) (aS : Nat → Nat) (n0 : Nat) (aN : Nat → Nat) (y0 : Nat) (y1 : Nat) (y2 : Nat) (o0 : Nat) (h_images : Nat) (us : Nat → Int32) (ua : Nat → Nat → Int32) (rs : Nat → Int32) (ra : Nat → Nat → Int32) (rs2 : Nat → Int32) (ra2 : Nat → Nat → Int32) (sa : Nat → Nat → Int32) (sl : Nat → Nat → Int64) (ns : Nat → Int32) (na : Nat → Nat → Int32) (nl : Nat → Nat → Int64) (y_isThere : Int32) (y_taken : Nat → Int32) (y_took : Nat → Int32) (o_of : Nat → Int64) (p1 : Int32) {post : Int32 → (Nat → Int32) → Prop} (h : P_X11_end us p1 post) : Met l yX11_end vsX11_end rmX11_end (cPre D C [.ref L0, .int p1] sz ([cLockRail L0 (aU 0) (aR 0) (aR2 0) h_images (aS 0) n0 y0 o0 C ] ++ (wReader aU C us ua ++ (wRail aR C rs ra ++ (wRail aR2 C rs2 ra2 ++ (wSlots aS C sa sl ++ (wNight n0 aN C ns na nl ++ ([cYear y0 y1 y2 C y_isThere y_taken y_took] ++ ([cOb o0 C o_of]))))))))) (cQi D (fun (r : Int32) (u : (Nat → Int32)) => post r u) (fun u => [cLockRail L0 (aU 0) (aR 0) (aR2 0) h_images (aS 0) n0 y0 o0 C ] ++ (wReader aU C u ua ++ (wRail aR C rs ra ++ (wRail aR2 C rs2 ra2 ++ (wSlots aS C sa sl ++ (wNight n0 aN C ns na nl ++ ([cYear y0 y1 y2 C y_isThere y_taken y_took] ++ ([cOb o0 C o_of])))))))) (va_A (List.flatten ([cLockRail L0 (aU 0) (aR 0) (aR2 0) h_images (aS 0) n0 y0 o0 C ] ++ (wReader aU C us ua ++ (wRail aR C rs ra ++ (wRail aR2 C rs2 ra2 ++ (wSlots aS C sa sl ++ (wNight n0 aN C ns na nl ++ ([cYear y0 y1 y2 C y_isThere y_taken y_took] ++ ([cOb o0 C o_of]))))))))) sz)) 0 0 (va_A (List.flatten ([cLockRail L0 (aU 0) (aR 0) (aR2 0) h_images (aS 0) n0 y0 o0 C ] ++ (wReader aU C us ua ++ (wRail aR C rs ra ++ (wRail aR2 C rs2 ra2 ++ (wSlots aS C sa sl ++ (wNight n0 aN C ns na nl ++ ([cYear y0 y1 y2 C y_isThere y_taken y_took] ++ ([cOb o0 C o_of]))))))))) sz) := by
  refine cStart (QA := fun A => cQi D (fun (r : Int32) (u : (Nat → Int32)) => post r u) (fun u => [cLockRail L0 (aU 0) (aR 0) (aR2 0) h_images (aS 0) n0 y0 o0 C ] ++ (wReader aU C u ua ++ (wRail aR C rs ra ++ (wRail aR2 C rs2 ra2 ++ (wSlots aS C sa sl ++ (wNight n0 aN C ns na nl ++ ([cYear y0 y1 y2 C y_isThere y_taken y_took] ++ ([cOb o0 C o_of])))))))) A) (cc := cX11_end) (maxL := 3) (ret := (some .int)) (by decide) (Nat.le_of_ble_eq_true rfl) ?_
  intro p e s m args below meth c A ls hx hb hr hml hown hw hlocks hname hK hN hA hP hD hS hl
  generalize hQ : MQ below _ args s 0 0 A = Q
  have hl : lv_has ls 3 [(0, .ref L0), (1, .int p1)] := hl
  have hn55 : (Cond.fieldLinkNest "LockRail" 55 "LockRail$Reader" "tape" "LLockRail$Tape;" "LockRail").before args s = true := hN.f 4 rfl
  have hn59 : (Cond.fieldLinkNest "LockRail" 59 "LockRail$Tape" "length" "I" "LockRail").before args s = true := hN.f 0 rfl
  obtain ⟨H, hH⟩ : ∃ H, H = s.heap := ⟨_, rfl⟩
  obtain ⟨locs, hlo⟩ : ∃ z : List Loc, z = [] := ⟨_, rfl⟩
  have hP : va_P D vwCl (List.flatten ([cLockRail L0 (aU 0) (aR 0) (aR2 0) h_images (aS 0) n0 y0 o0 C ] ++ (wReader aU C us ua ++ (wRail aR C rs ra ++ (wRail aR2 C rs2 ra2 ++ (wSlots aS C sa sl ++ (wNight n0 aN C ns na nl ++ ([cYear y0 y1 y2 C y_isThere y_taken y_took] ++ ([cOb o0 C o_of]))))))))) H := by rw [hH]; exact hP
  have hS : va_S A s.heap H locs := by rw [hH, hlo]; exact hS
  rw [show W p l e rmX11_end s m args below meth c s.heap [] 0 0 Q (F0 m 0 ls []) = W p l e rmX11_end s m args below meth c H locs 0 0 Q (F0 m 0 ls []) from by rw [hH, hlo]]
  refine lv_aload_n hx hb dX11_end_0 rfl (lv_at hl 0 rfl) ?_
  refine va_get (D := D) (ci := 11) (v := .ref (aU 0)) (C := RX11) (T := TX11) (N := 8) hx hb hw inW_X11 hown hK hP 0 rfl rfl 0 (by decide) (hw _ mw_2_143) (fun _ h9 => h9) rfl dX11_end_1 ?_
  refine va_getN (D := D) (ci := 5) (v := .ref (aU 1)) (C := RX5) (T := TX5) (N := 3) hx hb hw inW_X5 hown hK hP 1 rfl rfl 0 (by decide) hn55 (fun _ h9 => h9) rfl dX11_end_4 ?_
  refine lv_astore_n (lv' := [(2, .ref (aU 1)), (0, .ref L0), (1, .int p1)]) hx hb dX11_end_7 rfl hl (by decide) rfl (fun ls hl => ?_)
  refine lv_iload_n hx hb dX11_end_8 rfl (lv_at hl 2 rfl) ?_
  refine lv_if_lt (tgt := 20) hx hb dX11_end_9 (by decide) (fun c1 => ?_) (fun c1 => ?_)
  · have h := h.1 c1
    refine lv_iconst (v := (-1)) hx hb dX11_end_20 (by decide) ?_
    rw [← hQ]
    exact cRetI (v := (-1)) (us) hx hb hr hlocks hS hP hD h dX11_end_21
  · have h := h.2 c1
    refine lv_iload_n hx hb dX11_end_12 rfl (lv_at hl 2 rfl) ?_
    refine lv_aload_n hx hb dX11_end_13 rfl (lv_at hl 0 rfl) ?_
    refine va_getN (D := D) (ci := 8) (v := .int (us 2)) (C := RX8) (T := TX8) (N := 6) hx hb hw inW_X8 hown hK hP 2 rfl rfl 1 (by decide) hn59 (fun _ h9 => h9) rfl dX11_end_14 ?_
    refine lv_icmp_le (tgt := 22) hx hb dX11_end_17 (by decide) (fun c2 => ?_) (fun c2 => ?_)
    · have h := h.1 c2
      refine lv_aload_n hx hb dX11_end_22 rfl (lv_at hl 0 rfl) ?_
      refine lv_iload_n hx hb dX11_end_23 rfl (lv_at hl 2 rfl) ?_
      refine va_putN (D := D) (ci := 8) (v := .int p1) (ty := .int) (C := RX8) (T := TX8) (N := 6) hx hb hw inW_X8 tyX8 tyX8_ok nmX8 hown hK hP hD hS 2 rfl rfl 1 (by decide) hn59 (fun _ h9 => h9) rfl (by decide +kernel) rfl rfl (Nat.le_of_ble_eq_true rfl) dX11_end_24 (fun H locs hP hD hS => ?_)
      refine lv_iload_n hx hb dX11_end_27 rfl (lv_at hl 2 rfl) ?_
      have hP : va_P D vwCl (List.flatten ([cLockRail L0 (aU 0) (aR 0) (aR2 0) h_images (aS 0) n0 y0 o0 C ] ++ (wReader aU C (va_up us 2 p1) ua ++ (wRail aR C rs ra ++ (wRail aR2 C rs2 ra2 ++ (wSlots aS C sa sl ++ (wNight n0 aN C ns na nl ++ ([cYear y0 y1 y2 C y_isThere y_taken y_took] ++ ([cOb o0 C o_of]))))))))) H := hP
      have hD : va_D A (List.flatten ([cLockRail L0 (aU 0) (aR 0) (aR2 0) h_images (aS 0) n0 y0 o0 C ] ++ (wReader aU C (va_up us 2 p1) ua ++ (wRail aR C rs ra ++ (wRail aR2 C rs2 ra2 ++ (wSlots aS C sa sl ++ (wNight n0 aN C ns na nl ++ ([cYear y0 y1 y2 C y_isThere y_taken y_took] ++ ([cOb o0 C o_of]))))))))) := hD
      rw [← hQ]
      exact cRetI (v := p1) ((va_up us 2 p1)) hx hb hr hlocks hS hP hD h dX11_end_28
    · have h := h.2 c2
      refine lv_iconst (v := (-1)) hx hb dX11_end_20 (by decide) ?_
      rw [← hQ]
      exact cRetI (v := (-1)) (us) hx hb hr hlocks hS hP hD h dX11_end_21
abbrev vsX11_fault : List Cond := Cond.code yX11_fault cX11_fault 2 (some .int) :: WS
abbrev rmX11_fault : Room := { frames := 0, cells := 0, slots := 0, locals := 0 }
set_option maxHeartbeats 4000000 in
set_option maxRecDepth 100000 in
theorem k_X11_fault (l : Launch) (D : va_G) (C : Nat → ClassId) (sz : Nat) (L0 : Nat) (aU : Nat → Nat) (aR : Nat → Nat) (aR2 : Nat → Nat) (aS : Nat → Nat) (n0 : Nat) (aN : Nat → Nat) (y0 : Nat) (y1 : Nat) (y2 : Nat) (o0 : Nat) (h_images : Nat) (us : Nat → Int32) (ua : Nat → Nat → Int32) (rs : Nat → Int32) (ra : Nat → Nat → Int32) (rs2 : Nat → Int32) (ra2 : Nat → Nat → Int32) (sa : Nat → Nat → Int32) (sl : Nat → Nat → Int64) (ns : Nat → Int32) (na : Nat → Nat → Int32) (nl : Nat → Nat → Int64) (y_isThere : Int32) (y_taken : Nat → Int32) (y_took : Nat → Int32) (o_of : Nat → Int64) (p1 : Int32) {post : Int32 → Prop} (h : P_X11_fault us p1 post) : Met l yX11_fault vsX11_fault rmX11_fault (cPre D C [.ref L0, .int p1] sz ([cLockRail L0 (aU 0) (aR 0) (aR2 0) h_images (aS 0) n0 y0 o0 C ] ++ (wReader aU C us ua ++ (wRail aR C rs ra ++ (wRail aR2 C rs2 ra2 ++ (wSlots aS C sa sl ++ (wNight n0 aN C ns na nl ++ ([cYear y0 y1 y2 C y_isThere y_taken y_took] ++ ([cOb o0 C o_of]))))))))) (cQi D (fun (r : Int32) (u : Unit) => post r ) (fun u => [cLockRail L0 (aU 0) (aR 0) (aR2 0) h_images (aS 0) n0 y0 o0 C ] ++ (wReader aU C us ua ++ (wRail aR C rs ra ++ (wRail aR2 C rs2 ra2 ++ (wSlots aS C sa sl ++ (wNight n0 aN C ns na nl ++ ([cYear y0 y1 y2 C y_isThere y_taken y_took] ++ ([cOb o0 C o_of])))))))) (va_A (List.flatten ([cLockRail L0 (aU 0) (aR 0) (aR2 0) h_images (aS 0) n0 y0 o0 C ] ++ (wReader aU C us ua ++ (wRail aR C rs ra ++ (wRail aR2 C rs2 ra2 ++ (wSlots aS C sa sl ++ (wNight n0 aN C ns na nl ++ ([cYear y0 y1 y2 C y_isThere y_taken y_took] ++ ([cOb o0 C o_of]))))))))) sz)) 0 0 (va_A (List.flatten ([cLockRail L0 (aU 0) (aR 0) (aR2 0) h_images (aS 0) n0 y0 o0 C ] ++ (wReader aU C us ua ++ (wRail aR C rs ra ++ (wRail aR2 C rs2 ra2 ++ (wSlots aS C sa sl ++ (wNight n0 aN C ns na nl ++ ([cYear y0 y1 y2 C y_isThere y_taken y_took] ++ ([cOb o0 C o_of]))))))))) sz) := by
  refine cStart (QA := fun A => cQi D (fun (r : Int32) (u : Unit) => post r ) (fun u => [cLockRail L0 (aU 0) (aR 0) (aR2 0) h_images (aS 0) n0 y0 o0 C ] ++ (wReader aU C us ua ++ (wRail aR C rs ra ++ (wRail aR2 C rs2 ra2 ++ (wSlots aS C sa sl ++ (wNight n0 aN C ns na nl ++ ([cYear y0 y1 y2 C y_isThere y_taken y_took] ++ ([cOb o0 C o_of])))))))) A) (cc := cX11_fault) (maxL := 2) (ret := (some .int)) (by decide) (Nat.le_of_ble_eq_true rfl) ?_
  intro p e s m args below meth c A ls hx hb hr hml hown hw hlocks hname hK hN hA hP hD hS hl
  generalize hQ : MQ below _ args s 0 0 A = Q
  have hl : lv_has ls 2 [(0, .ref L0), (1, .int p1)] := hl
  have hn80 : (Cond.fieldLinkNest "LockRail" 80 "LockRail$Reader" "fault" "I" "LockRail").before args s = true := hN.f 5 rfl
  have hn83 : (Cond.fieldLinkNest "LockRail" 83 "LockRail$Reader" "faultAt" "I" "LockRail").before args s = true := hN.f 6 rfl
  obtain ⟨H, hH⟩ : ∃ H, H = s.heap := ⟨_, rfl⟩
  obtain ⟨locs, hlo⟩ : ∃ z : List Loc, z = [] := ⟨_, rfl⟩
  have hP : va_P D vwCl (List.flatten ([cLockRail L0 (aU 0) (aR 0) (aR2 0) h_images (aS 0) n0 y0 o0 C ] ++ (wReader aU C us ua ++ (wRail aR C rs ra ++ (wRail aR2 C rs2 ra2 ++ (wSlots aS C sa sl ++ (wNight n0 aN C ns na nl ++ ([cYear y0 y1 y2 C y_isThere y_taken y_took] ++ ([cOb o0 C o_of]))))))))) H := by rw [hH]; exact hP
  have hS : va_S A s.heap H locs := by rw [hH, hlo]; exact hS
  rw [show W p l e rmX11_fault s m args below meth c s.heap [] 0 0 Q (F0 m 0 ls []) = W p l e rmX11_fault s m args below meth c H locs 0 0 Q (F0 m 0 ls []) from by rw [hH, hlo]]
  refine lv_iload_n hx hb dX11_fault_0 rfl (lv_at hl 1 rfl) ?_
  by_cases c1_0 : p1 = 0
  · refine lv_lookup (tgt := 28) hx hb dX11_fault_1 (by decide) (by rw [c1_0] <;> rfl) (by decide) ?_
    have h := h.1 c1_0
    refine lv_aload_n hx hb dX11_fault_28 rfl (lv_at hl 0 rfl) ?_
    refine va_get (D := D) (ci := 11) (v := .ref (aU 0)) (C := RX11) (T := TX11) (N := 8) hx hb hw inW_X11 hown hK hP 0 rfl rfl 0 (by decide) (hw _ mw_2_143) (fun _ h9 => h9) rfl dX11_fault_29 ?_
    refine va_getN (D := D) (ci := 5) (v := .int (us 0)) (C := RX5) (T := TX5) (N := 3) hx hb hw inW_X5 hown hK hP 1 rfl rfl 1 (by decide) hn80 (fun _ h9 => h9) rfl dX11_fault_32 ?_
    rw [← hQ]
    exact cRetI (v := (us 0)) () hx hb hr hlocks hS hP hD h dX11_fault_35
  by_cases c1_1 : p1 = 1
  · refine lv_lookup (tgt := 36) hx hb dX11_fault_1 (by decide) (by rw [c1_1] <;> rfl) (by decide) ?_
    have h := h.2.1 c1_1
    refine lv_aload_n hx hb dX11_fault_36 rfl (lv_at hl 0 rfl) ?_
    refine va_get (D := D) (ci := 11) (v := .ref (aU 0)) (C := RX11) (T := TX11) (N := 8) hx hb hw inW_X11 hown hK hP 0 rfl rfl 0 (by decide) (hw _ mw_2_143) (fun _ h9 => h9) rfl dX11_fault_37 ?_
    refine va_getN (D := D) (ci := 5) (v := .int (us 1)) (C := RX5) (T := TX5) (N := 3) hx hb hw inW_X5 hown hK hP 1 rfl rfl 2 (by decide) hn83 (fun _ h9 => h9) rfl dX11_fault_40 ?_
    rw [← hQ]
    exact cRetI (v := (us 1)) () hx hb hr hlocks hS hP hD h dX11_fault_43
  refine lv_lookup (tgt := 44) hx hb dX11_fault_1 (by decide) (sw_look2 c1_0 c1_1) (by decide) ?_
  have h := h.2.2 c1_0 c1_1
  refine lv_iconst (v := (-1)) hx hb dX11_fault_44 (by decide) ?_
  rw [← hQ]
  exact cRetI (v := (-1)) () hx hb hr hlocks hS hP hD h dX11_fault_45
abbrev vsX11_light : List Cond := Cond.code yX11_light cX11_light 2 (some .int) :: WS
abbrev rmX11_light : Room := { frames := 2, cells := 0, slots := 0, locals := 46 }
set_option maxHeartbeats 4000000 in
set_option maxRecDepth 100000 in
theorem k_X11_light (l : Launch) (D : va_G) (C : Nat → ClassId) (sz : Nat) (L0 : Nat) (aU : Nat → Nat) (aR : Nat → Nat) (aR2 : Nat → Nat) (aS : Nat → Nat) (n0 : Nat) (aN : Nat → Nat) (y0 : Nat) (y1 : Nat) (y2 : Nat) (o0 : Nat) (h_images : Nat) (us : Nat → Int32) (ua : Nat → Nat → Int32) (rs : Nat → Int32) (ra : Nat → Nat → Int32) (rs2 : Nat → Int32) (ra2 : Nat → Nat → Int32) (sa : Nat → Nat → Int32) (sl : Nat → Nat → Int64) (ns : Nat → Int32) (na : Nat → Nat → Int32) (nl : Nat → Nat → Int64) (y_isThere : Int32) (y_taken : Nat → Int32) (y_took : Nat → Int32) (o_of : Nat → Int64) (p1 : Int32) {post : Int32 → Prop} (h : P_X11_light rs ra p1 post) : Met l yX11_light vsX11_light rmX11_light (cPre D C [.ref L0, .int p1] sz ([cLockRail L0 (aU 0) (aR 0) (aR2 0) h_images (aS 0) n0 y0 o0 C ] ++ (wReader aU C us ua ++ (wRail aR C rs ra ++ (wRail aR2 C rs2 ra2 ++ (wSlots aS C sa sl ++ (wNight n0 aN C ns na nl ++ ([cYear y0 y1 y2 C y_isThere y_taken y_took] ++ ([cOb o0 C o_of]))))))))) (cQi D (fun (r : Int32) (u : Unit) => post r ) (fun u => [cLockRail L0 (aU 0) (aR 0) (aR2 0) h_images (aS 0) n0 y0 o0 C ] ++ (wReader aU C us ua ++ (wRail aR C rs ra ++ (wRail aR2 C rs2 ra2 ++ (wSlots aS C sa sl ++ (wNight n0 aN C ns na nl ++ ([cYear y0 y1 y2 C y_isThere y_taken y_took] ++ ([cOb o0 C o_of])))))))) (va_A (List.flatten ([cLockRail L0 (aU 0) (aR 0) (aR2 0) h_images (aS 0) n0 y0 o0 C ] ++ (wReader aU C us ua ++ (wRail aR C rs ra ++ (wRail aR2 C rs2 ra2 ++ (wSlots aS C sa sl ++ (wNight n0 aN C ns na nl ++ ([cYear y0 y1 y2 C y_isThere y_taken y_took] ++ ([cOb o0 C o_of]))))))))) sz)) 0 0 (va_A (List.flatten ([cLockRail L0 (aU 0) (aR 0) (aR2 0) h_images (aS 0) n0 y0 o0 C ] ++ (wReader aU C us ua ++ (wRail aR C rs ra ++ (wRail aR2 C rs2 ra2 ++ (wSlots aS C sa sl ++ (wNight n0 aN C ns na nl ++ ([cYear y0 y1 y2 C y_isThere y_taken y_took] ++ ([cOb o0 C o_of]))))))))) sz) := by
  refine cStart (QA := fun A => cQi D (fun (r : Int32) (u : Unit) => post r ) (fun u => [cLockRail L0 (aU 0) (aR 0) (aR2 0) h_images (aS 0) n0 y0 o0 C ] ++ (wReader aU C us ua ++ (wRail aR C rs ra ++ (wRail aR2 C rs2 ra2 ++ (wSlots aS C sa sl ++ (wNight n0 aN C ns na nl ++ ([cYear y0 y1 y2 C y_isThere y_taken y_took] ++ ([cOb o0 C o_of])))))))) A) (cc := cX11_light) (maxL := 2) (ret := (some .int)) (by decide) (Nat.le_of_ble_eq_true rfl) ?_
  intro p e s m args below meth c A ls hx hb hr hml hown hw hlocks hname hK hN hA hP hD hS hl
  generalize hQ : MQ below _ args s 0 0 A = Q
  have hl : lv_has ls 2 [(0, .ref L0), (1, .int p1)] := hl
  obtain ⟨H, hH⟩ : ∃ H, H = s.heap := ⟨_, rfl⟩
  obtain ⟨locs, hlo⟩ : ∃ z : List Loc, z = [] := ⟨_, rfl⟩
  have hP : va_P D vwCl (List.flatten ([cLockRail L0 (aU 0) (aR 0) (aR2 0) h_images (aS 0) n0 y0 o0 C ] ++ (wReader aU C us ua ++ (wRail aR C rs ra ++ (wRail aR2 C rs2 ra2 ++ (wSlots aS C sa sl ++ (wNight n0 aN C ns na nl ++ ([cYear y0 y1 y2 C y_isThere y_taken y_took] ++ ([cOb o0 C o_of]))))))))) H := by rw [hH]; exact hP
  have hS : va_S A s.heap H locs := by rw [hH, hlo]; exact hS
  rw [show W p l e rmX11_light s m args below meth c s.heap [] 0 0 Q (F0 m 0 ls []) = W p l e rmX11_light s m args below meth c H locs 0 0 Q (F0 m 0 ls []) from by rw [hH, hlo]]
  refine lv_aload_n hx hb dX11_light_0 rfl (lv_at hl 0 rfl) ?_
  refine va_get (D := D) (ci := 11) (v := .ref (aR 0)) (C := RX11) (T := TX11) (N := 8) hx hb hw inW_X11 hown hK hP 0 rfl rfl 1 (by decide) (hw _ mw_2_144) (fun _ h9 => h9) rfl dX11_light_1 ?_
  refine lv_iload_n hx hb dX11_light_4 rfl (lv_at hl 1 rfl) ?_
  refine cGoI (wo := fun u => [cLockRail L0 (aU 0) (aR 0) (aR2 0) h_images (aS 0) n0 y0 o0 C ] ++ (wReader aU C us ua ++ (wRail aR C rs ra ++ (wRail aR2 C rs2 ra2 ++ (wSlots aS C sa sl ++ (wNight n0 aN C ns na nl ++ ([cYear y0 y1 y2 C y_isThere y_taken y_took] ++ ([cOb o0 C o_of])))))))) (cRunVN (As := [.int p1]) (rest := []) ⟨hx, hb, hml, hown, hw⟩ hK hN hP hD [3, 4, 5, 6, 7, 8] rfl rfl (k_X4_hasPlace l D C _ aR  rs ra p1 h) ⟨va_cnB 1 hw (goodN mw_3_165) rfl rfl rfl (hN.m 29 rfl) (hw _ mw_1_4) (by decide +kernel) ⟨Nat.le_of_ble_eq_true rfl, Nat.le_of_ble_eq_true rfl⟩, hw _ mw_3_164, hw _ mw_s32⟩ rfl rfl rfl hl.1 rfl (Nat.le_of_ble_eq_true rfl) dX11_light_5 ⟨Nat.zero_le _, Nat.zero_le _⟩) hP hD hS hA [3, 4, 5, 6, 7, 8] [0, 1, 2, 9, 10, 11, 12, 13, 14, 15, 16, 17, 18, 19, 20] [0, 1, 2, 15, 16, 17, 18, 19, 20, 3, 4, 5, 6, 7, 8, 9, 10, 11, 12, 13, 14] rfl rfl rfl (by decide) rfl (fun _ => rfl) (fun r1 u H locs h hP hD hS => ?_)
  have hP : va_P D vwCl (List.flatten ([cLockRail L0 (aU 0) (aR 0) (aR2 0) h_images (aS 0) n0 y0 o0 C ] ++ (wReader aU C us ua ++ (wRail aR C rs ra ++ (wRail aR2 C rs2 ra2 ++ (wSlots aS C sa sl ++ (wNight n0 aN C ns na nl ++ ([cYear y0 y1 y2 C y_isThere y_taken y_took] ++ ([cOb o0 C o_of]))))))))) H := hP
  have hD : va_D A (List.flatten ([cLockRail L0 (aU 0) (aR 0) (aR2 0) h_images (aS 0) n0 y0 o0 C ] ++ (wReader aU C us ua ++ (wRail aR C rs ra ++ (wRail aR2 C rs2 ra2 ++ (wSlots aS C sa sl ++ (wNight n0 aN C ns na nl ++ ([cYear y0 y1 y2 C y_isThere y_taken y_took] ++ ([cOb o0 C o_of]))))))))) := hD
  refine lv_if_eq (tgt := 22) hx hb dX11_light_8 (by decide) (fun c2 => ?_) (fun c2 => ?_)
  · have h := h.1 c2
    refine lv_bipush (v := (-2)) hx hb dX11_light_22 (by decide) ?_
    rw [← hQ]
    exact cRetI (v := (-2)) () hx hb hr hlocks hS hP hD h dX11_light_24
  · have h := h.2 c2
    refine lv_aload_n hx hb dX11_light_11 rfl (lv_at hl 0 rfl) ?_
    refine va_get (D := D) (ci := 11) (v := .ref (aR 0)) (C := RX11) (T := TX11) (N := 8) hx hb hw inW_X11 hown hK hP 0 rfl rfl 1 (by decide) (hw _ mw_2_144) (fun _ h9 => h9) rfl dX11_light_12 ?_
    refine lv_iload_n hx hb dX11_light_15 rfl (lv_at hl 1 rfl) ?_
    refine cGoI (wo := fun u => [cLockRail L0 (aU 0) (aR 0) (aR2 0) h_images (aS 0) n0 y0 o0 C ] ++ (wReader aU C us ua ++ (wRail aR C rs ra ++ (wRail aR2 C rs2 ra2 ++ (wSlots aS C sa sl ++ (wNight n0 aN C ns na nl ++ ([cYear y0 y1 y2 C y_isThere y_taken y_took] ++ ([cOb o0 C o_of])))))))) (cRunVN (As := [.int p1]) (rest := []) ⟨hx, hb, hml, hown, hw⟩ hK hN hP hD [3, 4, 5, 6, 7, 8] rfl rfl (k_X4_lightOf l D C _ aR  rs ra p1 h) ⟨va_cnB 1 hw (goodN mw_3_169) rfl rfl rfl (hN.m 30 rfl) (hw _ mw_1_4) (by decide +kernel) ⟨Nat.le_of_ble_eq_true rfl, Nat.le_of_ble_eq_true rfl⟩, hw _ mw_3_168, hw _ mw_s33⟩ rfl rfl rfl hl.1 rfl (Nat.le_of_ble_eq_true rfl) dX11_light_16 ⟨Nat.zero_le _, Nat.zero_le _⟩) hP hD hS hA [3, 4, 5, 6, 7, 8] [0, 1, 2, 9, 10, 11, 12, 13, 14, 15, 16, 17, 18, 19, 20] [0, 1, 2, 15, 16, 17, 18, 19, 20, 3, 4, 5, 6, 7, 8, 9, 10, 11, 12, 13, 14] rfl rfl rfl (by decide) rfl (fun _ => rfl) (fun r3 u H locs h hP hD hS => ?_)
    have hP : va_P D vwCl (List.flatten ([cLockRail L0 (aU 0) (aR 0) (aR2 0) h_images (aS 0) n0 y0 o0 C ] ++ (wReader aU C us ua ++ (wRail aR C rs ra ++ (wRail aR2 C rs2 ra2 ++ (wSlots aS C sa sl ++ (wNight n0 aN C ns na nl ++ ([cYear y0 y1 y2 C y_isThere y_taken y_took] ++ ([cOb o0 C o_of]))))))))) H := hP
    have hD : va_D A (List.flatten ([cLockRail L0 (aU 0) (aR 0) (aR2 0) h_images (aS 0) n0 y0 o0 C ] ++ (wReader aU C us ua ++ (wRail aR C rs ra ++ (wRail aR2 C rs2 ra2 ++ (wSlots aS C sa sl ++ (wNight n0 aN C ns na nl ++ ([cYear y0 y1 y2 C y_isThere y_taken y_took] ++ ([cOb o0 C o_of]))))))))) := hD
    refine lv_goto (tgt := 24) hx hb dX11_light_19 (by decide) ?_
    rw [← hQ]
    exact cRetI (v := r3) () hx hb hr hlocks hS hP hD h dX11_light_24
abbrev vsX11_bike : List Cond := Cond.code yX11_bike cX11_bike 3 (some .int) :: WS
abbrev rmX11_bike : Room := { frames := 1, cells := 0, slots := 0, locals := 21 }
set_option maxHeartbeats 4000000 in
set_option maxRecDepth 100000 in
theorem k_X11_bike (l : Launch) (D : va_G) (C : Nat → ClassId) (sz : Nat) (L0 : Nat) (aU : Nat → Nat) (aR : Nat → Nat) (aR2 : Nat → Nat) (aS : Nat → Nat) (n0 : Nat) (aN : Nat → Nat) (y0 : Nat) (y1 : Nat) (y2 : Nat) (o0 : Nat) (h_images : Nat) (us : Nat → Int32) (ua : Nat → Nat → Int32) (rs : Nat → Int32) (ra : Nat → Nat → Int32) (rs2 : Nat → Int32) (ra2 : Nat → Nat → Int32) (sa : Nat → Nat → Int32) (sl : Nat → Nat → Int64) (ns : Nat → Int32) (na : Nat → Nat → Int32) (nl : Nat → Nat → Int64) (y_isThere : Int32) (y_taken : Nat → Int32) (y_took : Nat → Int32) (o_of : Nat → Int64) (p1 : Int32) (p2 : Int32) {post : Int32 → Prop} (h : P_X11_bike rs ra p1 p2 post) : Met l yX11_bike vsX11_bike rmX11_bike (cPre D C [.ref L0, .int p1, .int p2] sz ([cLockRail L0 (aU 0) (aR 0) (aR2 0) h_images (aS 0) n0 y0 o0 C ] ++ (wReader aU C us ua ++ (wRail aR C rs ra ++ (wRail aR2 C rs2 ra2 ++ (wSlots aS C sa sl ++ (wNight n0 aN C ns na nl ++ ([cYear y0 y1 y2 C y_isThere y_taken y_took] ++ ([cOb o0 C o_of]))))))))) (cQi D (fun (r : Int32) (u : Unit) => post r ) (fun u => [cLockRail L0 (aU 0) (aR 0) (aR2 0) h_images (aS 0) n0 y0 o0 C ] ++ (wReader aU C us ua ++ (wRail aR C rs ra ++ (wRail aR2 C rs2 ra2 ++ (wSlots aS C sa sl ++ (wNight n0 aN C ns na nl ++ ([cYear y0 y1 y2 C y_isThere y_taken y_took] ++ ([cOb o0 C o_of])))))))) (va_A (List.flatten ([cLockRail L0 (aU 0) (aR 0) (aR2 0) h_images (aS 0) n0 y0 o0 C ] ++ (wReader aU C us ua ++ (wRail aR C rs ra ++ (wRail aR2 C rs2 ra2 ++ (wSlots aS C sa sl ++ (wNight n0 aN C ns na nl ++ ([cYear y0 y1 y2 C y_isThere y_taken y_took] ++ ([cOb o0 C o_of]))))))))) sz)) 0 0 (va_A (List.flatten ([cLockRail L0 (aU 0) (aR 0) (aR2 0) h_images (aS 0) n0 y0 o0 C ] ++ (wReader aU C us ua ++ (wRail aR C rs ra ++ (wRail aR2 C rs2 ra2 ++ (wSlots aS C sa sl ++ (wNight n0 aN C ns na nl ++ ([cYear y0 y1 y2 C y_isThere y_taken y_took] ++ ([cOb o0 C o_of]))))))))) sz) := by
  refine cStart (QA := fun A => cQi D (fun (r : Int32) (u : Unit) => post r ) (fun u => [cLockRail L0 (aU 0) (aR 0) (aR2 0) h_images (aS 0) n0 y0 o0 C ] ++ (wReader aU C us ua ++ (wRail aR C rs ra ++ (wRail aR2 C rs2 ra2 ++ (wSlots aS C sa sl ++ (wNight n0 aN C ns na nl ++ ([cYear y0 y1 y2 C y_isThere y_taken y_took] ++ ([cOb o0 C o_of])))))))) A) (cc := cX11_bike) (maxL := 3) (ret := (some .int)) (by decide) (Nat.le_of_ble_eq_true rfl) ?_
  intro p e s m args below meth c A ls hx hb hr hml hown hw hlocks hname hK hN hA hP hD hS hl
  generalize hQ : MQ below _ args s 0 0 A = Q
  have hl : lv_has ls 3 [(0, .ref L0), (1, .int p1), (2, .int p2)] := hl
  have hn97 : (Cond.fieldLinkNest "LockRail" 97 "LockRail$Rail" "bikes" "LLockRail$Bikes;" "LockRail").before args s = true := hN.f 61 rfl
  have hn101 : (Cond.fieldLinkNest "LockRail" 101 "LockRail$Bikes" "worth" "[I" "LockRail").before args s = true := hN.f 21 rfl
  have hn107 : (Cond.fieldLinkNest "LockRail" 107 "LockRail$Bikes" "seems" "[I" "LockRail").before args s = true := hN.f 24 rfl
  have hn110 : (Cond.fieldLinkNest "LockRail" 110 "LockRail$Bikes" "place" "[I" "LockRail").before args s = true := hN.f 27 rfl
  have hn113 : (Cond.fieldLinkNest "LockRail" 113 "LockRail$Bikes" "lock" "[I" "LockRail").before args s = true := hN.f 28 rfl
  have hn116 : (Cond.fieldLinkNest "LockRail" 116 "LockRail$Bikes" "marked" "[Z" "LockRail").before args s = true := hN.f 30 rfl
  obtain ⟨H, hH⟩ : ∃ H, H = s.heap := ⟨_, rfl⟩
  obtain ⟨locs, hlo⟩ : ∃ z : List Loc, z = [] := ⟨_, rfl⟩
  have hP : va_P D vwCl (List.flatten ([cLockRail L0 (aU 0) (aR 0) (aR2 0) h_images (aS 0) n0 y0 o0 C ] ++ (wReader aU C us ua ++ (wRail aR C rs ra ++ (wRail aR2 C rs2 ra2 ++ (wSlots aS C sa sl ++ (wNight n0 aN C ns na nl ++ ([cYear y0 y1 y2 C y_isThere y_taken y_took] ++ ([cOb o0 C o_of]))))))))) H := by rw [hH]; exact hP
  have hS : va_S A s.heap H locs := by rw [hH, hlo]; exact hS
  rw [show W p l e rmX11_bike s m args below meth c s.heap [] 0 0 Q (F0 m 0 ls []) = W p l e rmX11_bike s m args below meth c H locs 0 0 Q (F0 m 0 ls []) from by rw [hH, hlo]]
  refine lv_aload_n hx hb dX11_bike_0 rfl (lv_at hl 0 rfl) ?_
  refine va_get (D := D) (ci := 11) (v := .ref (aR 0)) (C := RX11) (T := TX11) (N := 8) hx hb hw inW_X11 hown hK hP 0 rfl rfl 1 (by decide) (hw _ mw_2_144) (fun _ h9 => h9) rfl dX11_bike_1 ?_
  refine lv_iload_n hx hb dX11_bike_4 rfl (lv_at hl 1 rfl) ?_
  refine cGoI (wo := fun u => [cLockRail L0 (aU 0) (aR 0) (aR2 0) h_images (aS 0) n0 y0 o0 C ] ++ (wReader aU C us ua ++ (wRail aR C rs ra ++ (wRail aR2 C rs2 ra2 ++ (wSlots aS C sa sl ++ (wNight n0 aN C ns na nl ++ ([cYear y0 y1 y2 C y_isThere y_taken y_took] ++ ([cOb o0 C o_of])))))))) (cRunVN (As := [.int p1]) (rest := []) ⟨hx, hb, hml, hown, hw⟩ hK hN hP hD [3, 4, 5, 6, 7, 8] rfl rfl (k_X4_hasBike l D C _ aR  rs ra p1 h) ⟨va_cnB 1 hw (goodN mw_3_183) rfl rfl rfl (hN.m 31 rfl) (hw _ mw_1_4) (by decide +kernel) ⟨Nat.le_of_ble_eq_true rfl, Nat.le_of_ble_eq_true rfl⟩, hw _ mw_3_182, hw _ mw_s34⟩ rfl rfl rfl hl.1 rfl (Nat.le_of_ble_eq_true rfl) dX11_bike_5 ⟨Nat.zero_le _, Nat.zero_le _⟩) hP hD hS hA [3, 4, 5, 6, 7, 8] [0, 1, 2, 9, 10, 11, 12, 13, 14, 15, 16, 17, 18, 19, 20] [0, 1, 2, 15, 16, 17, 18, 19, 20, 3, 4, 5, 6, 7, 8, 9, 10, 11, 12, 13, 14] rfl rfl rfl (by decide) rfl (fun _ => rfl) (fun r1 u H locs h hP hD hS => ?_)
  have hP : va_P D vwCl (List.flatten ([cLockRail L0 (aU 0) (aR 0) (aR2 0) h_images (aS 0) n0 y0 o0 C ] ++ (wReader aU C us ua ++ (wRail aR C rs ra ++ (wRail aR2 C rs2 ra2 ++ (wSlots aS C sa sl ++ (wNight n0 aN C ns na nl ++ ([cYear y0 y1 y2 C y_isThere y_taken y_took] ++ ([cOb o0 C o_of]))))))))) H := hP
  have hD : va_D A (List.flatten ([cLockRail L0 (aU 0) (aR 0) (aR2 0) h_images (aS 0) n0 y0 o0 C ] ++ (wReader aU C us ua ++ (wRail aR C rs ra ++ (wRail aR2 C rs2 ra2 ++ (wSlots aS C sa sl ++ (wNight n0 aN C ns na nl ++ ([cYear y0 y1 y2 C y_isThere y_taken y_took] ++ ([cOb o0 C o_of]))))))))) := hD
  refine lv_if_ne (tgt := 14) hx hb dX11_bike_8 (by decide) (fun c2 => ?_) (fun c2 => ?_)
  · have h := h.1 c2
    refine lv_iload_n hx hb dX11_bike_14 rfl (lv_at hl 2 rfl) ?_
    by_cases c3_0 : p2 = 0
    · refine lv_tableIn (tgt := 48) hx hb dX11_bike_15 (by rw [c3_0] <;> decide) (by rw [c3_0] <;> decide) (by rw [c3_0] <;> rfl) (by decide) ?_
      have h := h.1 c3_0
      refine lv_aload_n hx hb dX11_bike_48 rfl (lv_at hl 0 rfl) ?_
      refine va_get (D := D) (ci := 11) (v := .ref (aR 0)) (C := RX11) (T := TX11) (N := 8) hx hb hw inW_X11 hown hK hP 0 rfl rfl 1 (by decide) (hw _ mw_2_144) (fun _ h9 => h9) rfl dX11_bike_49 ?_
      refine va_getN (D := D) (ci := 4) (v := .ref (aR 7)) (C := RX4) (T := TX4) (N := 16) hx hb hw inW_X4 hown hK hP 4 rfl rfl 5 (by decide) hn97 (fun _ h9 => h9) rfl dX11_bike_52 ?_
      refine va_getN (D := D) (ci := 0) (v := .ref (aR 8)) (C := RX0) (T := TX0) (N := 6) hx hb hw inW_X0 hown hK hP 11 rfl rfl 1 (by decide) hn101 (fun _ h9 => h9) rfl dX11_bike_55 ?_
      refine lv_iload_n hx hb dX11_bike_58 rfl (lv_at hl 1 rfl) ?_
      refine cIald hx hb hK hP 12 0 rfl rfl p1.toNatClampNeg rfl h.1 dX11_bike_59 ?_
      have h := h.2
      rw [← hQ]
      exact cRetI (v := (ra 4 p1.toNatClampNeg)) () hx hb hr hlocks hS hP hD h dX11_bike_60
    by_cases c3_1 : p2 = 1
    · refine lv_tableIn (tgt := 61) hx hb dX11_bike_15 (by rw [c3_1] <;> decide) (by rw [c3_1] <;> decide) (by rw [c3_1] <;> rfl) (by decide) ?_
      have h := h.2.1 c3_1
      refine lv_aload_n hx hb dX11_bike_61 rfl (lv_at hl 0 rfl) ?_
      refine va_get (D := D) (ci := 11) (v := .ref (aR 0)) (C := RX11) (T := TX11) (N := 8) hx hb hw inW_X11 hown hK hP 0 rfl rfl 1 (by decide) (hw _ mw_2_144) (fun _ h9 => h9) rfl dX11_bike_62 ?_
      refine va_getN (D := D) (ci := 4) (v := .ref (aR 7)) (C := RX4) (T := TX4) (N := 16) hx hb hw inW_X4 hown hK hP 4 rfl rfl 5 (by decide) hn97 (fun _ h9 => h9) rfl dX11_bike_65 ?_
      refine va_getN (D := D) (ci := 0) (v := .ref (aR 9)) (C := RX0) (T := TX0) (N := 6) hx hb hw inW_X0 hown hK hP 11 rfl rfl 2 (by decide) hn107 (fun _ h9 => h9) rfl dX11_bike_68 ?_
      refine lv_iload_n hx hb dX11_bike_71 rfl (lv_at hl 1 rfl) ?_
      refine cIald hx hb hK hP 13 0 rfl rfl p1.toNatClampNeg rfl h.1 dX11_bike_72 ?_
      have h := h.2
      rw [← hQ]
      exact cRetI (v := (ra 5 p1.toNatClampNeg)) () hx hb hr hlocks hS hP hD h dX11_bike_73
    by_cases c3_2 : p2 = 2
    · refine lv_tableIn (tgt := 74) hx hb dX11_bike_15 (by rw [c3_2] <;> decide) (by rw [c3_2] <;> decide) (by rw [c3_2] <;> rfl) (by decide) ?_
      have h := h.2.2.1 c3_2
      refine lv_aload_n hx hb dX11_bike_74 rfl (lv_at hl 0 rfl) ?_
      refine va_get (D := D) (ci := 11) (v := .ref (aR 0)) (C := RX11) (T := TX11) (N := 8) hx hb hw inW_X11 hown hK hP 0 rfl rfl 1 (by decide) (hw _ mw_2_144) (fun _ h9 => h9) rfl dX11_bike_75 ?_
      refine va_getN (D := D) (ci := 4) (v := .ref (aR 7)) (C := RX4) (T := TX4) (N := 16) hx hb hw inW_X4 hown hK hP 4 rfl rfl 5 (by decide) hn97 (fun _ h9 => h9) rfl dX11_bike_78 ?_
      refine va_getN (D := D) (ci := 0) (v := .ref (aR 10)) (C := RX0) (T := TX0) (N := 6) hx hb hw inW_X0 hown hK hP 11 rfl rfl 3 (by decide) hn110 (fun _ h9 => h9) rfl dX11_bike_81 ?_
      refine lv_iload_n hx hb dX11_bike_84 rfl (lv_at hl 1 rfl) ?_
      refine cIald hx hb hK hP 14 0 rfl rfl p1.toNatClampNeg rfl h.1 dX11_bike_85 ?_
      have h := h.2
      rw [← hQ]
      exact cRetI (v := (ra 6 p1.toNatClampNeg)) () hx hb hr hlocks hS hP hD h dX11_bike_86
    by_cases c3_3 : p2 = 3
    · refine lv_tableIn (tgt := 87) hx hb dX11_bike_15 (by rw [c3_3] <;> decide) (by rw [c3_3] <;> decide) (by rw [c3_3] <;> rfl) (by decide) ?_
      have h := h.2.2.2.1 c3_3
      refine lv_aload_n hx hb dX11_bike_87 rfl (lv_at hl 0 rfl) ?_
      refine va_get (D := D) (ci := 11) (v := .ref (aR 0)) (C := RX11) (T := TX11) (N := 8) hx hb hw inW_X11 hown hK hP 0 rfl rfl 1 (by decide) (hw _ mw_2_144) (fun _ h9 => h9) rfl dX11_bike_88 ?_
      refine va_getN (D := D) (ci := 4) (v := .ref (aR 7)) (C := RX4) (T := TX4) (N := 16) hx hb hw inW_X4 hown hK hP 4 rfl rfl 5 (by decide) hn97 (fun _ h9 => h9) rfl dX11_bike_91 ?_
      refine va_getN (D := D) (ci := 0) (v := .ref (aR 11)) (C := RX0) (T := TX0) (N := 6) hx hb hw inW_X0 hown hK hP 11 rfl rfl 4 (by decide) hn113 (fun _ h9 => h9) rfl dX11_bike_94 ?_
      refine lv_iload_n hx hb dX11_bike_97 rfl (lv_at hl 1 rfl) ?_
      refine cIald hx hb hK hP 15 0 rfl rfl p1.toNatClampNeg rfl h.1 dX11_bike_98 ?_
      have h := h.2
      rw [← hQ]
      exact cRetI (v := (ra 7 p1.toNatClampNeg)) () hx hb hr hlocks hS hP hD h dX11_bike_99
    by_cases c3_4 : p2 = 4
    · refine lv_tableIn (tgt := 100) hx hb dX11_bike_15 (by rw [c3_4] <;> decide) (by rw [c3_4] <;> decide) (by rw [c3_4] <;> rfl) (by decide) ?_
      have h := h.2.2.2.2.1 c3_4
      refine lv_aload_n hx hb dX11_bike_100 rfl (lv_at hl 0 rfl) ?_
      refine va_get (D := D) (ci := 11) (v := .ref (aR 0)) (C := RX11) (T := TX11) (N := 8) hx hb hw inW_X11 hown hK hP 0 rfl rfl 1 (by decide) (hw _ mw_2_144) (fun _ h9 => h9) rfl dX11_bike_101 ?_
      refine va_getN (D := D) (ci := 4) (v := .ref (aR 7)) (C := RX4) (T := TX4) (N := 16) hx hb hw inW_X4 hown hK hP 4 rfl rfl 5 (by decide) hn97 (fun _ h9 => h9) rfl dX11_bike_104 ?_
      refine va_getN (D := D) (ci := 0) (v := .ref (aR 12)) (C := RX0) (T := TX0) (N := 6) hx hb hw inW_X0 hown hK hP 11 rfl rfl 5 (by decide) hn116 (fun _ h9 => h9) rfl dX11_bike_107 ?_
      refine lv_iload_n hx hb dX11_bike_110 rfl (lv_at hl 1 rfl) ?_
      refine cZald hx hb hK hP 16 3 rfl rfl p1.toNatClampNeg rfl h.1 dX11_bike_111 ?_
      have h := h.2
      refine lv_if_eq (tgt := 119) hx hb dX11_bike_112 (by decide) (fun c4 => ?_) (fun c4 => ?_)
      · have h := h.1 c4
        refine lv_iconst (v := 0) hx hb dX11_bike_119 (by decide) ?_
        rw [← hQ]
        exact cRetI (v := 0) () hx hb hr hlocks hS hP hD h dX11_bike_120
      · have h := h.2 c4
        refine lv_iconst (v := 1) hx hb dX11_bike_115 (by decide) ?_
        refine lv_goto (tgt := 120) hx hb dX11_bike_116 (by decide) ?_
        rw [← hQ]
        exact cRetI (v := 1) () hx hb hr hlocks hS hP hD h dX11_bike_120
    refine lv_tableOut (tgt := 121) hx hb dX11_bike_15 (sw_out5 c3_0 c3_1 c3_2 c3_3 c3_4) (by decide) ?_
    have h := h.2.2.2.2.2 c3_0 c3_1 c3_2 c3_3 c3_4
    refine lv_bipush (v := (-2)) hx hb dX11_bike_121 (by decide) ?_
    rw [← hQ]
    exact cRetI (v := (-2)) () hx hb hr hlocks hS hP hD h dX11_bike_123
  · have h := h.2 c2
    refine lv_bipush (v := (-2)) hx hb dX11_bike_11 (by decide) ?_
    rw [← hQ]
    exact cRetI (v := (-2)) () hx hb hr hlocks hS hP hD h dX11_bike_13
