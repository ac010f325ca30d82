abbrev vsX11_caught : List Cond := Cond.code yX11_caught cX11_caught 6 (some .long) :: WS
abbrev rmX11_caught : Room := { frames := 4, cells := 0, slots := 0, locals := 108 }
set_option maxHeartbeats 4000000 in
set_option maxRecDepth 100000 in
theorem k_X11_caught (l : Launch) (D : va_G) (C : Nat → ClassId) (sz : Nat) (L0 : Nat) (aU : Nat → Nat) (aR : Nat → Nat) (aR2 : Nat → Nat) (aS : Nat → Nat) (n0 : Nat) (aN : Nat → Nat) (y0 : Nat) (y1 : Nat) (y2 : Nat) (o0 : Nat) (h_images : Nat) (us : Nat → Int32) (ua : Nat → Nat → Int32) (rs : Nat → Int32) (ra : Nat → Nat → Int32) (rs2 : Nat → Int32) (ra2 : Nat → Nat → Int32) (sa : Nat → Nat → Int32) (sl : Nat → Nat → Int64) (ns : Nat → Int32) (na : Nat → Nat → Int32) (nl : Nat → Nat → Int64) (y_isThere : Int32) (y_taken : Nat → Int32) (y_took : Nat → Int32) (o_of : Nat → Int64) (p1 : Int32) (p2 : Int32) (p3 : Int32) (p4 : Int32) {post : Int64 → (Nat → Int32) → (Nat → Nat → Int32) → (Nat → Nat → Int64) → Prop} (h : P_X11_caught rs ra ns na nl p1 p2 p3 p4 post) : Met l yX11_caught vsX11_caught rmX11_caught (cPre D C [.ref L0, .int p1, .int p2, .int p3, .int p4] sz ([cLockRail L0 (aU 0) (aR 0) (aR2 0) h_images (aS 0) n0 y0 o0 C ] ++ (wReader aU C us ua ++ (wRail aR C rs ra ++ (wRail aR2 C rs2 ra2 ++ (wSlots aS C sa sl ++ (wNight n0 aN C ns na nl ++ ([cYear y0 y1 y2 C y_isThere y_taken y_took] ++ ([cOb o0 C o_of]))))))))) (cQl D (fun (r : Int64) (u : (Nat → Nat) × (Nat → Int32) × (Nat → Nat → Int32) × (Nat → Nat → Int64)) => post r u.2.1 u.2.2.1 u.2.2.2) (fun u => [cLockRail L0 (aU 0) (aR 0) (aR2 0) h_images (aS 0) n0 y0 o0 C ] ++ (wReader aU C us ua ++ (wRail aR C rs ra ++ (wRail aR2 C rs2 ra2 ++ (wSlots aS C sa sl ++ (wNight n0 u.1 C u.2.1 u.2.2.1 u.2.2.2 ++ ([cYear y0 y1 y2 C y_isThere y_taken y_took] ++ ([cOb o0 C o_of])))))))) (va_A (List.flatten ([cLockRail L0 (aU 0) (aR 0) (aR2 0) h_images (aS 0) n0 y0 o0 C ] ++ (wReader aU C us ua ++ (wRail aR C rs ra ++ (wRail aR2 C rs2 ra2 ++ (wSlots aS C sa sl ++ (wNight n0 aN C ns na nl ++ ([cYear y0 y1 y2 C y_isThere y_taken y_took] ++ ([cOb o0 C o_of]))))))))) sz)) 0 0 (va_A (List.flatten ([cLockRail L0 (aU 0) (aR 0) (aR2 0) h_images (aS 0) n0 y0 o0 C ] ++ (wReader aU C us ua ++ (wRail aR C rs ra ++ (wRail aR2 C rs2 ra2 ++ (wSlots aS C sa sl ++ (wNight n0 aN C ns na nl ++ ([cYear y0 y1 y2 C y_isThere y_taken y_took] ++ ([cOb o0 C o_of]))))))))) sz) := by
  refine cStart (QA := fun A => cQl D (fun (r : Int64) (u : (Nat → Nat) × (Nat → Int32) × (Nat → Nat → Int32) × (Nat → Nat → Int64)) => post r u.2.1 u.2.2.1 u.2.2.2) (fun u => [cLockRail L0 (aU 0) (aR 0) (aR2 0) h_images (aS 0) n0 y0 o0 C ] ++ (wReader aU C us ua ++ (wRail aR C rs ra ++ (wRail aR2 C rs2 ra2 ++ (wSlots aS C sa sl ++ (wNight n0 u.1 C u.2.1 u.2.2.1 u.2.2.2 ++ ([cYear y0 y1 y2 C y_isThere y_taken y_took] ++ ([cOb o0 C o_of])))))))) A) (cc := cX11_caught) (maxL := 6) (ret := (some .long)) (by decide) (Nat.le_of_ble_eq_true rfl) ?_
  intro p e s m args below meth c A ls hx hb hr hml hown hw hlocks hname hK hN hA hP hD hS hl
  generalize hQ : MQ below _ args s 0 0 A = Q
  have hl : lv_has ls 6 [(0, .ref L0), (1, .int p1), (2, .int p2), (3, .int p3), (4, .int p4)] := hl
  obtain ⟨H, hH⟩ : ∃ H, H = s.heap := ⟨_, rfl⟩
  obtain ⟨locs, hlo⟩ : ∃ z : List Loc, z = [] := ⟨_, rfl⟩
  have hP : va_P D vwCl (List.flatten ([cLockRail L0 (aU 0) (aR 0) (aR2 0) h_images (aS 0) n0 y0 o0 C ] ++ (wReader aU C us ua ++ (wRail aR C rs ra ++ (wRail aR2 C rs2 ra2 ++ (wSlots aS C sa sl ++ (wNight n0 aN C ns na nl ++ ([cYear y0 y1 y2 C y_isThere y_taken y_took] ++ ([cOb o0 C o_of]))))))))) H := by rw [hH]; exact hP
  have hS : va_S A s.heap H locs := by rw [hH, hlo]; exact hS
  rw [show W p l e rmX11_caught s m args below meth c s.heap [] 0 0 Q (F0 m 0 ls []) = W p l e rmX11_caught s m args below meth c H locs 0 0 Q (F0 m 0 ls []) from by rw [hH, hlo]]
  have N24 : ∀ (k0_ : Int32) (ns : Nat → Int32) (na : Nat → Nat → Int32) (nl : Nat → Nat → Int64) (aN : Nat → Nat) (H : Heap) (locs : List Loc) (ls : Array Slot), P_X11_caught_24 rs ra p1 p2 p3 p4 post  k0_ ns na nl → va_P D vwCl (List.flatten ([cLockRail L0 (aU 0) (aR 0) (aR2 0) h_images (aS 0) n0 y0 o0 C ] ++ (wReader aU C us ua ++ (wRail aR C rs ra ++ (wRail aR2 C rs2 ra2 ++ (wSlots aS C sa sl ++ (wNight n0 aN C ns na nl ++ ([cYear y0 y1 y2 C y_isThere y_taken y_took] ++ ([cOb o0 C o_of]))))))))) H → va_D A (List.flatten ([cLockRail L0 (aU 0) (aR 0) (aR2 0) h_images (aS 0) n0 y0 o0 C ] ++ (wReader aU C us ua ++ (wRail aR C rs ra ++ (wRail aR2 C rs2 ra2 ++ (wSlots aS C sa sl ++ (wNight n0 aN C ns na nl ++ ([cYear y0 y1 y2 C y_isThere y_taken y_took] ++ ([cOb o0 C o_of]))))))))) → va_S A s.heap H locs → lv_has ls 6 [(0, .ref L0), (1, .int p1), (3, .int p3), (4, .int p4)] → W p l e rmX11_caught s m args below meth c H locs 0 0 Q (F0 m 24 ls [.int k0_]) := by
    intro k0_ ns na nl aN H locs ls h hP hD hS hl
    refine lv_istore (lv' := [(5, .int k0_), (0, .ref L0), (1, .int p1), (3, .int p3), (4, .int p4)]) hx hb dX11_caught_24 hl (by decide) rfl (fun ls hl => ?_)
    refine lv_iload hx hb dX11_caught_26 (lv_at hl 0 rfl) ?_
    refine lv_if_eq (tgt := 35) hx hb dX11_caught_28 (by decide) (fun c1 => ?_) (fun c1 => ?_)
    · have h := h.1 c1
      refine lv_aload_n hx hb dX11_caught_35 rfl (lv_at hl 1 rfl) ?_
      refine va_get (D := D) (ci := 11) (v := .ref n0) (C := RX11) (T := TX11) (N := 8) hx hb hw inW_X11 hown hK hP 0 rfl rfl 5 (by decide) (hw _ mw_2_148) (fun _ h9 => h9) rfl dX11_caught_36 ?_
      refine lv_aload_n hx hb dX11_caught_39 rfl (lv_at hl 1 rfl) ?_
      refine va_get (D := D) (ci := 11) (v := .ref (aR 0)) (C := RX11) (T := TX11) (N := 8) hx hb hw inW_X11 hown hK hP 0 rfl rfl 1 (by decide) (hw _ mw_2_144) (fun _ h9 => h9) rfl dX11_caught_40 ?_
      refine lv_iload_n hx hb dX11_caught_43 rfl (lv_at hl 3 rfl) ?_
      refine lv_iload hx hb dX11_caught_44 (lv_at hl 4 rfl) ?_
      refine cGoV (wo := fun u => [cLockRail L0 (aU 0) (aR 0) (aR2 0) h_images (aS 0) n0 y0 o0 C ] ++ (wReader aU C us ua ++ (wRail aR C rs ra ++ (wRail aR2 C rs2 ra2 ++ (wSlots aS C sa sl ++ (wNight n0 u.1 C u.2.1 u.2.2.1 u.2.2.2 ++ ([cYear y0 y1 y2 C y_isThere y_taken y_took] ++ ([cOb o0 C o_of])))))))) (cRunVN (As := [.ref (aR 0), .int p3, .int p4]) (rest := []) ⟨hx, hb, hml, hown, hw⟩ hK hN hP hD [16, 17, 18, 3, 4, 5, 6, 7, 8] rfl rfl (k_X3_playBaited l D C _ n0 aN aR  ns na nl rs ra p3 p4 h) ⟨va_cnB 3 hw (goodN mw_5_76) rfl rfl rfl (hN.m 64 rfl) (hw _ mw_1_11) (by decide +kernel) ⟨Nat.le_of_ble_eq_true rfl, Nat.le_of_ble_eq_true rfl⟩, hw _ mw_5_75, hw _ mw_s82⟩ rfl rfl rfl hl.1 rfl (Nat.le_of_ble_eq_true rfl) dX11_caught_46 ⟨Nat.zero_le _, Nat.zero_le _⟩) hP hD hS hA [16, 17, 18, 3, 4, 5, 6, 7, 8] [0, 1, 2, 9, 10, 11, 12, 13, 14, 15, 19, 20] [0, 1, 2, 15, 16, 17, 18, 19, 20, 3, 4, 5, 6, 7, 8, 9, 12, 13, 14, 10, 11] rfl rfl rfl (by decide) rfl (fun _ => rfl) (fun u H locs h hP hD hS => ?_)
      obtain ⟨aN2, ns_3, na_4, nl_5⟩ := u
      have hP : va_P D vwCl (List.flatten ([cLockRail L0 (aU 0) (aR 0) (aR2 0) h_images (aS 0) n0 y0 o0 C ] ++ (wReader aU C us ua ++ (wRail aR C rs ra ++ (wRail aR2 C rs2 ra2 ++ (wSlots aS C sa sl ++ (wNight n0 aN2 C ns_3 na_4 nl_5 ++ ([cYear y0 y1 y2 C y_isThere y_taken y_took] ++ ([cOb o0 C o_of]))))))))) H := hP
      have hD : va_D A (List.flatten ([cLockRail L0 (aU 0) (aR 0) (aR2 0) h_images (aS 0) n0 y0 o0 C ] ++ (wReader aU C us ua ++ (wRail aR C rs ra ++ (wRail aR2 C rs2 ra2 ++ (wSlots aS C sa sl ++ (wNight n0 aN2 C ns_3 na_4 nl_5 ++ ([cYear y0 y1 y2 C y_isThere y_taken y_took] ++ ([cOb o0 C o_of]))))))))) := hD
      refine lv_aload_n hx hb dX11_caught_49 rfl (lv_at hl 1 rfl) ?_
      refine va_get (D := D) (ci := 11) (v := .ref n0) (C := RX11) (T := TX11) (N := 8) hx hb hw inW_X11 hown hK hP 0 rfl rfl 5 (by decide) (hw _ mw_2_148) (fun _ h9 => h9) rfl dX11_caught_50 ?_
      refine lv_iload_n hx hb dX11_caught_53 rfl (lv_at hl 2 rfl) ?_
      refine cGoL (wo := fun u => [cLockRail L0 (aU 0) (aR 0) (aR2 0) h_images (aS 0) n0 y0 o0 C ] ++ (wReader aU C us ua ++ (wRail aR C rs ra ++ (wRail aR2 C rs2 ra2 ++ (wSlots aS C sa sl ++ (wNight n0 aN2 C ns_3 na_4 nl_5 ++ ([cYear y0 y1 y2 C y_isThere y_taken y_took] ++ ([cOb o0 C o_of])))))))) (cRunVN (As := [.int p1]) (rest := []) ⟨hx, hb, hml, hown, hw⟩ hK hN hP hD [16, 17, 18] rfl rfl (k_X3_partsCaught l D C _ n0 aN2  ns_3 na_4 nl_5 p1 h) ⟨va_cnB 1 hw (goodN mw_5_92) rfl rfl rfl (hN.m 66 rfl) (hw _ mw_1_11) (by decide +kernel) ⟨Nat.le_of_ble_eq_true rfl, Nat.le_of_ble_eq_true rfl⟩, hw _ mw_5_91, hw _ mw_s85⟩ rfl rfl rfl hl.1 rfl (Nat.le_of_ble_eq_true rfl) dX11_caught_54 ⟨Nat.zero_le _, Nat.zero_le _⟩) hP hD hS hA [16, 17, 18] [0, 1, 2, 3, 4, 5, 6, 7, 8, 9, 10, 11, 12, 13, 14, 15, 19, 20] [0, 1, 2, 3, 4, 5, 6, 7, 8, 9, 10, 11, 12, 13, 14, 15, 18, 19, 20, 16, 17] rfl rfl rfl (by decide) rfl (fun _ => rfl) (fun r6 u H locs h hP hD hS => ?_)
      have hP : va_P D vwCl (List.flatten ([cLockRail L0 (aU 0) (aR 0) (aR2 0) h_images (aS 0) n0 y0 o0 C ] ++ (wReader aU C us ua ++ (wRail aR C rs ra ++ (wRail aR2 C rs2 ra2 ++ (wSlots aS C sa sl ++ (wNight n0 aN2 C ns_3 na_4 nl_5 ++ ([cYear y0 y1 y2 C y_isThere y_taken y_took] ++ ([cOb o0 C o_of]))))))))) H := hP
      have hD : va_D A (List.flatten ([cLockRail L0 (aU 0) (aR 0) (aR2 0) h_images (aS 0) n0 y0 o0 C ] ++ (wReader aU C us ua ++ (wRail aR C rs ra ++ (wRail aR2 C rs2 ra2 ++ (wSlots aS C sa sl ++ (wNight n0 aN2 C ns_3 na_4 nl_5 ++ ([cYear y0 y1 y2 C y_isThere y_taken y_took] ++ ([cOb o0 C o_of]))))))))) := hD
      rw [← hQ]
      exact cRetL (v := r6) (aN2, ns_3, na_4, nl_5) hx hb hr hlocks hS hP hD h dX11_caught_57
    · have h := h.2 c1
      refine lv_iload hx hb dX11_caught_31 (lv_at hl 0 rfl) ?_
      refine lv_i2l hx hb dX11_caught_33 rfl ?_
      rw [← hQ]
      exact cRetL (v := k0_.toInt64) (aN, ns, na, nl) hx hb hr hlocks hS hP hD h dX11_caught_34
  refine lv_aload_n hx hb dX11_caught_0 rfl (lv_at hl 0 rfl) ?_
  refine va_get (D := D) (ci := 11) (v := .ref (aR 0)) (C := RX11) (T := TX11) (N := 8) hx hb hw inW_X11 hown hK hP 0 rfl rfl 1 (by decide) (hw _ mw_2_144) (fun _ h9 => h9) rfl dX11_caught_1 ?_
  refine lv_iload_n hx hb dX11_caught_4 rfl (lv_at hl 1 rfl) ?_
  refine cGoI (wo := fun u => [cLockRail L0 (aU 0) (aR 0) (aR2 0) h_images (aS 0) n0 y0 o0 C ] ++ (wReader aU C us ua ++ (wRail aR C rs ra ++ (wRail aR2 C rs2 ra2 ++ (wSlots aS C sa sl ++ (wNight n0 aN C ns na nl ++ ([cYear y0 y1 y2 C y_isThere y_taken y_took] ++ ([cOb o0 C o_of])))))))) (cRunVN (As := [.int p1]) (rest := []) ⟨hx, hb, hml, hown, hw⟩ hK hN hP hD [3, 4, 5, 6, 7, 8] rfl rfl (k_X4_hasThief l D C _ aR  rs ra p1 h) ⟨va_cnB 1 hw (goodN mw_3_191) rfl rfl rfl (hN.m 32 rfl) (hw _ mw_1_4) (by decide +kernel) ⟨Nat.le_of_ble_eq_true rfl, Nat.le_of_ble_eq_true rfl⟩, hw _ mw_3_190, hw _ mw_s35⟩ rfl rfl rfl hl.1 rfl (Nat.le_of_ble_eq_true rfl) dX11_caught_5 ⟨Nat.zero_le _, Nat.zero_le _⟩) hP hD hS hA [3, 4, 5, 6, 7, 8] [0, 1, 2, 9, 10, 11, 12, 13, 14, 15, 16, 17, 18, 19, 20] [0, 1, 2, 15, 16, 17, 18, 19, 20, 3, 4, 5, 6, 7, 8, 9, 10, 11, 12, 13, 14] rfl rfl rfl (by decide) rfl (fun _ => rfl) (fun r7 u H locs h hP hD hS => ?_)
  have hP : va_P D vwCl (List.flatten ([cLockRail L0 (aU 0) (aR 0) (aR2 0) h_images (aS 0) n0 y0 o0 C ] ++ (wReader aU C us ua ++ (wRail aR C rs ra ++ (wRail aR2 C rs2 ra2 ++ (wSlots aS C sa sl ++ (wNight n0 aN C ns na nl ++ ([cYear y0 y1 y2 C y_isThere y_taken y_took] ++ ([cOb o0 C o_of]))))))))) H := hP
  have hD : va_D A (List.flatten ([cLockRail L0 (aU 0) (aR 0) (aR2 0) h_images (aS 0) n0 y0 o0 C ] ++ (wReader aU C us ua ++ (wRail aR C rs ra ++ (wRail aR2 C rs2 ra2 ++ (wSlots aS C sa sl ++ (wNight n0 aN C ns na nl ++ ([cYear y0 y1 y2 C y_isThere y_taken y_took] ++ ([cOb o0 C o_of]))))))))) := hD
  refine lv_if_eq (tgt := 22) hx hb dX11_caught_8 (by decide) (fun c8 => ?_) (fun c8 => ?_)
  · have h := h.1 c8
    refine lv_bipush (v := (-2)) hx hb dX11_caught_22 (by decide) ?_
    exact N24 (-2) ns na nl aN _ _ _ h hP hD hS (lv_sub hl [0, 1, 3, 4] rfl)
  · have h := h.2 c8
    refine lv_aload_n hx hb dX11_caught_11 rfl (lv_at hl 0 rfl) ?_
    refine lv_iload_n hx hb dX11_caught_12 rfl (lv_at hl 2 rfl) ?_
    refine lv_iload_n hx hb dX11_caught_13 rfl (lv_at hl 3 rfl) ?_
    refine lv_iload hx hb dX11_caught_14 (lv_at hl 4 rfl) ?_
    refine cGoI (wo := fun u => [cLockRail L0 (aU 0) (aR 0) (aR2 0) h_images (aS 0) n0 y0 o0 C ] ++ (wReader aU C us ua ++ (wRail aR C rs ra ++ (wRail aR2 C rs2 ra2 ++ (wSlots aS C sa sl ++ (wNight n0 aN C ns na nl ++ ([cYear y0 y1 y2 C y_isThere y_taken y_took] ++ ([cOb o0 C o_of])))))))) (cRunV (As := [.int p2, .int p3, .int p4]) (rest := []) ⟨hx, hb, hml, hown, hw⟩ hK hN hP hD [0, 3, 4, 5, 6, 7, 8] rfl rfl (k_X11_refusedBait l D C _ L0 aR (aU 0) (aR2 0) h_images (aS 0) n0 y0 o0  rs ra p2 p3 p4 h) (cwV 3 hw (goodV mw_5_69 mw_5_71 mw_s81 mw_1_1 mw_5_72) rfl rfl rfl (by decide +kernel) ⟨Nat.le_of_ble_eq_true rfl, Nat.le_of_ble_eq_true rfl⟩) rfl rfl rfl hl.1 rfl (Nat.le_of_ble_eq_true rfl) dX11_caught_16 ⟨Nat.zero_le _, Nat.zero_le _⟩) hP hD hS hA [0, 3, 4, 5, 6, 7, 8] [1, 2, 9, 10, 11, 12, 13, 14, 15, 16, 17, 18, 19, 20] [14, 0, 1, 15, 16, 17, 18, 19, 20, 2, 3, 4, 5, 6, 7, 8, 9, 10, 11, 12, 13] rfl rfl rfl (by decide) rfl (fun _ => rfl) (fun r9 u H locs h hP hD hS => ?_)
    have hP : va_P D vwCl (List.flatten ([cLockRail L0 (aU 0) (aR 0) (aR2 0) h_images (aS 0) n0 y0 o0 C ] ++ (wReader aU C us ua ++ (wRail aR C rs ra ++ (wRail aR2 C rs2 ra2 ++ (wSlots aS C sa sl ++ (wNight n0 aN C ns na nl ++ ([cYear y0 y1 y2 C y_isThere y_taken y_took] ++ ([cOb o0 C o_of]))))))))) H := hP
    have hD : va_D A (List.flatten ([cLockRail L0 (aU 0) (aR 0) (aR2 0) h_images (aS 0) n0 y0 o0 C ] ++ (wReader aU C us ua ++ (wRail aR C rs ra ++ (wRail aR2 C rs2 ra2 ++ (wSlots aS C sa sl ++ (wNight n0 aN C ns na nl ++ ([cYear y0 y1 y2 C y_isThere y_taken y_took] ++ ([cOb o0 C o_of]))))))))) := hD
    refine lv_goto (tgt := 24) hx hb dX11_caught_19 (by decide) ?_
    exact N24 r9 ns na nl aN _ _ _ h hP hD hS (lv_sub hl [0, 1, 3, 4] rfl)
abbrev vsX11_lures : List Cond := Cond.code yX11_lures cX11_lures 5 (some .int) :: WS
abbrev rmX11_lures : Room := { frames := 4, cells := 0, slots := 0, locals := 98 }
set_option maxHeartbeats 4000000 in
set_option maxRecDepth 100000 in
theorem k_X11_lures (l : Launch) (D : va_G) (C : Nat → ClassId) (sz : Nat) (L0 : Nat) (aU : Nat → Nat) (aR : Nat → Nat) (aR2 : Nat → Nat) (aS : Nat → Nat) (n0 : Nat) (aN : Nat → Nat) (y0 : Nat) (y1 : Nat) (y2 : Nat) (o0 : Nat) (h_images : Nat) (us : Nat → Int32) (ua : Nat → Nat → Int32) (rs : Nat → Int32) (ra : Nat → Nat → Int32) (rs2 : Nat → Int32) (ra2 : Nat → Nat → Int32) (sa : Nat → Nat → Int32) (sl : Nat → Nat → Int64) (ns : Nat → Int32) (na : Nat → Nat → Int32) (nl : Nat → Nat → Int64) (y_isThere : Int32) (y_taken : Nat → Int32) (y_took : Nat → Int32) (o_of : Nat → Int64) (p1 : Int32) {post : Int32 → (Nat → Int32) → (Nat → Nat → Int32) → Prop} (h : P_X11_lures rs ra ns na p1 post) : Met l yX11_lures vsX11_lures rmX11_lures (cPre D C [.ref L0, .int p1] sz ([cLockRail L0 (aU 0) (aR 0) (aR2 0) h_images (aS 0) n0 y0 o0 C ] ++ (wReader aU C us ua ++ (wRail aR C rs ra ++ (wRail aR2 C rs2 ra2 ++ (wSlots aS C sa sl ++ (wNight n0 aN C ns na nl ++ ([cYear y0 y1 y2 C y_isThere y_taken y_took] ++ ([cOb o0 C o_of]))))))))) (cQi D (fun (r : Int32) (u : (Nat → Int32) × (Nat → Nat → Int32)) => post r u.1 u.2) (fun u => [cLockRail L0 (aU 0) (aR 0) (aR2 0) h_images (aS 0) n0 y0 o0 C ] ++ (wReader aU C us ua ++ (wRail aR C rs ra ++ (wRail aR2 C rs2 ra2 ++ (wSlots aS C sa sl ++ (wNight n0 aN C u.1 u.2 nl ++ ([cYear y0 y1 y2 C y_isThere y_taken y_took] ++ ([cOb o0 C o_of])))))))) (va_A (List.flatten ([cLockRail L0 (aU 0) (aR 0) (aR2 0) h_images (aS 0) n0 y0 o0 C ] ++ (wReader aU C us ua ++ (wRail aR C rs ra ++ (wRail aR2 C rs2 ra2 ++ (wSlots aS C sa sl ++ (wNight n0 aN C ns na nl ++ ([cYear y0 y1 y2 C y_isThere y_taken y_took] ++ ([cOb o0 C o_of]))))))))) sz)) 0 0 (va_A (List.flatten ([cLockRail L0 (aU 0) (aR 0) (aR2 0) h_images (aS 0) n0 y0 o0 C ] ++ (wReader aU C us ua ++ (wRail aR C rs ra ++ (wRail aR2 C rs2 ra2 ++ (wSlots aS C sa sl ++ (wNight n0 aN C ns na nl ++ ([cYear y0 y1 y2 C y_isThere y_taken y_took] ++ ([cOb o0 C o_of]))))))))) sz) := by
  refine cStart (QA := fun A => cQi D (fun (r : Int32) (u : (Nat → Int32) × (Nat → Nat → Int32)) => post r u.1 u.2) (fun u => [cLockRail L0 (aU 0) (aR 0) (aR2 0) h_images (aS 0) n0 y0 o0 C ] ++ (wReader aU C us ua ++ (wRail aR C rs ra ++ (wRail aR2 C rs2 ra2 ++ (wSlots aS C sa sl ++ (wNight n0 aN C u.1 u.2 nl ++ ([cYear y0 y1 y2 C y_isThere y_taken y_took] ++ ([cOb o0 C o_of])))))))) A) (cc := cX11_lures) (maxL := 5) (ret := (some .int)) (by decide) (Nat.le_of_ble_eq_true rfl) ?_
  intro p e s m args below meth c A ls hx hb hr hml hown hw hlocks hname hK hN hA hP hD hS hl
  generalize hQ : MQ below _ args s 0 0 A = Q
  have hl : lv_has ls 5 [(0, .ref L0), (1, .int p1)] := hl
  have hn279 : (Cond.fieldLinkNest "LockRail" 279 "LockRail$Rail" "thieves" "LLockRail$Thieves;" "LockRail").before args s = true := hN.f 64 rfl
  have hn283 : (Cond.fieldLinkNest "LockRail" 283 "LockRail$Thieves" "count" "I" "LockRail").before args s = true := hN.f 35 rfl
  obtain ⟨H, hH⟩ : ∃ H, H = s.heap := ⟨_, rfl⟩
  obtain ⟨locs, hlo⟩ : ∃ z : List Loc, z = [] := ⟨_, rfl⟩
  have hP : va_P D vwCl (List.flatten ([cLockRail L0 (aU 0) (aR 0) (aR2 0) h_images (aS 0) n0 y0 o0 C ] ++ (wReader aU C us ua ++ (wRail aR C rs ra ++ (wRail aR2 C rs2 ra2 ++ (wSlots aS C sa sl ++ (wNight n0 aN C ns na nl ++ ([cYear y0 y1 y2 C y_isThere y_taken y_took] ++ ([cOb o0 C o_of]))))))))) H := by rw [hH]; exact hP
  have hS : va_S A s.heap H locs := by rw [hH, hlo]; exact hS
  rw [show W p l e rmX11_lures s m args below meth c s.heap [] 0 0 Q (F0 m 0 ls []) = W p l e rmX11_lures s m args below meth c H locs 0 0 Q (F0 m 0 ls []) from by rw [hH, hlo]]
  have N71 : ∀ (x3_ : Int32) (ns : Nat → Int32) (na : Nat → Nat → Int32) (H : Heap) (locs : List Loc) (ls : Array Slot), P_X11_lures_71 rs ra p1 post  x3_ ns na → va_P D vwCl (List.flatten ([cLockRail L0 (aU 0) (aR 0) (aR2 0) h_images (aS 0) n0 y0 o0 C ] ++ (wReader aU C us ua ++ (wRail aR C rs ra ++ (wRail aR2 C rs2 ra2 ++ (wSlots aS C sa sl ++ (wNight n0 aN C ns na nl ++ ([cYear y0 y1 y2 C y_isThere y_taken y_took] ++ ([cOb o0 C o_of]))))))))) H → va_D A (List.flatten ([cLockRail L0 (aU 0) (aR 0) (aR2 0) h_images (aS 0) n0 y0 o0 C ] ++ (wReader aU C us ua ++ (wRail aR C rs ra ++ (wRail aR2 C rs2 ra2 ++ (wSlots aS C sa sl ++ (wNight n0 aN C ns na nl ++ ([cYear y0 y1 y2 C y_isThere y_taken y_took] ++ ([cOb o0 C o_of]))))))))) → va_S A s.heap H locs → lv_has ls 5 [(3, .int x3_)] → W p l e rmX11_lures s m args below meth c H locs 0 0 Q (F0 m 71 ls []) := by
    intro x3_ ns na H locs ls h hP hD hS hl
    refine lv_iload_n hx hb dX11_lures_71 rfl (lv_at hl 0 rfl) ?_
    refine lv_sipush (v := 9999) hx hb dX11_lures_72 (by decide) ?_
    refine lv_icmp_le (tgt := 82) hx hb dX11_lures_75 (by decide) (fun c1 => ?_) (fun c1 => ?_)
    · have h := h.1 c1
      refine lv_iload_n hx hb dX11_lures_82 rfl (lv_at hl 0 rfl) ?_
      rw [← hQ]
      exact cRetI (v := x3_) (ns, na) hx hb hr hlocks hS hP hD h dX11_lures_83
    · have h := h.2 c1
      refine lv_iconst (v := (-1)) hx hb dX11_lures_78 (by decide) ?_
      refine lv_goto (tgt := 83) hx hb dX11_lures_79 (by decide) ?_
      rw [← hQ]
      exact cRetI (v := (-1)) (ns, na) hx hb hr hlocks hS hP hD h dX11_lures_83
  have N32 : ∀ (ns : Nat → Int32) (na : Nat → Nat → Int32) (n32 : Nat) (x3_ : Int32) (x4_ : Int32) (H : Heap) (locs : List Loc) (ls : Array Slot), P_X11_lures_32 rs ra p1 post (fun (x3_ : Int32) (ns : Nat → Int32) (na : Nat → Nat → Int32) => P_X11_lures_71 rs ra p1 post  x3_ ns na) ns na n32 x3_ x4_ → va_P D vwCl (List.flatten ([cLockRail L0 (aU 0) (aR 0) (aR2 0) h_images (aS 0) n0 y0 o0 C ] ++ (wReader aU C us ua ++ (wRail aR C rs ra ++ (wRail aR2 C rs2 ra2 ++ (wSlots aS C sa sl ++ (wNight n0 aN C ns na nl ++ ([cYear y0 y1 y2 C y_isThere y_taken y_took] ++ ([cOb o0 C o_of]))))))))) H → va_D A (List.flatten ([cLockRail L0 (aU 0) (aR 0) (aR2 0) h_images (aS 0) n0 y0 o0 C ] ++ (wReader aU C us ua ++ (wRail aR C rs ra ++ (wRail aR2 C rs2 ra2 ++ (wSlots aS C sa sl ++ (wNight n0 aN C ns na nl ++ ([cYear y0 y1 y2 C y_isThere y_taken y_took] ++ ([cOb o0 C o_of]))))))))) → va_S A s.heap H locs → lv_has ls 5 [(0, .ref L0), (3, .int x3_), (4, .int x4_)] → W p l e rmX11_lures s m args below meth c H locs 0 0 Q (F0 m 32 ls []) := by
    intro ns na
    intro n32
    induction n32 with
    | zero => intro x3_ x4_ H locs ls h hP hD hS hl; exact False.elim h
    | succ n32 ih32 =>
      intro x3_ x4_ H locs ls h hP hD hS hl
      refine lv_iload hx hb dX11_lures_32 (lv_at hl 2 rfl) ?_
      refine lv_aload_n hx hb dX11_lures_34 rfl (lv_at hl 0 rfl) ?_
      refine va_get (D := D) (ci := 11) (v := .ref (aR 0)) (C := RX11) (T := TX11) (N := 8) hx hb hw inW_X11 hown hK hP 0 rfl rfl 1 (by decide) (hw _ mw_2_144) (fun _ h9 => h9) rfl dX11_lures_35 ?_
      refine va_getN (D := D) (ci := 4) (v := .ref (aR 13)) (C := RX4) (T := TX4) (N := 16) hx hb hw inW_X4 hown hK hP 4 rfl rfl 6 (by decide) hn279 (fun _ h9 => h9) rfl dX11_lures_38 ?_
      refine va_getN (D := D) (ci := 9) (v := .int (rs 14)) (C := RX9) (T := TX9) (N := 6) hx hb hw inW_X9 hown hK hP 17 rfl rfl 0 (by decide) hn283 (fun _ h9 => h9) rfl dX11_lures_41 ?_
      refine lv_icmp_ge (tgt := 71) hx hb dX11_lures_44 (by decide) (fun c2 => ?_) (fun c2 => ?_)
      · have h := h.1 c2
        exact N71 x3_ ns na _ _ _ h hP hD hS (lv_sub hl [1] rfl)
      · have h := h.2 c2
        refine lv_iload_n hx hb dX11_lures_47 rfl (lv_at hl 1 rfl) ?_
        refine lv_aload_n hx hb dX11_lures_48 rfl (lv_at hl 0 rfl) ?_
        refine va_get (D := D) (ci := 11) (v := .ref n0) (C := RX11) (T := TX11) (N := 8) hx hb hw inW_X11 hown hK hP 0 rfl rfl 5 (by decide) (hw _ mw_2_148) (fun _ h9 => h9) rfl dX11_lures_49 ?_
        refine lv_aload_n hx hb dX11_lures_52 rfl (lv_at hl 0 rfl) ?_
        refine va_get (D := D) (ci := 11) (v := .ref (aR 0)) (C := RX11) (T := TX11) (N := 8) hx hb hw inW_X11 hown hK hP 0 rfl rfl 1 (by decide) (hw _ mw_2_144) (fun _ h9 => h9) rfl dX11_lures_53 ?_
        refine lv_iload hx hb dX11_lures_56 (lv_at hl 2 rfl) ?_
        refine cGoI (wo := fun u => [cLockRail L0 (aU 0) (aR 0) (aR2 0) h_images (aS 0) n0 y0 o0 C ] ++ (wReader aU C us ua ++ (wRail aR C rs ra ++ (wRail aR2 C rs2 ra2 ++ (wSlots aS C sa sl ++ (wNight n0 aN C ns na nl ++ ([cYear y0 y1 y2 C y_isThere y_taken y_took] ++ ([cOb o0 C o_of])))))))) (cRunVN (As := [.ref (aR 0), .int x4_]) (rest := [.int x3_]) ⟨hx, hb, hml, hown, hw⟩ hK hN hP hD [16, 17, 18, 3, 4, 5, 6, 7, 8] rfl rfl (k_X3_leastLure l D C _ n0 aN aR  ns na nl rs ra x4_ h) ⟨va_cnB 2 hw (goodN mw_5_100) rfl rfl rfl (hN.m 67 rfl) (hw _ mw_1_11) (by decide +kernel) ⟨Nat.le_of_ble_eq_true rfl, Nat.le_of_ble_eq_true rfl⟩, hw _ mw_5_99, hw _ mw_s86⟩ rfl rfl rfl hl.1 rfl (Nat.le_of_ble_eq_true rfl) dX11_lures_58 ⟨Nat.zero_le _, Nat.zero_le _⟩) hP hD hS hA [16, 17, 18, 3, 4, 5, 6, 7, 8] [0, 1, 2, 9, 10, 11, 12, 13, 14, 15, 19, 20] [0, 1, 2, 15, 16, 17, 18, 19, 20, 3, 4, 5, 6, 7, 8, 9, 12, 13, 14, 10, 11] rfl rfl rfl (by decide) rfl (fun _ => rfl) (fun r3 u H locs h hP hD hS => ?_)
        have hP : va_P D vwCl (List.flatten ([cLockRail L0 (aU 0) (aR 0) (aR2 0) h_images (aS 0) n0 y0 o0 C ] ++ (wReader aU C us ua ++ (wRail aR C rs ra ++ (wRail aR2 C rs2 ra2 ++ (wSlots aS C sa sl ++ (wNight n0 aN C ns na nl ++ ([cYear y0 y1 y2 C y_isThere y_taken y_took] ++ ([cOb o0 C o_of]))))))))) H := hP
        have hD : va_D A (List.flatten ([cLockRail L0 (aU 0) (aR 0) (aR2 0) h_images (aS 0) n0 y0 o0 C ] ++ (wReader aU C us ua ++ (wRail aR C rs ra ++ (wRail aR2 C rs2 ra2 ++ (wSlots aS C sa sl ++ (wNight n0 aN C ns na nl ++ ([cYear y0 y1 y2 C y_isThere y_taken y_took] ++ ([cOb o0 C o_of]))))))))) := hD
        refine va_mmin hx hb (hml.trans hl.1.symm) hown (hw _ mw_4_184) (hw _ mw_2_206) (hw _ mw_1_14) (hw _ mw_2_207) (Nat.le_of_ble_eq_true rfl) (Nat.le_of_ble_eq_true rfl) (Nat.zero_le _) (Nat.zero_le _) dX11_lures_61 ?_
        refine lv_topi (fun x4 ex4 => ?_)
        have h := h x4 ex4
        refine lv_istore_n (lv' := [(3, .int x4), (0, .ref L0), (4, .int x4_)]) hx hb dX11_lures_64 rfl hl (by decide) rfl (fun ls hl => ?_)
        refine lv_iinc (v := (x4_ + 1)) (lv' := [(4, .int (x4_ + 1)), (3, .int x4), (0, .ref L0)]) hx hb dX11_lures_65 hl (k := 2) rfl rfl (by decide) rfl (fun ls hl => ?_)
        refine lv_goto (tgt := 32) hx hb dX11_lures_68 (by decide) ?_
        exact ih32 x4 (x4_ + 1) _ _ _ h hP hD hS (lv_sub hl [2, 1, 0] rfl)
  refine lv_aload_n hx hb dX11_lures_0 rfl (lv_at hl 0 rfl) ?_
  refine lv_iload_n hx hb dX11_lures_1 rfl (lv_at hl 1 rfl) ?_
  refine lv_iconst (v := 0) hx hb dX11_lures_2 (by decide) ?_
  refine lv_iconst (v := 0) hx hb dX11_lures_3 (by decide) ?_
  refine cGoI (wo := fun u => [cLockRail L0 (aU 0) (aR 0) (aR2 0) h_images (aS 0) n0 y0 o0 C ] ++ (wReader aU C us ua ++ (wRail aR C rs ra ++ (wRail aR2 C rs2 ra2 ++ (wSlots aS C sa sl ++ (wNight n0 aN C ns na nl ++ ([cYear y0 y1 y2 C y_isThere y_taken y_took] ++ ([cOb o0 C o_of])))))))) (cRunV (As := [.int p1, .int 0, .int 0]) (rest := []) ⟨hx, hb, hml, hown, hw⟩ hK hN hP hD [0, 3, 4, 5, 6, 7, 8] rfl rfl (k_X11_refusedBait l D C _ L0 aR (aU 0) (aR2 0) h_images (aS 0) n0 y0 o0  rs ra p1 0 0 h) (cwV 3 hw (goodV mw_5_69 mw_5_71 mw_s81 mw_1_1 mw_5_72) rfl rfl rfl (by decide +kernel) ⟨Nat.le_of_ble_eq_true rfl, Nat.le_of_ble_eq_true rfl⟩) rfl rfl rfl hl.1 rfl (Nat.le_of_ble_eq_true rfl) dX11_lures_4 ⟨Nat.zero_le _, Nat.zero_le _⟩) hP hD hS hA [0, 3, 4, 5, 6, 7, 8] [1, 2, 9, 10, 11, 12, 13, 14, 15, 16, 17, 18, 19, 20] [14, 0, 1, 15, 16, 17, 18, 19, 20, 2, 3, 4, 5, 6, 7, 8, 9, 10, 11, 12, 13] rfl rfl rfl (by decide) rfl (fun _ => rfl) (fun r5 u H locs h hP hD hS => ?_)
  have hP : va_P D vwCl (List.flatten ([cLockRail L0 (aU 0) (aR 0) (aR2 0) h_images (aS 0) n0 y0 o0 C ] ++ (wReader aU C us ua ++ (wRail aR C rs ra ++ (wRail aR2 C rs2 ra2 ++ (wSlots aS C sa sl ++ (wNight n0 aN C ns na nl ++ ([cYear y0 y1 y2 C y_isThere y_taken y_took] ++ ([cOb o0 C o_of]))))))))) H := hP
  have hD : va_D A (List.flatten ([cLockRail L0 (aU 0) (aR 0) (aR2 0) h_images (aS 0) n0 y0 o0 C ] ++ (wReader aU C us ua ++ (wRail aR C rs ra ++ (wRail aR2 C rs2 ra2 ++ (wSlots aS C sa sl ++ (wNight n0 aN C ns na nl ++ ([cYear y0 y1 y2 C y_isThere y_taken y_took] ++ ([cOb o0 C o_of]))))))))) := hD
  refine lv_istore_n (lv' := [(2, .int r5), (0, .ref L0), (1, .int p1)]) hx hb dX11_lures_7 rfl hl (by decide) rfl (fun ls hl => ?_)
  refine lv_iload_n hx hb dX11_lures_8 rfl (lv_at hl 0 rfl) ?_
  refine lv_if_eq (tgt := 14) hx hb dX11_lures_9 (by decide) (fun c6 => ?_) (fun c6 => ?_)
  · have h := h.1 c6
    refine lv_aload_n hx hb dX11_lures_14 rfl (lv_at hl 1 rfl) ?_
    refine va_get (D := D) (ci := 11) (v := .ref n0) (C := RX11) (T := TX11) (N := 8) hx hb hw inW_X11 hown hK hP 0 rfl rfl 5 (by decide) (hw _ mw_2_148) (fun _ h9 => h9) rfl dX11_lures_15 ?_
    refine lv_aload_n hx hb dX11_lures_18 rfl (lv_at hl 1 rfl) ?_
    refine va_get (D := D) (ci := 11) (v := .ref (aR 0)) (C := RX11) (T := TX11) (N := 8) hx hb hw inW_X11 hown hK hP 0 rfl rfl 1 (by decide) (hw _ mw_2_144) (fun _ h9 => h9) rfl dX11_lures_19 ?_
    refine cGoV (wo := fun u => [cLockRail L0 (aU 0) (aR 0) (aR2 0) h_images (aS 0) n0 y0 o0 C ] ++ (wReader aU C us ua ++ (wRail aR C rs ra ++ (wRail aR2 C rs2 ra2 ++ (wSlots aS C sa sl ++ (wNight n0 aN C u.1 u.2 nl ++ ([cYear y0 y1 y2 C y_isThere y_taken y_took] ++ ([cOb o0 C o_of])))))))) (cRunVN (As := [.ref (aR 0)]) (rest := []) ⟨hx, hb, hml, hown, hw⟩ hK hN hP hD [16, 17, 18, 3, 4, 5, 6, 7, 8] rfl rfl (k_X3_lookAt l D C _ n0 aN aR  ns na nl rs ra  h) ⟨va_cnB 1 hw (goodN mw_3_219) rfl rfl rfl (hN.m 37 rfl) (hw _ mw_1_11) (by decide +kernel) ⟨Nat.le_of_ble_eq_true rfl, Nat.le_of_ble_eq_true rfl⟩, hw _ mw_3_218, hw _ mw_s40⟩ rfl rfl rfl hl.1 rfl (Nat.le_of_ble_eq_true rfl) dX11_lures_22 ⟨Nat.zero_le _, Nat.zero_le _⟩) hP hD hS hA [16, 17, 18, 3, 4, 5, 6, 7, 8] [0, 1, 2, 9, 10, 11, 12, 13, 14, 15, 19, 20] [0, 1, 2, 15, 16, 17, 18, 19, 20, 3, 4, 5, 6, 7, 8, 9, 12, 13, 14, 10, 11] rfl rfl rfl (by decide) rfl (fun _ => rfl) (fun u H locs h hP hD hS => ?_)
    obtain ⟨ns_7, na_8⟩ := u
    have hP : va_P D vwCl (List.flatten ([cLockRail L0 (aU 0) (aR 0) (aR2 0) h_images (aS 0) n0 y0 o0 C ] ++ (wReader aU C us ua ++ (wRail aR C rs ra ++ (wRail aR2 C rs2 ra2 ++ (wSlots aS C sa sl ++ (wNight n0 aN C ns_7 na_8 nl ++ ([cYear y0 y1 y2 C y_isThere y_taken y_took] ++ ([cOb o0 C o_of]))))))))) H := hP
    have hD : va_D A (List.flatten ([cLockRail L0 (aU 0) (aR 0) (aR2 0) h_images (aS 0) n0 y0 o0 C ] ++ (wReader aU C us ua ++ (wRail aR C rs ra ++ (wRail aR2 C rs2 ra2 ++ (wSlots aS C sa sl ++ (wNight n0 aN C ns_7 na_8 nl ++ ([cYear y0 y1 y2 C y_isThere y_taken y_took] ++ ([cOb o0 C o_of]))))))))) := hD
    refine lv_sipush (v := 10000) hx hb dX11_lures_25 (by decide) ?_
    refine lv_istore_n (lv' := [(3, .int 10000), (2, .int r5), (0, .ref L0), (1, .int p1)]) hx hb dX11_lures_28 rfl hl (by decide) rfl (fun ls hl => ?_)
    refine lv_iconst (v := 0) hx hb dX11_lures_29 (by decide) ?_
    refine lv_istore (lv' := [(4, .int 0), (3, .int 10000), (2, .int r5), (0, .ref L0), (1, .int p1)]) hx hb dX11_lures_30 hl (by decide) rfl (fun ls hl => ?_)
    obtain ⟨n, h⟩ := h
    exact N32 ns_7 na_8 n 10000 0 _ _ _ h hP hD hS (lv_sub hl [3, 1, 0] rfl)
  · have h := h.2 c6
    refine lv_iload_n hx hb dX11_lures_12 rfl (lv_at hl 0 rfl) ?_
    rw [← hQ]
    exact cRetI (v := r5) (ns, na) hx hb hr hlocks hS hP hD h dX11_lures_13
abbrev vsX11_isCover : List Cond := Cond.code yX11_isCover cX11_isCover 4 (some .boolean) :: WS
abbrev rmX11_isCover : Room := { frames := 1, cells := 0, slots := 0, locals := 21 }
set_option maxHeartbeats 4000000 in
set_option maxRecDepth 100000 in
theorem k_X11_isCover (l : Launch) (D : va_G) (C : Nat → ClassId) (sz : Nat) (L0 : Nat) (aR : Nat → Nat) (h_reader : Nat) (h_trial : Nat) (h_images : Nat) (h_slots : Nat) (h_night : Nat) (h_triedYear : Nat) (h_ofBikes : Nat) (rs : Nat → Int32) (ra : Nat → Nat → Int32) (p1 : Int32) (p2 : Int32) (p3 : Int32) {post : Int32 → Prop} (h : P_X11_isCover rs p1 p2 p3 post) : Met l yX11_isCover vsX11_isCover rmX11_isCover (cPre D C [.ref L0, .int p1, .int p2, .int p3] sz ([cLockRail L0 h_reader (aR 0) h_trial h_images h_slots h_night h_triedYear h_ofBikes C ] ++ (wRail aR C rs ra))) (cQi D (fun (r : Int32) (u : Unit) => post r ) (fun u => [cLockRail L0 h_reader (aR 0) h_trial h_images h_slots h_night h_triedYear h_ofBikes C ] ++ (wRail aR C rs ra)) (va_A (List.flatten ([cLockRail L0 h_reader (aR 0) h_trial h_images h_slots h_night h_triedYear h_ofBikes C ] ++ (wRail aR C rs ra))) sz)) 0 0 (va_A (List.flatten ([cLockRail L0 h_reader (aR 0) h_trial h_images h_slots h_night h_triedYear h_ofBikes C ] ++ (wRail aR C rs ra))) sz) := by
  refine cStart (QA := fun A => cQi D (fun (r : Int32) (u : Unit) => post r ) (fun u => [cLockRail L0 h_reader (aR 0) h_trial h_images h_slots h_night h_triedYear h_ofBikes C ] ++ (wRail aR C rs ra)) A) (cc := cX11_isCover) (maxL := 4) (ret := (some .boolean)) (by decide) (Nat.le_of_ble_eq_true rfl) ?_
  intro p e s m args below meth c A ls hx hb hr hml hown hw hlocks hname hK hN hA hP hD hS hl
  generalize hQ : MQ below _ args s 0 0 A = Q
  have hl : lv_has ls 4 [(0, .ref L0), (1, .int p1), (2, .int p2), (3, .int p3)] := hl
  obtain ⟨H, hH⟩ : ∃ H, H = s.heap := ⟨_, rfl⟩
  obtain ⟨locs, hlo⟩ : ∃ z : List Loc, z = [] := ⟨_, rfl⟩
  have hP : va_P D vwCl (List.flatten ([cLockRail L0 h_reader (aR 0) h_trial h_images h_slots h_night h_triedYear h_ofBikes C ] ++ (wRail aR C rs ra))) H := by rw [hH]; exact hP
  have hS : va_S A s.heap H locs := by rw [hH, hlo]; exact hS
  rw [show W p l e rmX11_isCover s m args below meth c s.heap [] 0 0 Q (F0 m 0 ls []) = W p l e rmX11_isCover s m args below meth c H locs 0 0 Q (F0 m 0 ls []) from by rw [hH, hlo]]
  refine lv_aload_n hx hb dX11_isCover_0 rfl (lv_at hl 0 rfl) ?_
  refine va_get (D := D) (ci := 11) (v := .ref (aR 0)) (C := RX11) (T := TX11) (N := 8) hx hb hw inW_X11 hown hK hP 0 rfl rfl 1 (by decide) (hw _ mw_2_144) (fun _ h9 => h9) rfl dX11_isCover_1 ?_
  refine lv_iload_n hx hb dX11_isCover_4 rfl (lv_at hl 1 rfl) ?_
  refine cGoI (wo := fun u => [cLockRail L0 h_reader (aR 0) h_trial h_images h_slots h_night h_triedYear h_ofBikes C ] ++ (wRail aR C rs ra)) (cRunVN (As := [.int p1]) (rest := []) ⟨hx, hb, hml, hown, hw⟩ hK hN hP hD [1, 2, 3, 4, 5, 6] rfl rfl (k_X4_hasBike l D C _ aR  rs ra p1 h) ⟨va_cnB 1 hw (goodN mw_3_183) rfl rfl rfl (hN.m 31 rfl) (hw _ mw_1_4) (by decide +kernel) ⟨Nat.le_of_ble_eq_true rfl, Nat.le_of_ble_eq_true rfl⟩, hw _ mw_3_182, hw _ mw_s34⟩ rfl rfl rfl hl.1 rfl (Nat.le_of_ble_eq_true rfl) dX11_isCover_5 ⟨Nat.zero_le _, Nat.zero_le _⟩) hP hD hS hA [1, 2, 3, 4, 5, 6] [0] [0, 1, 2, 3, 4, 5, 6] rfl rfl rfl (by decide) rfl (fun _ => rfl) (fun r1 u H locs h hP hD hS => ?_)
  have hP : va_P D vwCl (List.flatten ([cLockRail L0 h_reader (aR 0) h_trial h_images h_slots h_night h_triedYear h_ofBikes C ] ++ (wRail aR C rs ra))) H := hP
  have hD : va_D A (List.flatten ([cLockRail L0 h_reader (aR 0) h_trial h_images h_slots h_night h_triedYear h_ofBikes C ] ++ (wRail aR C rs ra))) := hD
  refine lv_if_eq (tgt := 36) hx hb dX11_isCover_8 (by decide) (fun c2 => ?_) (fun c2 => ?_)
  · have h := h.1 c2
    refine lv_iconst (v := 0) hx hb dX11_isCover_36 (by decide) ?_
    rw [← hQ]
    exact cRetZ (v := 0) () hx hb hr hlocks hS hP hD (Or.inl rfl) h dX11_isCover_37
  · have h := h.2 c2
    refine lv_iload_n hx hb dX11_isCover_11 rfl (lv_at hl 2 rfl) ?_
    refine lv_if_lt (tgt := 36) hx hb dX11_isCover_12 (by decide) (fun c3 => ?_) (fun c3 => ?_)
    · have h := h.1 c3
      refine lv_iconst (v := 0) hx hb dX11_isCover_36 (by decide) ?_
      rw [← hQ]
      exact cRetZ (v := 0) () hx hb hr hlocks hS hP hD (Or.inl rfl) h dX11_isCover_37
    · have h := h.2 c3
      refine lv_iload_n hx hb dX11_isCover_15 rfl (lv_at hl 2 rfl) ?_
      refine lv_sipush (v := 9999) hx hb dX11_isCover_16 (by decide) ?_
      refine lv_icmp_gt (tgt := 36) hx hb dX11_isCover_19 (by decide) (fun c4 => ?_) (fun c4 => ?_)
      · have h := h.1 c4
        refine lv_iconst (v := 0) hx hb dX11_isCover_36 (by decide) ?_
        rw [← hQ]
        exact cRetZ (v := 0) () hx hb hr hlocks hS hP hD (Or.inl rfl) h dX11_isCover_37
      · have h := h.2 c4
        refine lv_iload_n hx hb dX11_isCover_22 rfl (lv_at hl 3 rfl) ?_
        refine lv_if_lt (tgt := 36) hx hb dX11_isCover_23 (by decide) (fun c5 => ?_) (fun c5 => ?_)
        · have h := h.1 c5
          refine lv_iconst (v := 0) hx hb dX11_isCover_36 (by decide) ?_
          rw [← hQ]
          exact cRetZ (v := 0) () hx hb hr hlocks hS hP hD (Or.inl rfl) h dX11_isCover_37
        · have h := h.2 c5
          refine lv_iload_n hx hb dX11_isCover_26 rfl (lv_at hl 3 rfl) ?_
          refine lv_bipush (v := 100) hx hb dX11_isCover_27 (by decide) ?_
          refine lv_icmp_gt (tgt := 36) hx hb dX11_isCover_29 (by decide) (fun c6 => ?_) (fun c6 => ?_)
          · have h := h.1 c6
            refine lv_iconst (v := 0) hx hb dX11_isCover_36 (by decide) ?_
            rw [← hQ]
            exact cRetZ (v := 0) () hx hb hr hlocks hS hP hD (Or.inl rfl) h dX11_isCover_37
          · have h := h.2 c6
            refine lv_iconst (v := 1) hx hb dX11_isCover_32 (by decide) ?_
            refine lv_goto (tgt := 37) hx hb dX11_isCover_33 (by decide) ?_
            rw [← hQ]
            exact cRetZ (v := 1) () hx hb hr hlocks hS hP hD (Or.inr rfl) h dX11_isCover_37
abbrev vsX11_coveredOn : List Cond := Cond.code yX11_coveredOn cX11_coveredOn 7 (some .long) :: WS
abbrev rmX11_coveredOn : Room := { frames := 4, cells := 0, slots := 0, locals := 105 }
set_option maxHeartbeats 4000000 in
set_option maxRecDepth 100000 in
theorem k_X11_coveredOn (l : Launch) (D : va_G) (C : Nat → ClassId) (sz : Nat) (L0 : Nat) (aR0 : Nat → Nat) (n0 : Nat) (aN : Nat → Nat) (h_reader : Nat) (h_rail : Nat) (h_trial : Nat) (h_images : Nat) (h_slots : Nat) (h_triedYear : Nat) (h_ofBikes : Nat) (rs0 : Nat → Int32) (ra0 : Nat → Nat → Int32) (ns : Nat → Int32) (na : Nat → Nat → Int32) (nl : Nat → Nat → Int64) (p2 : Int32) (p3 : Int32) (p4 : Int32) {post : Int64 → (Nat → Int32) → (Nat → Nat → Int32) → (Nat → Nat → Int64) → Prop} (h : P_X11_coveredOn rs0 ra0 ns na nl p2 p3 p4 post) : Met l yX11_coveredOn vsX11_coveredOn rmX11_coveredOn (cPre D C [.ref L0, .ref (aR0 0), .int p2, .int p3, .int p4] sz ([cLockRail L0 h_reader h_rail h_trial h_images h_slots n0 h_triedYear h_ofBikes C ] ++ (wRail aR0 C rs0 ra0 ++ (wNight n0 aN C ns na nl)))) (cQl D (fun (r : Int64) (u : (Nat → Nat) × (Nat → Int32) × (Nat → Nat → Int32) × (Nat → Nat → Int64)) => post r u.2.1 u.2.2.1 u.2.2.2) (fun u => [cLockRail L0 h_reader h_rail h_trial h_images h_slots n0 h_triedYear h_ofBikes C ] ++ (wRail aR0 C rs0 ra0 ++ (wNight n0 u.1 C u.2.1 u.2.2.1 u.2.2.2))) (va_A (List.flatten ([cLockRail L0 h_reader h_rail h_trial h_images h_slots n0 h_triedYear h_ofBikes C ] ++ (wRail aR0 C rs0 ra0 ++ (wNight n0 aN C ns na nl)))) sz)) 0 0 (va_A (List.flatten ([cLockRail L0 h_reader h_rail h_trial h_images h_slots n0 h_triedYear h_ofBikes C ] ++ (wRail aR0 C rs0 ra0 ++ (wNight n0 aN C ns na nl)))) sz) := by
  refine cStart (QA := fun A => cQl D (fun (r : Int64) (u : (Nat → Nat) × (Nat → Int32) × (Nat → Nat → Int32) × (Nat → Nat → Int64)) => post r u.2.1 u.2.2.1 u.2.2.2) (fun u => [cLockRail L0 h_reader h_rail h_trial h_images h_slots n0 h_triedYear h_ofBikes C ] ++ (wRail aR0 C rs0 ra0 ++ (wNight n0 u.1 C u.2.1 u.2.2.1 u.2.2.2))) A) (cc := cX11_coveredOn) (maxL := 7) (ret := (some .long)) (by decide) (Nat.le_of_ble_eq_true rfl) ?_
  intro p e s m args below meth c A ls hx hb hr hml hown hw hlocks hname hK hN hA hP hD hS hl
  generalize hQ : MQ below _ args s 0 0 A = Q
  have hl : lv_has ls 7 [(0, .ref L0), (1, .ref (aR0 0)), (2, .int p2), (3, .int p3), (4, .int p4)] := hl
  obtain ⟨H, hH⟩ : ∃ H, H = s.heap := ⟨_, rfl⟩
  obtain ⟨locs, hlo⟩ : ∃ z : List Loc, z = [] := ⟨_, rfl⟩
  have hP : va_P D vwCl (List.flatten ([cLockRail L0 h_reader h_rail h_trial h_images h_slots n0 h_triedYear h_ofBikes C ] ++ (wRail aR0 C rs0 ra0 ++ (wNight n0 aN C ns na nl)))) H := by rw [hH]; exact hP
  have hS : va_S A s.heap H locs := by rw [hH, hlo]; exact hS
  rw [show W p l e rmX11_coveredOn s m args below meth c s.heap [] 0 0 Q (F0 m 0 ls []) = W p l e rmX11_coveredOn s m args below meth c H locs 0 0 Q (F0 m 0 ls []) from by rw [hH, hlo]]
  refine lv_aload_n hx hb dX11_coveredOn_0 rfl (lv_at hl 0 rfl) ?_
  refine va_get (D := D) (ci := 11) (v := .ref n0) (C := RX11) (T := TX11) (N := 8) hx hb hw inW_X11 hown hK hP 0 rfl rfl 5 (by decide) (hw _ mw_2_148) (fun _ h9 => h9) rfl dX11_coveredOn_1 ?_
  refine lv_aload_n hx hb dX11_coveredOn_4 rfl (lv_at hl 1 rfl) ?_
  refine cGoV (wo := fun u => [cLockRail L0 h_reader h_rail h_trial h_images h_slots n0 h_triedYear h_ofBikes C ] ++ (wRail aR0 C rs0 ra0 ++ (wNight n0 u.1 C u.2.1 u.2.2.1 u.2.2.2))) (cRunVN (As := [.ref (aR0 0)]) (rest := []) ⟨hx, hb, hml, hown, hw⟩ hK hN hP hD [7, 8, 9, 1, 2, 3, 4, 5, 6] rfl rfl (k_X3_play l D C _ n0 aN aR0  ns na nl rs0 ra0  h) ⟨va_cnB 1 hw (goodN mw_4_24) rfl rfl rfl (hN.m 45 rfl) (hw _ mw_1_11) (by decide +kernel) ⟨Nat.le_of_ble_eq_true rfl, Nat.le_of_ble_eq_true rfl⟩, hw _ mw_4_23, hw _ mw_s48⟩ rfl rfl rfl hl.1 rfl (Nat.le_of_ble_eq_true rfl) dX11_coveredOn_5 ⟨Nat.zero_le _, Nat.zero_le _⟩) hP hD hS hA [7, 8, 9, 1, 2, 3, 4, 5, 6] [0] [0, 4, 5, 6, 7, 8, 9, 1, 2, 3] rfl rfl rfl (by decide) rfl (fun _ => rfl) (fun u H locs h hP hD hS => ?_)
  obtain ⟨aN1, ns_2, na_3, nl_4⟩ := u
  have hP : va_P D vwCl (List.flatten ([cLockRail L0 h_reader h_rail h_trial h_images h_slots n0 h_triedYear h_ofBikes C ] ++ (wRail aR0 C rs0 ra0 ++ (wNight n0 aN1 C ns_2 na_3 nl_4)))) H := hP
  have hD : va_D A (List.flatten ([cLockRail L0 h_reader h_rail h_trial h_images h_slots n0 h_triedYear h_ofBikes C ] ++ (wRail aR0 C rs0 ra0 ++ (wNight n0 aN1 C ns_2 na_3 nl_4)))) := hD
  refine lv_aload_n hx hb dX11_coveredOn_8 rfl (lv_at hl 0 rfl) ?_
  refine va_get (D := D) (ci := 11) (v := .ref n0) (C := RX11) (T := TX11) (N := 8) hx hb hw inW_X11 hown hK hP 0 rfl rfl 5 (by decide) (hw _ mw_2_148) (fun _ h9 => h9) rfl dX11_coveredOn_9 ?_
  refine lv_aload_n hx hb dX11_coveredOn_12 rfl (lv_at hl 1 rfl) ?_
  refine lv_iload_n hx hb dX11_coveredOn_13 rfl (lv_at hl 2 rfl) ?_
  refine lv_iconst (v := 1) hx hb dX11_coveredOn_14 (by decide) ?_
  refine cGoL (wo := fun u => [cLockRail L0 h_reader h_rail h_trial h_images h_slots n0 h_triedYear h_ofBikes C ] ++ (wRail aR0 C rs0 ra0 ++ (wNight n0 aN1 C ns_2 na_3 nl_4))) (cRunVN (As := [.ref (aR0 0), .int p2, .int 1]) (rest := []) ⟨hx, hb, hml, hown, hw⟩ hK hN hP hD [7, 8, 9, 1, 2, 3, 4, 5, 6] rfl rfl (k_X3_costOf l D C _ n0 aN1 aR0  ns_2 na_3 nl_4 rs0 ra0 p2 1 h) ⟨va_cnB 3 hw (goodN mw_4_104) rfl rfl rfl (hN.m 52 rfl) (hw _ mw_1_11) (by decide +kernel) ⟨Nat.le_of_ble_eq_true rfl, Nat.le_of_ble_eq_true rfl⟩, hw _ mw_4_103, hw _ mw_s59⟩ rfl rfl rfl hl.1 rfl (Nat.le_of_ble_eq_true rfl) dX11_coveredOn_15 ⟨Nat.zero_le _, Nat.zero_le _⟩) hP hD hS hA [7, 8, 9, 1, 2, 3, 4, 5, 6] [0] [0, 4, 5, 6, 7, 8, 9, 1, 2, 3] rfl rfl rfl (by decide) rfl (fun _ => rfl) (fun r5 u H locs h hP hD hS => ?_)
  have hP : va_P D vwCl (List.flatten ([cLockRail L0 h_reader h_rail h_trial h_images h_slots n0 h_triedYear h_ofBikes C ] ++ (wRail aR0 C rs0 ra0 ++ (wNight n0 aN1 C ns_2 na_3 nl_4)))) H := hP
  have hD : va_D A (List.flatten ([cLockRail L0 h_reader h_rail h_trial h_images h_slots n0 h_triedYear h_ofBikes C ] ++ (wRail aR0 C rs0 ra0 ++ (wNight n0 aN1 C ns_2 na_3 nl_4)))) := hD
  refine lv_lstore (lv' := [(5, .long r5), (0, .ref L0), (1, .ref (aR0 0)), (2, .int p2), (3, .int p3), (4, .int p4)]) hx hb dX11_coveredOn_18 hl (by decide) rfl (fun ls hl => ?_)
  refine lv_ldc2 (v := 1000) hx hb hown (hw _ mw_5_117) dX11_coveredOn_20 ?_
  refine lv_iload_n hx hb dX11_coveredOn_23 rfl (lv_at hl 4 rfl) ?_
  refine lv_i2l hx hb dX11_coveredOn_24 rfl ?_
  refine lv_lmul hx hb dX11_coveredOn_25 ?_
  refine lv_aload_n hx hb dX11_coveredOn_26 rfl (lv_at hl 1 rfl) ?_
  refine va_get (D := D) (ci := 11) (v := .ref n0) (C := RX11) (T := TX11) (N := 8) hx hb hw inW_X11 hown hK hP 0 rfl rfl 5 (by decide) (hw _ mw_2_148) (fun _ h9 => h9) rfl dX11_coveredOn_27 ?_
  refine lv_aload_n hx hb dX11_coveredOn_30 rfl (lv_at hl 2 rfl) ?_
  refine lv_iload_n hx hb dX11_coveredOn_31 rfl (lv_at hl 3 rfl) ?_
  refine lv_iconst (v := 0) hx hb dX11_coveredOn_32 (by decide) ?_
  refine cGoL (wo := fun u => [cLockRail L0 h_reader h_rail h_trial h_images h_slots n0 h_triedYear h_ofBikes C ] ++ (wRail aR0 C rs0 ra0 ++ (wNight n0 aN1 C ns_2 na_3 nl_4))) (cRunVN (As := [.ref (aR0 0), .int p2, .int 0]) (rest := [.long (1000 * p3.toInt64)]) ⟨hx, hb, hml, hown, hw⟩ hK hN hP hD [7, 8, 9, 1, 2, 3, 4, 5, 6] rfl rfl (k_X3_costOf l D C _ n0 aN1 aR0  ns_2 na_3 nl_4 rs0 ra0 p2 0 h) ⟨va_cnB 3 hw (goodN mw_4_104) rfl rfl rfl (hN.m 52 rfl) (hw _ mw_1_11) (by decide +kernel) ⟨Nat.le_of_ble_eq_true rfl, Nat.le_of_ble_eq_true rfl⟩, hw _ mw_4_103, hw _ mw_s59⟩ rfl rfl rfl hl.1 rfl (Nat.le_of_ble_eq_true rfl) dX11_coveredOn_33 ⟨Nat.zero_le _, Nat.zero_le _⟩) hP hD hS hA [7, 8, 9, 1, 2, 3, 4, 5, 6] [0] [0, 4, 5, 6, 7, 8, 9, 1, 2, 3] rfl rfl rfl (by decide) rfl (fun _ => rfl) (fun r6 u H locs h hP hD hS => ?_)
  have hP : va_P D vwCl (List.flatten ([cLockRail L0 h_reader h_rail h_trial h_images h_slots n0 h_triedYear h_ofBikes C ] ++ (wRail aR0 C rs0 ra0 ++ (wNight n0 aN1 C ns_2 na_3 nl_4)))) H := hP
  have hD : va_D A (List.flatten ([cLockRail L0 h_reader h_rail h_trial h_images h_slots n0 h_triedYear h_ofBikes C ] ++ (wRail aR0 C rs0 ra0 ++ (wNight n0 aN1 C ns_2 na_3 nl_4)))) := hD
  refine lv_ladd hx hb dX11_coveredOn_36 ?_
  refine lv_bipush (v := 100) hx hb dX11_coveredOn_37 (by decide) ?_
  refine lv_iload hx hb dX11_coveredOn_39 (lv_at hl 5 rfl) ?_
  refine lv_isub hx hb dX11_coveredOn_41 ?_
  refine lv_i2l hx hb dX11_coveredOn_42 rfl ?_
  refine lv_lload hx hb dX11_coveredOn_43 (lv_at hl 0 rfl) ?_
  refine lv_lmul hx hb dX11_coveredOn_45 ?_
  refine lv_ldc2 (v := 100) hx hb hown (hw _ mw_5_118) dX11_coveredOn_46 ?_
  refine lv_ldiv hx hb dX11_coveredOn_49 (by decide) ?_
  refine lv_ladd hx hb dX11_coveredOn_50 ?_
  rw [← hQ]
  exact cRetL (v := (((1000 * p3.toInt64) + r6) + (((100 - p4).toInt64 * r5) / 100))) (aN1, ns_2, na_3, nl_4) hx hb hr hlocks hS hP hD h dX11_coveredOn_51
abbrev vsX11_carelessOption : List Cond := Cond.code yX11_carelessOption cX11_carelessOption 10 (some .int) :: WS
abbrev rmX11_carelessOption : Room := { frames := 5, cells := 0, slots := 0, locals := 131 }
set_option maxHeartbeats 4000000 in
set_option maxRecDepth 100000 in
theorem k_X11_carelessOption (l : Launch) (D : va_G) (C : Nat → ClassId) (sz : Nat) (L0 : Nat) (aR : Nat → Nat) (aR2 : Nat → Nat) (n0 : Nat) (aN : Nat → Nat) (h_reader : Nat) (h_images : Nat) (h_slots : Nat) (h_triedYear : Nat) (h_ofBikes : Nat) (rs : Nat → Int32) (ra : Nat → Nat → Int32) (rs2 : Nat → Int32) (ra2 : Nat → Nat → Int32) (ns : Nat → Int32) (na : Nat → Nat → Int32) (nl : Nat → Nat → Int64) (p1 : Int32) (p2 : Int32) (p3 : Int32) {post : Int32 → (Nat → Int32) → (Nat → Nat → Int32) → (Nat → Int32) → (Nat → Nat → Int32) → (Nat → Nat → Int64) → Prop} (h : P_X11_carelessOption rs ra rs2 ra2 ns na nl p1 p2 p3 post) : Met l yX11_carelessOption vsX11_carelessOption rmX11_carelessOption (cPre D C [.ref L0, .int p1, .int p2, .int p3] sz ([cLockRail L0 h_reader (aR 0) (aR2 0) h_images h_slots n0 h_triedYear h_ofBikes C ] ++ (wRail aR C rs ra ++ (wRail aR2 C rs2 ra2 ++ (wNight n0 aN C ns na nl))))) (cQi D (fun (r : Int32) (u : (Nat → Nat) × (Nat → Int32) × (Nat → Nat → Int32) × (Nat → Int32) × (Nat → Nat → Int32) × (Nat → Nat → Int64)) => post r u.2.1 u.2.2.1 u.2.2.2.1 u.2.2.2.2.1 u.2.2.2.2.2) (fun u => [cLockRail L0 h_reader (aR 0) (aR2 0) h_images h_slots n0 h_triedYear h_ofBikes C ] ++ (wRail aR C rs ra ++ (wRail aR2 C u.2.1 u.2.2.1 ++ (wNight n0 u.1 C u.2.2.2.1 u.2.2.2.2.1 u.2.2.2.2.2)))) (va_A (List.flatten ([cLockRail L0 h_reader (aR 0) (aR2 0) h_images h_slots n0 h_triedYear h_ofBikes C ] ++ (wRail aR C rs ra ++ (wRail aR2 C rs2 ra2 ++ (wNight n0 aN C ns na nl))))) sz)) 0 0 (va_A (List.flatten ([cLockRail L0 h_reader (aR 0) (aR2 0) h_images h_slots n0 h_triedYear h_ofBikes C ] ++ (wRail aR C rs ra ++ (wRail aR2 C rs2 ra2 ++ (wNight n0 aN C ns na nl))))) sz) := by
  refine cStart (QA := fun A => cQi D (fun (r : Int32) (u : (Nat → Nat) × (Nat → Int32) × (Nat → Nat → Int32) × (Nat → Int32) × (Nat → Nat → Int32) × (Nat → Nat → Int64)) => post r u.2.1 u.2.2.1 u.2.2.2.1 u.2.2.2.2.1 u.2.2.2.2.2) (fun u => [cLockRail L0 h_reader (aR 0) (aR2 0) h_images h_slots n0 h_triedYear h_ofBikes C ] ++ (wRail aR C rs ra ++ (wRail aR2 C u.2.1 u.2.2.1 ++ (wNight n0 u.1 C u.2.2.2.1 u.2.2.2.2.1 u.2.2.2.2.2)))) A) (cc := cX11_carelessOption) (maxL := 10) (ret := (some .int)) (by decide) (Nat.le_of_ble_eq_true rfl) ?_
  intro p e s m args below meth c A ls hx hb hr hml hown hw hlocks hname hK hN hA hP hD hS hl
  generalize hQ : MQ below _ args s 0 0 A = Q
  have hl : lv_has ls 10 [(0, .ref L0), (1, .int p1), (2, .int p2), (3, .int p3)] := hl
  have hn97 : (Cond.fieldLinkNest "LockRail" 97 "LockRail$Rail" "bikes" "LLockRail$Bikes;" "LockRail").before args s = true := hN.f 61 rfl
  obtain ⟨H, hH⟩ : ∃ H, H = s.heap := ⟨_, rfl⟩
  obtain ⟨locs, hlo⟩ : ∃ z : List Loc, z = [] := ⟨_, rfl⟩
  have hP : va_P D vwCl (List.flatten ([cLockRail L0 h_reader (aR 0) (aR2 0) h_images h_slots n0 h_triedYear h_ofBikes C ] ++ (wRail aR C rs ra ++ (wRail aR2 C rs2 ra2 ++ (wNight n0 aN C ns na nl))))) H := by rw [hH]; exact hP
  have hS : va_S A s.heap H locs := by rw [hH, hlo]; exact hS
  rw [show W p l e rmX11_carelessOption s m args below meth c s.heap [] 0 0 Q (F0 m 0 ls []) = W p l e rmX11_carelessOption s m args below meth c H locs 0 0 Q (F0 m 0 ls []) from by rw [hH, hlo]]
  have N22 : ∀ (rs2 : Nat → Int32) (n22 : Nat) (x4_ : Int32) (x5_ : Int64) (x7_ : Int32) (ra2 : Nat → Nat → Int32) (ns : Nat → Int32) (na : Nat → Nat → Int32) (nl : Nat → Nat → Int64) (aN : Nat → Nat) (H : Heap) (locs : List Loc) (ls : Array Slot), P_X11_carelessOption_22 rs ra p1 p2 p3 post  rs2 n22 x4_ x5_ x7_ ra2 ns na nl → va_P D vwCl (List.flatten ([cLockRail L0 h_reader (aR 0) (aR2 0) h_images h_slots n0 h_triedYear h_ofBikes C ] ++ (wRail aR C rs ra ++ (wRail aR2 C rs2 ra2 ++ (wNight n0 aN C ns na nl))))) H → va_D A (List.flatten ([cLockRail L0 h_reader (aR 0) (aR2 0) h_images h_slots n0 h_triedYear h_ofBikes C ] ++ (wRail aR C rs ra ++ (wRail aR2 C rs2 ra2 ++ (wNight n0 aN C ns na nl))))) → va_S A s.heap H locs → lv_has ls 10 [(0, .ref L0), (1, .int p1), (2, .int p2), (3, .int p3), (4, .int x4_), (5, .long x5_), (7, .int x7_)] → W p l e rmX11_carelessOption s m args below meth c H locs 0 0 Q (F0 m 22 ls []) := by
    intro rs2
    intro n22
    induction n22 with
    | zero => intro x4_ x5_ x7_ ra2 ns na nl aN H locs ls h hP hD hS hl; exact False.elim h
    | succ n22 ih22 =>
      intro x4_ x5_ x7_ ra2 ns na nl aN H locs ls h hP hD hS hl
      have h : P_X11_carelessOption_22_b rs ra p1 p2 p3 post  rs2 (P_X11_carelessOption_22 rs ra p1 p2 p3 post  rs2 n22) x4_ x5_ x7_ ra2 ns na nl := h
      unfold P_X11_carelessOption_22_b at h
      refine lv_iload hx hb dX11_carelessOption_22 (lv_at hl 6 rfl) ?_
      refine lv_aload_n hx hb dX11_carelessOption_24 rfl (lv_at hl 0 rfl) ?_
      refine va_get (D := D) (ci := 11) (v := .ref (aR2 0)) (C := RX11) (T := TX11) (N := 8) hx hb hw inW_X11 hown hK hP 0 rfl rfl 2 (by decide) (hw _ mw_2_145) (fun _ h9 => h9) rfl dX11_carelessOption_25 ?_
      refine cGoI (wo := fun u => [cLockRail L0 h_reader (aR 0) (aR2 0) h_images h_slots n0 h_triedYear h_ofBikes C ] ++ (wRail aR C rs ra ++ (wRail aR2 C rs2 ra2 ++ (wNight n0 aN C ns na nl)))) (cRunVN (As := []) (rest := [.int x7_]) ⟨hx, hb, hml, hown, hw⟩ hK hN hP hD [7, 8, 9, 10, 11, 12] rfl rfl (k_X4_options l D C _ aR2  rs2 ra2  h) ⟨va_cnB 0 hw (goodN mw_4_144) rfl rfl rfl (hN.m 59 rfl) (hw _ mw_1_4) (by decide +kernel) ⟨Nat.le_of_ble_eq_true rfl, Nat.le_of_ble_eq_true rfl⟩, hw _ mw_4_143, hw _ mw_s66⟩ rfl rfl rfl hl.1 rfl (Nat.le_of_ble_eq_true rfl) dX11_carelessOption_28 ⟨Nat.zero_le _, Nat.zero_le _⟩) hP hD hS hA [7, 8, 9, 10, 11, 12] [0, 1, 2, 3, 4, 5, 6, 13, 14, 15] [0, 1, 2, 3, 4, 5, 6, 10, 11, 12, 13, 14, 15, 7, 8, 9] rfl rfl rfl (by decide) rfl (fun _ => rfl) (fun r1 u H locs h hP hD hS => ?_)
      have hP : va_P D vwCl (List.flatten ([cLockRail L0 h_reader (aR 0) (aR2 0) h_images h_slots n0 h_triedYear h_ofBikes C ] ++ (wRail aR C rs ra ++ (wRail aR2 C rs2 ra2 ++ (wNight n0 aN C ns na nl))))) H := hP
      have hD : va_D A (List.flatten ([cLockRail L0 h_reader (aR 0) (aR2 0) h_images h_slots n0 h_triedYear h_ofBikes C ] ++ (wRail aR C rs ra ++ (wRail aR2 C rs2 ra2 ++ (wNight n0 aN C ns na nl))))) := hD
      refine lv_icmp_ge (tgt := 82) hx hb dX11_carelessOption_31 (by decide) (fun c2 => ?_) (fun c2 => ?_)
      · have h := h.1 c2
        refine lv_iload hx hb dX11_carelessOption_82 (lv_at hl 4 rfl) ?_
        rw [← hQ]
        exact cRetI (v := x4_) (aN, rs2, ra2, ns, na, nl) hx hb hr hlocks hS hP hD h dX11_carelessOption_84
      · have h := h.2 c2
        refine lv_aload_n hx hb dX11_carelessOption_34 rfl (lv_at hl 0 rfl) ?_
        refine va_get (D := D) (ci := 11) (v := .ref (aR2 0)) (C := RX11) (T := TX11) (N := 8) hx hb hw inW_X11 hown hK hP 0 rfl rfl 2 (by decide) (hw _ mw_2_145) (fun _ h9 => h9) rfl dX11_carelessOption_35 ?_
        refine va_getN (D := D) (ci := 4) (v := .ref (aR2 7)) (C := RX4) (T := TX4) (N := 16) hx hb hw inW_X4 hown hK hP 23 rfl rfl 5 (by decide) hn97 (fun _ h9 => h9) rfl dX11_carelessOption_38 ?_
        refine lv_iload_n hx hb dX11_carelessOption_41 rfl (lv_at hl 1 rfl) ?_
        refine lv_iload hx hb dX11_carelessOption_42 (lv_at hl 6 rfl) ?_
        refine cGoV (wo := fun u => [cLockRail L0 h_reader (aR 0) (aR2 0) h_images h_slots n0 h_triedYear h_ofBikes C ] ++ (wRail aR C rs ra ++ (wRail aR2 C rs2 (va_up (va_up ra2 7 u.1) 8 u.2) ++ (wNight n0 aN C ns na nl)))) (cRunVN (As := [.int p1, .int x7_]) (rest := []) ⟨hx, hb, hml, hown, hw⟩ hK hN hP hD [10] rfl rfl (k_X0_setOption l D C _ (aR2 7) (aR2 8) (aR2 9) (aR2 10) (aR2 11) (aR2 12)  (rs2 13) (ra2 4) (ra2 5) (ra2 6) (ra2 7) (ra2 8) p1 x7_ h) ⟨va_cnB 2 hw (goodN mw_4_153) rfl rfl rfl (hN.m 58 rfl) (hw _ mw_1_7) (by decide +kernel) ⟨Nat.le_of_ble_eq_true rfl, Nat.le_of_ble_eq_true rfl⟩, hw _ mw_4_152, hw _ mw_s68⟩ rfl rfl rfl hl.1 rfl (Nat.le_of_ble_eq_true rfl) dX11_carelessOption_44 ⟨Nat.zero_le _, Nat.zero_le _⟩) hP hD hS hA [10] [0, 1, 2, 3, 4, 5, 6, 7, 8, 9, 11, 12, 13, 14, 15] [0, 1, 2, 3, 4, 5, 6, 7, 8, 9, 15, 10, 11, 12, 13, 14] rfl rfl rfl (by decide) rfl (fun _ => rfl) (fun u H locs h hP hD hS => ?_)
        obtain ⟨loc_3, mar_4⟩ := u
        have hP : va_P D vwCl (List.flatten ([cLockRail L0 h_reader (aR 0) (aR2 0) h_images h_slots n0 h_triedYear h_ofBikes C ] ++ (wRail aR C rs ra ++ (wRail aR2 C rs2 (va_up (va_up ra2 7 loc_3) 8 mar_4) ++ (wNight n0 aN C ns na nl))))) H := hP
        have hD : va_D A (List.flatten ([cLockRail L0 h_reader (aR 0) (aR2 0) h_images h_slots n0 h_triedYear h_ofBikes C ] ++ (wRail aR C rs ra ++ (wRail aR2 C rs2 (va_up (va_up ra2 7 loc_3) 8 mar_4) ++ (wNight n0 aN C ns na nl))))) := hD
        refine lv_aload_n hx hb dX11_carelessOption_47 rfl (lv_at hl 0 rfl) ?_
        refine lv_aload_n hx hb dX11_carelessOption_48 rfl (lv_at hl 0 rfl) ?_
        refine va_get (D := D) (ci := 11) (v := .ref (aR2 0)) (C := RX11) (T := TX11) (N := 8) hx hb hw inW_X11 hown hK hP 0 rfl rfl 2 (by decide) (hw _ mw_2_145) (fun _ h9 => h9) rfl dX11_carelessOption_49 ?_
        refine lv_iload_n hx hb dX11_carelessOption_52 rfl (lv_at hl 1 rfl) ?_
        refine lv_iload_n hx hb dX11_carelessOption_53 rfl (lv_at hl 2 rfl) ?_
        refine lv_iload_n hx hb dX11_carelessOption_54 rfl (lv_at hl 3 rfl) ?_
        refine cGoL (wo := fun u => [cLockRail L0 h_reader (aR 0) (aR2 0) h_images h_slots n0 h_triedYear h_ofBikes C ] ++ (wRail aR C rs ra ++ (wRail aR2 C rs2 (va_up (va_up ra2 7 loc_3) 8 mar_4) ++ (wNight n0 u.1 C u.2.1 u.2.2.1 u.2.2.2)))) (cRunV (As := [.ref (aR2 0), .int p1, .int p2, .int p3]) (rest := []) ⟨hx, hb, hml, hown, hw⟩ hK hN hP hD [0, 7, 8, 9, 10, 11, 12, 13, 14, 15] rfl rfl (k_X11_coveredOn l D C _ L0 aR2 n0 aN h_reader (aR 0) (aR2 0) h_images h_slots h_triedYear h_ofBikes  rs2 (va_up (va_up ra2 7 loc_3) 8 mar_4) ns na nl p1 p2 p3 h) (cwV 4 hw (goodV mw_5_113 mw_5_115 mw_s89 mw_1_1 mw_5_116) rfl rfl rfl (by decide +kernel) ⟨Nat.le_of_ble_eq_true rfl, Nat.le_of_ble_eq_true rfl⟩) rfl rfl rfl hl.1 rfl (Nat.le_of_ble_eq_true rfl) dX11_carelessOption_55 ⟨Nat.zero_le _, Nat.zero_le _⟩) hP hD hS hA [0, 7, 8, 9, 10, 11, 12, 13, 14, 15] [1, 2, 3, 4, 5, 6] [6, 0, 1, 2, 3, 4, 5, 7, 8, 9, 10, 11, 12, 13, 14, 15] rfl rfl rfl (by decide) rfl (fun _ => rfl) (fun r9 u H locs h hP hD hS => ?_)
        obtain ⟨aN5, ns_6, na_7, nl_8⟩ := u
        have hP : va_P D vwCl (List.flatten ([cLockRail L0 h_reader (aR 0) (aR2 0) h_images h_slots n0 h_triedYear h_ofBikes C ] ++ (wRail aR C rs ra ++ (wRail aR2 C rs2 (va_up (va_up ra2 7 loc_3) 8 mar_4) ++ (wNight n0 aN5 C ns_6 na_7 nl_8))))) H := hP
        have hD : va_D A (List.flatten ([cLockRail L0 h_reader (aR 0) (aR2 0) h_images h_slots n0 h_triedYear h_ofBikes C ] ++ (wRail aR C rs ra ++ (wRail aR2 C rs2 (va_up (va_up ra2 7 loc_3) 8 mar_4) ++ (wNight n0 aN5 C ns_6 na_7 nl_8))))) := hD
        refine lv_lstore (lv' := [(8, .long r9), (0, .ref L0), (1, .int p1), (2, .int p2), (3, .int p3), (4, .int x4_), (5, .long x5_), (7, .int x7_)]) hx hb dX11_carelessOption_58 hl (by decide) rfl (fun ls hl => ?_)
        refine lv_lload hx hb dX11_carelessOption_60 (lv_at hl 0 rfl) ?_
        refine lv_lload hx hb dX11_carelessOption_62 (lv_at hl 6 rfl) ?_
        refine W.lcmp hx hb dX11_carelessOption_64 ?_
        refine lv_if_ge (tgt := 76) hx hb dX11_carelessOption_65 (by decide) (fun c10 => ?_) (fun c10 => ?_)
        · have c10 : x5_ ≤ r9 := (lg_cmp_ge _ _).mp c10
          have h := h.1 c10
          refine lv_iinc (v := (x7_ + 1)) (lv' := [(7, .int (x7_ + 1)), (8, .long r9), (0, .ref L0), (1, .int p1), (2, .int p2), (3, .int p3), (4, .int x4_), (5, .long x5_)]) hx hb dX11_carelessOption_76 hl (k := 7) rfl rfl (by decide) rfl (fun ls hl => ?_)
          refine lv_goto (tgt := 22) hx hb dX11_carelessOption_79 (by decide) ?_
          exact ih22 x4_ x5_ (x7_ + 1) (va_up (va_up ra2 7 loc_3) 8 mar_4) ns_6 na_7 nl_8 aN5 _ _ _ h hP hD hS (lv_sub hl [2, 3, 4, 5, 6, 7, 0] rfl)
        · have c10 : ¬ x5_ ≤ r9 := fun q => c10 ((lg_cmp_ge _ _).mpr q)
          have h := h.2 c10
          refine lv_lload hx hb dX11_carelessOption_68 (lv_at hl 0 rfl) ?_
          refine lv_lstore (lv' := [(5, .long r9), (8, .long r9), (0, .ref L0), (1, .int p1), (2, .int p2), (3, .int p3), (4, .int x4_), (7, .int x7_)]) hx hb dX11_carelessOption_70 hl (by decide) rfl (fun ls hl => ?_)
          refine lv_iload hx hb dX11_carelessOption_72 (lv_at hl 7 rfl) ?_
          refine lv_istore (lv' := [(4, .int x7_), (5, .long r9), (8, .long r9), (0, .ref L0), (1, .int p1), (2, .int p2), (3, .int p3), (7, .int x7_)]) hx hb dX11_carelessOption_74 hl (by decide) rfl (fun ls hl => ?_)
          refine lv_iinc (v := (x7_ + 1)) (lv' := [(7, .int (x7_ + 1)), (4, .int x7_), (5, .long r9), (8, .long r9), (0, .ref L0), (1, .int p1), (2, .int p2), (3, .int p3)]) hx hb dX11_carelessOption_76 hl (k := 7) rfl rfl (by decide) rfl (fun ls hl => ?_)
          refine lv_goto (tgt := 22) hx hb dX11_carelessOption_79 (by decide) ?_
          exact ih22 x7_ r9 (x7_ + 1) (va_up (va_up ra2 7 loc_3) 8 mar_4) ns_6 na_7 nl_8 aN5 _ _ _ h hP hD hS (lv_sub hl [4, 5, 6, 7, 1, 2, 0] rfl)
  refine lv_aload_n hx hb dX11_carelessOption_0 rfl (lv_at hl 0 rfl) ?_
  refine va_get (D := D) (ci := 11) (v := .ref (aR2 0)) (C := RX11) (T := TX11) (N := 8) hx hb hw inW_X11 hown hK hP 0 rfl rfl 2 (by decide) (hw _ mw_2_145) (fun _ h9 => h9) rfl dX11_carelessOption_1 ?_
  refine lv_aload_n hx hb dX11_carelessOption_4 rfl (lv_at hl 0 rfl) ?_
  refine va_get (D := D) (ci := 11) (v := .ref (aR 0)) (C := RX11) (T := TX11) (N := 8) hx hb hw inW_X11 hown hK hP 0 rfl rfl 1 (by decide) (hw _ mw_2_144) (fun _ h9 => h9) rfl dX11_carelessOption_5 ?_
  refine cGoV (wo := fun u => [cLockRail L0 h_reader (aR 0) (aR2 0) h_images h_slots n0 h_triedYear h_ofBikes C ] ++ (wRail aR C rs ra ++ (wRail aR2 C u.1 u.2 ++ (wNight n0 aN C ns na nl)))) (cRunVN (As := [.ref (aR 0)]) (rest := []) ⟨hx, hb, hml, hown, hw⟩ hK hN hP hD [7, 8, 9, 10, 11, 12, 1, 2, 3, 4, 5, 6] rfl rfl (k_X4_copyFrom l D C _ aR2 aR  rs2 ra2 rs ra  h) ⟨va_cnB 1 hw (goodN mw_3_126) rfl rfl rfl (hN.m 23 rfl) (hw _ mw_1_4) (by decide +kernel) ⟨Nat.le_of_ble_eq_true rfl, Nat.le_of_ble_eq_true rfl⟩, hw _ mw_3_125, hw _ mw_s26⟩ rfl rfl rfl hl.1 rfl (Nat.le_of_ble_eq_true rfl) dX11_carelessOption_8 ⟨Nat.zero_le _, Nat.zero_le _⟩) hP hD hS hA [7, 8, 9, 10, 11, 12, 1, 2, 3, 4, 5, 6] [0, 13, 14, 15] [0, 10, 11, 12, 13, 14, 15, 4, 5, 6, 7, 8, 9, 1, 2, 3] rfl rfl rfl (by decide) rfl (fun _ => rfl) (fun u H locs h hP hD hS => ?_)
  obtain ⟨rs_11, ra_12⟩ := u
  have hP : va_P D vwCl (List.flatten ([cLockRail L0 h_reader (aR 0) (aR2 0) h_images h_slots n0 h_triedYear h_ofBikes C ] ++ (wRail aR C rs ra ++ (wRail aR2 C rs_11 ra_12 ++ (wNight n0 aN C ns na nl))))) H := hP
  have hD : va_D A (List.flatten ([cLockRail L0 h_reader (aR 0) (aR2 0) h_images h_slots n0 h_triedYear h_ofBikes C ] ++ (wRail aR C rs ra ++ (wRail aR2 C rs_11 ra_12 ++ (wNight n0 aN C ns na nl))))) := hD
  refine lv_iconst (v := 0) hx hb dX11_carelessOption_11 (by decide) ?_
  refine lv_istore (lv' := [(4, .int 0), (0, .ref L0), (1, .int p1), (2, .int p2), (3, .int p3)]) hx hb dX11_carelessOption_12 hl (by decide) rfl (fun ls hl => ?_)
  refine lv_ldc2 (v := 9223372036854775807) hx hb hown (hw _ mw_4_170) dX11_carelessOption_14 ?_
  refine lv_lstore (lv' := [(5, .long 9223372036854775807), (4, .int 0), (0, .ref L0), (1, .int p1), (2, .int p2), (3, .int p3)]) hx hb dX11_carelessOption_17 hl (by decide) rfl (fun ls hl => ?_)
  refine lv_iconst (v := 0) hx hb dX11_carelessOption_19 (by decide) ?_
  refine lv_istore (lv' := [(7, .int 0), (5, .long 9223372036854775807), (4, .int 0), (0, .ref L0), (1, .int p1), (2, .int p2), (3, .int p3)]) hx hb dX11_carelessOption_20 hl (by decide) rfl (fun ls hl => ?_)
  obtain ⟨n, h⟩ := h
  exact N22 rs_11 n 0 9223372036854775807 0 ra_12 ns na nl aN _ _ _ h hP hD hS (lv_sub hl [3, 4, 5, 6, 2, 1, 0] rfl)

