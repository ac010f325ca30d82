abbrev vsX5_readLine : List Cond := Cond.code yX5_readLine cX5_readLine 2 none :: WS
abbrev rmX5_readLine : Room := { frames := 7, cells := 0, slots := 0, locals := 155 }
set_option maxHeartbeats 4000000 in
set_option maxRecDepth 100000 in
theorem k_X5_readLine (l : Launch) (D : va_G) (C : Nat → ClassId) (sz : Nat) (aU : Nat → Nat) (aR : Nat → Nat)  (us : Nat → Int32) (ua : Nat → Nat → Int32) (rs : Nat → Int32) (ra : Nat → Nat → Int32)  {post : (Nat → Int32) → (Nat → Int32) → (Nat → Nat → Int32) → Prop} (h : P_X5_readLine us ua rs ra post) : Met l yX5_readLine vsX5_readLine rmX5_readLine (cPreS D C [.ref (aU 0), .ref (aR 0)] sz (wReader aU C us ua ++ (wRail aR C rs ra)) sAll) (cQv D (fun (u : (Nat → Int32) × (Nat → Int32) × (Nat → Nat → Int32)) => post u.1 u.2.1 u.2.2) (fun u => wReader aU C u.1 ua ++ (wRail aR C u.2.1 u.2.2)) (va_A (List.flatten (wReader aU C us ua ++ (wRail aR C rs ra))) sz)) 0 0 (va_A (List.flatten (wReader aU C us ua ++ (wRail aR C rs ra))) sz) := by
  refine cStartS (QA := fun A => cQv D (fun (u : (Nat → Int32) × (Nat → Int32) × (Nat → Nat → Int32)) => post u.1 u.2.1 u.2.2) (fun u => wReader aU C u.1 ua ++ (wRail aR C u.2.1 u.2.2)) A) (cc := cX5_readLine) (maxL := 2) (ret := none) (by decide) (Nat.le_of_ble_eq_true rfl) ?_
  intro p e s m args below meth c A ls hx hb hr hml hown hw hlocks hname hK hN hA hP hD hS hl hX
  generalize hQ : MQ below _ args s 0 0 A = Q
  have hl : lv_has ls 2 [(0, .ref (aU 0)), (1, .ref (aR 0))] := hl
  have hZ : sAll A s s.heap := hX
  have hn40 : (Cond.fieldLinkNest "LockRail$Reader" 40 "LockRail$Rail" "lines" "I" "LockRail").before args s = true := hN.f 53 rfl
  have hn115 : (Cond.fieldLinkNest "LockRail$Reader" 115 "LockRail$Rail" "watchTold" "Z" "LockRail").before args s = true := hN.f 69 rfl
  have hn106 : (Cond.fieldLinkNest "LockRail$Reader" 106 "LockRail$Rail" "markTold" "Z" "LockRail").before args s = true := hN.f 65 rfl
  have hn94 : (Cond.fieldLinkNest "LockRail$Reader" 94 "LockRail$Rail" "thieves" "LLockRail$Thieves;" "LockRail").before args s = true := hN.f 63 rfl
  have hn98 : (Cond.fieldLinkNest "LockRail$Reader" 98 "LockRail$Thieves" "count" "I" "LockRail").before args s = true := hN.f 34 rfl
  have hn82 : (Cond.fieldLinkNest "LockRail$Reader" 82 "LockRail$Rail" "bikes" "LLockRail$Bikes;" "LockRail").before args s = true := hN.f 60 rfl
  have hn86 : (Cond.fieldLinkNest "LockRail$Reader" 86 "LockRail$Bikes" "count" "I" "LockRail").before args s = true := hN.f 19 rfl
  have hn70 : (Cond.fieldLinkNest "LockRail$Reader" 70 "LockRail$Rail" "locks" "LLockRail$Locks;" "LockRail").before args s = true := hN.f 57 rfl
  have hn74 : (Cond.fieldLinkNest "LockRail$Reader" 74 "LockRail$Locks" "count" "I" "LockRail").before args s = true := hN.f 13 rfl
  have hn52 : (Cond.fieldLinkNest "LockRail$Reader" 52 "LockRail$Rail" "lamps" "LLockRail$Lamps;" "LockRail").before args s = true := hN.f 55 rfl
  have hn56 : (Cond.fieldLinkNest "LockRail$Reader" 56 "LockRail$Lamps" "count" "I" "LockRail").before args s = true := hN.f 8 rfl
  obtain ⟨H, hH⟩ : ∃ H, H = s.heap := ⟨_, rfl⟩
  obtain ⟨locs, hlo⟩ : ∃ z : List Loc, z = [] := ⟨_, rfl⟩
  have hP : va_P D vwCl (List.flatten (wReader aU C us ua ++ (wRail aR C rs ra))) H := by rw [hH]; exact hP
  have hS : va_S A s.heap H locs := by rw [hH, hlo]; exact hS
  rw [show W p l e rmX5_readLine s m args below meth c s.heap [] 0 0 Q (F0 m 0 ls []) = W p l e rmX5_readLine s m args below meth c H locs 0 0 Q (F0 m 0 ls []) from by rw [hH, hlo]]
  have N260 : ∀ (us : Nat → Int32) (rs : Nat → Int32) (ra : Nat → Nat → Int32) (H : Heap) (locs : List Loc) (ls : Array Slot), P_X5_readLine_260 ua post  us rs ra → va_P D vwCl (List.flatten (wReader aU C us ua ++ (wRail aR C rs ra))) H → va_D A (List.flatten (wReader aU C us ua ++ (wRail aR C rs ra))) → va_S A s.heap H locs → lv_has ls 2 [(0, .ref (aU 0)), (1, .ref (aR 0))] → W p l e rmX5_readLine s m args below meth c H locs 0 0 Q (F0 m 260 ls []) := by
    intro us rs ra H locs ls h hP hD hS hl
    refine lv_aload_n hx hb dX5_readLine_260 rfl (lv_at hl 0 rfl) ?_
    refine cGoV (wo := fun u => wReader aU C u ua ++ (wRail aR C rs ra)) (cRunV (As := []) (rest := []) ⟨hx, hb, hml, hown, hw⟩ hK hN hP hD [0, 1] rfl rfl (k_X5_readSign l D C _ aU  us ua  h) (cwV 0 hw (goodV mw_3_119 mw_3_121 mw_s25 mw_1_2 mw_3_122) rfl rfl rfl (by decide +kernel) ⟨Nat.le_of_ble_eq_true rfl, Nat.le_of_ble_eq_true rfl⟩) rfl rfl rfl hl.1 rfl (Nat.le_of_ble_eq_true rfl) dX5_readLine_261 ⟨Nat.zero_le _, Nat.zero_le _⟩) hP hD hS hA [0, 1] [2, 3, 4, 5, 6, 7] [6, 7, 0, 1, 2, 3, 4, 5] rfl rfl rfl (by decide) rfl (fun _ => rfl) (fun us_1 H locs h hP hD hS => ?_)
    have hP : va_P D vwCl (List.flatten (wReader aU C us_1 ua ++ (wRail aR C rs ra))) H := hP
    have hD : va_D A (List.flatten (wReader aU C us_1 ua ++ (wRail aR C rs ra))) := hD
    refine lv_aload_n hx hb dX5_readLine_264 rfl (lv_at hl 1 rfl) ?_
    refine lv_dup hx hb dX5_readLine_265 rfl ?_
    refine va_getN (D := D) (ci := 4) (v := .int (rs 2)) (C := RX4) (T := TX4) (N := 16) hx hb hw inW_X4 hown hK hP 3 rfl rfl 2 (by decide) hn40 (fun _ h9 => h9) rfl dX5_readLine_266 ?_
    refine lv_iconst (v := 1) hx hb dX5_readLine_269 (by decide) ?_
    refine lv_iadd hx hb dX5_readLine_270 ?_
    refine lv_topi (fun x2 ex2 => ?_)
    have h := h x2 ex2
    refine va_putN (D := D) (ci := 4) (v := .int x2) (ty := .int) (C := RX4) (T := TX4) (N := 16) hx hb hw inW_X4 tyX4 tyX4_ok nmX4 hown hK hP hD hS 3 rfl rfl 2 (by decide) hn40 (fun _ h9 => h9) rfl (by decide +kernel) rfl rfl (Nat.le_of_ble_eq_true rfl) dX5_readLine_271 (fun H locs hP hD hS => ?_)
    have hP : va_P D vwCl (List.flatten (wReader aU C us_1 ua ++ (wRail aR C (va_up rs 2 x2) ra))) H := hP
    have hD : va_D A (List.flatten (wReader aU C us_1 ua ++ (wRail aR C (va_up rs 2 x2) ra))) := hD
    rw [← hQ]
    exact cRetV (us_1, (va_up rs 2 x2), ra) hx hb hr hlocks hS hP hD h dX5_readLine_274
  have N243 : ∀ (k0_ : Int32) (us : Nat → Int32) (rs : Nat → Int32) (ra : Nat → Nat → Int32) (H : Heap) (locs : List Loc) (ls : Array Slot), P_X5_readLine_243 ua post  k0_ us rs ra → va_P D vwCl (List.flatten (wReader aU C us ua ++ (wRail aR C rs ra))) H → va_D A (List.flatten (wReader aU C us ua ++ (wRail aR C rs ra))) → va_S A s.heap H locs → lv_has ls 2 [(0, .ref (aU 0)), (1, .ref (aR 0))] → W p l e rmX5_readLine s m args below meth c H locs 0 0 Q (F0 m 243 ls [.int k0_, .ref (aU 0)]) := by
    intro k0_ us rs ra H locs ls h hP hD hS hl
    refine lv_iconst (v := 2) hx hb dX5_readLine_243 (by decide) ?_
    refine cGoV (wo := fun u => wReader aU C u ua ++ (wRail aR C rs ra)) (cRunV (As := [.int k0_, .int 2]) (rest := []) ⟨hx, hb, hml, hown, hw⟩ hK hN hP hD [0, 1] rfl rfl (k_X5_readHead l D C _ aU  us ua k0_ 2 h) (cwV 2 hw (goodV mw_3_45 mw_3_47 mw_s12 mw_1_2 mw_3_48) rfl rfl rfl (by decide +kernel) ⟨Nat.le_of_ble_eq_true rfl, Nat.le_of_ble_eq_true rfl⟩) rfl rfl rfl hl.1 rfl (Nat.le_of_ble_eq_true rfl) dX5_readLine_244 ⟨Nat.zero_le _, Nat.zero_le _⟩) hP hD hS hA [0, 1] [2, 3, 4, 5, 6, 7] [6, 7, 0, 1, 2, 3, 4, 5] rfl rfl rfl (by decide) rfl (fun _ => rfl) (fun us_3 H locs h hP hD hS => ?_)
    have hP : va_P D vwCl (List.flatten (wReader aU C us_3 ua ++ (wRail aR C rs ra))) H := hP
    have hD : va_D A (List.flatten (wReader aU C us_3 ua ++ (wRail aR C rs ra))) := hD
    refine lv_aload_n hx hb dX5_readLine_247 rfl (lv_at hl 0 rfl) ?_
    refine lv_aload_n hx hb dX5_readLine_248 rfl (lv_at hl 1 rfl) ?_
    refine cGoV (wo := fun u => wReader aU C u.1 ua ++ (wRail aR C u.2 ra)) (cRunVS (As := [.ref (aR 0)]) (rest := []) sAll.ok hZ hS hA ⟨hx, hb, hml, hown, hw⟩ hK hN hP hD [0, 1, 2, 3, 4, 5, 6, 7] rfl rfl (k_X5_readWatch l D C _ aU aR  us_3 ua rs ra  h) (cwV 1 hw (goodV mw_3_113 mw_3_115 mw_s24 mw_1_2 mw_3_116) rfl rfl rfl (by decide +kernel) ⟨Nat.le_of_ble_eq_true rfl, Nat.le_of_ble_eq_true rfl⟩) rfl rfl rfl hl.1 rfl (Nat.le_of_ble_eq_true rfl) dX5_readLine_249 ⟨Nat.zero_le _, Nat.zero_le _⟩) hP hD hS hA [0, 1, 2, 3, 4, 5, 6, 7] [] [0, 1, 2, 3, 4, 5, 6, 7] rfl rfl rfl (by decide) rfl (fun _ => rfl) (fun u H locs h hP hD hS => ?_)
    obtain ⟨us_4, rs_5⟩ := u
    have hP : va_P D vwCl (List.flatten (wReader aU C us_4 ua ++ (wRail aR C rs_5 ra))) H := hP
    have hD : va_D A (List.flatten (wReader aU C us_4 ua ++ (wRail aR C rs_5 ra))) := hD
    refine lv_goto (tgt := 260) hx hb dX5_readLine_252 (by decide) ?_
    exact N260 us_4 rs_5 ra _ _ _ h hP hD hS (lv_sub hl [0, 1] rfl)
  have N206 : ∀ (k0_ : Int32) (us : Nat → Int32) (rs : Nat → Int32) (ra : Nat → Nat → Int32) (H : Heap) (locs : List Loc) (ls : Array Slot), P_X5_readLine_206 ua post  k0_ us rs ra → va_P D vwCl (List.flatten (wReader aU C us ua ++ (wRail aR C rs ra))) H → va_D A (List.flatten (wReader aU C us ua ++ (wRail aR C rs ra))) → va_S A s.heap H locs → lv_has ls 2 [(0, .ref (aU 0)), (1, .ref (aR 0))] → W p l e rmX5_readLine s m args below meth c H locs 0 0 Q (F0 m 206 ls [.int k0_, .ref (aU 0)]) := by
    intro k0_ us rs ra H locs ls h hP hD hS hl
    refine lv_iconst (v := 2) hx hb dX5_readLine_206 (by decide) ?_
    refine cGoV (wo := fun u => wReader aU C u ua ++ (wRail aR C rs ra)) (cRunV (As := [.int k0_, .int 2]) (rest := []) ⟨hx, hb, hml, hown, hw⟩ hK hN hP hD [0, 1] rfl rfl (k_X5_readHead l D C _ aU  us ua k0_ 2 h) (cwV 2 hw (goodV mw_3_45 mw_3_47 mw_s12 mw_1_2 mw_3_48) rfl rfl rfl (by decide +kernel) ⟨Nat.le_of_ble_eq_true rfl, Nat.le_of_ble_eq_true rfl⟩) rfl rfl rfl hl.1 rfl (Nat.le_of_ble_eq_true rfl) dX5_readLine_207 ⟨Nat.zero_le _, Nat.zero_le _⟩) hP hD hS hA [0, 1] [2, 3, 4, 5, 6, 7] [6, 7, 0, 1, 2, 3, 4, 5] rfl rfl rfl (by decide) rfl (fun _ => rfl) (fun us_6 H locs h hP hD hS => ?_)
    have hP : va_P D vwCl (List.flatten (wReader aU C us_6 ua ++ (wRail aR C rs ra))) H := hP
    have hD : va_D A (List.flatten (wReader aU C us_6 ua ++ (wRail aR C rs ra))) := hD
    refine lv_aload_n hx hb dX5_readLine_210 rfl (lv_at hl 0 rfl) ?_
    refine lv_aload_n hx hb dX5_readLine_211 rfl (lv_at hl 1 rfl) ?_
    refine cGoV (wo := fun u => wReader aU C u.1 ua ++ (wRail aR C u.2 ra)) (cRunVS (As := [.ref (aR 0)]) (rest := []) sAll.ok hZ hS hA ⟨hx, hb, hml, hown, hw⟩ hK hN hP hD [0, 1, 2, 3, 4, 5, 6, 7] rfl rfl (k_X5_readMark l D C _ aU aR  us_6 ua rs ra  h) (cwV 1 hw (goodV mw_3_106 mw_3_108 mw_s23 mw_1_2 mw_3_109) rfl rfl rfl (by decide +kernel) ⟨Nat.le_of_ble_eq_true rfl, Nat.le_of_ble_eq_true rfl⟩) rfl rfl rfl hl.1 rfl (Nat.le_of_ble_eq_true rfl) dX5_readLine_212 ⟨Nat.zero_le _, Nat.zero_le _⟩) hP hD hS hA [0, 1, 2, 3, 4, 5, 6, 7] [] [0, 1, 2, 3, 4, 5, 6, 7] rfl rfl rfl (by decide) rfl (fun _ => rfl) (fun u H locs h hP hD hS => ?_)
    obtain ⟨us_7, rs_8⟩ := u
    have hP : va_P D vwCl (List.flatten (wReader aU C us_7 ua ++ (wRail aR C rs_8 ra))) H := hP
    have hD : va_D A (List.flatten (wReader aU C us_7 ua ++ (wRail aR C rs_8 ra))) := hD
    refine lv_goto (tgt := 260) hx hb dX5_readLine_215 (by decide) ?_
    exact N260 us_7 rs_8 ra _ _ _ h hP hD hS (lv_sub hl [0, 1] rfl)
  have N169 : ∀ (k0_ : Int32) (us : Nat → Int32) (rs : Nat → Int32) (ra : Nat → Nat → Int32) (H : Heap) (locs : List Loc) (ls : Array Slot), P_X5_readLine_169 ua post  k0_ us rs ra → va_P D vwCl (List.flatten (wReader aU C us ua ++ (wRail aR C rs ra))) H → va_D A (List.flatten (wReader aU C us ua ++ (wRail aR C rs ra))) → va_S A s.heap H locs → lv_has ls 2 [(0, .ref (aU 0)), (1, .ref (aR 0))] → W p l e rmX5_readLine s m args below meth c H locs 0 0 Q (F0 m 169 ls [.int k0_, .ref (aU 0)]) := by
    intro k0_ us rs ra H locs ls h hP hD hS hl
    refine lv_iconst (v := 3) hx hb dX5_readLine_169 (by decide) ?_
    refine cGoV (wo := fun u => wReader aU C u ua ++ (wRail aR C rs ra)) (cRunV (As := [.int k0_, .int 3]) (rest := []) ⟨hx, hb, hml, hown, hw⟩ hK hN hP hD [0, 1] rfl rfl (k_X5_readHead l D C _ aU  us ua k0_ 3 h) (cwV 2 hw (goodV mw_3_45 mw_3_47 mw_s12 mw_1_2 mw_3_48) rfl rfl rfl (by decide +kernel) ⟨Nat.le_of_ble_eq_true rfl, Nat.le_of_ble_eq_true rfl⟩) rfl rfl rfl hl.1 rfl (Nat.le_of_ble_eq_true rfl) dX5_readLine_170 ⟨Nat.zero_le _, Nat.zero_le _⟩) hP hD hS hA [0, 1] [2, 3, 4, 5, 6, 7] [6, 7, 0, 1, 2, 3, 4, 5] rfl rfl rfl (by decide) rfl (fun _ => rfl) (fun us_9 H locs h hP hD hS => ?_)
    have hP : va_P D vwCl (List.flatten (wReader aU C us_9 ua ++ (wRail aR C rs ra))) H := hP
    have hD : va_D A (List.flatten (wReader aU C us_9 ua ++ (wRail aR C rs ra))) := hD
    refine lv_aload_n hx hb dX5_readLine_173 rfl (lv_at hl 0 rfl) ?_
    refine lv_aload_n hx hb dX5_readLine_174 rfl (lv_at hl 1 rfl) ?_
    refine cGoV (wo := fun u => wReader aU C u.1 ua ++ (wRail aR C u.2.1 u.2.2)) (cRunVS (As := [.ref (aR 0)]) (rest := []) sAll.ok hZ hS hA ⟨hx, hb, hml, hown, hw⟩ hK hN hP hD [0, 1, 2, 3, 4, 5, 6, 7] rfl rfl (k_X5_readThief l D C _ aU aR  us_9 ua rs ra  h) (cwV 1 hw (goodV mw_3_91 mw_3_93 mw_s21 mw_1_2 mw_3_94) rfl rfl rfl (by decide +kernel) ⟨Nat.le_of_ble_eq_true rfl, Nat.le_of_ble_eq_true rfl⟩) rfl rfl rfl hl.1 rfl (Nat.le_of_ble_eq_true rfl) dX5_readLine_175 ⟨Nat.zero_le _, Nat.zero_le _⟩) hP hD hS hA [0, 1, 2, 3, 4, 5, 6, 7] [] [0, 1, 2, 3, 4, 5, 6, 7] rfl rfl rfl (by decide) rfl (fun _ => rfl) (fun u H locs h hP hD hS => ?_)
    obtain ⟨us_10, rs_11, ra_12⟩ := u
    have hP : va_P D vwCl (List.flatten (wReader aU C us_10 ua ++ (wRail aR C rs_11 ra_12))) H := hP
    have hD : va_D A (List.flatten (wReader aU C us_10 ua ++ (wRail aR C rs_11 ra_12))) := hD
    refine lv_goto (tgt := 260) hx hb dX5_readLine_178 (by decide) ?_
    exact N260 us_10 rs_11 ra_12 _ _ _ h hP hD hS (lv_sub hl [0, 1] rfl)
  have N127 : ∀ (k0_ : Int32) (us : Nat → Int32) (rs : Nat → Int32) (ra : Nat → Nat → Int32) (H : Heap) (locs : List Loc) (ls : Array Slot), P_X5_readLine_127 ua post  k0_ us rs ra → va_P D vwCl (List.flatten (wReader aU C us ua ++ (wRail aR C rs ra))) H → va_D A (List.flatten (wReader aU C us ua ++ (wRail aR C rs ra))) → va_S A s.heap H locs → lv_has ls 2 [(0, .ref (aU 0)), (1, .ref (aR 0))] → W p l e rmX5_readLine s m args below meth c H locs 0 0 Q (F0 m 127 ls [.int k0_, .ref (aU 0)]) := by
    intro k0_ us rs ra H locs ls h hP hD hS hl
    refine lv_iconst (v := 3) hx hb dX5_readLine_127 (by decide) ?_
    refine cGoV (wo := fun u => wReader aU C u ua ++ (wRail aR C rs ra)) (cRunV (As := [.int k0_, .int 3]) (rest := []) ⟨hx, hb, hml, hown, hw⟩ hK hN hP hD [0, 1] rfl rfl (k_X5_readHead l D C _ aU  us ua k0_ 3 h) (cwV 2 hw (goodV mw_3_45 mw_3_47 mw_s12 mw_1_2 mw_3_48) rfl rfl rfl (by decide +kernel) ⟨Nat.le_of_ble_eq_true rfl, Nat.le_of_ble_eq_true rfl⟩) rfl rfl rfl hl.1 rfl (Nat.le_of_ble_eq_true rfl) dX5_readLine_128 ⟨Nat.zero_le _, Nat.zero_le _⟩) hP hD hS hA [0, 1] [2, 3, 4, 5, 6, 7] [6, 7, 0, 1, 2, 3, 4, 5] rfl rfl rfl (by decide) rfl (fun _ => rfl) (fun us_13 H locs h hP hD hS => ?_)
    have hP : va_P D vwCl (List.flatten (wReader aU C us_13 ua ++ (wRail aR C rs ra))) H := hP
    have hD : va_D A (List.flatten (wReader aU C us_13 ua ++ (wRail aR C rs ra))) := hD
    refine lv_aload_n hx hb dX5_readLine_131 rfl (lv_at hl 0 rfl) ?_
    refine lv_aload_n hx hb dX5_readLine_132 rfl (lv_at hl 1 rfl) ?_
    refine cGoV (wo := fun u => wReader aU C u.1 ua ++ (wRail aR C u.2.1 u.2.2)) (cRunVS (As := [.ref (aR 0)]) (rest := []) sAll.ok hZ hS hA ⟨hx, hb, hml, hown, hw⟩ hK hN hP hD [0, 1, 2, 3, 4, 5, 6, 7] rfl rfl (k_X5_readBike l D C _ aU aR  us_13 ua rs ra  h) (cwV 1 hw (goodV mw_3_71 mw_3_73 mw_s17 mw_1_2 mw_3_74) rfl rfl rfl (by decide +kernel) ⟨Nat.le_of_ble_eq_true rfl, Nat.le_of_ble_eq_true rfl⟩) rfl rfl rfl hl.1 rfl (Nat.le_of_ble_eq_true rfl) dX5_readLine_133 ⟨Nat.zero_le _, Nat.zero_le _⟩) hP hD hS hA [0, 1, 2, 3, 4, 5, 6, 7] [] [0, 1, 2, 3, 4, 5, 6, 7] rfl rfl rfl (by decide) rfl (fun _ => rfl) (fun u H locs h hP hD hS => ?_)
    obtain ⟨us_14, rs_15, ra_16⟩ := u
    have hP : va_P D vwCl (List.flatten (wReader aU C us_14 ua ++ (wRail aR C rs_15 ra_16))) H := hP
    have hD : va_D A (List.flatten (wReader aU C us_14 ua ++ (wRail aR C rs_15 ra_16))) := hD
    refine lv_goto (tgt := 260) hx hb dX5_readLine_136 (by decide) ?_
    exact N260 us_14 rs_15 ra_16 _ _ _ h hP hD hS (lv_sub hl [0, 1] rfl)
  have N85 : ∀ (k0_ : Int32) (us : Nat → Int32) (rs : Nat → Int32) (ra : Nat → Nat → Int32) (H : Heap) (locs : List Loc) (ls : Array Slot), P_X5_readLine_85 ua post  k0_ us rs ra → va_P D vwCl (List.flatten (wReader aU C us ua ++ (wRail aR C rs ra))) H → va_D A (List.flatten (wReader aU C us ua ++ (wRail aR C rs ra))) → va_S A s.heap H locs → lv_has ls 2 [(0, .ref (aU 0)), (1, .ref (aR 0))] → W p l e rmX5_readLine s m args below meth c H locs 0 0 Q (F0 m 85 ls [.int k0_, .ref (aU 0)]) := by
    intro k0_ us rs ra H locs ls h hP hD hS hl
    refine lv_iconst (v := 3) hx hb dX5_readLine_85 (by decide) ?_
    refine cGoV (wo := fun u => wReader aU C u ua ++ (wRail aR C rs ra)) (cRunV (As := [.int k0_, .int 3]) (rest := []) ⟨hx, hb, hml, hown, hw⟩ hK hN hP hD [0, 1] rfl rfl (k_X5_readHead l D C _ aU  us ua k0_ 3 h) (cwV 2 hw (goodV mw_3_45 mw_3_47 mw_s12 mw_1_2 mw_3_48) rfl rfl rfl (by decide +kernel) ⟨Nat.le_of_ble_eq_true rfl, Nat.le_of_ble_eq_true rfl⟩) rfl rfl rfl hl.1 rfl (Nat.le_of_ble_eq_true rfl) dX5_readLine_86 ⟨Nat.zero_le _, Nat.zero_le _⟩) hP hD hS hA [0, 1] [2, 3, 4, 5, 6, 7] [6, 7, 0, 1, 2, 3, 4, 5] rfl rfl rfl (by decide) rfl (fun _ => rfl) (fun us_17 H locs h hP hD hS => ?_)
    have hP : va_P D vwCl (List.flatten (wReader aU C us_17 ua ++ (wRail aR C rs ra))) H := hP
    have hD : va_D A (List.flatten (wReader aU C us_17 ua ++ (wRail aR C rs ra))) := hD
    refine lv_aload_n hx hb dX5_readLine_89 rfl (lv_at hl 0 rfl) ?_
    refine lv_aload_n hx hb dX5_readLine_90 rfl (lv_at hl 1 rfl) ?_
    refine cGoV (wo := fun u => wReader aU C u.1 ua ++ (wRail aR C u.2.1 u.2.2)) (cRunVS (As := [.ref (aR 0)]) (rest := []) sAll.ok hZ hS hA ⟨hx, hb, hml, hown, hw⟩ hK hN hP hD [0, 1, 2, 3, 4, 5, 6, 7] rfl rfl (k_X5_readLock l D C _ aU aR  us_17 ua rs ra  h) (cwV 1 hw (goodV mw_3_60 mw_3_62 mw_s15 mw_1_2 mw_3_63) rfl rfl rfl (by decide +kernel) ⟨Nat.le_of_ble_eq_true rfl, Nat.le_of_ble_eq_true rfl⟩) rfl rfl rfl hl.1 rfl (Nat.le_of_ble_eq_true rfl) dX5_readLine_91 ⟨Nat.zero_le _, Nat.zero_le _⟩) hP hD hS hA [0, 1, 2, 3, 4, 5, 6, 7] [] [0, 1, 2, 3, 4, 5, 6, 7] rfl rfl rfl (by decide) rfl (fun _ => rfl) (fun u H locs h hP hD hS => ?_)
    obtain ⟨us_18, rs_19, ra_20⟩ := u
    have hP : va_P D vwCl (List.flatten (wReader aU C us_18 ua ++ (wRail aR C rs_19 ra_20))) H := hP
    have hD : va_D A (List.flatten (wReader aU C us_18 ua ++ (wRail aR C rs_19 ra_20))) := hD
    refine lv_goto (tgt := 260) hx hb dX5_readLine_94 (by decide) ?_
    exact N260 us_18 rs_19 ra_20 _ _ _ h hP hD hS (lv_sub hl [0, 1] rfl)
  have N44 : ∀ (k0_ : Int32) (us : Nat → Int32) (rs : Nat → Int32) (ra : Nat → Nat → Int32) (H : Heap) (locs : List Loc) (ls : Array Slot), P_X5_readLine_44 ua post  k0_ us rs ra → va_P D vwCl (List.flatten (wReader aU C us ua ++ (wRail aR C rs ra))) H → va_D A (List.flatten (wReader aU C us ua ++ (wRail aR C rs ra))) → va_S A s.heap H locs → lv_has ls 2 [(0, .ref (aU 0)), (1, .ref (aR 0))] → W p l e rmX5_readLine s m args below meth c H locs 0 0 Q (F0 m 44 ls [.int k0_, .ref (aU 0)]) := by
    intro k0_ us rs ra H locs ls h hP hD hS hl
    refine lv_iconst (v := 3) hx hb dX5_readLine_44 (by decide) ?_
    refine cGoV (wo := fun u => wReader aU C u ua ++ (wRail aR C rs ra)) (cRunV (As := [.int k0_, .int 3]) (rest := []) ⟨hx, hb, hml, hown, hw⟩ hK hN hP hD [0, 1] rfl rfl (k_X5_readHead l D C _ aU  us ua k0_ 3 h) (cwV 2 hw (goodV mw_3_45 mw_3_47 mw_s12 mw_1_2 mw_3_48) rfl rfl rfl (by decide +kernel) ⟨Nat.le_of_ble_eq_true rfl, Nat.le_of_ble_eq_true rfl⟩) rfl rfl rfl hl.1 rfl (Nat.le_of_ble_eq_true rfl) dX5_readLine_45 ⟨Nat.zero_le _, Nat.zero_le _⟩) hP hD hS hA [0, 1] [2, 3, 4, 5, 6, 7] [6, 7, 0, 1, 2, 3, 4, 5] rfl rfl rfl (by decide) rfl (fun _ => rfl) (fun us_21 H locs h hP hD hS => ?_)
    have hP : va_P D vwCl (List.flatten (wReader aU C us_21 ua ++ (wRail aR C rs ra))) H := hP
    have hD : va_D A (List.flatten (wReader aU C us_21 ua ++ (wRail aR C rs ra))) := hD
    refine lv_aload_n hx hb dX5_readLine_48 rfl (lv_at hl 0 rfl) ?_
    refine lv_aload_n hx hb dX5_readLine_49 rfl (lv_at hl 1 rfl) ?_
    refine cGoV (wo := fun u => wReader aU C u.1 ua ++ (wRail aR C u.2.1 u.2.2)) (cRunVS (As := [.ref (aR 0)]) (rest := []) sAll.ok hZ hS hA ⟨hx, hb, hml, hown, hw⟩ hK hN hP hD [0, 1, 2, 3, 4, 5, 6, 7] rfl rfl (k_X5_readLamp l D C _ aU aR  us_21 ua rs ra  h) (cwV 1 hw (goodV mw_3_49 mw_3_51 mw_s13 mw_1_2 mw_3_52) rfl rfl rfl (by decide +kernel) ⟨Nat.le_of_ble_eq_true rfl, Nat.le_of_ble_eq_true rfl⟩) rfl rfl rfl hl.1 rfl (Nat.le_of_ble_eq_true rfl) dX5_readLine_50 ⟨Nat.zero_le _, Nat.zero_le _⟩) hP hD hS hA [0, 1, 2, 3, 4, 5, 6, 7] [] [0, 1, 2, 3, 4, 5, 6, 7] rfl rfl rfl (by decide) rfl (fun _ => rfl) (fun u H locs h hP hD hS => ?_)
    obtain ⟨us_22, rs_23, ra_24⟩ := u
    have hP : va_P D vwCl (List.flatten (wReader aU C us_22 ua ++ (wRail aR C rs_23 ra_24))) H := hP
    have hD : va_D A (List.flatten (wReader aU C us_22 ua ++ (wRail aR C rs_23 ra_24))) := hD
    refine lv_goto (tgt := 260) hx hb dX5_readLine_53 (by decide) ?_
    exact N260 us_22 rs_23 ra_24 _ _ _ h hP hD hS (lv_sub hl [0, 1] rfl)
  refine lv_aload_n hx hb dX5_readLine_0 rfl (lv_at hl 1 rfl) ?_
  refine va_getN (D := D) (ci := 4) (v := .int (rs 2)) (C := RX4) (T := TX4) (N := 16) hx hb hw inW_X4 hown hK hP 3 rfl rfl 2 (by decide) hn40 (fun _ h9 => h9) rfl dX5_readLine_1 ?_
  refine lv_if_ne (tgt := 15) hx hb dX5_readLine_4 (by decide) (fun c25 => ?_) (fun c25 => ?_)
  · have h := h.1 c25
    refine lv_aload_n hx hb dX5_readLine_15 rfl (lv_at hl 0 rfl) ?_
    refine va_get (D := D) (ci := 5) (v := .ref (aU 1)) (C := RX5) (T := TX5) (N := 3) hx hb hw inW_X5 hown hK hP 0 rfl rfl 0 (by decide) (hw _ mw_1_65) (fun _ h9 => h9) rfl dX5_readLine_16 ?_
    obtain ⟨qc26, hR_qc26, h_qc26⟩ := hZ.1 (46, "lamp", [108, 97, 109, 112]) (List.mem_of_getElem? (i := 3) rfl)
    have h_qc26 : sAt A s s.heap [108, 97, 109, 112] qc26 := h_qc26
    refine va_ldcS hx hb hown hR_qc26 dX5_readLine_19 ?_
    refine cGoI (wo := fun u => wReader aU C us ua ++ (wRail aR C rs ra)) (cRunVNS (As := [.ref qc26]) (rest := []) (X1.ok ([108, 97, 109, 112]) qc26) ⟨hZ, h_qc26⟩ hS hA ⟨hx, hb, hml, hown, hw⟩ hK hN hP hD [1] rfl rfl (k_X8_isWord l D C _ (aU 1) (aU 2)  (ua 0) (us 2) (us 3) (us 4) (us 5) (us 6) ([108, 97, 109, 112]) qc26 h) ⟨va_cnB 1 hw (goodN mw_2_224) rfl rfl rfl (hN.m 16 rfl) (hw _ mw_1_3) (by decide +kernel) ⟨Nat.le_of_ble_eq_true rfl, Nat.le_of_ble_eq_true rfl⟩, hw _ mw_2_223, hw _ mw_s9⟩ rfl rfl rfl hl.1 rfl (Nat.le_of_ble_eq_true rfl) dX5_readLine_21 ⟨Nat.zero_le _, Nat.zero_le _⟩) hP hD hS hA [1] [0, 2, 3, 4, 5, 6, 7] [0, 7, 1, 2, 3, 4, 5, 6] rfl rfl rfl (by decide) rfl (fun _ => rfl) (fun r27 u H locs h hP hD hS => ?_)
    have hP : va_P D vwCl (List.flatten (wReader aU C us ua ++ (wRail aR C rs ra))) H := hP
    have hD : va_D A (List.flatten (wReader aU C us ua ++ (wRail aR C rs ra))) := hD
    refine lv_if_eq (tgt := 56) hx hb dX5_readLine_24 (by decide) (fun c28 => ?_) (fun c28 => ?_)
    · have h := h.1 c28
      refine lv_aload_n hx hb dX5_readLine_56 rfl (lv_at hl 0 rfl) ?_
      refine va_get (D := D) (ci := 5) (v := .ref (aU 1)) (C := RX5) (T := TX5) (N := 3) hx hb hw inW_X5 hown hK hP 0 rfl rfl 0 (by decide) (hw _ mw_1_65) (fun _ h9 => h9) rfl dX5_readLine_57 ?_
      obtain ⟨qc29, hR_qc29, h_qc29⟩ := hZ.1 (68, "lock", [108, 111, 99, 107]) (List.mem_of_getElem? (i := 6) rfl)
      have h_qc29 : sAt A s s.heap [108, 111, 99, 107] qc29 := h_qc29
      refine va_ldcS hx hb hown hR_qc29 dX5_readLine_60 ?_
      refine cGoI (wo := fun u => wReader aU C us ua ++ (wRail aR C rs ra)) (cRunVNS (As := [.ref qc29]) (rest := []) (X1.ok ([108, 111, 99, 107]) qc29) ⟨hZ, h_qc29⟩ hS hA ⟨hx, hb, hml, hown, hw⟩ hK hN hP hD [1] rfl rfl (k_X8_isWord l D C _ (aU 1) (aU 2)  (ua 0) (us 2) (us 3) (us 4) (us 5) (us 6) ([108, 111, 99, 107]) qc29 h) ⟨va_cnB 1 hw (goodN mw_2_224) rfl rfl rfl (hN.m 16 rfl) (hw _ mw_1_3) (by decide +kernel) ⟨Nat.le_of_ble_eq_true rfl, Nat.le_of_ble_eq_true rfl⟩, hw _ mw_2_223, hw _ mw_s9⟩ rfl rfl rfl hl.1 rfl (Nat.le_of_ble_eq_true rfl) dX5_readLine_62 ⟨Nat.zero_le _, Nat.zero_le _⟩) hP hD hS hA [1] [0, 2, 3, 4, 5, 6, 7] [0, 7, 1, 2, 3, 4, 5, 6] rfl rfl rfl (by decide) rfl (fun _ => rfl) (fun r30 u H locs h hP hD hS => ?_)
      have hP : va_P D vwCl (List.flatten (wReader aU C us ua ++ (wRail aR C rs ra))) H := hP
      have hD : va_D A (List.flatten (wReader aU C us ua ++ (wRail aR C rs ra))) := hD
      refine lv_if_eq (tgt := 97) hx hb dX5_readLine_65 (by decide) (fun c31 => ?_) (fun c31 => ?_)
      · have h := h.1 c31
        refine lv_aload_n hx hb dX5_readLine_97 rfl (lv_at hl 0 rfl) ?_
        refine va_get (D := D) (ci := 5) (v := .ref (aU 1)) (C := RX5) (T := TX5) (N := 3) hx hb hw inW_X5 hown hK hP 0 rfl rfl 0 (by decide) (hw _ mw_1_65) (fun _ h9 => h9) rfl dX5_readLine_98 ?_
        obtain ⟨qc32, hR_qc32, h_qc32⟩ := hZ.1 (80, "bike", [98, 105, 107, 101]) (List.mem_of_getElem? (i := 9) rfl)
        have h_qc32 : sAt A s s.heap [98, 105, 107, 101] qc32 := h_qc32
        refine va_ldcS hx hb hown hR_qc32 dX5_readLine_101 ?_
        refine cGoI (wo := fun u => wReader aU C us ua ++ (wRail aR C rs ra)) (cRunVNS (As := [.ref qc32]) (rest := []) (X1.ok ([98, 105, 107, 101]) qc32) ⟨hZ, h_qc32⟩ hS hA ⟨hx, hb, hml, hown, hw⟩ hK hN hP hD [1] rfl rfl (k_X8_isWord l D C _ (aU 1) (aU 2)  (ua 0) (us 2) (us 3) (us 4) (us 5) (us 6) ([98, 105, 107, 101]) qc32 h) ⟨va_cnB 1 hw (goodN mw_2_224) rfl rfl rfl (hN.m 16 rfl) (hw _ mw_1_3) (by decide +kernel) ⟨Nat.le_of_ble_eq_true rfl, Nat.le_of_ble_eq_true rfl⟩, hw _ mw_2_223, hw _ mw_s9⟩ rfl rfl rfl hl.1 rfl (Nat.le_of_ble_eq_true rfl) dX5_readLine_103 ⟨Nat.zero_le _, Nat.zero_le _⟩) hP hD hS hA [1] [0, 2, 3, 4, 5, 6, 7] [0, 7, 1, 2, 3, 4, 5, 6] rfl rfl rfl (by decide) rfl (fun _ => rfl) (fun r33 u H locs h hP hD hS => ?_)
        have hP : va_P D vwCl (List.flatten (wReader aU C us ua ++ (wRail aR C rs ra))) H := hP
        have hD : va_D A (List.flatten (wReader aU C us ua ++ (wRail aR C rs ra))) := hD
        refine lv_if_eq (tgt := 139) hx hb dX5_readLine_106 (by decide) (fun c34 => ?_) (fun c34 => ?_)
        · have h := h.1 c34
          refine lv_aload_n hx hb dX5_readLine_139 rfl (lv_at hl 0 rfl) ?_
          refine va_get (D := D) (ci := 5) (v := .ref (aU 1)) (C := RX5) (T := TX5) (N := 3) hx hb hw inW_X5 hown hK hP 0 rfl rfl 0 (by decide) (hw _ mw_1_65) (fun _ h9 => h9) rfl dX5_readLine_140 ?_
          obtain ⟨qc35, hR_qc35, h_qc35⟩ := hZ.1 (92, "thief", [116, 104, 105, 101, 102]) (List.mem_of_getElem? (i := 13) rfl)
          have h_qc35 : sAt A s s.heap [116, 104, 105, 101, 102] qc35 := h_qc35
          refine va_ldcS hx hb hown hR_qc35 dX5_readLine_143 ?_
          refine cGoI (wo := fun u => wReader aU C us ua ++ (wRail aR C rs ra)) (cRunVNS (As := [.ref qc35]) (rest := []) (X1.ok ([116, 104, 105, 101, 102]) qc35) ⟨hZ, h_qc35⟩ hS hA ⟨hx, hb, hml, hown, hw⟩ hK hN hP hD [1] rfl rfl (k_X8_isWord l D C _ (aU 1) (aU 2)  (ua 0) (us 2) (us 3) (us 4) (us 5) (us 6) ([116, 104, 105, 101, 102]) qc35 h) ⟨va_cnB 1 hw (goodN mw_2_224) rfl rfl rfl (hN.m 16 rfl) (hw _ mw_1_3) (by decide +kernel) ⟨Nat.le_of_ble_eq_true rfl, Nat.le_of_ble_eq_true rfl⟩, hw _ mw_2_223, hw _ mw_s9⟩ rfl rfl rfl hl.1 rfl (Nat.le_of_ble_eq_true rfl) dX5_readLine_145 ⟨Nat.zero_le _, Nat.zero_le _⟩) hP hD hS hA [1] [0, 2, 3, 4, 5, 6, 7] [0, 7, 1, 2, 3, 4, 5, 6] rfl rfl rfl (by decide) rfl (fun _ => rfl) (fun r36 u H locs h hP hD hS => ?_)
          have hP : va_P D vwCl (List.flatten (wReader aU C us ua ++ (wRail aR C rs ra))) H := hP
          have hD : va_D A (List.flatten (wReader aU C us ua ++ (wRail aR C rs ra))) := hD
          refine lv_if_eq (tgt := 181) hx hb dX5_readLine_148 (by decide) (fun c37 => ?_) (fun c37 => ?_)
          · have h := h.1 c37
            refine lv_aload_n hx hb dX5_readLine_181 rfl (lv_at hl 0 rfl) ?_
            refine va_get (D := D) (ci := 5) (v := .ref (aU 1)) (C := RX5) (T := TX5) (N := 3) hx hb hw inW_X5 hown hK hP 0 rfl rfl 0 (by decide) (hw _ mw_1_65) (fun _ h9 => h9) rfl dX5_readLine_182 ?_
            obtain ⟨qc38, hR_qc38, h_qc38⟩ := hZ.1 (104, "mark", [109, 97, 114, 107]) (List.mem_of_getElem? (i := 20) rfl)
            have h_qc38 : sAt A s s.heap [109, 97, 114, 107] qc38 := h_qc38
            refine va_ldcS hx hb hown hR_qc38 dX5_readLine_185 ?_
            refine cGoI (wo := fun u => wReader aU C us ua ++ (wRail aR C rs ra)) (cRunVNS (As := [.ref qc38]) (rest := []) (X1.ok ([109, 97, 114, 107]) qc38) ⟨hZ, h_qc38⟩ hS hA ⟨hx, hb, hml, hown, hw⟩ hK hN hP hD [1] rfl rfl (k_X8_isWord l D C _ (aU 1) (aU 2)  (ua 0) (us 2) (us 3) (us 4) (us 5) (us 6) ([109, 97, 114, 107]) qc38 h) ⟨va_cnB 1 hw (goodN mw_2_224) rfl rfl rfl (hN.m 16 rfl) (hw _ mw_1_3) (by decide +kernel) ⟨Nat.le_of_ble_eq_true rfl, Nat.le_of_ble_eq_true rfl⟩, hw _ mw_2_223, hw _ mw_s9⟩ rfl rfl rfl hl.1 rfl (Nat.le_of_ble_eq_true rfl) dX5_readLine_187 ⟨Nat.zero_le _, Nat.zero_le _⟩) hP hD hS hA [1] [0, 2, 3, 4, 5, 6, 7] [0, 7, 1, 2, 3, 4, 5, 6] rfl rfl rfl (by decide) rfl (fun _ => rfl) (fun r39 u H locs h hP hD hS => ?_)
            have hP : va_P D vwCl (List.flatten (wReader aU C us ua ++ (wRail aR C rs ra))) H := hP
            have hD : va_D A (List.flatten (wReader aU C us ua ++ (wRail aR C rs ra))) := hD
            refine lv_if_eq (tgt := 218) hx hb dX5_readLine_190 (by decide) (fun c40 => ?_) (fun c40 => ?_)
            · have h := h.1 c40
              refine lv_aload_n hx hb dX5_readLine_218 rfl (lv_at hl 0 rfl) ?_
              refine va_get (D := D) (ci := 5) (v := .ref (aU 1)) (C := RX5) (T := TX5) (N := 3) hx hb hw inW_X5 hown hK hP 0 rfl rfl 0 (by decide) (hw _ mw_1_65) (fun _ h9 => h9) rfl dX5_readLine_219 ?_
              obtain ⟨qc41, hR_qc41, h_qc41⟩ := hZ.1 (113, "watch", [119, 97, 116, 99, 104]) (List.mem_of_getElem? (i := 23) rfl)
              have h_qc41 : sAt A s s.heap [119, 97, 116, 99, 104] qc41 := h_qc41
              refine va_ldcS hx hb hown hR_qc41 dX5_readLine_222 ?_
              refine cGoI (wo := fun u => wReader aU C us ua ++ (wRail aR C rs ra)) (cRunVNS (As := [.ref qc41]) (rest := []) (X1.ok ([119, 97, 116, 99, 104]) qc41) ⟨hZ, h_qc41⟩ hS hA ⟨hx, hb, hml, hown, hw⟩ hK hN hP hD [1] rfl rfl (k_X8_isWord l D C _ (aU 1) (aU 2)  (ua 0) (us 2) (us 3) (us 4) (us 5) (us 6) ([119, 97, 116, 99, 104]) qc41 h) ⟨va_cnB 1 hw (goodN mw_2_224) rfl rfl rfl (hN.m 16 rfl) (hw _ mw_1_3) (by decide +kernel) ⟨Nat.le_of_ble_eq_true rfl, Nat.le_of_ble_eq_true rfl⟩, hw _ mw_2_223, hw _ mw_s9⟩ rfl rfl rfl hl.1 rfl (Nat.le_of_ble_eq_true rfl) dX5_readLine_224 ⟨Nat.zero_le _, Nat.zero_le _⟩) hP hD hS hA [1] [0, 2, 3, 4, 5, 6, 7] [0, 7, 1, 2, 3, 4, 5, 6] rfl rfl rfl (by decide) rfl (fun _ => rfl) (fun r42 u H locs h hP hD hS => ?_)
              have hP : va_P D vwCl (List.flatten (wReader aU C us ua ++ (wRail aR C rs ra))) H := hP
              have hD : va_D A (List.flatten (wReader aU C us ua ++ (wRail aR C rs ra))) := hD
              refine lv_if_eq (tgt := 255) hx hb dX5_readLine_227 (by decide) (fun c43 => ?_) (fun c43 => ?_)
              · have h := h.1 c43
                refine lv_aload_n hx hb dX5_readLine_255 rfl (lv_at hl 0 rfl) ?_
                refine lv_iconst (v := 1) hx hb dX5_readLine_256 (by decide) ?_
                refine cGoV (wo := fun u => wReader aU C u ua ++ (wRail aR C rs ra)) (cRunV (As := [.int 1]) (rest := []) ⟨hx, hb, hml, hown, hw⟩ hK hN hP hD [0, 1] rfl rfl (k_X5_fail l D C _ aU  us ua 1 h) (cwV 1 hw (goodV mw_3_34 mw_3_36 mw_s10 mw_1_2 mw_3_37) rfl rfl rfl (by decide +kernel) ⟨Nat.le_of_ble_eq_true rfl, Nat.le_of_ble_eq_true rfl⟩) rfl rfl rfl hl.1 rfl (Nat.le_of_ble_eq_true rfl) dX5_readLine_257 ⟨Nat.zero_le _, Nat.zero_le _⟩) hP hD hS hA [0, 1] [2, 3, 4, 5, 6, 7] [6, 7, 0, 1, 2, 3, 4, 5] rfl rfl rfl (by decide) rfl (fun _ => rfl) (fun us_44 H locs h hP hD hS => ?_)
                have hP : va_P D vwCl (List.flatten (wReader aU C us_44 ua ++ (wRail aR C rs ra))) H := hP
                have hD : va_D A (List.flatten (wReader aU C us_44 ua ++ (wRail aR C rs ra))) := hD
                exact N260 us_44 rs ra _ _ _ h hP hD hS (lv_sub hl [0, 1] rfl)
              · have h := h.2 c43
                refine lv_aload_n hx hb dX5_readLine_230 rfl (lv_at hl 0 rfl) ?_
                refine lv_aload_n hx hb dX5_readLine_231 rfl (lv_at hl 1 rfl) ?_
                refine va_getN (D := D) (ci := 4) (v := .int (rs 7)) (C := RX4) (T := TX4) (N := 16) hx hb hw inW_X4 hown hK hP 3 rfl rfl 11 (by decide) hn115 (fun _ h9 => h9) rfl dX5_readLine_232 ?_
                refine lv_if_ne (tgt := 242) hx hb dX5_readLine_235 (by decide) (fun c45 => ?_) (fun c45 => ?_)
                · have h := h.1 c45
                  refine lv_iconst (v := 0) hx hb dX5_readLine_242 (by decide) ?_
                  exact N243 0 us rs ra _ _ _ h hP hD hS (lv_sub hl [0, 1] rfl)
                · have h := h.2 c45
                  refine lv_iconst (v := 1) hx hb dX5_readLine_238 (by decide) ?_
                  refine lv_goto (tgt := 243) hx hb dX5_readLine_239 (by decide) ?_
                  exact N243 1 us rs ra _ _ _ h hP hD hS (lv_sub hl [0, 1] rfl)
            · have h := h.2 c40
              refine lv_aload_n hx hb dX5_readLine_193 rfl (lv_at hl 0 rfl) ?_
              refine lv_aload_n hx hb dX5_readLine_194 rfl (lv_at hl 1 rfl) ?_
              refine va_getN (D := D) (ci := 4) (v := .int (rs 3)) (C := RX4) (T := TX4) (N := 16) hx hb hw inW_X4 hown hK hP 3 rfl rfl 7 (by decide) hn106 (fun _ h9 => h9) rfl dX5_readLine_195 ?_
              refine lv_if_ne (tgt := 205) hx hb dX5_readLine_198 (by decide) (fun c46 => ?_) (fun c46 => ?_)
              · have h := h.1 c46
                refine lv_iconst (v := 0) hx hb dX5_readLine_205 (by decide) ?_
                exact N206 0 us rs ra _ _ _ h hP hD hS (lv_sub hl [0, 1] rfl)
              · have h := h.2 c46
                refine lv_iconst (v := 1) hx hb dX5_readLine_201 (by decide) ?_
                refine lv_goto (tgt := 206) hx hb dX5_readLine_202 (by decide) ?_
                exact N206 1 us rs ra _ _ _ h hP hD hS (lv_sub hl [0, 1] rfl)
          · have h := h.2 c37
            refine lv_aload_n hx hb dX5_readLine_151 rfl (lv_at hl 0 rfl) ?_
            refine lv_aload_n hx hb dX5_readLine_152 rfl (lv_at hl 1 rfl) ?_
            refine va_getN (D := D) (ci := 4) (v := .ref (aR 13)) (C := RX4) (T := TX4) (N := 16) hx hb hw inW_X4 hown hK hP 3 rfl rfl 6 (by decide) hn94 (fun _ h9 => h9) rfl dX5_readLine_153 ?_
            refine va_getN (D := D) (ci := 9) (v := .int (rs 14)) (C := RX9) (T := TX9) (N := 6) hx hb hw inW_X9 hown hK hP 16 rfl rfl 0 (by decide) hn98 (fun _ h9 => h9) rfl dX5_readLine_156 ?_
            refine lv_bipush (v := 6) hx hb dX5_readLine_159 (by decide) ?_
            refine lv_icmp_ge (tgt := 168) hx hb dX5_readLine_161 (by decide) (fun c47 => ?_) (fun c47 => ?_)
            · have h := h.1 c47
              refine lv_iconst (v := 0) hx hb dX5_readLine_168 (by decide) ?_
              exact N169 0 us rs ra _ _ _ h hP hD hS (lv_sub hl [0, 1] rfl)
            · have h := h.2 c47
              refine lv_iconst (v := 1) hx hb dX5_readLine_164 (by decide) ?_
              refine lv_goto (tgt := 169) hx hb dX5_readLine_165 (by decide) ?_
              exact N169 1 us rs ra _ _ _ h hP hD hS (lv_sub hl [0, 1] rfl)
        · have h := h.2 c34
          refine lv_aload_n hx hb dX5_readLine_109 rfl (lv_at hl 0 rfl) ?_
          refine lv_aload_n hx hb dX5_readLine_110 rfl (lv_at hl 1 rfl) ?_
          refine va_getN (D := D) (ci := 4) (v := .ref (aR 7)) (C := RX4) (T := TX4) (N := 16) hx hb hw inW_X4 hown hK hP 3 rfl rfl 5 (by decide) hn82 (fun _ h9 => h9) rfl dX5_readLine_111 ?_
          refine va_getN (D := D) (ci := 0) (v := .int (rs 13)) (C := RX0) (T := TX0) (N := 6) hx hb hw inW_X0 hown hK hP 10 rfl rfl 0 (by decide) hn86 (fun _ h9 => h9) rfl dX5_readLine_114 ?_
          refine lv_bipush (v := 10) hx hb dX5_readLine_117 (by decide) ?_
          refine lv_icmp_ge (tgt := 126) hx hb dX5_readLine_119 (by decide) (fun c48 => ?_) (fun c48 => ?_)
          · have h := h.1 c48
            refine lv_iconst (v := 0) hx hb dX5_readLine_126 (by decide) ?_
            exact N127 0 us rs ra _ _ _ h hP hD hS (lv_sub hl [0, 1] rfl)
          · have h := h.2 c48
            refine lv_iconst (v := 1) hx hb dX5_readLine_122 (by decide) ?_
            refine lv_goto (tgt := 127) hx hb dX5_readLine_123 (by decide) ?_
            exact N127 1 us rs ra _ _ _ h hP hD hS (lv_sub hl [0, 1] rfl)
      · have h := h.2 c31
        refine lv_aload_n hx hb dX5_readLine_68 rfl (lv_at hl 0 rfl) ?_
        refine lv_aload_n hx hb dX5_readLine_69 rfl (lv_at hl 1 rfl) ?_
        refine va_getN (D := D) (ci := 4) (v := .ref (aR 4)) (C := RX4) (T := TX4) (N := 16) hx hb hw inW_X4 hown hK hP 3 rfl rfl 4 (by decide) hn70 (fun _ h9 => h9) rfl dX5_readLine_70 ?_
        refine va_getN (D := D) (ci := 2) (v := .int (rs 12)) (C := RX2) (T := TX2) (N := 3) hx hb hw inW_X2 hown hK hP 7 rfl rfl 0 (by decide) hn74 (fun _ h9 => h9) rfl dX5_readLine_73 ?_
        refine lv_iconst (v := 5) hx hb dX5_readLine_76 (by decide) ?_
        refine lv_icmp_ge (tgt := 84) hx hb dX5_readLine_77 (by decide) (fun c49 => ?_) (fun c49 => ?_)
        · have h := h.1 c49
          refine lv_iconst (v := 0) hx hb dX5_readLine_84 (by decide) ?_
          exact N85 0 us rs ra _ _ _ h hP hD hS (lv_sub hl [0, 1] rfl)
        · have h := h.2 c49
          refine lv_iconst (v := 1) hx hb dX5_readLine_80 (by decide) ?_
          refine lv_goto (tgt := 85) hx hb dX5_readLine_81 (by decide) ?_
          exact N85 1 us rs ra _ _ _ h hP hD hS (lv_sub hl [0, 1] rfl)
    · have h := h.2 c28
      refine lv_aload_n hx hb dX5_readLine_27 rfl (lv_at hl 0 rfl) ?_
      refine lv_aload_n hx hb dX5_readLine_28 rfl (lv_at hl 1 rfl) ?_
      refine va_getN (D := D) (ci := 4) (v := .ref (aR 1)) (C := RX4) (T := TX4) (N := 16) hx hb hw inW_X4 hown hK hP 3 rfl rfl 3 (by decide) hn52 (fun _ h9 => h9) rfl dX5_readLine_29 ?_
      refine va_getN (D := D) (ci := 1) (v := .int (rs 11)) (C := RX1) (T := TX1) (N := 3) hx hb hw inW_X1 hown hK hP 4 rfl rfl 0 (by decide) hn56 (fun _ h9 => h9) rfl dX5_readLine_32 ?_
      refine lv_iconst (v := 4) hx hb dX5_readLine_35 (by decide) ?_
      refine lv_icmp_ge (tgt := 43) hx hb dX5_readLine_36 (by decide) (fun c50 => ?_) (fun c50 => ?_)
      · have h := h.1 c50
        refine lv_iconst (v := 0) hx hb dX5_readLine_43 (by decide) ?_
        exact N44 0 us rs ra _ _ _ h hP hD hS (lv_sub hl [0, 1] rfl)
      · have h := h.2 c50
        refine lv_iconst (v := 1) hx hb dX5_readLine_39 (by decide) ?_
        refine lv_goto (tgt := 44) hx hb dX5_readLine_40 (by decide) ?_
        exact N44 1 us rs ra _ _ _ h hP hD hS (lv_sub hl [0, 1] rfl)
  · have h := h.2 c25
    refine lv_aload_n hx hb dX5_readLine_7 rfl (lv_at hl 0 rfl) ?_
    refine lv_aload_n hx hb dX5_readLine_8 rfl (lv_at hl 1 rfl) ?_
    refine cGoV (wo := fun u => wReader aU C u.1 ua ++ (wRail aR C u.2 ra)) (cRunVS (As := [.ref (aR 0)]) (rest := []) sAll.ok hZ hS hA ⟨hx, hb, hml, hown, hw⟩ hK hN hP hD [0, 1, 2, 3, 4, 5, 6, 7] rfl rfl (k_X5_readRail l D C _ aU aR  us ua rs ra  h) (cwV 1 hw (goodV mw_2_212 mw_2_214 mw_s7 mw_1_2 mw_2_215) rfl rfl rfl (by decide +kernel) ⟨Nat.le_of_ble_eq_true rfl, Nat.le_of_ble_eq_true rfl⟩) rfl rfl rfl hl.1 rfl (Nat.le_of_ble_eq_true rfl) dX5_readLine_9 ⟨Nat.zero_le _, Nat.zero_le _⟩) hP hD hS hA [0, 1, 2, 3, 4, 5, 6, 7] [] [0, 1, 2, 3, 4, 5, 6, 7] rfl rfl rfl (by decide) rfl (fun _ => rfl) (fun u H locs h hP hD hS => ?_)
    obtain ⟨us_51, rs_52⟩ := u
    have hP : va_P D vwCl (List.flatten (wReader aU C us_51 ua ++ (wRail aR C rs_52 ra))) H := hP
    have hD : va_D A (List.flatten (wReader aU C us_51 ua ++ (wRail aR C rs_52 ra))) := hD
    refine lv_goto (tgt := 260) hx hb dX5_readLine_12 (by decide) ?_
    exact N260 us_51 rs_52 ra _ _ _ h hP hD hS (lv_sub hl [0, 1] rfl)
abbrev vsX5_readInto : List Cond := Cond.code yX5_readInto cX5_readInto 3 (some .boolean) :: WS
abbrev rmX5_readInto : Room := { frames := 8, cells := 0, slots := 0, locals := 176 }
set_option maxHeartbeats 4000000 in
set_option maxRecDepth 100000 in
theorem k_X5_readInto (l : Launch) (D : va_G) (C : Nat → ClassId) (sz : Nat) (aU : Nat → Nat) (aR : Nat → Nat)  (us : Nat → Int32) (ua : Nat → Nat → Int32) (rs : Nat → Int32) (ra : Nat → Nat → Int32)  {post : Int32 → (Nat → Int32) → (Nat → Int32) → (Nat → Nat → Int32) → Prop} (h : P_X5_readInto us ua rs ra post) : Met l yX5_readInto vsX5_readInto rmX5_readInto (cPreS D C [.ref (aU 0), .ref (aR 0)] sz (wReader aU C us ua ++ (wRail aR C rs ra)) sAll) (cQi D (fun (r : Int32) (u : (Nat → Int32) × (Nat → Int32) × (Nat → Nat → Int32)) => post r u.1 u.2.1 u.2.2) (fun u => wReader aU C u.1 ua ++ (wRail aR C u.2.1 u.2.2)) (va_A (List.flatten (wReader aU C us ua ++ (wRail aR C rs ra))) sz)) 0 0 (va_A (List.flatten (wReader aU C us ua ++ (wRail aR C rs ra))) sz) := by
  refine cStartS (QA := fun A => cQi D (fun (r : Int32) (u : (Nat → Int32) × (Nat → Int32) × (Nat → Nat → Int32)) => post r u.1 u.2.1 u.2.2) (fun u => wReader aU C u.1 ua ++ (wRail aR C u.2.1 u.2.2)) A) (cc := cX5_readInto) (maxL := 3) (ret := (some .boolean)) (by decide) (Nat.le_of_ble_eq_true rfl) ?_
  intro p e s m args below meth c A ls hx hb hr hml hown hw hlocks hname hK hN hA hP hD hS hl hX
  generalize hQ : MQ below _ args s 0 0 A = Q
  have hl : lv_has ls 3 [(0, .ref (aU 0)), (1, .ref (aR 0))] := hl
  have hZ : sAll A s s.heap := hX
  have hn33 : (Cond.fieldLinkNest "LockRail$Reader" 33 "LockRail$Tape" "kind" "I" "LockRail").before args s = true := hN.f 2 rfl
  obtain ⟨H, hH⟩ : ∃ H, H = s.heap := ⟨_, rfl⟩
  obtain ⟨locs, hlo⟩ : ∃ z : List Loc, z = [] := ⟨_, rfl⟩
  have hP : va_P D vwCl (List.flatten (wReader aU C us ua ++ (wRail aR C rs ra))) H := by rw [hH]; exact hP
  have hS : va_S A s.heap H locs := by rw [hH, hlo]; exact hS
  rw [show W p l e rmX5_readInto s m args below meth c s.heap [] 0 0 Q (F0 m 0 ls []) = W p l e rmX5_readInto s m args below meth c H locs 0 0 Q (F0 m 0 ls []) from by rw [hH, hlo]]
  have N58 : ∀ (us : Nat → Int32) (rs : Nat → Int32) (ra : Nat → Nat → Int32) (H : Heap) (locs : List Loc) (ls : Array Slot), P_X5_readInto_58 ua post  us rs ra → va_P D vwCl (List.flatten (wReader aU C us ua ++ (wRail aR C rs ra))) H → va_D A (List.flatten (wReader aU C us ua ++ (wRail aR C rs ra))) → va_S A s.heap H locs → lv_has ls 3 [(0, .ref (aU 0))] → W p l e rmX5_readInto s m args below meth c H locs 0 0 Q (F0 m 58 ls []) := by
    intro us rs ra H locs ls h hP hD hS hl
    refine lv_aload_n hx hb dX5_readInto_58 rfl (lv_at hl 0 rfl) ?_
    refine va_get (D := D) (ci := 5) (v := .int (us 0)) (C := RX5) (T := TX5) (N := 3) hx hb hw inW_X5 hown hK hP 0 rfl rfl 1 (by decide) (hw _ mw_1_67) (fun _ h9 => h9) rfl dX5_readInto_59 ?_
    refine lv_if_ne (tgt := 69) hx hb dX5_readInto_62 (by decide) (fun c1 => ?_) (fun c1 => ?_)
    · have h := h.1 c1
      refine lv_iconst (v := 0) hx hb dX5_readInto_69 (by decide) ?_
      rw [← hQ]
      exact cRetZ (v := 0) (us, rs, ra) hx hb hr hlocks hS hP hD (Or.inl rfl) h dX5_readInto_70
    · have h := h.2 c1
      refine lv_iconst (v := 1) hx hb dX5_readInto_65 (by decide) ?_
      refine lv_goto (tgt := 70) hx hb dX5_readInto_66 (by decide) ?_
      rw [← hQ]
      exact cRetZ (v := 1) (us, rs, ra) hx hb hr hlocks hS hP hD (Or.inr rfl) h dX5_readInto_70
  have N23 : ∀  (n23 : Nat) (x2_ : Int32) (us : Nat → Int32) (rs : Nat → Int32) (ra : Nat → Nat → Int32) (H : Heap) (locs : List Loc) (ls : Array Slot), P_X5_readInto_23 ua post (fun (us : Nat → Int32) (rs : Nat → Int32) (ra : Nat → Nat → Int32) => P_X5_readInto_58 ua post  us rs ra)  n23 x2_ us rs ra → va_P D vwCl (List.flatten (wReader aU C us ua ++ (wRail aR C rs ra))) H → va_D A (List.flatten (wReader aU C us ua ++ (wRail aR C rs ra))) → va_S A s.heap H locs → lv_has ls 3 [(0, .ref (aU 0)), (1, .ref (aR 0)), (2, .int x2_)] → W p l e rmX5_readInto s m args below meth c H locs 0 0 Q (F0 m 23 ls []) := by
    intro n23
    induction n23 with
    | zero => intro x2_ us rs ra H locs ls h hP hD hS hl; exact False.elim h
    | succ n23 ih23 =>
      intro x2_ us rs ra H locs ls h hP hD hS hl
      refine lv_iload_n hx hb dX5_readInto_23 rfl (lv_at hl 2 rfl) ?_
      refine lv_sipush (v := 1600) hx hb dX5_readInto_24 (by decide) ?_
      refine lv_icmp_ge (tgt := 58) hx hb dX5_readInto_27 (by decide) (fun c2 => ?_) (fun c2 => ?_)
      · have h := h.1 c2
        exact N58 us rs ra _ _ _ h hP hD hS (lv_sub hl [0] rfl)
      · have h := h.2 c2
        refine lv_aload_n hx hb dX5_readInto_30 rfl (lv_at hl 0 rfl) ?_
        refine va_get (D := D) (ci := 5) (v := .int (us 0)) (C := RX5) (T := TX5) (N := 3) hx hb hw inW_X5 hown hK hP 0 rfl rfl 1 (by decide) (hw _ mw_1_67) (fun _ h9 => h9) rfl dX5_readInto_31 ?_
        refine lv_if_ne (tgt := 58) hx hb dX5_readInto_34 (by decide) (fun c3 => ?_) (fun c3 => ?_)
        · have h := h.1 c3
          exact N58 us rs ra _ _ _ h hP hD hS (lv_sub hl [0] rfl)
        · have h := h.2 c3
          refine lv_aload_n hx hb dX5_readInto_37 rfl (lv_at hl 0 rfl) ?_
          refine va_get (D := D) (ci := 5) (v := .ref (aU 1)) (C := RX5) (T := TX5) (N := 3) hx hb hw inW_X5 hown hK hP 0 rfl rfl 0 (by decide) (hw _ mw_1_65) (fun _ h9 => h9) rfl dX5_readInto_38 ?_
          refine va_getN (D := D) (ci := 8) (v := .int (us 5)) (C := RX8) (T := TX8) (N := 6) hx hb hw inW_X8 hown hK hP 1 rfl rfl 4 (by decide) hn33 (fun _ h9 => h9) rfl dX5_readInto_41 ?_
          refine lv_if_eq (tgt := 58) hx hb dX5_readInto_44 (by decide) (fun c4 => ?_) (fun c4 => ?_)
          · have h := h.1 c4
            exact N58 us rs ra _ _ _ h hP hD hS (lv_sub hl [0] rfl)
          · have h := h.2 c4
            refine lv_aload_n hx hb dX5_readInto_47 rfl (lv_at hl 0 rfl) ?_
            refine lv_aload_n hx hb dX5_readInto_48 rfl (lv_at hl 1 rfl) ?_
            refine cGoV (wo := fun u => wReader aU C u.1 ua ++ (wRail aR C u.2.1 u.2.2)) (cRunVS (As := [.ref (aR 0)]) (rest := []) sAll.ok hZ hS hA ⟨hx, hb, hml, hown, hw⟩ hK hN hP hD [0, 1, 2, 3, 4, 5, 6, 7] rfl rfl (k_X5_readLine l D C _ aU aR  us ua rs ra  h) (cwV 1 hw (goodV mw_2_208 mw_2_210 mw_s6 mw_1_2 mw_2_211) rfl rfl rfl (by decide +kernel) ⟨Nat.le_of_ble_eq_true rfl, Nat.le_of_ble_eq_true rfl⟩) rfl rfl rfl hl.1 rfl (Nat.le_of_ble_eq_true rfl) dX5_readInto_49 ⟨Nat.zero_le _, Nat.zero_le _⟩) hP hD hS hA [0, 1, 2, 3, 4, 5, 6, 7] [] [0, 1, 2, 3, 4, 5, 6, 7] rfl rfl rfl (by decide) rfl (fun _ => rfl) (fun u H locs h hP hD hS => ?_)
            obtain ⟨us_5, rs_6, ra_7⟩ := u
            have hP : va_P D vwCl (List.flatten (wReader aU C us_5 ua ++ (wRail aR C rs_6 ra_7))) H := hP
            have hD : va_D A (List.flatten (wReader aU C us_5 ua ++ (wRail aR C rs_6 ra_7))) := hD
            refine lv_iinc (v := (x2_ + 1)) (lv' := [(2, .int (x2_ + 1)), (0, .ref (aU 0)), (1, .ref (aR 0))]) hx hb dX5_readInto_52 hl (k := 2) rfl rfl (by decide) rfl (fun ls hl => ?_)
            refine lv_goto (tgt := 23) hx hb dX5_readInto_55 (by decide) ?_
            exact ih23 (x2_ + 1) us_5 rs_6 ra_7 _ _ _ h hP hD hS (lv_sub hl [1, 2, 0] rfl)
  refine lv_aload_n hx hb dX5_readInto_0 rfl (lv_at hl 0 rfl) ?_
  refine lv_iconst (v := 0) hx hb dX5_readInto_1 (by decide) ?_
  refine va_put (D := D) (ci := 5) (v := .int 0) (ty := .int) (C := RX5) (T := TX5) (N := 3) hx hb hw inW_X5 tyX5 tyX5_ok nmX5 hown hK hP hD hS 0 rfl rfl 1 (by decide) (hw _ mw_1_67) (fun _ h9 => h9) rfl (by decide +kernel) rfl rfl (Nat.le_of_ble_eq_true rfl) dX5_readInto_2 (fun H locs hP hD hS => ?_)
  refine lv_aload_n hx hb dX5_readInto_5 rfl (lv_at hl 0 rfl) ?_
  refine lv_iconst (v := (-1)) hx hb dX5_readInto_6 (by decide) ?_
  refine va_put (D := D) (ci := 5) (v := .int (-1)) (ty := .int) (C := RX5) (T := TX5) (N := 3) hx hb hw inW_X5 tyX5 tyX5_ok nmX5 hown hK hP hD hS 0 rfl rfl 2 (by decide) (hw _ mw_1_69) (fun _ h9 => h9) rfl (by decide +kernel) rfl rfl (Nat.le_of_ble_eq_true rfl) dX5_readInto_7 (fun H locs hP hD hS => ?_)
  refine lv_aload_n hx hb dX5_readInto_10 rfl (lv_at hl 1 rfl) ?_
  have hP : va_P D vwCl (List.flatten (wReader aU C (va_up (va_up us 0 0) 1 (-1)) ua ++ (wRail aR C rs ra))) H := hP
  have hD : va_D A (List.flatten (wReader aU C (va_up (va_up us 0 0) 1 (-1)) ua ++ (wRail aR C rs ra))) := hD
  refine cGoV (wo := fun u => wReader aU C (va_up (va_up us 0 0) 1 (-1)) ua ++ (wRail aR C u ra)) (cRunVN (As := []) (rest := []) ⟨hx, hb, hml, hown, hw⟩ hK hN hP hD [2, 3, 4, 5, 6, 7] rfl rfl (k_X4_wipe l D C _ aR  rs ra  h) ⟨va_cnB 0 hw (goodN mw_2_191) rfl rfl rfl (hN.m 14 rfl) (hw _ mw_1_4) (by decide +kernel) ⟨Nat.le_of_ble_eq_true rfl, Nat.le_of_ble_eq_true rfl⟩, hw _ mw_2_190, hw _ mw_s2⟩ rfl rfl rfl hl.1 rfl (Nat.le_of_ble_eq_true rfl) dX5_readInto_11 ⟨Nat.zero_le _, Nat.zero_le _⟩) hP hD hS hA [2, 3, 4, 5, 6, 7] [0, 1] [0, 1, 2, 3, 4, 5, 6, 7] rfl rfl rfl (by decide) rfl (fun _ => rfl) (fun rs_8 H locs h hP hD hS => ?_)
  have hP : va_P D vwCl (List.flatten (wReader aU C (va_up (va_up us 0 0) 1 (-1)) ua ++ (wRail aR C rs_8 ra))) H := hP
  have hD : va_D A (List.flatten (wReader aU C (va_up (va_up us 0 0) 1 (-1)) ua ++ (wRail aR C rs_8 ra))) := hD
  refine lv_aload_n hx hb dX5_readInto_14 rfl (lv_at hl 0 rfl) ?_
  refine va_get (D := D) (ci := 5) (v := .ref (aU 1)) (C := RX5) (T := TX5) (N := 3) hx hb hw inW_X5 hown hK hP 0 rfl rfl 0 (by decide) (hw _ mw_1_65) (fun _ h9 => h9) rfl dX5_readInto_15 ?_
  refine cGoV (wo := fun u => wReader aU C (va_up (va_up (va_up (va_up (va_up (va_up us 0 0) 1 (-1)) 3 u.1) 4 u.2.1) 5 u.2.2.1) 6 u.2.2.2) ua ++ (wRail aR C rs_8 ra)) (cRunVN (As := []) (rest := []) ⟨hx, hb, hml, hown, hw⟩ hK hN hP hD [1] rfl rfl (k_X8_rewind l D C _ (aU 1) (aU 2)  (ua 0) (us 2) (us 3) (us 4) (us 5) (us 6)  h) ⟨va_cnB 0 hw (goodN mw_2_195) rfl rfl rfl (hN.m 15 rfl) (hw _ mw_1_3) (by decide +kernel) ⟨Nat.le_of_ble_eq_true rfl, Nat.le_of_ble_eq_true rfl⟩, hw _ mw_2_194, hw _ mw_s3⟩ rfl rfl rfl hl.1 rfl (Nat.le_of_ble_eq_true rfl) dX5_readInto_18 ⟨Nat.zero_le _, Nat.zero_le _⟩) hP hD hS hA [1] [0, 2, 3, 4, 5, 6, 7] [0, 7, 1, 2, 3, 4, 5, 6] rfl rfl rfl (by decide) rfl (fun _ => rfl) (fun u H locs h hP hD hS => ?_)
  obtain ⟨spo_9, beh_10, kin_11, num_12⟩ := u
  have hP : va_P D vwCl (List.flatten (wReader aU C (va_up (va_up (va_up (va_up (va_up (va_up us 0 0) 1 (-1)) 3 spo_9) 4 beh_10) 5 kin_11) 6 num_12) ua ++ (wRail aR C rs_8 ra))) H := hP
  have hD : va_D A (List.flatten (wReader aU C (va_up (va_up (va_up (va_up (va_up (va_up us 0 0) 1 (-1)) 3 spo_9) 4 beh_10) 5 kin_11) 6 num_12) ua ++ (wRail aR C rs_8 ra))) := hD
  refine lv_iconst (v := 0) hx hb dX5_readInto_21 (by decide) ?_
  refine lv_istore_n (lv' := [(2, .int 0), (0, .ref (aU 0)), (1, .ref (aR 0))]) hx hb dX5_readInto_22 rfl hl (by decide) rfl (fun ls hl => ?_)
  obtain ⟨n, h⟩ := h
  exact N23  n 0 (va_up (va_up (va_up (va_up (va_up (va_up us 0 0) 1 (-1)) 3 spo_9) 4 beh_10) 5 kin_11) 6 num_12) rs_8 ra _ _ _ h hP hD hS (lv_sub hl [1, 2, 0] rfl)
abbrev vsX11_rail : List Cond := Cond.code yX11_rail cX11_rail 2 (some .int) :: WS
abbrev rmX11_rail : Room := { frames := 9, cells := 0, slots := 0, locals := 198 }
set_option maxHeartbeats 4000000 in
set_option maxRecDepth 100000 in
theorem k_X11_rail (l : Launch) (D : va_G) (C : Nat → ClassId) (sz : Nat) (L0 : Nat) (aU : Nat → Nat) (aR : Nat → Nat) (aR2 : Nat → Nat) (aS : Nat → Nat) (n0 : Nat) (aN : Nat → Nat) (y0 : Nat) (y1 : Nat) (y2 : Nat) (o0 : Nat) (h_images : Nat) (us : Nat → Int32) (ua : Nat → Nat → Int32) (rs : Nat → Int32) (ra : Nat → Nat → Int32) (rs2 : Nat → Int32) (ra2 : Nat → Nat → Int32) (sa : Nat → Nat → Int32) (sl : Nat → Nat → Int64) (ns : Nat → Int32) (na : Nat → Nat → Int32) (nl : Nat → Nat → Int64) (y_isThere : Int32) (y_taken : Nat → Int32) (y_took : Nat → Int32) (o_of : Nat → Int64)  {post : Int32 → (Nat → Int32) → (Nat → Int32) → (Nat → Nat → Int32) → (Nat → Int32) → (Nat → Nat → Int32) → Prop} (h : P_X11_rail us ua rs ra rs2 ra2 post) : Met l yX11_rail vsX11_rail rmX11_rail (cPreS D C [.ref L0] sz ([cLockRail L0 (aU 0) (aR 0) (aR2 0) h_images (aS 0) n0 y0 o0 C ] ++ (wReader aU C us ua ++ (wRail aR C rs ra ++ (wRail aR2 C rs2 ra2 ++ (wSlots aS C sa sl ++ (wNight n0 aN C ns na nl ++ ([cYear y0 y1 y2 C y_isThere y_taken y_took] ++ ([cOb o0 C o_of])))))))) sAll) (cQi D (fun (r : Int32) (u : (Nat → Int32) × (Nat → Int32) × (Nat → Nat → Int32) × (Nat → Int32) × (Nat → Nat → Int32)) => post r u.1 u.2.1 u.2.2.1 u.2.2.2.1 u.2.2.2.2) (fun u => [cLockRail L0 (aU 0) (aR 0) (aR2 0) h_images (aS 0) n0 y0 o0 C ] ++ (wReader aU C u.1 ua ++ (wRail aR C u.2.1 u.2.2.1 ++ (wRail aR2 C u.2.2.2.1 u.2.2.2.2 ++ (wSlots aS C sa sl ++ (wNight n0 aN C ns na nl ++ ([cYear y0 y1 y2 C y_isThere y_taken y_took] ++ ([cOb o0 C o_of])))))))) (va_A (List.flatten ([cLockRail L0 (aU 0) (aR 0) (aR2 0) h_images (aS 0) n0 y0 o0 C ] ++ (wReader aU C us ua ++ (wRail aR C rs ra ++ (wRail aR2 C rs2 ra2 ++ (wSlots aS C sa sl ++ (wNight n0 aN C ns na nl ++ ([cYear y0 y1 y2 C y_isThere y_taken y_took] ++ ([cOb o0 C o_of]))))))))) sz)) 0 0 (va_A (List.flatten ([cLockRail L0 (aU 0) (aR 0) (aR2 0) h_images (aS 0) n0 y0 o0 C ] ++ (wReader aU C us ua ++ (wRail aR C rs ra ++ (wRail aR2 C rs2 ra2 ++ (wSlots aS C sa sl ++ (wNight n0 aN C ns na nl ++ ([cYear y0 y1 y2 C y_isThere y_taken y_took] ++ ([cOb o0 C o_of]))))))))) sz) := by
  refine cStartS (QA := fun A => cQi D (fun (r : Int32) (u : (Nat → Int32) × (Nat → Int32) × (Nat → Nat → Int32) × (Nat → Int32) × (Nat → Nat → Int32)) => post r u.1 u.2.1 u.2.2.1 u.2.2.2.1 u.2.2.2.2) (fun u => [cLockRail L0 (aU 0) (aR 0) (aR2 0) h_images (aS 0) n0 y0 o0 C ] ++ (wReader aU C u.1 ua ++ (wRail aR C u.2.1 u.2.2.1 ++ (wRail aR2 C u.2.2.2.1 u.2.2.2.2 ++ (wSlots aS C sa sl ++ (wNight n0 aN C ns na nl ++ ([cYear y0 y1 y2 C y_isThere y_taken y_took] ++ ([cOb o0 C o_of])))))))) A) (cc := cX11_rail) (maxL := 2) (ret := (some .int)) (by decide) (Nat.le_of_ble_eq_true rfl) ?_
  intro p e s m args below meth c A ls hx hb hr hml hown hw hlocks hname hK hN hA hP hD hS hl hX
  generalize hQ : MQ below _ args s 0 0 A = Q
  have hl : lv_has ls 2 [(0, .ref L0)] := hl
  have hZ : sAll A s s.heap := hX
  have hn55 : (Cond.fieldLinkNest "LockRail" 55 "LockRail$Reader" "tape" "LLockRail$Tape;" "LockRail").before args s = true := hN.f 4 rfl
  have hn59 : (Cond.fieldLinkNest "LockRail" 59 "LockRail$Tape" "length" "I" "LockRail").before args s = true := hN.f 0 rfl
  have hn77 : (Cond.fieldLinkNest "LockRail" 77 "LockRail$Rail" "lines" "I" "LockRail").before args s = true := hN.f 54 rfl
  obtain ⟨H, hH⟩ : ∃ H, H = s.heap := ⟨_, rfl⟩
  obtain ⟨locs, hlo⟩ : ∃ z : List Loc, z = [] := ⟨_, rfl⟩
  have hP : va_P D vwCl (List.flatten ([cLockRail L0 (aU 0) (aR 0) (aR2 0) h_images (aS 0) n0 y0 o0 C ] ++ (wReader aU C us ua ++ (wRail aR C rs ra ++ (wRail aR2 C rs2 ra2 ++ (wSlots aS C sa sl ++ (wNight n0 aN C ns na nl ++ ([cYear y0 y1 y2 C y_isThere y_taken y_took] ++ ([cOb o0 C o_of]))))))))) H := by rw [hH]; exact hP
  have hS : va_S A s.heap H locs := by rw [hH, hlo]; exact hS
  rw [show W p l e rmX11_rail s m args below meth c s.heap [] 0 0 Q (F0 m 0 ls []) = W p l e rmX11_rail s m args below meth c H locs 0 0 Q (F0 m 0 ls []) from by rw [hH, hlo]]
  refine lv_aload_n hx hb dX11_rail_0 rfl (lv_at hl 0 rfl) ?_
  refine va_get (D := D) (ci := 11) (v := .ref (aU 0)) (C := RX11) (T := TX11) (N := 8) hx hb hw inW_X11 hown hK hP 0 rfl rfl 0 (by decide) (hw _ mw_2_143) (fun _ h9 => h9) rfl dX11_rail_1 ?_
  refine lv_aload_n hx hb dX11_rail_4 rfl (lv_at hl 0 rfl) ?_
  refine va_get (D := D) (ci := 11) (v := .ref (aR2 0)) (C := RX11) (T := TX11) (N := 8) hx hb hw inW_X11 hown hK hP 0 rfl rfl 2 (by decide) (hw _ mw_2_145) (fun _ h9 => h9) rfl dX11_rail_5 ?_
  refine cGoI (wo := fun u => [cLockRail L0 (aU 0) (aR 0) (aR2 0) h_images (aS 0) n0 y0 o0 C ] ++ (wReader aU C u.1 ua ++ (wRail aR C rs ra ++ (wRail aR2 C u.2.1 u.2.2 ++ (wSlots aS C sa sl ++ (wNight n0 aN C ns na nl ++ ([cYear y0 y1 y2 C y_isThere y_taken y_took] ++ ([cOb o0 C o_of])))))))) (cRunVNS (As := [.ref (aR2 0)]) (rest := []) sAll.ok hZ hS hA ⟨hx, hb, hml, hown, hw⟩ hK hN hP hD [1, 2, 9, 10, 11, 12, 13, 14] rfl rfl (k_X5_readInto l D C _ aU aR2  us ua rs2 ra2  h) ⟨va_cnB 1 hw (goodN mw_2_187) rfl rfl rfl (hN.m 13 rfl) (hw _ mw_1_2) (by decide +kernel) ⟨Nat.le_of_ble_eq_true rfl, Nat.le_of_ble_eq_true rfl⟩, hw _ mw_2_186, hw _ mw_s1⟩ rfl rfl rfl hl.1 rfl (Nat.le_of_ble_eq_true rfl) dX11_rail_8 ⟨Nat.zero_le _, Nat.zero_le _⟩) hP hD hS hA [1, 2, 9, 10, 11, 12, 13, 14] [0, 3, 4, 5, 6, 7, 8, 15, 16, 17, 18, 19, 20] [0, 13, 14, 1, 2, 3, 4, 5, 6, 15, 16, 17, 18, 19, 20, 7, 8, 9, 10, 11, 12] rfl rfl rfl (by decide) rfl (fun _ => rfl) (fun r4 u H locs h hP hD hS => ?_)
  obtain ⟨us_1, rs_2, ra_3⟩ := u
  have hP : va_P D vwCl (List.flatten ([cLockRail L0 (aU 0) (aR 0) (aR2 0) h_images (aS 0) n0 y0 o0 C ] ++ (wReader aU C us_1 ua ++ (wRail aR C rs ra ++ (wRail aR2 C rs_2 ra_3 ++ (wSlots aS C sa sl ++ (wNight n0 aN C ns na nl ++ ([cYear y0 y1 y2 C y_isThere y_taken y_took] ++ ([cOb o0 C o_of]))))))))) H := hP
  have hD : va_D A (List.flatten ([cLockRail L0 (aU 0) (aR 0) (aR2 0) h_images (aS 0) n0 y0 o0 C ] ++ (wReader aU C us_1 ua ++ (wRail aR C rs ra ++ (wRail aR2 C rs_2 ra_3 ++ (wSlots aS C sa sl ++ (wNight n0 aN C ns na nl ++ ([cYear y0 y1 y2 C y_isThere y_taken y_took] ++ ([cOb o0 C o_of]))))))))) := hD
  refine lv_istore_n (lv' := [(1, .int r4), (0, .ref L0)]) hx hb dX11_rail_11 rfl hl (by decide) rfl (fun ls hl => ?_)
  refine lv_aload_n hx hb dX11_rail_12 rfl (lv_at hl 1 rfl) ?_
  refine va_get (D := D) (ci := 11) (v := .ref (aU 0)) (C := RX11) (T := TX11) (N := 8) hx hb hw inW_X11 hown hK hP 0 rfl rfl 0 (by decide) (hw _ mw_2_143) (fun _ h9 => h9) rfl dX11_rail_13 ?_
  refine va_getN (D := D) (ci := 5) (v := .ref (aU 1)) (C := RX5) (T := TX5) (N := 3) hx hb hw inW_X5 hown hK hP 1 rfl rfl 0 (by decide) hn55 (fun _ h9 => h9) rfl dX11_rail_16 ?_
  refine lv_iconst (v := 0) hx hb dX11_rail_19 (by decide) ?_
  refine va_putN (D := D) (ci := 8) (v := .int 0) (ty := .int) (C := RX8) (T := TX8) (N := 6) hx hb hw inW_X8 tyX8 tyX8_ok nmX8 hown hK hP hD hS 2 rfl rfl 1 (by decide) hn59 (fun _ h9 => h9) rfl (by decide +kernel) rfl rfl (Nat.le_of_ble_eq_true rfl) dX11_rail_20 (fun H locs hP hD hS => ?_)
  refine lv_iload_n hx hb dX11_rail_23 rfl (lv_at hl 0 rfl) ?_
  refine lv_if_ne (tgt := 30) hx hb dX11_rail_24 (by decide) (fun c5 => ?_) (fun c5 => ?_)
  · have h := h.1 c5
    refine lv_aload_n hx hb dX11_rail_30 rfl (lv_at hl 1 rfl) ?_
    refine va_get (D := D) (ci := 11) (v := .ref (aR 0)) (C := RX11) (T := TX11) (N := 8) hx hb hw inW_X11 hown hK hP 0 rfl rfl 1 (by decide) (hw _ mw_2_144) (fun _ h9 => h9) rfl dX11_rail_31 ?_
    refine lv_aload_n hx hb dX11_rail_34 rfl (lv_at hl 1 rfl) ?_
    refine va_get (D := D) (ci := 11) (v := .ref (aR2 0)) (C := RX11) (T := TX11) (N := 8) hx hb hw inW_X11 hown hK hP 0 rfl rfl 2 (by decide) (hw _ mw_2_145) (fun _ h9 => h9) rfl dX11_rail_35 ?_
    have hP : va_P D vwCl (List.flatten ([cLockRail L0 (aU 0) (aR 0) (aR2 0) h_images (aS 0) n0 y0 o0 C ] ++ (wReader aU C (va_up us_1 2 0) ua ++ (wRail aR C rs ra ++ (wRail aR2 C rs_2 ra_3 ++ (wSlots aS C sa sl ++ (wNight n0 aN C ns na nl ++ ([cYear y0 y1 y2 C y_isThere y_taken y_took] ++ ([cOb o0 C o_of]))))))))) H := hP
    have hD : va_D A (List.flatten ([cLockRail L0 (aU 0) (aR 0) (aR2 0) h_images (aS 0) n0 y0 o0 C ] ++ (wReader aU C (va_up us_1 2 0) ua ++ (wRail aR C rs ra ++ (wRail aR2 C rs_2 ra_3 ++ (wSlots aS C sa sl ++ (wNight n0 aN C ns na nl ++ ([cYear y0 y1 y2 C y_isThere y_taken y_took] ++ ([cOb o0 C o_of]))))))))) := hD
    refine cGoV (wo := fun u => [cLockRail L0 (aU 0) (aR 0) (aR2 0) h_images (aS 0) n0 y0 o0 C ] ++ (wReader aU C (va_up us_1 2 0) ua ++ (wRail aR C u.1 u.2 ++ (wRail aR2 C rs_2 ra_3 ++ (wSlots aS C sa sl ++ (wNight n0 aN C ns na nl ++ ([cYear y0 y1 y2 C y_isThere y_taken y_took] ++ ([cOb o0 C o_of])))))))) (cRunVN (As := [.ref (aR2 0)]) (rest := []) ⟨hx, hb, hml, hown, hw⟩ hK hN hP hD [3, 4, 5, 6, 7, 8, 9, 10, 11, 12, 13, 14] rfl rfl (k_X4_copyFrom l D C _ aR aR2  rs ra rs_2 ra_3  h) ⟨va_cnB 1 hw (goodN mw_3_126) rfl rfl rfl (hN.m 23 rfl) (hw _ mw_1_4) (by decide +kernel) ⟨Nat.le_of_ble_eq_true rfl, Nat.le_of_ble_eq_true rfl⟩, hw _ mw_3_125, hw _ mw_s26⟩ rfl rfl rfl hl.1 rfl (Nat.le_of_ble_eq_true rfl) dX11_rail_38 ⟨Nat.zero_le _, Nat.zero_le _⟩) hP hD hS hA [3, 4, 5, 6, 7, 8, 9, 10, 11, 12, 13, 14] [0, 1, 2, 15, 16, 17, 18, 19, 20] [0, 1, 2, 9, 10, 11, 12, 13, 14, 15, 16, 17, 18, 19, 20, 3, 4, 5, 6, 7, 8] rfl rfl rfl (by decide) rfl (fun _ => rfl) (fun u H locs h hP hD hS => ?_)
    obtain ⟨rs_6, ra_7⟩ := u
    have hP : va_P D vwCl (List.flatten ([cLockRail L0 (aU 0) (aR 0) (aR2 0) h_images (aS 0) n0 y0 o0 C ] ++ (wReader aU C (va_up us_1 2 0) ua ++ (wRail aR C rs_6 ra_7 ++ (wRail aR2 C rs_2 ra_3 ++ (wSlots aS C sa sl ++ (wNight n0 aN C ns na nl ++ ([cYear y0 y1 y2 C y_isThere y_taken y_took] ++ ([cOb o0 C o_of]))))))))) H := hP
    have hD : va_D A (List.flatten ([cLockRail L0 (aU 0) (aR 0) (aR2 0) h_images (aS 0) n0 y0 o0 C ] ++ (wReader aU C (va_up us_1 2 0) ua ++ (wRail aR C rs_6 ra_7 ++ (wRail aR2 C rs_2 ra_3 ++ (wSlots aS C sa sl ++ (wNight n0 aN C ns na nl ++ ([cYear y0 y1 y2 C y_isThere y_taken y_took] ++ ([cOb o0 C o_of]))))))))) := hD
    refine lv_aload_n hx hb dX11_rail_41 rfl (lv_at hl 1 rfl) ?_
    refine va_get (D := D) (ci := 11) (v := .ref (aR 0)) (C := RX11) (T := TX11) (N := 8) hx hb hw inW_X11 hown hK hP 0 rfl rfl 1 (by decide) (hw _ mw_2_144) (fun _ h9 => h9) rfl dX11_rail_42 ?_
    refine va_getN (D := D) (ci := 4) (v := .int (rs_6 2)) (C := RX4) (T := TX4) (N := 16) hx hb hw inW_X4 hown hK hP 4 rfl rfl 2 (by decide) hn77 (fun _ h9 => h9) rfl dX11_rail_45 ?_
    rw [← hQ]
    exact cRetI (v := (rs_6 2)) ((va_up us_1 2 0), rs_6, ra_7, rs_2, ra_3) hx hb hr hlocks hS hP hD h dX11_rail_48
  · have h := h.2 c5
    refine lv_bipush (v := (-4)) hx hb dX11_rail_27 (by decide) ?_
    have hP : va_P D vwCl (List.flatten ([cLockRail L0 (aU 0) (aR 0) (aR2 0) h_images (aS 0) n0 y0 o0 C ] ++ (wReader aU C (va_up us_1 2 0) ua ++ (wRail aR C rs ra ++ (wRail aR2 C rs_2 ra_3 ++ (wSlots aS C sa sl ++ (wNight n0 aN C ns na nl ++ ([cYear y0 y1 y2 C y_isThere y_taken y_took] ++ ([cOb o0 C o_of]))))))))) H := hP
    have hD : va_D A (List.flatten ([cLockRail L0 (aU 0) (aR 0) (aR2 0) h_images (aS 0) n0 y0 o0 C ] ++ (wReader aU C (va_up us_1 2 0) ua ++ (wRail aR C rs ra ++ (wRail aR2 C rs_2 ra_3 ++ (wSlots aS C sa sl ++ (wNight n0 aN C ns na nl ++ ([cYear y0 y1 y2 C y_isThere y_taken y_took] ++ ([cOb o0 C o_of]))))))))) := hD
    rw [← hQ]
    exact cRetI (v := (-4)) ((va_up us_1 2 0), rs, ra, rs_2, ra_3) hx hb hr hlocks hS hP hD h dX11_rail_29

