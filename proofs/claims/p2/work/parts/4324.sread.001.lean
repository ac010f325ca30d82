abbrev vsX5_readIf : List Cond := Cond.code yX5_readIf cX5_readIf 3 (some .boolean) :: WS
abbrev rmX5_readIf : Room := { frames := 5, cells := 0, slots := 0, locals := 107 }
set_option maxHeartbeats 4000000 in
set_option maxRecDepth 100000 in
theorem k_X5_readIf (l : Launch) (D : va_G) (C : Nat → ClassId) (sz : Nat) (aU : Nat → Nat)  (us : Nat → Int32) (ua : Nat → Nat → Int32) (p1 : List Int32) (qp1 : Nat) {post : Int32 → (Nat → Int32) → Prop} (h : P_X5_readIf us ua p1 post) : Met l yX5_readIf vsX5_readIf rmX5_readIf (cPreS D C [.ref (aU 0), .ref qp1] sz (wReader aU C us ua) (X1 p1 qp1)) (cQi D (fun (r : Int32) (u : (Nat → Int32)) => post r u) (fun u => wReader aU C u ua) (va_A (List.flatten (wReader aU C us ua)) sz)) 0 0 (va_A (List.flatten (wReader aU C us ua)) sz) := by
  refine cStartS (QA := fun A => cQi D (fun (r : Int32) (u : (Nat → Int32)) => post r u) (fun u => wReader aU C u ua) A) (cc := cX5_readIf) (maxL := 3) (ret := (some .boolean)) (by decide) (Nat.le_of_ble_eq_true rfl) ?_
  intro p e s m args below meth c A ls hx hb hr hml hown hw hlocks hname hK hN hA hP hD hS hl hX
  generalize hQ : MQ below _ args s 0 0 A = Q
  have hl : lv_has ls 3 [(0, .ref (aU 0)), (1, .ref qp1)] := hl
  obtain ⟨hZ, h_qp1⟩ := hX
  obtain ⟨H, hH⟩ : ∃ H, H = s.heap := ⟨_, rfl⟩
  obtain ⟨locs, hlo⟩ : ∃ z : List Loc, z = [] := ⟨_, rfl⟩
  have hP : va_P D vwCl (List.flatten (wReader aU C us ua)) H := by rw [hH]; exact hP
  have hS : va_S A s.heap H locs := by rw [hH, hlo]; exact hS
  rw [show W p l e rmX5_readIf s m args below meth c s.heap [] 0 0 Q (F0 m 0 ls []) = W p l e rmX5_readIf s m args below meth c H locs 0 0 Q (F0 m 0 ls []) from by rw [hH, hlo]]
  have N23 : ∀ (k0_ : Int32) (us : Nat → Int32) (H : Heap) (locs : List Loc) (ls : Array Slot), P_X5_readIf_23 ua p1 post  k0_ us → va_P D vwCl (List.flatten (wReader aU C us ua)) H → va_D A (List.flatten (wReader aU C us ua)) → va_S A s.heap H locs → lv_has ls 3 [(0, .ref (aU 0))] → W p l e rmX5_readIf s m args below meth c H locs 0 0 Q (F0 m 23 ls [.int k0_]) := by
    intro k0_ us H locs ls h hP hD hS hl
    refine lv_istore_n (lv' := [(2, .int k0_), (0, .ref (aU 0))]) hx hb dX5_readIf_23 rfl hl (by decide) rfl (fun ls hl => ?_)
    refine lv_iload_n hx hb dX5_readIf_24 rfl (lv_at hl 0 rfl) ?_
    refine lv_if_eq (tgt := 35) hx hb dX5_readIf_25 (by decide) (fun c1 => ?_) (fun c1 => ?_)
    · have h := h.1 c1
      refine lv_iload_n hx hb dX5_readIf_35 rfl (lv_at hl 0 rfl) ?_
      rw [← hQ]
      exact cRetZ (v := k0_) (us) hx hb hr hlocks hS hP hD h.1 h.2 dX5_readIf_36
    · have h := h.2 c1
      refine lv_aload_n hx hb dX5_readIf_28 rfl (lv_at hl 1 rfl) ?_
      refine va_get (D := D) (ci := 5) (v := .ref (aU 1)) (C := RX5) (T := TX5) (N := 3) hx hb hw inW_X5 hown hK hP 0 rfl rfl 0 (by decide) (hw _ mw_1_65) (fun _ h9 => h9) rfl dX5_readIf_29 ?_
      refine cGoV (wo := fun u => wReader aU C (va_up (va_up (va_up (va_up us 3 u.1) 4 u.2.1) 5 u.2.2.1) 6 u.2.2.2) ua) (cRunVN (As := []) (rest := []) ⟨hx, hb, hml, hown, hw⟩ hK hN hP hD [1] rfl rfl (k_X8_step l D C _ (aU 1) (aU 2)  (ua 0) (us 2) (us 3) (us 4) (us 5) (us 6)  h) ⟨va_cnB 0 hw (goodN mw_2_199) rfl rfl rfl (hN.m 17 rfl) (hw _ mw_1_3) (by decide +kernel) ⟨Nat.le_of_ble_eq_true rfl, Nat.le_of_ble_eq_true rfl⟩, hw _ mw_2_198, hw _ mw_s4⟩ rfl rfl rfl hl.1 rfl (Nat.le_of_ble_eq_true rfl) dX5_readIf_32 ⟨Nat.zero_le _, Nat.zero_le _⟩) hP hD hS hA [1] [0] [0, 1] rfl rfl rfl (by decide) rfl (fun _ => rfl) (fun u H locs h hP hD hS => ?_)
      obtain ⟨spo_2, beh_3, kin_4, num_5⟩ := u
      have hP : va_P D vwCl (List.flatten (wReader aU C (va_up (va_up (va_up (va_up us 3 spo_2) 4 beh_3) 5 kin_4) 6 num_5) ua)) H := hP
      have hD : va_D A (List.flatten (wReader aU C (va_up (va_up (va_up (va_up us 3 spo_2) 4 beh_3) 5 kin_4) 6 num_5) ua)) := hD
      refine lv_iload_n hx hb dX5_readIf_35 rfl (lv_at hl 0 rfl) ?_
      rw [← hQ]
      exact cRetZ (v := k0_) ((va_up (va_up (va_up (va_up us 3 spo_2) 4 beh_3) 5 kin_4) 6 num_5)) hx hb hr hlocks hS hP hD h.1 h.2 dX5_readIf_36
  refine lv_aload_n hx hb dX5_readIf_0 rfl (lv_at hl 0 rfl) ?_
  refine va_get (D := D) (ci := 5) (v := .int (us 0)) (C := RX5) (T := TX5) (N := 3) hx hb hw inW_X5 hown hK hP 0 rfl rfl 1 (by decide) (hw _ mw_1_67) (fun _ h9 => h9) rfl dX5_readIf_1 ?_
  refine lv_if_ne (tgt := 22) hx hb dX5_readIf_4 (by decide) (fun c6 => ?_) (fun c6 => ?_)
  · have h := h.1 c6
    refine lv_iconst (v := 0) hx hb dX5_readIf_22 (by decide) ?_
    exact N23 0 us _ _ _ h hP hD hS (lv_sub hl [0] rfl)
  · have h := h.2 c6
    refine lv_aload_n hx hb dX5_readIf_7 rfl (lv_at hl 0 rfl) ?_
    refine va_get (D := D) (ci := 5) (v := .ref (aU 1)) (C := RX5) (T := TX5) (N := 3) hx hb hw inW_X5 hown hK hP 0 rfl rfl 0 (by decide) (hw _ mw_1_65) (fun _ h9 => h9) rfl dX5_readIf_8 ?_
    refine lv_aload_n hx hb dX5_readIf_11 rfl (lv_at hl 1 rfl) ?_
    refine cGoI (wo := fun u => wReader aU C us ua) (cRunVNS (As := [.ref qp1]) (rest := []) (X1.ok p1 qp1) ⟨hZ, h_qp1⟩ hS hA ⟨hx, hb, hml, hown, hw⟩ hK hN hP hD [1] rfl rfl (k_X8_isWord l D C _ (aU 1) (aU 2)  (ua 0) (us 2) (us 3) (us 4) (us 5) (us 6) p1 qp1 h) ⟨va_cnB 1 hw (goodN mw_2_224) rfl rfl rfl (hN.m 16 rfl) (hw _ mw_1_3) (by decide +kernel) ⟨Nat.le_of_ble_eq_true rfl, Nat.le_of_ble_eq_true rfl⟩, hw _ mw_2_223, hw _ mw_s9⟩ rfl rfl rfl hl.1 rfl (Nat.le_of_ble_eq_true rfl) dX5_readIf_12 ⟨Nat.zero_le _, Nat.zero_le _⟩) hP hD hS hA [1] [0] [0, 1] rfl rfl rfl (by decide) rfl (fun _ => rfl) (fun r7 u H locs h hP hD hS => ?_)
    have hP : va_P D vwCl (List.flatten (wReader aU C us ua)) H := hP
    have hD : va_D A (List.flatten (wReader aU C us ua)) := hD
    refine lv_if_eq (tgt := 22) hx hb dX5_readIf_15 (by decide) (fun c8 => ?_) (fun c8 => ?_)
    · have h := h.1 c8
      refine lv_iconst (v := 0) hx hb dX5_readIf_22 (by decide) ?_
      exact N23 0 us _ _ _ h hP hD hS (lv_sub hl [0] rfl)
    · have h := h.2 c8
      refine lv_iconst (v := 1) hx hb dX5_readIf_18 (by decide) ?_
      refine lv_goto (tgt := 23) hx hb dX5_readIf_19 (by decide) ?_
      exact N23 1 us _ _ _ h hP hD hS (lv_sub hl [0] rfl)
abbrev vsX5_readBike : List Cond := Cond.code yX5_readBike cX5_readBike 7 none :: WS
abbrev rmX5_readBike : Room := { frames := 6, cells := 0, slots := 0, locals := 129 }
set_option maxHeartbeats 4000000 in
set_option maxRecDepth 100000 in
theorem k_X5_readBike (l : Launch) (D : va_G) (C : Nat → ClassId) (sz : Nat) (aU : Nat → Nat) (aR : Nat → Nat)  (us : Nat → Int32) (ua : Nat → Nat → Int32) (rs : Nat → Int32) (ra : Nat → Nat → Int32)  {post : (Nat → Int32) → (Nat → Int32) → (Nat → Nat → Int32) → Prop} (h : P_X5_readBike us ua rs ra post) : Met l yX5_readBike vsX5_readBike rmX5_readBike (cPreS D C [.ref (aU 0), .ref (aR 0)] sz (wReader aU C us ua ++ (wRail aR C rs ra)) sAll) (cQv D (fun (u : (Nat → Int32) × (Nat → Int32) × (Nat → Nat → Int32)) => post u.1 u.2.1 u.2.2) (fun u => wReader aU C u.1 ua ++ (wRail aR C u.2.1 u.2.2)) (va_A (List.flatten (wReader aU C us ua ++ (wRail aR C rs ra))) sz)) 0 0 (va_A (List.flatten (wReader aU C us ua ++ (wRail aR C rs ra))) sz) := by
  refine cStartS (QA := fun A => cQv D (fun (u : (Nat → Int32) × (Nat → Int32) × (Nat → Nat → Int32)) => post u.1 u.2.1 u.2.2) (fun u => wReader aU C u.1 ua ++ (wRail aR C u.2.1 u.2.2)) A) (cc := cX5_readBike) (maxL := 7) (ret := none) (by decide) (Nat.le_of_ble_eq_true rfl) ?_
  intro p e s m args below meth c A ls hx hb hr hml hown hw hlocks hname hK hN hA hP hD hS hl hX
  generalize hQ : MQ below _ args s 0 0 A = Q
  have hl : lv_has ls 7 [(0, .ref (aU 0)), (1, .ref (aR 0))] := hl
  have hZ : sAll A s s.heap := hX
  have hn82 : (Cond.fieldLinkNest "LockRail$Reader" 82 "LockRail$Rail" "bikes" "LLockRail$Bikes;" "LockRail").before args s = true := hN.f 60 rfl
  have hn143 : (Cond.fieldLinkNest "LockRail$Reader" 143 "LockRail$Rail" "places" "I" "LockRail").before args s = true := hN.f 48 rfl
  have hn70 : (Cond.fieldLinkNest "LockRail$Reader" 70 "LockRail$Rail" "locks" "LLockRail$Locks;" "LockRail").before args s = true := hN.f 57 rfl
  have hn74 : (Cond.fieldLinkNest "LockRail$Reader" 74 "LockRail$Locks" "count" "I" "LockRail").before args s = true := hN.f 13 rfl
  have hn33 : (Cond.fieldLinkNest "LockRail$Reader" 33 "LockRail$Tape" "kind" "I" "LockRail").before args s = true := hN.f 2 rfl
  have hn168 : (Cond.fieldLinkNest "LockRail$Reader" 168 "LockRail$Tape" "number" "I" "LockRail").before args s = true := hN.f 3 rfl
  obtain ⟨H, hH⟩ : ∃ H, H = s.heap := ⟨_, rfl⟩
  obtain ⟨locs, hlo⟩ : ∃ z : List Loc, z = [] := ⟨_, rfl⟩
  have hP : va_P D vwCl (List.flatten (wReader aU C us ua ++ (wRail aR C rs ra))) H := by rw [hH]; exact hP
  have hS : va_S A s.heap H locs := by rw [hH, hlo]; exact hS
  rw [show W p l e rmX5_readBike s m args below meth c s.heap [] 0 0 Q (F0 m 0 ls []) = W p l e rmX5_readBike s m args below meth c H locs 0 0 Q (F0 m 0 ls []) from by rw [hH, hlo]]
  have N111 : ∀ (x2_ : Int32) (x3_ : Int32) (x4_ : Int32) (x5_ : Int32) (us : Nat → Int32) (rs : Nat → Int32) (ra : Nat → Nat → Int32) (H : Heap) (locs : List Loc) (ls : Array Slot), P_X5_readBike_111 ua post  x2_ x3_ x4_ x5_ us rs ra → va_P D vwCl (List.flatten (wReader aU C us ua ++ (wRail aR C rs ra))) H → va_D A (List.flatten (wReader aU C us ua ++ (wRail aR C rs ra))) → va_S A s.heap H locs → lv_has ls 7 [(0, .ref (aU 0)), (1, .ref (aR 0)), (2, .int x2_), (3, .int x3_), (4, .int x4_), (5, .int x5_)] → W p l e rmX5_readBike s m args below meth c H locs 0 0 Q (F0 m 111 ls []) := by
    intro x2_ x3_ x4_ x5_ us rs ra H locs ls h hP hD hS hl
    refine lv_aload_n hx hb dX5_readBike_111 rfl (lv_at hl 0 rfl) ?_
    obtain ⟨qc1, hR_qc1, h_qc1⟩ := hZ.1 (178, "marked", [109, 97, 114, 107, 101, 100]) (List.mem_of_getElem? (i := 12) rfl)
    have h_qc1 : sAt A s s.heap [109, 97, 114, 107, 101, 100] qc1 := h_qc1
    refine va_ldcS hx hb hown hR_qc1 dX5_readBike_112 ?_
    refine cGoI (wo := fun u => wReader aU C u ua ++ (wRail aR C rs ra)) (cRunVS (As := [.ref qc1]) (rest := []) (X1.ok ([109, 97, 114, 107, 101, 100]) qc1) ⟨hZ, h_qc1⟩ hS hA ⟨hx, hb, hml, hown, hw⟩ hK hN hP hD [0, 1] rfl rfl (k_X5_readIf l D C _ aU  us ua ([109, 97, 114, 107, 101, 100]) qc1 h) (cwV 1 hw (goodV mw_3_81 mw_3_83 mw_s19 mw_1_2 mw_3_84) rfl rfl rfl (by decide +kernel) ⟨Nat.le_of_ble_eq_true rfl, Nat.le_of_ble_eq_true rfl⟩) rfl rfl rfl hl.1 rfl (Nat.le_of_ble_eq_true rfl) dX5_readBike_114 ⟨Nat.zero_le _, Nat.zero_le _⟩) hP hD hS hA [0, 1] [2, 3, 4, 5, 6, 7] [6, 7, 0, 1, 2, 3, 4, 5] rfl rfl rfl (by decide) rfl (fun _ => rfl) (fun r3 us_2 H locs h hP hD hS => ?_)
    have hP : va_P D vwCl (List.flatten (wReader aU C us_2 ua ++ (wRail aR C rs ra))) H := hP
    have hD : va_D A (List.flatten (wReader aU C us_2 ua ++ (wRail aR C rs ra))) := hD
    refine lv_istore (lv' := [(6, .int r3), (0, .ref (aU 0)), (1, .ref (aR 0)), (2, .int x2_), (3, .int x3_), (4, .int x4_), (5, .int x5_)]) hx hb dX5_readBike_117 hl (by decide) rfl (fun ls hl => ?_)
    refine lv_aload_n hx hb dX5_readBike_119 rfl (lv_at hl 1 rfl) ?_
    refine va_get (D := D) (ci := 5) (v := .int (us_2 0)) (C := RX5) (T := TX5) (N := 3) hx hb hw inW_X5 hown hK hP 0 rfl rfl 1 (by decide) (hw _ mw_1_67) (fun _ h9 => h9) rfl dX5_readBike_120 ?_
    refine lv_if_ne (tgt := 141) hx hb dX5_readBike_123 (by decide) (fun c4 => ?_) (fun c4 => ?_)
    · have h := h.1 c4
      rw [← hQ]
      exact cRetV (us_2, rs, ra) hx hb hr hlocks hS hP hD h dX5_readBike_141
    · have h := h.2 c4
      refine lv_aload_n hx hb dX5_readBike_126 rfl (lv_at hl 2 rfl) ?_
      refine va_getN (D := D) (ci := 4) (v := .ref (aR 7)) (C := RX4) (T := TX4) (N := 16) hx hb hw inW_X4 hown hK hP 3 rfl rfl 5 (by decide) hn82 (fun _ h9 => h9) rfl dX5_readBike_127 ?_
      refine lv_iload_n hx hb dX5_readBike_130 rfl (lv_at hl 3 rfl) ?_
      refine lv_iload_n hx hb dX5_readBike_131 rfl (lv_at hl 4 rfl) ?_
      refine lv_iload hx hb dX5_readBike_132 (lv_at hl 5 rfl) ?_
      refine lv_iload hx hb dX5_readBike_134 (lv_at hl 6 rfl) ?_
      refine lv_iload hx hb dX5_readBike_136 (lv_at hl 0 rfl) ?_
      refine cGoV (wo := fun u => wReader aU C us_2 ua ++ (wRail aR C (va_up rs 13 u.1) (va_up (va_up (va_up (va_up (va_up ra 4 u.2.1) 5 u.2.2.1) 6 u.2.2.2.1) 7 u.2.2.2.2.1) 8 u.2.2.2.2.2))) (cRunVN (As := [.int x2_, .int x3_, .int x4_, .int x5_, .int r3]) (rest := []) ⟨hx, hb, hml, hown, hw⟩ hK hN hP hD [5] rfl rfl (k_X0_add l D C _ (aR 7) (aR 8) (aR 9) (aR 10) (aR 11) (aR 12)  (rs 13) (ra 4) (ra 5) (ra 6) (ra 7) (ra 8) x2_ x3_ x4_ x5_ r3 h) ⟨va_cnB 5 hw (goodN mw_3_89) rfl rfl rfl (hN.m 21 rfl) (hw _ mw_1_7) (by decide +kernel) ⟨Nat.le_of_ble_eq_true rfl, Nat.le_of_ble_eq_true rfl⟩, hw _ mw_3_88, hw _ mw_s20⟩ rfl rfl rfl hl.1 rfl (Nat.le_of_ble_eq_true rfl) dX5_readBike_138 ⟨Nat.zero_le _, Nat.zero_le _⟩) hP hD hS hA [5] [0, 1, 2, 3, 4, 6, 7] [0, 1, 2, 3, 4, 7, 5, 6] rfl rfl rfl (by decide) rfl (fun _ => rfl) (fun u H locs h hP hD hS => ?_)
      obtain ⟨cou_5, wor_6, see_7, pla_8, loc_9, mar_10⟩ := u
      have hP : va_P D vwCl (List.flatten (wReader aU C us_2 ua ++ (wRail aR C (va_up rs 13 cou_5) (va_up (va_up (va_up (va_up (va_up ra 4 wor_6) 5 see_7) 6 pla_8) 7 loc_9) 8 mar_10)))) H := hP
      have hD : va_D A (List.flatten (wReader aU C us_2 ua ++ (wRail aR C (va_up rs 13 cou_5) (va_up (va_up (va_up (va_up (va_up ra 4 wor_6) 5 see_7) 6 pla_8) 7 loc_9) 8 mar_10)))) := hD
      rw [← hQ]
      exact cRetV (us_2, (va_up rs 13 cou_5), (va_up (va_up (va_up (va_up (va_up ra 4 wor_6) 5 see_7) 6 pla_8) 7 loc_9) 8 mar_10)) hx hb hr hlocks hS hP hD h dX5_readBike_141
  have N70 : ∀ (x2_ : Int32) (x3_ : Int32) (us : Nat → Int32) (rs : Nat → Int32) (ra : Nat → Nat → Int32) (H : Heap) (locs : List Loc) (ls : Array Slot), P_X5_readBike_70 ua post  x2_ x3_ us rs ra → va_P D vwCl (List.flatten (wReader aU C us ua ++ (wRail aR C rs ra))) H → va_D A (List.flatten (wReader aU C us ua ++ (wRail aR C rs ra))) → va_S A s.heap H locs → lv_has ls 7 [(0, .ref (aU 0)), (1, .ref (aR 0)), (2, .int x2_), (3, .int x3_)] → W p l e rmX5_readBike s m args below meth c H locs 0 0 Q (F0 m 70 ls []) := by
    intro x2_ x3_ us rs ra H locs ls h hP hD hS hl
    refine lv_aload_n hx hb dX5_readBike_70 rfl (lv_at hl 0 rfl) ?_
    refine lv_iconst (v := 0) hx hb dX5_readBike_71 (by decide) ?_
    refine lv_aload_n hx hb dX5_readBike_72 rfl (lv_at hl 1 rfl) ?_
    refine va_getN (D := D) (ci := 4) (v := .int (rs 0)) (C := RX4) (T := TX4) (N := 16) hx hb hw inW_X4 hown hK hP 3 rfl rfl 0 (by decide) hn143 (fun _ h9 => h9) rfl dX5_readBike_73 ?_
    refine lv_iconst (v := 1) hx hb dX5_readBike_76 (by decide) ?_
    refine lv_isub hx hb dX5_readBike_77 ?_
    refine cGoI (wo := fun u => wReader aU C u ua ++ (wRail aR C rs ra)) (cRunV (As := [.int 0, .int ((rs 0) - 1)]) (rest := []) ⟨hx, hb, hml, hown, hw⟩ hK hN hP hD [0, 1] rfl rfl (k_X5_readNumber l D C _ aU  us ua 0 ((rs 0) - 1) h) (cwV 2 hw (goodV mw_3_39 mw_3_41 mw_s11 mw_1_2 mw_3_42) rfl rfl rfl (by decide +kernel) ⟨Nat.le_of_ble_eq_true rfl, Nat.le_of_ble_eq_true rfl⟩) rfl rfl rfl hl.1 rfl (Nat.le_of_ble_eq_true rfl) dX5_readBike_78 ⟨Nat.zero_le _, Nat.zero_le _⟩) hP hD hS hA [0, 1] [2, 3, 4, 5, 6, 7] [6, 7, 0, 1, 2, 3, 4, 5] rfl rfl rfl (by decide) rfl (fun _ => rfl) (fun r12 us_11 H locs h hP hD hS => ?_)
    have hP : va_P D vwCl (List.flatten (wReader aU C us_11 ua ++ (wRail aR C rs ra))) H := hP
    have hD : va_D A (List.flatten (wReader aU C us_11 ua ++ (wRail aR C rs ra))) := hD
    refine lv_istore (lv' := [(4, .int r12), (0, .ref (aU 0)), (1, .ref (aR 0)), (2, .int x2_), (3, .int x3_)]) hx hb dX5_readBike_81 hl (by decide) rfl (fun ls hl => ?_)
    refine lv_iconst (v := (-1)) hx hb dX5_readBike_83 (by decide) ?_
    refine lv_istore (lv' := [(5, .int (-1)), (4, .int r12), (0, .ref (aU 0)), (1, .ref (aR 0)), (2, .int x2_), (3, .int x3_)]) hx hb dX5_readBike_84 hl (by decide) rfl (fun ls hl => ?_)
    refine lv_aload_n hx hb dX5_readBike_86 rfl (lv_at hl 2 rfl) ?_
    obtain ⟨qc13, hR_qc13, h_qc13⟩ := hZ.1 (68, "lock", [108, 111, 99, 107]) (List.mem_of_getElem? (i := 6) rfl)
    have h_qc13 : sAt A s s.heap [108, 111, 99, 107] qc13 := h_qc13
    refine va_ldcS hx hb hown hR_qc13 dX5_readBike_87 ?_
    refine cGoI (wo := fun u => wReader aU C u ua ++ (wRail aR C rs ra)) (cRunVS (As := [.ref qc13]) (rest := []) (X1.ok ([108, 111, 99, 107]) qc13) ⟨hZ, h_qc13⟩ hS hA ⟨hx, hb, hml, hown, hw⟩ hK hN hP hD [0, 1] rfl rfl (k_X5_readIf l D C _ aU  us_11 ua ([108, 111, 99, 107]) qc13 h) (cwV 1 hw (goodV mw_3_81 mw_3_83 mw_s19 mw_1_2 mw_3_84) rfl rfl rfl (by decide +kernel) ⟨Nat.le_of_ble_eq_true rfl, Nat.le_of_ble_eq_true rfl⟩) rfl rfl rfl hl.1 rfl (Nat.le_of_ble_eq_true rfl) dX5_readBike_89 ⟨Nat.zero_le _, Nat.zero_le _⟩) hP hD hS hA [0, 1] [2, 3, 4, 5, 6, 7] [6, 7, 0, 1, 2, 3, 4, 5] rfl rfl rfl (by decide) rfl (fun _ => rfl) (fun r15 us_14 H locs h hP hD hS => ?_)
    have hP : va_P D vwCl (List.flatten (wReader aU C us_14 ua ++ (wRail aR C rs ra))) H := hP
    have hD : va_D A (List.flatten (wReader aU C us_14 ua ++ (wRail aR C rs ra))) := hD
    refine lv_if_eq (tgt := 111) hx hb dX5_readBike_92 (by decide) (fun c16 => ?_) (fun c16 => ?_)
    · have h := h.1 c16
      exact N111 x2_ x3_ r12 (-1) us_14 rs ra _ _ _ h hP hD hS (lv_sub hl [2, 3, 4, 5, 1, 0] rfl)
    · have h := h.2 c16
      refine lv_aload_n hx hb dX5_readBike_95 rfl (lv_at hl 2 rfl) ?_
      refine lv_iconst (v := 0) hx hb dX5_readBike_96 (by decide) ?_
      refine lv_aload_n hx hb dX5_readBike_97 rfl (lv_at hl 3 rfl) ?_
      refine va_getN (D := D) (ci := 4) (v := .ref (aR 4)) (C := RX4) (T := TX4) (N := 16) hx hb hw inW_X4 hown hK hP 3 rfl rfl 4 (by decide) hn70 (fun _ h9 => h9) rfl dX5_readBike_98 ?_
      refine va_getN (D := D) (ci := 2) (v := .int (rs 12)) (C := RX2) (T := TX2) (N := 3) hx hb hw inW_X2 hown hK hP 7 rfl rfl 0 (by decide) hn74 (fun _ h9 => h9) rfl dX5_readBike_101 ?_
      refine lv_iconst (v := 1) hx hb dX5_readBike_104 (by decide) ?_
      refine lv_isub hx hb dX5_readBike_105 ?_
      refine cGoI (wo := fun u => wReader aU C u ua ++ (wRail aR C rs ra)) (cRunV (As := [.int 0, .int ((rs 12) - 1)]) (rest := []) ⟨hx, hb, hml, hown, hw⟩ hK hN hP hD [0, 1] rfl rfl (k_X5_readNumber l D C _ aU  us_14 ua 0 ((rs 12) - 1) h) (cwV 2 hw (goodV mw_3_39 mw_3_41 mw_s11 mw_1_2 mw_3_42) rfl rfl rfl (by decide +kernel) ⟨Nat.le_of_ble_eq_true rfl, Nat.le_of_ble_eq_true rfl⟩) rfl rfl rfl hl.1 rfl (Nat.le_of_ble_eq_true rfl) dX5_readBike_106 ⟨Nat.zero_le _, Nat.zero_le _⟩) hP hD hS hA [0, 1] [2, 3, 4, 5, 6, 7] [6, 7, 0, 1, 2, 3, 4, 5] rfl rfl rfl (by decide) rfl (fun _ => rfl) (fun r18 us_17 H locs h hP hD hS => ?_)
      have hP : va_P D vwCl (List.flatten (wReader aU C us_17 ua ++ (wRail aR C rs ra))) H := hP
      have hD : va_D A (List.flatten (wReader aU C us_17 ua ++ (wRail aR C rs ra))) := hD
      refine lv_istore (lv' := [(5, .int r18), (4, .int r12), (0, .ref (aU 0)), (1, .ref (aR 0)), (2, .int x2_), (3, .int x3_)]) hx hb dX5_readBike_109 hl (by decide) rfl (fun ls hl => ?_)
      exact N111 x2_ x3_ r12 r18 us_17 rs ra _ _ _ h hP hD hS (lv_sub hl [2, 3, 4, 5, 1, 0] rfl)
  refine lv_aload_n hx hb dX5_readBike_0 rfl (lv_at hl 0 rfl) ?_
  obtain ⟨qc19, hR_qc19, h_qc19⟩ := hZ.1 (164, "worth", [119, 111, 114, 116, 104]) (List.mem_of_getElem? (i := 10) rfl)
  have h_qc19 : sAt A s s.heap [119, 111, 114, 116, 104] qc19 := h_qc19
  refine va_ldcS hx hb hown hR_qc19 dX5_readBike_1 ?_
  refine cGoV (wo := fun u => wReader aU C u ua ++ (wRail aR C rs ra)) (cRunVS (As := [.ref qc19]) (rest := []) (X1.ok ([119, 111, 114, 116, 104]) qc19) ⟨hZ, h_qc19⟩ hS hA ⟨hx, hb, hml, hown, hw⟩ hK hN hP hD [0, 1] rfl rfl (k_X5_readWord l D C _ aU  us ua ([119, 111, 114, 116, 104]) qc19 h) (cwV 1 hw (goodV mw_2_217 mw_2_219 mw_s8 mw_1_2 mw_2_220) rfl rfl rfl (by decide +kernel) ⟨Nat.le_of_ble_eq_true rfl, Nat.le_of_ble_eq_true rfl⟩) rfl rfl rfl hl.1 rfl (Nat.le_of_ble_eq_true rfl) dX5_readBike_3 ⟨Nat.zero_le _, Nat.zero_le _⟩) hP hD hS hA [0, 1] [2, 3, 4, 5, 6, 7] [6, 7, 0, 1, 2, 3, 4, 5] rfl rfl rfl (by decide) rfl (fun _ => rfl) (fun us_20 H locs h hP hD hS => ?_)
  have hP : va_P D vwCl (List.flatten (wReader aU C us_20 ua ++ (wRail aR C rs ra))) H := hP
  have hD : va_D A (List.flatten (wReader aU C us_20 ua ++ (wRail aR C rs ra))) := hD
  refine lv_aload_n hx hb dX5_readBike_6 rfl (lv_at hl 0 rfl) ?_
  refine lv_iconst (v := 0) hx hb dX5_readBike_7 (by decide) ?_
  refine lv_sipush (v := 9999) hx hb dX5_readBike_8 (by decide) ?_
  refine cGoI (wo := fun u => wReader aU C u ua ++ (wRail aR C rs ra)) (cRunV (As := [.int 0, .int 9999]) (rest := []) ⟨hx, hb, hml, hown, hw⟩ hK hN hP hD [0, 1] rfl rfl (k_X5_readNumber l D C _ aU  us_20 ua 0 9999 h) (cwV 2 hw (goodV mw_3_39 mw_3_41 mw_s11 mw_1_2 mw_3_42) rfl rfl rfl (by decide +kernel) ⟨Nat.le_of_ble_eq_true rfl, Nat.le_of_ble_eq_true rfl⟩) rfl rfl rfl hl.1 rfl (Nat.le_of_ble_eq_true rfl) dX5_readBike_11 ⟨Nat.zero_le _, Nat.zero_le _⟩) hP hD hS hA [0, 1] [2, 3, 4, 5, 6, 7] [6, 7, 0, 1, 2, 3, 4, 5] rfl rfl rfl (by decide) rfl (fun _ => rfl) (fun r22 us_21 H locs h hP hD hS => ?_)
  have hP : va_P D vwCl (List.flatten (wReader aU C us_21 ua ++ (wRail aR C rs ra))) H := hP
  have hD : va_D A (List.flatten (wReader aU C us_21 ua ++ (wRail aR C rs ra))) := hD
  refine lv_istore_n (lv' := [(2, .int r22), (0, .ref (aU 0)), (1, .ref (aR 0))]) hx hb dX5_readBike_14 rfl hl (by decide) rfl (fun ls hl => ?_)
  refine lv_aload_n hx hb dX5_readBike_15 rfl (lv_at hl 1 rfl) ?_
  obtain ⟨qc23, hR_qc23, h_qc23⟩ := hZ.1 (166, "seems", [115, 101, 101, 109, 115]) (List.mem_of_getElem? (i := 11) rfl)
  have h_qc23 : sAt A s s.heap [115, 101, 101, 109, 115] qc23 := h_qc23
  refine va_ldcS hx hb hown hR_qc23 dX5_readBike_16 ?_
  refine cGoV (wo := fun u => wReader aU C u ua ++ (wRail aR C rs ra)) (cRunVS (As := [.ref qc23]) (rest := []) (X1.ok ([115, 101, 101, 109, 115]) qc23) ⟨hZ, h_qc23⟩ hS hA ⟨hx, hb, hml, hown, hw⟩ hK hN hP hD [0, 1] rfl rfl (k_X5_readWord l D C _ aU  us_21 ua ([115, 101, 101, 109, 115]) qc23 h) (cwV 1 hw (goodV mw_2_217 mw_2_219 mw_s8 mw_1_2 mw_2_220) rfl rfl rfl (by decide +kernel) ⟨Nat.le_of_ble_eq_true rfl, Nat.le_of_ble_eq_true rfl⟩) rfl rfl rfl hl.1 rfl (Nat.le_of_ble_eq_true rfl) dX5_readBike_18 ⟨Nat.zero_le _, Nat.zero_le _⟩) hP hD hS hA [0, 1] [2, 3, 4, 5, 6, 7] [6, 7, 0, 1, 2, 3, 4, 5] rfl rfl rfl (by decide) rfl (fun _ => rfl) (fun us_24 H locs h hP hD hS => ?_)
  have hP : va_P D vwCl (List.flatten (wReader aU C us_24 ua ++ (wRail aR C rs ra))) H := hP
  have hD : va_D A (List.flatten (wReader aU C us_24 ua ++ (wRail aR C rs ra))) := hD
  refine lv_aload_n hx hb dX5_readBike_21 rfl (lv_at hl 1 rfl) ?_
  refine lv_iconst (v := 0) hx hb dX5_readBike_22 (by decide) ?_
  refine lv_sipush (v := 9999) hx hb dX5_readBike_23 (by decide) ?_
  refine cGoI (wo := fun u => wReader aU C u ua ++ (wRail aR C rs ra)) (cRunV (As := [.int 0, .int 9999]) (rest := []) ⟨hx, hb, hml, hown, hw⟩ hK hN hP hD [0, 1] rfl rfl (k_X5_readNumber l D C _ aU  us_24 ua 0 9999 h) (cwV 2 hw (goodV mw_3_39 mw_3_41 mw_s11 mw_1_2 mw_3_42) rfl rfl rfl (by decide +kernel) ⟨Nat.le_of_ble_eq_true rfl, Nat.le_of_ble_eq_true rfl⟩) rfl rfl rfl hl.1 rfl (Nat.le_of_ble_eq_true rfl) dX5_readBike_26 ⟨Nat.zero_le _, Nat.zero_le _⟩) hP hD hS hA [0, 1] [2, 3, 4, 5, 6, 7] [6, 7, 0, 1, 2, 3, 4, 5] rfl rfl rfl (by decide) rfl (fun _ => rfl) (fun r26 us_25 H locs h hP hD hS => ?_)
  have hP : va_P D vwCl (List.flatten (wReader aU C us_25 ua ++ (wRail aR C rs ra))) H := hP
  have hD : va_D A (List.flatten (wReader aU C us_25 ua ++ (wRail aR C rs ra))) := hD
  refine lv_istore_n (lv' := [(3, .int r26), (2, .int r22), (0, .ref (aU 0)), (1, .ref (aR 0))]) hx hb dX5_readBike_29 rfl hl (by decide) rfl (fun ls hl => ?_)
  refine lv_aload_n hx hb dX5_readBike_30 rfl (lv_at hl 2 rfl) ?_
  obtain ⟨qc27, hR_qc27, h_qc27⟩ := hZ.1 (149, "at", [97, 116]) (List.mem_of_getElem? (i := 4) rfl)
  have h_qc27 : sAt A s s.heap [97, 116] qc27 := h_qc27
  refine va_ldcS hx hb hown hR_qc27 dX5_readBike_31 ?_
  refine cGoV (wo := fun u => wReader aU C u ua ++ (wRail aR C rs ra)) (cRunVS (As := [.ref qc27]) (rest := []) (X1.ok ([97, 116]) qc27) ⟨hZ, h_qc27⟩ hS hA ⟨hx, hb, hml, hown, hw⟩ hK hN hP hD [0, 1] rfl rfl (k_X5_readWord l D C _ aU  us_25 ua ([97, 116]) qc27 h) (cwV 1 hw (goodV mw_2_217 mw_2_219 mw_s8 mw_1_2 mw_2_220) rfl rfl rfl (by decide +kernel) ⟨Nat.le_of_ble_eq_true rfl, Nat.le_of_ble_eq_true rfl⟩) rfl rfl rfl hl.1 rfl (Nat.le_of_ble_eq_true rfl) dX5_readBike_33 ⟨Nat.zero_le _, Nat.zero_le _⟩) hP hD hS hA [0, 1] [2, 3, 4, 5, 6, 7] [6, 7, 0, 1, 2, 3, 4, 5] rfl rfl rfl (by decide) rfl (fun _ => rfl) (fun us_28 H locs h hP hD hS => ?_)
  have hP : va_P D vwCl (List.flatten (wReader aU C us_28 ua ++ (wRail aR C rs ra))) H := hP
  have hD : va_D A (List.flatten (wReader aU C us_28 ua ++ (wRail aR C rs ra))) := hD
  refine lv_aload_n hx hb dX5_readBike_36 rfl (lv_at hl 2 rfl) ?_
  refine va_get (D := D) (ci := 5) (v := .ref (aU 1)) (C := RX5) (T := TX5) (N := 3) hx hb hw inW_X5 hown hK hP 0 rfl rfl 0 (by decide) (hw _ mw_1_65) (fun _ h9 => h9) rfl dX5_readBike_37 ?_
  refine va_getN (D := D) (ci := 8) (v := .int (us_28 5)) (C := RX8) (T := TX8) (N := 6) hx hb hw inW_X8 hown hK hP 1 rfl rfl 4 (by decide) hn33 (fun _ h9 => h9) rfl dX5_readBike_40 ?_
  refine lv_iconst (v := 2) hx hb dX5_readBike_43 (by decide) ?_
  refine lv_icmp_ne (tgt := 70) hx hb dX5_readBike_44 (by decide) (fun c29 => ?_) (fun c29 => ?_)
  · have h := h.1 c29
    exact N70 r22 r26 us_28 rs ra _ _ _ h hP hD hS (lv_sub hl [2, 3, 1, 0] rfl)
  · have h := h.2 c29
    refine lv_aload_n hx hb dX5_readBike_47 rfl (lv_at hl 3 rfl) ?_
    refine va_getN (D := D) (ci := 4) (v := .ref (aR 7)) (C := RX4) (T := TX4) (N := 16) hx hb hw inW_X4 hown hK hP 3 rfl rfl 5 (by decide) hn82 (fun _ h9 => h9) rfl dX5_readBike_48 ?_
    refine lv_aload_n hx hb dX5_readBike_51 rfl (lv_at hl 2 rfl) ?_
    refine va_get (D := D) (ci := 5) (v := .ref (aU 1)) (C := RX5) (T := TX5) (N := 3) hx hb hw inW_X5 hown hK hP 0 rfl rfl 0 (by decide) (hw _ mw_1_65) (fun _ h9 => h9) rfl dX5_readBike_52 ?_
    refine va_getN (D := D) (ci := 8) (v := .int (us_28 6)) (C := RX8) (T := TX8) (N := 6) hx hb hw inW_X8 hown hK hP 1 rfl rfl 5 (by decide) hn168 (fun _ h9 => h9) rfl dX5_readBike_55 ?_
    refine cGoI (wo := fun u => wReader aU C us_28 ua ++ (wRail aR C rs ra)) (cRunVN (As := [.int (us_28 6)]) (rest := []) ⟨hx, hb, hml, hown, hw⟩ hK hN hP hD [5] rfl rfl (k_X0_standingAt l D C _ (aR 7) (aR 8) (aR 9) (aR 10) (aR 11) (aR 12)  (rs 13) (ra 4) (ra 5) (ra 6) (ra 7) (ra 8) (us_28 6) h) ⟨va_cnB 1 hw (goodN mw_3_80) rfl rfl rfl (hN.m 20 rfl) (hw _ mw_1_7) (by decide +kernel) ⟨Nat.le_of_ble_eq_true rfl, Nat.le_of_ble_eq_true rfl⟩, hw _ mw_3_79, hw _ mw_s18⟩ rfl rfl rfl hl.1 rfl (Nat.le_of_ble_eq_true rfl) dX5_readBike_58 ⟨Nat.zero_le _, Nat.zero_le _⟩) hP hD hS hA [5] [0, 1, 2, 3, 4, 6, 7] [0, 1, 2, 3, 4, 7, 5, 6] rfl rfl rfl (by decide) rfl (fun _ => rfl) (fun r30 u H locs h hP hD hS => ?_)
    have hP : va_P D vwCl (List.flatten (wReader aU C us_28 ua ++ (wRail aR C rs ra))) H := hP
    have hD : va_D A (List.flatten (wReader aU C us_28 ua ++ (wRail aR C rs ra))) := hD
    refine lv_iconst (v := (-1)) hx hb dX5_readBike_61 (by decide) ?_
    refine lv_icmp_eq (tgt := 70) hx hb dX5_readBike_62 (by decide) (fun c31 => ?_) (fun c31 => ?_)
    · have h := h.1 c31
      exact N70 r22 r26 us_28 rs ra _ _ _ h hP hD hS (lv_sub hl [2, 3, 1, 0] rfl)
    · have h := h.2 c31
      refine lv_aload_n hx hb dX5_readBike_65 rfl (lv_at hl 2 rfl) ?_
      refine lv_iconst (v := 2) hx hb dX5_readBike_66 (by decide) ?_
      refine cGoV (wo := fun u => wReader aU C u ua ++ (wRail aR C rs ra)) (cRunV (As := [.int 2]) (rest := []) ⟨hx, hb, hml, hown, hw⟩ hK hN hP hD [0, 1] rfl rfl (k_X5_fail l D C _ aU  us_28 ua 2 h) (cwV 1 hw (goodV mw_3_34 mw_3_36 mw_s10 mw_1_2 mw_3_37) rfl rfl rfl (by decide +kernel) ⟨Nat.le_of_ble_eq_true rfl, Nat.le_of_ble_eq_true rfl⟩) rfl rfl rfl hl.1 rfl (Nat.le_of_ble_eq_true rfl) dX5_readBike_67 ⟨Nat.zero_le _, Nat.zero_le _⟩) hP hD hS hA [0, 1] [2, 3, 4, 5, 6, 7] [6, 7, 0, 1, 2, 3, 4, 5] rfl rfl rfl (by decide) rfl (fun _ => rfl) (fun us_32 H locs h hP hD hS => ?_)
      have hP : va_P D vwCl (List.flatten (wReader aU C us_32 ua ++ (wRail aR C rs ra))) H := hP
      have hD : va_D A (List.flatten (wReader aU C us_32 ua ++ (wRail aR C rs ra))) := hD
      exact N70 r22 r26 us_32 rs ra _ _ _ h hP hD hS (lv_sub hl [2, 3, 1, 0] rfl)
abbrev vsX5_readThief : List Cond := Cond.code yX5_readThief cX5_readThief 7 none :: WS
abbrev rmX5_readThief : Room := { frames := 6, cells := 0, slots := 0, locals := 129 }
set_option maxHeartbeats 4000000 in
set_option maxRecDepth 100000 in
theorem k_X5_readThief (l : Launch) (D : va_G) (C : Nat → ClassId) (sz : Nat) (aU : Nat → Nat) (aR : Nat → Nat)  (us : Nat → Int32) (ua : Nat → Nat → Int32) (rs : Nat → Int32) (ra : Nat → Nat → Int32)  {post : (Nat → Int32) → (Nat → Int32) → (Nat → Nat → Int32) → Prop} (h : P_X5_readThief us ua rs ra post) : Met l yX5_readThief vsX5_readThief rmX5_readThief (cPreS D C [.ref (aU 0), .ref (aR 0)] sz (wReader aU C us ua ++ (wRail aR C rs ra)) sAll) (cQv D (fun (u : (Nat → Int32) × (Nat → Int32) × (Nat → Nat → Int32)) => post u.1 u.2.1 u.2.2) (fun u => wReader aU C u.1 ua ++ (wRail aR C u.2.1 u.2.2)) (va_A (List.flatten (wReader aU C us ua ++ (wRail aR C rs ra))) sz)) 0 0 (va_A (List.flatten (wReader aU C us ua ++ (wRail aR C rs ra))) sz) := by
  refine cStartS (QA := fun A => cQv D (fun (u : (Nat → Int32) × (Nat → Int32) × (Nat → Nat → Int32)) => post u.1 u.2.1 u.2.2) (fun u => wReader aU C u.1 ua ++ (wRail aR C u.2.1 u.2.2)) A) (cc := cX5_readThief) (maxL := 7) (ret := none) (by decide) (Nat.le_of_ble_eq_true rfl) ?_
  intro p e s m args below meth c A ls hx hb hr hml hown hw hlocks hname hK hN hA hP hD hS hl hX
  generalize hQ : MQ below _ args s 0 0 A = Q
  have hl : lv_has ls 7 [(0, .ref (aU 0)), (1, .ref (aR 0))] := hl
  have hZ : sAll A s s.heap := hX
  have hn94 : (Cond.fieldLinkNest "LockRail$Reader" 94 "LockRail$Rail" "thieves" "LLockRail$Thieves;" "LockRail").before args s = true := hN.f 63 rfl
  have hn82 : (Cond.fieldLinkNest "LockRail$Reader" 82 "LockRail$Rail" "bikes" "LLockRail$Bikes;" "LockRail").before args s = true := hN.f 60 rfl
  have hn86 : (Cond.fieldLinkNest "LockRail$Reader" 86 "LockRail$Bikes" "count" "I" "LockRail").before args s = true := hN.f 19 rfl
  obtain ⟨H, hH⟩ : ∃ H, H = s.heap := ⟨_, rfl⟩
  obtain ⟨locs, hlo⟩ : ∃ z : List Loc, z = [] := ⟨_, rfl⟩
  have hP : va_P D vwCl (List.flatten (wReader aU C us ua ++ (wRail aR C rs ra))) H := by rw [hH]; exact hP
  have hS : va_S A s.heap H locs := by rw [hH, hlo]; exact hS
  rw [show W p l e rmX5_readThief s m args below meth c s.heap [] 0 0 Q (F0 m 0 ls []) = W p l e rmX5_readThief s m args below meth c H locs 0 0 Q (F0 m 0 ls []) from by rw [hH, hlo]]
  have N100 : ∀ (x2_ : Int32) (x3_ : Int32) (x4_ : Int32) (x5_ : Int32) (x6_ : Int32) (us : Nat → Int32) (rs : Nat → Int32) (ra : Nat → Nat → Int32) (H : Heap) (locs : List Loc) (ls : Array Slot), P_X5_readThief_100 ua post  x2_ x3_ x4_ x5_ x6_ us rs ra → va_P D vwCl (List.flatten (wReader aU C us ua ++ (wRail aR C rs ra))) H → va_D A (List.flatten (wReader aU C us ua ++ (wRail aR C rs ra))) → va_S A s.heap H locs → lv_has ls 7 [(0, .ref (aU 0)), (1, .ref (aR 0)), (2, .int x2_), (3, .int x3_), (4, .int x4_), (5, .int x5_), (6, .int x6_)] → W p l e rmX5_readThief s m args below meth c H locs 0 0 Q (F0 m 100 ls []) := by
    intro x2_ x3_ x4_ x5_ x6_ us rs ra H locs ls h hP hD hS hl
    refine lv_aload_n hx hb dX5_readThief_100 rfl (lv_at hl 0 rfl) ?_
    refine va_get (D := D) (ci := 5) (v := .int (us 0)) (C := RX5) (T := TX5) (N := 3) hx hb hw inW_X5 hown hK hP 0 rfl rfl 1 (by decide) (hw _ mw_1_67) (fun _ h9 => h9) rfl dX5_readThief_101 ?_
    refine lv_if_ne (tgt := 122) hx hb dX5_readThief_104 (by decide) (fun c1 => ?_) (fun c1 => ?_)
    · have h := h.1 c1
      rw [← hQ]
      exact cRetV (us, rs, ra) hx hb hr hlocks hS hP hD h dX5_readThief_122
    · have h := h.2 c1
      refine lv_aload_n hx hb dX5_readThief_107 rfl (lv_at hl 1 rfl) ?_
      refine va_getN (D := D) (ci := 4) (v := .ref (aR 13)) (C := RX4) (T := TX4) (N := 16) hx hb hw inW_X4 hown hK hP 3 rfl rfl 6 (by decide) hn94 (fun _ h9 => h9) rfl dX5_readThief_108 ?_
      refine lv_iload_n hx hb dX5_readThief_111 rfl (lv_at hl 2 rfl) ?_
      refine lv_iload_n hx hb dX5_readThief_112 rfl (lv_at hl 3 rfl) ?_
      refine lv_iload hx hb dX5_readThief_113 (lv_at hl 4 rfl) ?_
      refine lv_iload hx hb dX5_readThief_115 (lv_at hl 5 rfl) ?_
      refine lv_iload hx hb dX5_readThief_117 (lv_at hl 6 rfl) ?_
      refine cGoV (wo := fun u => wReader aU C us ua ++ (wRail aR C (va_up rs 14 u.1) (va_up (va_up (va_up (va_up (va_up ra 9 u.2.1) 10 u.2.2.1) 11 u.2.2.2.1) 12 u.2.2.2.2.1) 13 u.2.2.2.2.2))) (cRunVN (As := [.int x2_, .int x3_, .int x4_, .int x5_, .int x6_]) (rest := []) ⟨hx, hb, hml, hown, hw⟩ hK hN hP hD [6] rfl rfl (k_X9_add l D C _ (aR 13) (aR 14) (aR 15) (aR 16) (aR 17) (aR 18)  (rs 14) (ra 9) (ra 10) (ra 11) (ra 12) (ra 13) x2_ x3_ x4_ x5_ x6_ h) ⟨va_cnB 5 hw (goodN mw_3_104) rfl rfl rfl (hN.m 22 rfl) (hw _ mw_1_8) (by decide +kernel) ⟨Nat.le_of_ble_eq_true rfl, Nat.le_of_ble_eq_true rfl⟩, hw _ mw_3_103, hw _ mw_s22⟩ rfl rfl rfl hl.1 rfl (Nat.le_of_ble_eq_true rfl) dX5_readThief_119 ⟨Nat.zero_le _, Nat.zero_le _⟩) hP hD hS hA [6] [0, 1, 2, 3, 4, 5, 7] [0, 1, 2, 3, 4, 5, 7, 6] rfl rfl rfl (by decide) rfl (fun _ => rfl) (fun u H locs h hP hD hS => ?_)
      obtain ⟨cou_2, too_3, com_4, fea_5, kin_6, jus_7⟩ := u
      have hP : va_P D vwCl (List.flatten (wReader aU C us ua ++ (wRail aR C (va_up rs 14 cou_2) (va_up (va_up (va_up (va_up (va_up ra 9 too_3) 10 com_4) 11 fea_5) 12 kin_6) 13 jus_7)))) H := hP
      have hD : va_D A (List.flatten (wReader aU C us ua ++ (wRail aR C (va_up rs 14 cou_2) (va_up (va_up (va_up (va_up (va_up ra 9 too_3) 10 com_4) 11 fea_5) 12 kin_6) 13 jus_7)))) := hD
      rw [← hQ]
      exact cRetV (us, (va_up rs 14 cou_2), (va_up (va_up (va_up (va_up (va_up ra 9 too_3) 10 com_4) 11 fea_5) 12 kin_6) 13 jus_7)) hx hb hr hlocks hS hP hD h dX5_readThief_122
  refine lv_aload_n hx hb dX5_readThief_0 rfl (lv_at hl 0 rfl) ?_
  obtain ⟨qc8, hR_qc8, h_qc8⟩ := hZ.1 (183, "tool", [116, 111, 111, 108]) (List.mem_of_getElem? (i := 14) rfl)
  have h_qc8 : sAt A s s.heap [116, 111, 111, 108] qc8 := h_qc8
  refine va_ldcS hx hb hown hR_qc8 dX5_readThief_1 ?_
  refine cGoV (wo := fun u => wReader aU C u ua ++ (wRail aR C rs ra)) (cRunVS (As := [.ref qc8]) (rest := []) (X1.ok ([116, 111, 111, 108]) qc8) ⟨hZ, h_qc8⟩ hS hA ⟨hx, hb, hml, hown, hw⟩ hK hN hP hD [0, 1] rfl rfl (k_X5_readWord l D C _ aU  us ua ([116, 111, 111, 108]) qc8 h) (cwV 1 hw (goodV mw_2_217 mw_2_219 mw_s8 mw_1_2 mw_2_220) rfl rfl rfl (by decide +kernel) ⟨Nat.le_of_ble_eq_true rfl, Nat.le_of_ble_eq_true rfl⟩) rfl rfl rfl hl.1 rfl (Nat.le_of_ble_eq_true rfl) dX5_readThief_3 ⟨Nat.zero_le _, Nat.zero_le _⟩) hP hD hS hA [0, 1] [2, 3, 4, 5, 6, 7] [6, 7, 0, 1, 2, 3, 4, 5] rfl rfl rfl (by decide) rfl (fun _ => rfl) (fun us_9 H locs h hP hD hS => ?_)
  have hP : va_P D vwCl (List.flatten (wReader aU C us_9 ua ++ (wRail aR C rs ra))) H := hP
  have hD : va_D A (List.flatten (wReader aU C us_9 ua ++ (wRail aR C rs ra))) := hD
  refine lv_aload_n hx hb dX5_readThief_6 rfl (lv_at hl 0 rfl) ?_
  refine lv_iconst (v := 0) hx hb dX5_readThief_7 (by decide) ?_
  refine lv_iconst (v := 2) hx hb dX5_readThief_8 (by decide) ?_
  refine cGoI (wo := fun u => wReader aU C u ua ++ (wRail aR C rs ra)) (cRunV (As := [.int 0, .int 2]) (rest := []) ⟨hx, hb, hml, hown, hw⟩ hK hN hP hD [0, 1] rfl rfl (k_X5_readNumber l D C _ aU  us_9 ua 0 2 h) (cwV 2 hw (goodV mw_3_39 mw_3_41 mw_s11 mw_1_2 mw_3_42) rfl rfl rfl (by decide +kernel) ⟨Nat.le_of_ble_eq_true rfl, Nat.le_of_ble_eq_true rfl⟩) rfl rfl rfl hl.1 rfl (Nat.le_of_ble_eq_true rfl) dX5_readThief_9 ⟨Nat.zero_le _, Nat.zero_le _⟩) hP hD hS hA [0, 1] [2, 3, 4, 5, 6, 7] [6, 7, 0, 1, 2, 3, 4, 5] rfl rfl rfl (by decide) rfl (fun _ => rfl) (fun r11 us_10 H locs h hP hD hS => ?_)
  have hP : va_P D vwCl (List.flatten (wReader aU C us_10 ua ++ (wRail aR C rs ra))) H := hP
  have hD : va_D A (List.flatten (wReader aU C us_10 ua ++ (wRail aR C rs ra))) := hD
  refine lv_istore_n (lv' := [(2, .int r11), (0, .ref (aU 0)), (1, .ref (aR 0))]) hx hb dX5_readThief_12 rfl hl (by decide) rfl (fun ls hl => ?_)
  refine lv_aload_n hx hb dX5_readThief_13 rfl (lv_at hl 1 rfl) ?_
  obtain ⟨qc12, hR_qc12, h_qc12⟩ := hZ.1 (185, "comes", [99, 111, 109, 101, 115]) (List.mem_of_getElem? (i := 15) rfl)
  have h_qc12 : sAt A s s.heap [99, 111, 109, 101, 115] qc12 := h_qc12
  refine va_ldcS hx hb hown hR_qc12 dX5_readThief_14 ?_
  refine cGoV (wo := fun u => wReader aU C u ua ++ (wRail aR C rs ra)) (cRunVS (As := [.ref qc12]) (rest := []) (X1.ok ([99, 111, 109, 101, 115]) qc12) ⟨hZ, h_qc12⟩ hS hA ⟨hx, hb, hml, hown, hw⟩ hK hN hP hD [0, 1] rfl rfl (k_X5_readWord l D C _ aU  us_10 ua ([99, 111, 109, 101, 115]) qc12 h) (cwV 1 hw (goodV mw_2_217 mw_2_219 mw_s8 mw_1_2 mw_2_220) rfl rfl rfl (by decide +kernel) ⟨Nat.le_of_ble_eq_true rfl, Nat.le_of_ble_eq_true rfl⟩) rfl rfl rfl hl.1 rfl (Nat.le_of_ble_eq_true rfl) dX5_readThief_16 ⟨Nat.zero_le _, Nat.zero_le _⟩) hP hD hS hA [0, 1] [2, 3, 4, 5, 6, 7] [6, 7, 0, 1, 2, 3, 4, 5] rfl rfl rfl (by decide) rfl (fun _ => rfl) (fun us_13 H locs h hP hD hS => ?_)
  have hP : va_P D vwCl (List.flatten (wReader aU C us_13 ua ++ (wRail aR C rs ra))) H := hP
  have hD : va_D A (List.flatten (wReader aU C us_13 ua ++ (wRail aR C rs ra))) := hD
  refine lv_aload_n hx hb dX5_readThief_19 rfl (lv_at hl 1 rfl) ?_
  refine lv_iconst (v := 0) hx hb dX5_readThief_20 (by decide) ?_
  refine lv_bipush (v := 100) hx hb dX5_readThief_21 (by decide) ?_
  refine cGoI (wo := fun u => wReader aU C u ua ++ (wRail aR C rs ra)) (cRunV (As := [.int 0, .int 100]) (rest := []) ⟨hx, hb, hml, hown, hw⟩ hK hN hP hD [0, 1] rfl rfl (k_X5_readNumber l D C _ aU  us_13 ua 0 100 h) (cwV 2 hw (goodV mw_3_39 mw_3_41 mw_s11 mw_1_2 mw_3_42) rfl rfl rfl (by decide +kernel) ⟨Nat.le_of_ble_eq_true rfl, Nat.le_of_ble_eq_true rfl⟩) rfl rfl rfl hl.1 rfl (Nat.le_of_ble_eq_true rfl) dX5_readThief_23 ⟨Nat.zero_le _, Nat.zero_le _⟩) hP hD hS hA [0, 1] [2, 3, 4, 5, 6, 7] [6, 7, 0, 1, 2, 3, 4, 5] rfl rfl rfl (by decide) rfl (fun _ => rfl) (fun r15 us_14 H locs h hP hD hS => ?_)
  have hP : va_P D vwCl (List.flatten (wReader aU C us_14 ua ++ (wRail aR C rs ra))) H := hP
  have hD : va_D A (List.flatten (wReader aU C us_14 ua ++ (wRail aR C rs ra))) := hD
  refine lv_istore_n (lv' := [(3, .int r15), (2, .int r11), (0, .ref (aU 0)), (1, .ref (aR 0))]) hx hb dX5_readThief_26 rfl hl (by decide) rfl (fun ls hl => ?_)
  refine lv_aload_n hx hb dX5_readThief_27 rfl (lv_at hl 2 rfl) ?_
  obtain ⟨qc16, hR_qc16, h_qc16⟩ := hZ.1 (187, "fears", [102, 101, 97, 114, 115]) (List.mem_of_getElem? (i := 16) rfl)
  have h_qc16 : sAt A s s.heap [102, 101, 97, 114, 115] qc16 := h_qc16
  refine va_ldcS hx hb hown hR_qc16 dX5_readThief_28 ?_
  refine cGoV (wo := fun u => wReader aU C u ua ++ (wRail aR C rs ra)) (cRunVS (As := [.ref qc16]) (rest := []) (X1.ok ([102, 101, 97, 114, 115]) qc16) ⟨hZ, h_qc16⟩ hS hA ⟨hx, hb, hml, hown, hw⟩ hK hN hP hD [0, 1] rfl rfl (k_X5_readWord l D C _ aU  us_14 ua ([102, 101, 97, 114, 115]) qc16 h) (cwV 1 hw (goodV mw_2_217 mw_2_219 mw_s8 mw_1_2 mw_2_220) rfl rfl rfl (by decide +kernel) ⟨Nat.le_of_ble_eq_true rfl, Nat.le_of_ble_eq_true rfl⟩) rfl rfl rfl hl.1 rfl (Nat.le_of_ble_eq_true rfl) dX5_readThief_30 ⟨Nat.zero_le _, Nat.zero_le _⟩) hP hD hS hA [0, 1] [2, 3, 4, 5, 6, 7] [6, 7, 0, 1, 2, 3, 4, 5] rfl rfl rfl (by decide) rfl (fun _ => rfl) (fun us_17 H locs h hP hD hS => ?_)
  have hP : va_P D vwCl (List.flatten (wReader aU C us_17 ua ++ (wRail aR C rs ra))) H := hP
  have hD : va_D A (List.flatten (wReader aU C us_17 ua ++ (wRail aR C rs ra))) := hD
  refine lv_aload_n hx hb dX5_readThief_33 rfl (lv_at hl 2 rfl) ?_
  refine lv_iconst (v := 0) hx hb dX5_readThief_34 (by decide) ?_
  refine lv_bipush (v := 99) hx hb dX5_readThief_35 (by decide) ?_
  refine cGoI (wo := fun u => wReader aU C u ua ++ (wRail aR C rs ra)) (cRunV (As := [.int 0, .int 99]) (rest := []) ⟨hx, hb, hml, hown, hw⟩ hK hN hP hD [0, 1] rfl rfl (k_X5_readNumber l D C _ aU  us_17 ua 0 99 h) (cwV 2 hw (goodV mw_3_39 mw_3_41 mw_s11 mw_1_2 mw_3_42) rfl rfl rfl (by decide +kernel) ⟨Nat.le_of_ble_eq_true rfl, Nat.le_of_ble_eq_true rfl⟩) rfl rfl rfl hl.1 rfl (Nat.le_of_ble_eq_true rfl) dX5_readThief_37 ⟨Nat.zero_le _, Nat.zero_le _⟩) hP hD hS hA [0, 1] [2, 3, 4, 5, 6, 7] [6, 7, 0, 1, 2, 3, 4, 5] rfl rfl rfl (by decide) rfl (fun _ => rfl) (fun r19 us_18 H locs h hP hD hS => ?_)
  have hP : va_P D vwCl (List.flatten (wReader aU C us_18 ua ++ (wRail aR C rs ra))) H := hP
  have hD : va_D A (List.flatten (wReader aU C us_18 ua ++ (wRail aR C rs ra))) := hD
  refine lv_istore (lv' := [(4, .int r19), (3, .int r15), (2, .int r11), (0, .ref (aU 0)), (1, .ref (aR 0))]) hx hb dX5_readThief_40 hl (by decide) rfl (fun ls hl => ?_)
  refine lv_iconst (v := 2) hx hb dX5_readThief_42 (by decide) ?_
  refine lv_istore (lv' := [(5, .int 2), (4, .int r19), (3, .int r15), (2, .int r11), (0, .ref (aU 0)), (1, .ref (aR 0))]) hx hb dX5_readThief_43 hl (by decide) rfl (fun ls hl => ?_)
  refine lv_iconst (v := (-1)) hx hb dX5_readThief_45 (by decide) ?_
  refine lv_istore (lv' := [(6, .int (-1)), (5, .int 2), (4, .int r19), (3, .int r15), (2, .int r11), (0, .ref (aU 0)), (1, .ref (aR 0))]) hx hb dX5_readThief_46 hl (by decide) rfl (fun ls hl => ?_)
  refine lv_aload_n hx hb dX5_readThief_48 rfl (lv_at hl 5 rfl) ?_
  obtain ⟨qc20, hR_qc20, h_qc20⟩ := hZ.1 (189, "best", [98, 101, 115, 116]) (List.mem_of_getElem? (i := 17) rfl)
  have h_qc20 : sAt A s s.heap [98, 101, 115, 116] qc20 := h_qc20
  refine va_ldcS hx hb hown hR_qc20 dX5_readThief_49 ?_
  refine cGoI (wo := fun u => wReader aU C u ua ++ (wRail aR C rs ra)) (cRunVS (As := [.ref qc20]) (rest := []) (X1.ok ([98, 101, 115, 116]) qc20) ⟨hZ, h_qc20⟩ hS hA ⟨hx, hb, hml, hown, hw⟩ hK hN hP hD [0, 1] rfl rfl (k_X5_readIf l D C _ aU  us_18 ua ([98, 101, 115, 116]) qc20 h) (cwV 1 hw (goodV mw_3_81 mw_3_83 mw_s19 mw_1_2 mw_3_84) rfl rfl rfl (by decide +kernel) ⟨Nat.le_of_ble_eq_true rfl, Nat.le_of_ble_eq_true rfl⟩) rfl rfl rfl hl.1 rfl (Nat.le_of_ble_eq_true rfl) dX5_readThief_51 ⟨Nat.zero_le _, Nat.zero_le _⟩) hP hD hS hA [0, 1] [2, 3, 4, 5, 6, 7] [6, 7, 0, 1, 2, 3, 4, 5] rfl rfl rfl (by decide) rfl (fun _ => rfl) (fun r22 us_21 H locs h hP hD hS => ?_)
  have hP : va_P D vwCl (List.flatten (wReader aU C us_21 ua ++ (wRail aR C rs ra))) H := hP
  have hD : va_D A (List.flatten (wReader aU C us_21 ua ++ (wRail aR C rs ra))) := hD
  refine lv_if_eq (tgt := 63) hx hb dX5_readThief_54 (by decide) (fun c23 => ?_) (fun c23 => ?_)
  · have h := h.1 c23
    refine lv_aload_n hx hb dX5_readThief_63 rfl (lv_at hl 5 rfl) ?_
    obtain ⟨qc24, hR_qc24, h_qc24⟩ := hZ.1 (191, "any", [97, 110, 121]) (List.mem_of_getElem? (i := 18) rfl)
    have h_qc24 : sAt A s s.heap [97, 110, 121] qc24 := h_qc24
    refine va_ldcS hx hb hown hR_qc24 dX5_readThief_64 ?_
    refine cGoI (wo := fun u => wReader aU C u ua ++ (wRail aR C rs ra)) (cRunVS (As := [.ref qc24]) (rest := []) (X1.ok ([97, 110, 121]) qc24) ⟨hZ, h_qc24⟩ hS hA ⟨hx, hb, hml, hown, hw⟩ hK hN hP hD [0, 1] rfl rfl (k_X5_readIf l D C _ aU  us_21 ua ([97, 110, 121]) qc24 h) (cwV 1 hw (goodV mw_3_81 mw_3_83 mw_s19 mw_1_2 mw_3_84) rfl rfl rfl (by decide +kernel) ⟨Nat.le_of_ble_eq_true rfl, Nat.le_of_ble_eq_true rfl⟩) rfl rfl rfl hl.1 rfl (Nat.le_of_ble_eq_true rfl) dX5_readThief_66 ⟨Nat.zero_le _, Nat.zero_le _⟩) hP hD hS hA [0, 1] [2, 3, 4, 5, 6, 7] [6, 7, 0, 1, 2, 3, 4, 5] rfl rfl rfl (by decide) rfl (fun _ => rfl) (fun r26 us_25 H locs h hP hD hS => ?_)
    have hP : va_P D vwCl (List.flatten (wReader aU C us_25 ua ++ (wRail aR C rs ra))) H := hP
    have hD : va_D A (List.flatten (wReader aU C us_25 ua ++ (wRail aR C rs ra))) := hD
    refine lv_if_eq (tgt := 78) hx hb dX5_readThief_69 (by decide) (fun c27 => ?_) (fun c27 => ?_)
    · have h := h.1 c27
      refine lv_aload_n hx hb dX5_readThief_78 rfl (lv_at hl 5 rfl) ?_
      obtain ⟨qc28, hR_qc28, h_qc28⟩ := hZ.1 (193, "just", [106, 117, 115, 116]) (List.mem_of_getElem? (i := 19) rfl)
      have h_qc28 : sAt A s s.heap [106, 117, 115, 116] qc28 := h_qc28
      refine va_ldcS hx hb hown hR_qc28 dX5_readThief_79 ?_
      refine cGoV (wo := fun u => wReader aU C u ua ++ (wRail aR C rs ra)) (cRunVS (As := [.ref qc28]) (rest := []) (X1.ok ([106, 117, 115, 116]) qc28) ⟨hZ, h_qc28⟩ hS hA ⟨hx, hb, hml, hown, hw⟩ hK hN hP hD [0, 1] rfl rfl (k_X5_readWord l D C _ aU  us_25 ua ([106, 117, 115, 116]) qc28 h) (cwV 1 hw (goodV mw_2_217 mw_2_219 mw_s8 mw_1_2 mw_2_220) rfl rfl rfl (by decide +kernel) ⟨Nat.le_of_ble_eq_true rfl, Nat.le_of_ble_eq_true rfl⟩) rfl rfl rfl hl.1 rfl (Nat.le_of_ble_eq_true rfl) dX5_readThief_81 ⟨Nat.zero_le _, Nat.zero_le _⟩) hP hD hS hA [0, 1] [2, 3, 4, 5, 6, 7] [6, 7, 0, 1, 2, 3, 4, 5] rfl rfl rfl (by decide) rfl (fun _ => rfl) (fun us_29 H locs h hP hD hS => ?_)
      have hP : va_P D vwCl (List.flatten (wReader aU C us_29 ua ++ (wRail aR C rs ra))) H := hP
      have hD : va_D A (List.flatten (wReader aU C us_29 ua ++ (wRail aR C rs ra))) := hD
      refine lv_aload_n hx hb dX5_readThief_84 rfl (lv_at hl 5 rfl) ?_
      refine lv_iconst (v := 0) hx hb dX5_readThief_85 (by decide) ?_
      refine lv_aload_n hx hb dX5_readThief_86 rfl (lv_at hl 6 rfl) ?_
      refine va_getN (D := D) (ci := 4) (v := .ref (aR 7)) (C := RX4) (T := TX4) (N := 16) hx hb hw inW_X4 hown hK hP 3 rfl rfl 5 (by decide) hn82 (fun _ h9 => h9) rfl dX5_readThief_87 ?_
      refine va_getN (D := D) (ci := 0) (v := .int (rs 13)) (C := RX0) (T := TX0) (N := 6) hx hb hw inW_X0 hown hK hP 10 rfl rfl 0 (by decide) hn86 (fun _ h9 => h9) rfl dX5_readThief_90 ?_
      refine lv_iconst (v := 1) hx hb dX5_readThief_93 (by decide) ?_
      refine lv_isub hx hb dX5_readThief_94 ?_
      refine cGoI (wo := fun u => wReader aU C u ua ++ (wRail aR C rs ra)) (cRunV (As := [.int 0, .int ((rs 13) - 1)]) (rest := []) ⟨hx, hb, hml, hown, hw⟩ hK hN hP hD [0, 1] rfl rfl (k_X5_readNumber l D C _ aU  us_29 ua 0 ((rs 13) - 1) h) (cwV 2 hw (goodV mw_3_39 mw_3_41 mw_s11 mw_1_2 mw_3_42) rfl rfl rfl (by decide +kernel) ⟨Nat.le_of_ble_eq_true rfl, Nat.le_of_ble_eq_true rfl⟩) rfl rfl rfl hl.1 rfl (Nat.le_of_ble_eq_true rfl) dX5_readThief_95 ⟨Nat.zero_le _, Nat.zero_le _⟩) hP hD hS hA [0, 1] [2, 3, 4, 5, 6, 7] [6, 7, 0, 1, 2, 3, 4, 5] rfl rfl rfl (by decide) rfl (fun _ => rfl) (fun r31 us_30 H locs h hP hD hS => ?_)
      have hP : va_P D vwCl (List.flatten (wReader aU C us_30 ua ++ (wRail aR C rs ra))) H := hP
      have hD : va_D A (List.flatten (wReader aU C us_30 ua ++ (wRail aR C rs ra))) := hD
      refine lv_istore (lv' := [(6, .int r31), (5, .int 2), (4, .int r19), (3, .int r15), (2, .int r11), (0, .ref (aU 0)), (1, .ref (aR 0))]) hx hb dX5_readThief_98 hl (by decide) rfl (fun ls hl => ?_)
      exact N100 r11 r15 r19 2 r31 us_30 rs ra _ _ _ h hP hD hS (lv_sub hl [5, 6, 4, 3, 2, 1, 0] rfl)
    · have h := h.2 c27
      refine lv_iconst (v := 1) hx hb dX5_readThief_72 (by decide) ?_
      refine lv_istore (lv' := [(5, .int 1), (6, .int (-1)), (4, .int r19), (3, .int r15), (2, .int r11), (0, .ref (aU 0)), (1, .ref (aR 0))]) hx hb dX5_readThief_73 hl (by decide) rfl (fun ls hl => ?_)
      refine lv_goto (tgt := 100) hx hb dX5_readThief_75 (by decide) ?_
      exact N100 r11 r15 r19 1 (-1) us_25 rs ra _ _ _ h hP hD hS (lv_sub hl [5, 6, 4, 3, 2, 0, 1] rfl)
  · have h := h.2 c23
    refine lv_iconst (v := 0) hx hb dX5_readThief_57 (by decide) ?_
    refine lv_istore (lv' := [(5, .int 0), (6, .int (-1)), (4, .int r19), (3, .int r15), (2, .int r11), (0, .ref (aU 0)), (1, .ref (aR 0))]) hx hb dX5_readThief_58 hl (by decide) rfl (fun ls hl => ?_)
    refine lv_goto (tgt := 100) hx hb dX5_readThief_60 (by decide) ?_
    exact N100 r11 r15 r19 0 (-1) us_21 rs ra _ _ _ h hP hD hS (lv_sub hl [5, 6, 4, 3, 2, 0, 1] rfl)
abbrev vsX5_readMark : List Cond := Cond.code yX5_readMark cX5_readMark 2 none :: WS
abbrev rmX5_readMark : Room := { frames := 6, cells := 0, slots := 0, locals := 129 }
set_option maxHeartbeats 4000000 in
set_option maxRecDepth 100000 in
theorem k_X5_readMark (l : Launch) (D : va_G) (C : Nat → ClassId) (sz : Nat) (aU : Nat → Nat) (aR : Nat → Nat)  (us : Nat → Int32) (ua : Nat → Nat → Int32) (rs : Nat → Int32) (ra : Nat → Nat → Int32)  {post : (Nat → Int32) → (Nat → Int32) → Prop} (h : P_X5_readMark us ua rs post) : Met l yX5_readMark vsX5_readMark rmX5_readMark (cPreS D C [.ref (aU 0), .ref (aR 0)] sz (wReader aU C us ua ++ (wRail aR C rs ra)) sAll) (cQv D (fun (u : (Nat → Int32) × (Nat → Int32)) => post u.1 u.2) (fun u => wReader aU C u.1 ua ++ (wRail aR C u.2 ra)) (va_A (List.flatten (wReader aU C us ua ++ (wRail aR C rs ra))) sz)) 0 0 (va_A (List.flatten (wReader aU C us ua ++ (wRail aR C rs ra))) sz) := by
  refine cStartS (QA := fun A => cQv D (fun (u : (Nat → Int32) × (Nat → Int32)) => post u.1 u.2) (fun u => wReader aU C u.1 ua ++ (wRail aR C u.2 ra)) A) (cc := cX5_readMark) (maxL := 2) (ret := none) (by decide) (Nat.le_of_ble_eq_true rfl) ?_
  intro p e s m args below meth c A ls hx hb hr hml hown hw hlocks hname hK hN hA hP hD hS hl hX
  generalize hQ : MQ below _ args s 0 0 A = Q
  have hl : lv_has ls 2 [(0, .ref (aU 0)), (1, .ref (aR 0))] := hl
  have hZ : sAll A s s.heap := hX
  have hn198 : (Cond.fieldLinkNest "LockRail$Reader" 198 "LockRail$Rail" "markPrice" "I" "LockRail").before args s = true := hN.f 66 rfl
  have hn203 : (Cond.fieldLinkNest "LockRail$Reader" 203 "LockRail$Rail" "known" "I" "LockRail").before args s = true := hN.f 67 rfl
  have hn207 : (Cond.fieldLinkNest "LockRail$Reader" 207 "LockRail$Rail" "hidden" "Z" "LockRail").before args s = true := hN.f 68 rfl
  have hn106 : (Cond.fieldLinkNest "LockRail$Reader" 106 "LockRail$Rail" "markTold" "Z" "LockRail").before args s = true := hN.f 65 rfl
  obtain ⟨H, hH⟩ : ∃ H, H = s.heap := ⟨_, rfl⟩
  obtain ⟨locs, hlo⟩ : ∃ z : List Loc, z = [] := ⟨_, rfl⟩
  have hP : va_P D vwCl (List.flatten (wReader aU C us ua ++ (wRail aR C rs ra))) H := by rw [hH]; exact hP
  have hS : va_S A s.heap H locs := by rw [hH, hlo]; exact hS
  rw [show W p l e rmX5_readMark s m args below meth c s.heap [] 0 0 Q (F0 m 0 ls []) = W p l e rmX5_readMark s m args below meth c H locs 0 0 Q (F0 m 0 ls []) from by rw [hH, hlo]]
  refine lv_aload_n hx hb dX5_readMark_0 rfl (lv_at hl 0 rfl) ?_
  obtain ⟨qc1, hR_qc1, h_qc1⟩ := hZ.1 (157, "price", [112, 114, 105, 99, 101]) (List.mem_of_getElem? (i := 7) rfl)
  have h_qc1 : sAt A s s.heap [112, 114, 105, 99, 101] qc1 := h_qc1
  refine va_ldcS hx hb hown hR_qc1 dX5_readMark_1 ?_
  refine cGoV (wo := fun u => wReader aU C u ua ++ (wRail aR C rs ra)) (cRunVS (As := [.ref qc1]) (rest := []) (X1.ok ([112, 114, 105, 99, 101]) qc1) ⟨hZ, h_qc1⟩ hS hA ⟨hx, hb, hml, hown, hw⟩ hK hN hP hD [0, 1] rfl rfl (k_X5_readWord l D C _ aU  us ua ([112, 114, 105, 99, 101]) qc1 h) (cwV 1 hw (goodV mw_2_217 mw_2_219 mw_s8 mw_1_2 mw_2_220) rfl rfl rfl (by decide +kernel) ⟨Nat.le_of_ble_eq_true rfl, Nat.le_of_ble_eq_true rfl⟩) rfl rfl rfl hl.1 rfl (Nat.le_of_ble_eq_true rfl) dX5_readMark_3 ⟨Nat.zero_le _, Nat.zero_le _⟩) hP hD hS hA [0, 1] [2, 3, 4, 5, 6, 7] [6, 7, 0, 1, 2, 3, 4, 5] rfl rfl rfl (by decide) rfl (fun _ => rfl) (fun us_2 H locs h hP hD hS => ?_)
  have hP : va_P D vwCl (List.flatten (wReader aU C us_2 ua ++ (wRail aR C rs ra))) H := hP
  have hD : va_D A (List.flatten (wReader aU C us_2 ua ++ (wRail aR C rs ra))) := hD
  refine lv_aload_n hx hb dX5_readMark_6 rfl (lv_at hl 1 rfl) ?_
  refine lv_aload_n hx hb dX5_readMark_7 rfl (lv_at hl 0 rfl) ?_
  refine lv_iconst (v := 0) hx hb dX5_readMark_8 (by decide) ?_
  refine lv_sipush (v := 999) hx hb dX5_readMark_9 (by decide) ?_
  refine cGoI (wo := fun u => wReader aU C u ua ++ (wRail aR C rs ra)) (cRunV (As := [.int 0, .int 999]) (rest := [.ref (aR 0)]) ⟨hx, hb, hml, hown, hw⟩ hK hN hP hD [0, 1] rfl rfl (k_X5_readNumber l D C _ aU  us_2 ua 0 999 h) (cwV 2 hw (goodV mw_3_39 mw_3_41 mw_s11 mw_1_2 mw_3_42) rfl rfl rfl (by decide +kernel) ⟨Nat.le_of_ble_eq_true rfl, Nat.le_of_ble_eq_true rfl⟩) rfl rfl rfl hl.1 rfl (Nat.le_of_ble_eq_true rfl) dX5_readMark_12 ⟨Nat.zero_le _, Nat.zero_le _⟩) hP hD hS hA [0, 1] [2, 3, 4, 5, 6, 7] [6, 7, 0, 1, 2, 3, 4, 5] rfl rfl rfl (by decide) rfl (fun _ => rfl) (fun r4 us_3 H locs h hP hD hS => ?_)
  have hP : va_P D vwCl (List.flatten (wReader aU C us_3 ua ++ (wRail aR C rs ra))) H := hP
  have hD : va_D A (List.flatten (wReader aU C us_3 ua ++ (wRail aR C rs ra))) := hD
  refine va_putN (D := D) (ci := 4) (v := .int r4) (ty := .int) (C := RX4) (T := TX4) (N := 16) hx hb hw inW_X4 tyX4 tyX4_ok nmX4 hown hK hP hD hS 3 rfl rfl 8 (by decide) hn198 (fun _ h9 => h9) rfl (by decide +kernel) rfl rfl (Nat.le_of_ble_eq_true rfl) dX5_readMark_15 (fun H locs hP hD hS => ?_)
  refine lv_aload_n hx hb dX5_readMark_18 rfl (lv_at hl 0 rfl) ?_
  obtain ⟨qc5, hR_qc5, h_qc5⟩ := hZ.1 (201, "known", [107, 110, 111, 119, 110]) (List.mem_of_getElem? (i := 21) rfl)
  have h_qc5 : sAt A s s.heap [107, 110, 111, 119, 110] qc5 := h_qc5
  refine va_ldcS hx hb hown hR_qc5 dX5_readMark_19 ?_
  have hP : va_P D vwCl (List.flatten (wReader aU C us_3 ua ++ (wRail aR C (va_up rs 4 r4) ra))) H := hP
  have hD : va_D A (List.flatten (wReader aU C us_3 ua ++ (wRail aR C (va_up rs 4 r4) ra))) := hD
  refine cGoV (wo := fun u => wReader aU C u ua ++ (wRail aR C (va_up rs 4 r4) ra)) (cRunVS (As := [.ref qc5]) (rest := []) (X1.ok ([107, 110, 111, 119, 110]) qc5) ⟨hZ, h_qc5⟩ hS hA ⟨hx, hb, hml, hown, hw⟩ hK hN hP hD [0, 1] rfl rfl (k_X5_readWord l D C _ aU  us_3 ua ([107, 110, 111, 119, 110]) qc5 h) (cwV 1 hw (goodV mw_2_217 mw_2_219 mw_s8 mw_1_2 mw_2_220) rfl rfl rfl (by decide +kernel) ⟨Nat.le_of_ble_eq_true rfl, Nat.le_of_ble_eq_true rfl⟩) rfl rfl rfl hl.1 rfl (Nat.le_of_ble_eq_true rfl) dX5_readMark_21 ⟨Nat.zero_le _, Nat.zero_le _⟩) hP hD hS hA [0, 1] [2, 3, 4, 5, 6, 7] [6, 7, 0, 1, 2, 3, 4, 5] rfl rfl rfl (by decide) rfl (fun _ => rfl) (fun us_6 H locs h hP hD hS => ?_)
  have hP : va_P D vwCl (List.flatten (wReader aU C us_6 ua ++ (wRail aR C (va_up rs 4 r4) ra))) H := hP
  have hD : va_D A (List.flatten (wReader aU C us_6 ua ++ (wRail aR C (va_up rs 4 r4) ra))) := hD
  refine lv_aload_n hx hb dX5_readMark_24 rfl (lv_at hl 1 rfl) ?_
  refine lv_aload_n hx hb dX5_readMark_25 rfl (lv_at hl 0 rfl) ?_
  refine lv_iconst (v := 0) hx hb dX5_readMark_26 (by decide) ?_
  refine lv_bipush (v := 100) hx hb dX5_readMark_27 (by decide) ?_
  refine cGoI (wo := fun u => wReader aU C u ua ++ (wRail aR C (va_up rs 4 r4) ra)) (cRunV (As := [.int 0, .int 100]) (rest := [.ref (aR 0)]) ⟨hx, hb, hml, hown, hw⟩ hK hN hP hD [0, 1] rfl rfl (k_X5_readNumber l D C _ aU  us_6 ua 0 100 h) (cwV 2 hw (goodV mw_3_39 mw_3_41 mw_s11 mw_1_2 mw_3_42) rfl rfl rfl (by decide +kernel) ⟨Nat.le_of_ble_eq_true rfl, Nat.le_of_ble_eq_true rfl⟩) rfl rfl rfl hl.1 rfl (Nat.le_of_ble_eq_true rfl) dX5_readMark_29 ⟨Nat.zero_le _, Nat.zero_le _⟩) hP hD hS hA [0, 1] [2, 3, 4, 5, 6, 7] [6, 7, 0, 1, 2, 3, 4, 5] rfl rfl rfl (by decide) rfl (fun _ => rfl) (fun r8 us_7 H locs h hP hD hS => ?_)
  have hP : va_P D vwCl (List.flatten (wReader aU C us_7 ua ++ (wRail aR C (va_up rs 4 r4) ra))) H := hP
  have hD : va_D A (List.flatten (wReader aU C us_7 ua ++ (wRail aR C (va_up rs 4 r4) ra))) := hD
  refine va_putN (D := D) (ci := 4) (v := .int r8) (ty := .int) (C := RX4) (T := TX4) (N := 16) hx hb hw inW_X4 tyX4 tyX4_ok nmX4 hown hK hP hD hS 3 rfl rfl 9 (by decide) hn203 (fun _ h9 => h9) rfl (by decide +kernel) rfl rfl (Nat.le_of_ble_eq_true rfl) dX5_readMark_32 (fun H locs hP hD hS => ?_)
  refine lv_aload_n hx hb dX5_readMark_35 rfl (lv_at hl 1 rfl) ?_
  refine lv_aload_n hx hb dX5_readMark_36 rfl (lv_at hl 0 rfl) ?_
  obtain ⟨qc9, hR_qc9, h_qc9⟩ := hZ.1 (205, "hidden", [104, 105, 100, 100, 101, 110]) (List.mem_of_getElem? (i := 22) rfl)
  have h_qc9 : sAt A s s.heap [104, 105, 100, 100, 101, 110] qc9 := h_qc9
  refine va_ldcS hx hb hown hR_qc9 dX5_readMark_37 ?_
  have hP : va_P D vwCl (List.flatten (wReader aU C us_7 ua ++ (wRail aR C (va_up (va_up rs 4 r4) 5 r8) ra))) H := hP
  have hD : va_D A (List.flatten (wReader aU C us_7 ua ++ (wRail aR C (va_up (va_up rs 4 r4) 5 r8) ra))) := hD
  refine cGoI (wo := fun u => wReader aU C u ua ++ (wRail aR C (va_up (va_up rs 4 r4) 5 r8) ra)) (cRunVS (As := [.ref qc9]) (rest := [.ref (aR 0)]) (X1.ok ([104, 105, 100, 100, 101, 110]) qc9) ⟨hZ, h_qc9⟩ hS hA ⟨hx, hb, hml, hown, hw⟩ hK hN hP hD [0, 1] rfl rfl (k_X5_readIf l D C _ aU  us_7 ua ([104, 105, 100, 100, 101, 110]) qc9 h) (cwV 1 hw (goodV mw_3_81 mw_3_83 mw_s19 mw_1_2 mw_3_84) rfl rfl rfl (by decide +kernel) ⟨Nat.le_of_ble_eq_true rfl, Nat.le_of_ble_eq_true rfl⟩) rfl rfl rfl hl.1 rfl (Nat.le_of_ble_eq_true rfl) dX5_readMark_39 ⟨Nat.zero_le _, Nat.zero_le _⟩) hP hD hS hA [0, 1] [2, 3, 4, 5, 6, 7] [6, 7, 0, 1, 2, 3, 4, 5] rfl rfl rfl (by decide) rfl (fun _ => rfl) (fun r11 us_10 H locs h hP hD hS => ?_)
  have hP : va_P D vwCl (List.flatten (wReader aU C us_10 ua ++ (wRail aR C (va_up (va_up rs 4 r4) 5 r8) ra))) H := hP
  have hD : va_D A (List.flatten (wReader aU C us_10 ua ++ (wRail aR C (va_up (va_up rs 4 r4) 5 r8) ra))) := hD
  refine va_putN (D := D) (ci := 4) (v := .int r11) (ty := .boolean) (C := RX4) (T := TX4) (N := 16) hx hb hw inW_X4 tyX4 tyX4_ok nmX4 hown hK hP hD hS 3 rfl rfl 10 (by decide) hn207 (fun _ h9 => h9) rfl (by decide +kernel) (zb_n h.1) (zb_f h.1) (Nat.le_of_ble_eq_true rfl) dX5_readMark_42 (fun H locs hP hD hS => ?_)
  have h := h.2
  refine lv_aload_n hx hb dX5_readMark_45 rfl (lv_at hl 1 rfl) ?_
  refine lv_iconst (v := 1) hx hb dX5_readMark_46 (by decide) ?_
  refine va_putN (D := D) (ci := 4) (v := .int 1) (ty := .boolean) (C := RX4) (T := TX4) (N := 16) hx hb hw inW_X4 tyX4 tyX4_ok nmX4 hown hK hP hD hS 3 rfl rfl 7 (by decide) hn106 (fun _ h9 => h9) rfl (by decide +kernel) rfl rfl (Nat.le_of_ble_eq_true rfl) dX5_readMark_47 (fun H locs hP hD hS => ?_)
  have hP : va_P D vwCl (List.flatten (wReader aU C us_10 ua ++ (wRail aR C (va_up (va_up (va_up (va_up rs 3 1) 4 r4) 5 r8) 6 r11) ra))) H := hP
  have hD : va_D A (List.flatten (wReader aU C us_10 ua ++ (wRail aR C (va_up (va_up (va_up (va_up rs 3 1) 4 r4) 5 r8) 6 r11) ra))) := hD
  rw [← hQ]
  exact cRetV (us_10, (va_up (va_up (va_up (va_up rs 3 1) 4 r4) 5 r8) 6 r11)) hx hb hr hlocks hS hP hD h dX5_readMark_50
abbrev vsX5_readWatch : List Cond := Cond.code yX5_readWatch cX5_readWatch 2 none :: WS
abbrev rmX5_readWatch : Room := { frames := 6, cells := 0, slots := 0, locals := 128 }
set_option maxHeartbeats 4000000 in
set_option maxRecDepth 100000 in
theorem k_X5_readWatch (l : Launch) (D : va_G) (C : Nat → ClassId) (sz : Nat) (aU : Nat → Nat) (aR : Nat → Nat)  (us : Nat → Int32) (ua : Nat → Nat → Int32) (rs : Nat → Int32) (ra : Nat → Nat → Int32)  {post : (Nat → Int32) → (Nat → Int32) → Prop} (h : P_X5_readWatch us ua rs post) : Met l yX5_readWatch vsX5_readWatch rmX5_readWatch (cPreS D C [.ref (aU 0), .ref (aR 0)] sz (wReader aU C us ua ++ (wRail aR C rs ra)) sAll) (cQv D (fun (u : (Nat → Int32) × (Nat → Int32)) => post u.1 u.2) (fun u => wReader aU C u.1 ua ++ (wRail aR C u.2 ra)) (va_A (List.flatten (wReader aU C us ua ++ (wRail aR C rs ra))) sz)) 0 0 (va_A (List.flatten (wReader aU C us ua ++ (wRail aR C rs ra))) sz) := by
  refine cStartS (QA := fun A => cQv D (fun (u : (Nat → Int32) × (Nat → Int32)) => post u.1 u.2) (fun u => wReader aU C u.1 ua ++ (wRail aR C u.2 ra)) A) (cc := cX5_readWatch) (maxL := 2) (ret := none) (by decide) (Nat.le_of_ble_eq_true rfl) ?_
  intro p e s m args below meth c A ls hx hb hr hml hown hw hlocks hname hK hN hA hP hD hS hl hX
  generalize hQ : MQ below _ args s 0 0 A = Q
  have hl : lv_has ls 2 [(0, .ref (aU 0)), (1, .ref (aR 0))] := hl
  have hZ : sAll A s s.heap := hX
  have hn211 : (Cond.fieldLinkNest "LockRail$Reader" 211 "LockRail$Rail" "wage" "I" "LockRail").before args s = true := hN.f 71 rfl
  have hn215 : (Cond.fieldLinkNest "LockRail$Reader" 215 "LockRail$Rail" "adds" "I" "LockRail").before args s = true := hN.f 72 rfl
  have hn115 : (Cond.fieldLinkNest "LockRail$Reader" 115 "LockRail$Rail" "watchTold" "Z" "LockRail").before args s = true := hN.f 69 rfl
  obtain ⟨H, hH⟩ : ∃ H, H = s.heap := ⟨_, rfl⟩
  obtain ⟨locs, hlo⟩ : ∃ z : List Loc, z = [] := ⟨_, rfl⟩
  have hP : va_P D vwCl (List.flatten (wReader aU C us ua ++ (wRail aR C rs ra))) H := by rw [hH]; exact hP
  have hS : va_S A s.heap H locs := by rw [hH, hlo]; exact hS
  rw [show W p l e rmX5_readWatch s m args below meth c s.heap [] 0 0 Q (F0 m 0 ls []) = W p l e rmX5_readWatch s m args below meth c H locs 0 0 Q (F0 m 0 ls []) from by rw [hH, hlo]]
  refine lv_aload_n hx hb dX5_readWatch_0 rfl (lv_at hl 0 rfl) ?_
  obtain ⟨qc1, hR_qc1, h_qc1⟩ := hZ.1 (209, "wage", [119, 97, 103, 101]) (List.mem_of_getElem? (i := 24) rfl)
  have h_qc1 : sAt A s s.heap [119, 97, 103, 101] qc1 := h_qc1
  refine va_ldcS hx hb hown hR_qc1 dX5_readWatch_1 ?_
  refine cGoV (wo := fun u => wReader aU C u ua ++ (wRail aR C rs ra)) (cRunVS (As := [.ref qc1]) (rest := []) (X1.ok ([119, 97, 103, 101]) qc1) ⟨hZ, h_qc1⟩ hS hA ⟨hx, hb, hml, hown, hw⟩ hK hN hP hD [0, 1] rfl rfl (k_X5_readWord l D C _ aU  us ua ([119, 97, 103, 101]) qc1 h) (cwV 1 hw (goodV mw_2_217 mw_2_219 mw_s8 mw_1_2 mw_2_220) rfl rfl rfl (by decide +kernel) ⟨Nat.le_of_ble_eq_true rfl, Nat.le_of_ble_eq_true rfl⟩) rfl rfl rfl hl.1 rfl (Nat.le_of_ble_eq_true rfl) dX5_readWatch_3 ⟨Nat.zero_le _, Nat.zero_le _⟩) hP hD hS hA [0, 1] [2, 3, 4, 5, 6, 7] [6, 7, 0, 1, 2, 3, 4, 5] rfl rfl rfl (by decide) rfl (fun _ => rfl) (fun us_2 H locs h hP hD hS => ?_)
  have hP : va_P D vwCl (List.flatten (wReader aU C us_2 ua ++ (wRail aR C rs ra))) H := hP
  have hD : va_D A (List.flatten (wReader aU C us_2 ua ++ (wRail aR C rs ra))) := hD
  refine lv_aload_n hx hb dX5_readWatch_6 rfl (lv_at hl 1 rfl) ?_
  refine lv_aload_n hx hb dX5_readWatch_7 rfl (lv_at hl 0 rfl) ?_
  refine lv_iconst (v := 0) hx hb dX5_readWatch_8 (by decide) ?_
  refine lv_sipush (v := 999) hx hb dX5_readWatch_9 (by decide) ?_
  refine cGoI (wo := fun u => wReader aU C u ua ++ (wRail aR C rs ra)) (cRunV (As := [.int 0, .int 999]) (rest := [.ref (aR 0)]) ⟨hx, hb, hml, hown, hw⟩ hK hN hP hD [0, 1] rfl rfl (k_X5_readNumber l D C _ aU  us_2 ua 0 999 h) (cwV 2 hw (goodV mw_3_39 mw_3_41 mw_s11 mw_1_2 mw_3_42) rfl rfl rfl (by decide +kernel) ⟨Nat.le_of_ble_eq_true rfl, Nat.le_of_ble_eq_true rfl⟩) rfl rfl rfl hl.1 rfl (Nat.le_of_ble_eq_true rfl) dX5_readWatch_12 ⟨Nat.zero_le _, Nat.zero_le _⟩) hP hD hS hA [0, 1] [2, 3, 4, 5, 6, 7] [6, 7, 0, 1, 2, 3, 4, 5] rfl rfl rfl (by decide) rfl (fun _ => rfl) (fun r4 us_3 H locs h hP hD hS => ?_)
  have hP : va_P D vwCl (List.flatten (wReader aU C us_3 ua ++ (wRail aR C rs ra))) H := hP
  have hD : va_D A (List.flatten (wReader aU C us_3 ua ++ (wRail aR C rs ra))) := hD
  refine va_putN (D := D) (ci := 4) (v := .int r4) (ty := .int) (C := RX4) (T := TX4) (N := 16) hx hb hw inW_X4 tyX4 tyX4_ok nmX4 hown hK hP hD hS 3 rfl rfl 12 (by decide) hn211 (fun _ h9 => h9) rfl (by decide +kernel) rfl rfl (Nat.le_of_ble_eq_true rfl) dX5_readWatch_15 (fun H locs hP hD hS => ?_)
  refine lv_aload_n hx hb dX5_readWatch_18 rfl (lv_at hl 0 rfl) ?_
  obtain ⟨qc5, hR_qc5, h_qc5⟩ := hZ.1 (213, "adds", [97, 100, 100, 115]) (List.mem_of_getElem? (i := 25) rfl)
  have h_qc5 : sAt A s s.heap [97, 100, 100, 115] qc5 := h_qc5
  refine va_ldcS hx hb hown hR_qc5 dX5_readWatch_19 ?_
  have hP : va_P D vwCl (List.flatten (wReader aU C us_3 ua ++ (wRail aR C (va_up rs 8 r4) ra))) H := hP
  have hD : va_D A (List.flatten (wReader aU C us_3 ua ++ (wRail aR C (va_up rs 8 r4) ra))) := hD
  refine cGoV (wo := fun u => wReader aU C u ua ++ (wRail aR C (va_up rs 8 r4) ra)) (cRunVS (As := [.ref qc5]) (rest := []) (X1.ok ([97, 100, 100, 115]) qc5) ⟨hZ, h_qc5⟩ hS hA ⟨hx, hb, hml, hown, hw⟩ hK hN hP hD [0, 1] rfl rfl (k_X5_readWord l D C _ aU  us_3 ua ([97, 100, 100, 115]) qc5 h) (cwV 1 hw (goodV mw_2_217 mw_2_219 mw_s8 mw_1_2 mw_2_220) rfl rfl rfl (by decide +kernel) ⟨Nat.le_of_ble_eq_true rfl, Nat.le_of_ble_eq_true rfl⟩) rfl rfl rfl hl.1 rfl (Nat.le_of_ble_eq_true rfl) dX5_readWatch_21 ⟨Nat.zero_le _, Nat.zero_le _⟩) hP hD hS hA [0, 1] [2, 3, 4, 5, 6, 7] [6, 7, 0, 1, 2, 3, 4, 5] rfl rfl rfl (by decide) rfl (fun _ => rfl) (fun us_6 H locs h hP hD hS => ?_)
  have hP : va_P D vwCl (List.flatten (wReader aU C us_6 ua ++ (wRail aR C (va_up rs 8 r4) ra))) H := hP
  have hD : va_D A (List.flatten (wReader aU C us_6 ua ++ (wRail aR C (va_up rs 8 r4) ra))) := hD
  refine lv_aload_n hx hb dX5_readWatch_24 rfl (lv_at hl 1 rfl) ?_
  refine lv_aload_n hx hb dX5_readWatch_25 rfl (lv_at hl 0 rfl) ?_
  refine lv_iconst (v := 0) hx hb dX5_readWatch_26 (by decide) ?_
  refine lv_bipush (v := 99) hx hb dX5_readWatch_27 (by decide) ?_
  refine cGoI (wo := fun u => wReader aU C u ua ++ (wRail aR C (va_up rs 8 r4) ra)) (cRunV (As := [.int 0, .int 99]) (rest := [.ref (aR 0)]) ⟨hx, hb, hml, hown, hw⟩ hK hN hP hD [0, 1] rfl rfl (k_X5_readNumber l D C _ aU  us_6 ua 0 99 h) (cwV 2 hw (goodV mw_3_39 mw_3_41 mw_s11 mw_1_2 mw_3_42) rfl rfl rfl (by decide +kernel) ⟨Nat.le_of_ble_eq_true rfl, Nat.le_of_ble_eq_true rfl⟩) rfl rfl rfl hl.1 rfl (Nat.le_of_ble_eq_true rfl) dX5_readWatch_29 ⟨Nat.zero_le _, Nat.zero_le _⟩) hP hD hS hA [0, 1] [2, 3, 4, 5, 6, 7] [6, 7, 0, 1, 2, 3, 4, 5] rfl rfl rfl (by decide) rfl (fun _ => rfl) (fun r8 us_7 H locs h hP hD hS => ?_)
  have hP : va_P D vwCl (List.flatten (wReader aU C us_7 ua ++ (wRail aR C (va_up rs 8 r4) ra))) H := hP
  have hD : va_D A (List.flatten (wReader aU C us_7 ua ++ (wRail aR C (va_up rs 8 r4) ra))) := hD
  refine va_putN (D := D) (ci := 4) (v := .int r8) (ty := .int) (C := RX4) (T := TX4) (N := 16) hx hb hw inW_X4 tyX4 tyX4_ok nmX4 hown hK hP hD hS 3 rfl rfl 13 (by decide) hn215 (fun _ h9 => h9) rfl (by decide +kernel) rfl rfl (Nat.le_of_ble_eq_true rfl) dX5_readWatch_32 (fun H locs hP hD hS => ?_)
  refine lv_aload_n hx hb dX5_readWatch_35 rfl (lv_at hl 1 rfl) ?_
  refine lv_iconst (v := 1) hx hb dX5_readWatch_36 (by decide) ?_
  refine va_putN (D := D) (ci := 4) (v := .int 1) (ty := .boolean) (C := RX4) (T := TX4) (N := 16) hx hb hw inW_X4 tyX4 tyX4_ok nmX4 hown hK hP hD hS 3 rfl rfl 11 (by decide) hn115 (fun _ h9 => h9) rfl (by decide +kernel) rfl rfl (Nat.le_of_ble_eq_true rfl) dX5_readWatch_37 (fun H locs hP hD hS => ?_)
  have hP : va_P D vwCl (List.flatten (wReader aU C us_7 ua ++ (wRail aR C (va_up (va_up (va_up rs 7 1) 8 r4) 9 r8) ra))) H := hP
  have hD : va_D A (List.flatten (wReader aU C us_7 ua ++ (wRail aR C (va_up (va_up (va_up rs 7 1) 8 r4) 9 r8) ra))) := hD
  rw [← hQ]
  exact cRetV (us_7, (va_up (va_up (va_up rs 7 1) 8 r4) 9 r8)) hx hb hr hlocks hS hP hD h dX5_readWatch_40
