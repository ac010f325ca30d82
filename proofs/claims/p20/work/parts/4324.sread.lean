abbrev vsX8_isWord : List Cond := Cond.code yX8_isWord cX8_isWord 3 (some .boolean) :: WS
abbrev rmX8_isWord : Room := { frames := 4, cells := 0, slots := 0, locals := 85 }
set_option maxHeartbeats 4000000 in
set_option maxRecDepth 100000 in
theorem k_X8_isWord (l : Launch) (D : va_G) (C : Nat → ClassId) (sz : Nat) (a0 : Nat) (a1 : Nat)  (a_bytes : Nat → Int32) (a_length : Int32) (a_spot : Int32) (a_behind : Int32) (a_kind : Int32) (a_number : Int32) (p1 : List Int32) (qp1 : Nat) {post : Int32 → Prop} (h : P_X8_isWord a_bytes a_spot a_behind a_kind p1 post) : Met l yX8_isWord vsX8_isWord rmX8_isWord (cPreS D C [.ref a0, .ref qp1] sz ([cTape a0 a1 C a_bytes a_length a_spot a_behind a_kind a_number]) (X1 p1 qp1)) (cQi D (fun (r : Int32) (u : Unit) => post r ) (fun u => [cTape a0 a1 C a_bytes a_length a_spot a_behind a_kind a_number]) (va_A (List.flatten ([cTape a0 a1 C a_bytes a_length a_spot a_behind a_kind a_number])) sz)) 0 0 (va_A (List.flatten ([cTape a0 a1 C a_bytes a_length a_spot a_behind a_kind a_number])) sz) := by
  refine cStartS (QA := fun A => cQi D (fun (r : Int32) (u : Unit) => post r ) (fun u => [cTape a0 a1 C a_bytes a_length a_spot a_behind a_kind a_number]) A) (cc := cX8_isWord) (maxL := 3) (ret := (some .boolean)) (by decide) (Nat.le_of_ble_eq_true rfl) ?_
  intro p e s m args below meth c A ls hx hb hr hml hown hw hlocks hname hK hN hA hP hD hS hl hX
  generalize hQ : MQ below _ args s 0 0 A = Q
  have hl : lv_has ls 3 [(0, .ref a0), (1, .ref qp1)] := hl
  obtain ⟨hZ, h_qp1⟩ := hX
  obtain ⟨H, hH⟩ : ∃ H, H = s.heap := ⟨_, rfl⟩
  obtain ⟨locs, hlo⟩ : ∃ z : List Loc, z = [] := ⟨_, rfl⟩
  have hP : va_P D vwCl (List.flatten ([cTape a0 a1 C a_bytes a_length a_spot a_behind a_kind a_number])) H := by rw [hH]; exact hP
  have hS : va_S A s.heap H locs := by rw [hH, hlo]; exact hS
  rw [show W p l e rmX8_isWord s m args below meth c s.heap [] 0 0 Q (F0 m 0 ls []) = W p l e rmX8_isWord s m args below meth c H locs 0 0 Q (F0 m 0 ls []) from by rw [hH, hlo]]
  have N28 : ∀  (n28 : Nat) (x2_ : Int32) (H : Heap) (locs : List Loc) (ls : Array Slot), P_X8_isWord_28 a_bytes a_spot a_behind a_kind p1 post   n28 x2_ → va_P D vwCl (List.flatten ([cTape a0 a1 C a_bytes a_length a_spot a_behind a_kind a_number])) H → va_D A (List.flatten ([cTape a0 a1 C a_bytes a_length a_spot a_behind a_kind a_number])) → va_S A s.heap H locs → lv_has ls 3 [(0, .ref a0), (1, .ref qp1), (2, .int x2_)] → W p l e rmX8_isWord s m args below meth c H locs 0 0 Q (F0 m 28 ls []) := by
    intro n28
    induction n28 with
    | zero => intro x2_ H locs ls h hP hD hS hl; exact False.elim h
    | succ n28 ih28 =>
      intro x2_ H locs ls h hP hD hS hl
      refine lv_iload_n hx hb dX8_isWord_28 rfl (lv_at hl 2 rfl) ?_
      refine lv_aload_n hx hb dX8_isWord_29 rfl (lv_at hl 1 rfl) ?_
      refine cGoI (wo := fun u => [cTape a0 a1 C a_bytes a_length a_spot a_behind a_kind a_number]) (cRunVQ (X := X1 p1 qp1) (As := []) (rest := [.int x2_]) (X1.ok _ _) ⟨hZ, h_qp1⟩ hS hA ⟨hx, hb, hml, hown, hw⟩ hK hN h_qp1.2.1 (k_J0_length l D C _ p1 qp1) (cwV 0 hw (goodV mw_2_225 mw_2_226 mw_2_227 mw_1_15 mw_2_228) rfl rfl rfl (by decide +kernel) ⟨Nat.le_of_ble_eq_true rfl, Nat.le_of_ble_eq_true rfl⟩) rfl hl.1 rfl (Nat.le_of_ble_eq_true rfl) dX8_isWord_30 ⟨Nat.zero_le _, Nat.zero_le _⟩) hP hD hS hA [] [0] [0] rfl rfl rfl (by decide) rfl (fun _ => rfl) (fun r1 u H locs er1 hP hD hS => ?_)
      obtain rfl : r1 = Int32.ofNat p1.length := er1
      refine lv_icmp_ge (tgt := 63) hx hb dX8_isWord_33 (by decide) (fun c2 => ?_) (fun c2 => ?_)
      · have h := h.1 c2
        refine lv_iconst (v := 1) hx hb dX8_isWord_63 (by decide) ?_
        rw [← hQ]
        exact cRetZ (v := 1) () hx hb hr hlocks hS hP hD (Or.inr rfl) h dX8_isWord_64
      · have h := h.2 c2
        refine lv_aload_n hx hb dX8_isWord_36 rfl (lv_at hl 0 rfl) ?_
        refine va_get (D := D) (ci := 8) (v := .ref a1) (C := RX8) (T := TX8) (N := 6) hx hb hw inW_X8 hown hK hP 0 rfl rfl 0 (by decide) (hw _ mw_1_41) (fun _ h9 => h9) rfl dX8_isWord_37 ?_
        refine lv_aload_n hx hb dX8_isWord_40 rfl (lv_at hl 0 rfl) ?_
        refine va_get (D := D) (ci := 8) (v := .int a_spot) (C := RX8) (T := TX8) (N := 6) hx hb hw inW_X8 hown hK hP 0 rfl rfl 2 (by decide) (hw _ mw_1_44) (fun _ h9 => h9) rfl dX8_isWord_41 ?_
        refine lv_iload_n hx hb dX8_isWord_44 rfl (lv_at hl 2 rfl) ?_
        refine lv_iadd hx hb dX8_isWord_45 ?_
        refine cBald hx hb hK hP 1 2 rfl rfl ((a_spot + x2_).toNatClampNeg) rfl h.1 dX8_isWord_46 ?_
        have h := h.2
        refine lv_aload_n hx hb dX8_isWord_47 rfl (lv_at hl 1 rfl) ?_
        refine lv_iload_n hx hb dX8_isWord_48 rfl (lv_at hl 2 rfl) ?_
        refine cGoI (wo := fun u => [cTape a0 a1 C a_bytes a_length a_spot a_behind a_kind a_number]) (cRunVQ (X := X1 p1 qp1) (As := [.int x2_]) (rest := [.int (a_bytes ((a_spot + x2_).toNatClampNeg))]) (X1.ok _ _) ⟨hZ, h_qp1⟩ hS hA ⟨hx, hb, hml, hown, hw⟩ hK hN h_qp1.2.1 (k_J0_charAt l D C _ p1 qp1 x2_ h.1) (cwV 1 hw (goodV mw_2_235 mw_2_236 mw_2_237 mw_1_15 mw_2_238) rfl rfl rfl (by decide +kernel) ⟨Nat.le_of_ble_eq_true rfl, Nat.le_of_ble_eq_true rfl⟩) rfl hl.1 rfl (Nat.le_of_ble_eq_true rfl) dX8_isWord_49 ⟨Nat.zero_le _, Nat.zero_le _⟩) hP hD hS hA [] [0] [0] rfl rfl rfl (by decide) rfl (fun _ => rfl) (fun r3 u H locs er3 hP hD hS => ?_)
        obtain rfl : r3 = p1.getD x2_.toNatClampNeg 0 := er3
        have h := h.2
        refine lv_icmp_eq (tgt := 57) hx hb dX8_isWord_52 (by decide) (fun c4 => ?_) (fun c4 => ?_)
        · have h := h.1 c4
          refine lv_iinc (v := (x2_ + 1)) (lv' := [(2, .int (x2_ + 1)), (0, .ref a0), (1, .ref qp1)]) hx hb dX8_isWord_57 hl (k := 2) rfl rfl (by decide) rfl (fun ls hl => ?_)
          refine lv_goto (tgt := 28) hx hb dX8_isWord_60 (by decide) ?_
          exact ih28 (x2_ + 1) _ _ _ h hP hD hS (lv_sub hl [1, 2, 0] rfl)
        · have h := h.2 c4
          refine lv_iconst (v := 0) hx hb dX8_isWord_55 (by decide) ?_
          rw [← hQ]
          exact cRetZ (v := 0) () hx hb hr hlocks hS hP hD (Or.inl rfl) h dX8_isWord_56
  refine lv_aload_n hx hb dX8_isWord_0 rfl (lv_at hl 0 rfl) ?_
  refine va_get (D := D) (ci := 8) (v := .int a_kind) (C := RX8) (T := TX8) (N := 6) hx hb hw inW_X8 hown hK hP 0 rfl rfl 4 (by decide) (hw _ mw_1_48) (fun _ h9 => h9) rfl dX8_isWord_1 ?_
  refine lv_iconst (v := 1) hx hb dX8_isWord_4 (by decide) ?_
  refine lv_icmp_ne (tgt := 24) hx hb dX8_isWord_5 (by decide) (fun c5 => ?_) (fun c5 => ?_)
  · have h := h.1 c5
    refine lv_iconst (v := 0) hx hb dX8_isWord_24 (by decide) ?_
    rw [← hQ]
    exact cRetZ (v := 0) () hx hb hr hlocks hS hP hD (Or.inl rfl) h dX8_isWord_25
  · have h := h.2 c5
    refine lv_aload_n hx hb dX8_isWord_8 rfl (lv_at hl 0 rfl) ?_
    refine va_get (D := D) (ci := 8) (v := .int a_behind) (C := RX8) (T := TX8) (N := 6) hx hb hw inW_X8 hown hK hP 0 rfl rfl 3 (by decide) (hw _ mw_1_46) (fun _ h9 => h9) rfl dX8_isWord_9 ?_
    refine lv_aload_n hx hb dX8_isWord_12 rfl (lv_at hl 0 rfl) ?_
    refine va_get (D := D) (ci := 8) (v := .int a_spot) (C := RX8) (T := TX8) (N := 6) hx hb hw inW_X8 hown hK hP 0 rfl rfl 2 (by decide) (hw _ mw_1_44) (fun _ h9 => h9) rfl dX8_isWord_13 ?_
    refine lv_isub hx hb dX8_isWord_16 ?_
    refine lv_aload_n hx hb dX8_isWord_17 rfl (lv_at hl 1 rfl) ?_
    refine cGoI (wo := fun u => [cTape a0 a1 C a_bytes a_length a_spot a_behind a_kind a_number]) (cRunVQ (X := X1 p1 qp1) (As := []) (rest := [.int (a_behind - a_spot)]) (X1.ok _ _) ⟨hZ, h_qp1⟩ hS hA ⟨hx, hb, hml, hown, hw⟩ hK hN h_qp1.2.1 (k_J0_length l D C _ p1 qp1) (cwV 0 hw (goodV mw_2_225 mw_2_226 mw_2_227 mw_1_15 mw_2_228) rfl rfl rfl (by decide +kernel) ⟨Nat.le_of_ble_eq_true rfl, Nat.le_of_ble_eq_true rfl⟩) rfl hl.1 rfl (Nat.le_of_ble_eq_true rfl) dX8_isWord_18 ⟨Nat.zero_le _, Nat.zero_le _⟩) hP hD hS hA [] [0] [0] rfl rfl rfl (by decide) rfl (fun _ => rfl) (fun r6 u H locs er6 hP hD hS => ?_)
    obtain rfl : r6 = Int32.ofNat p1.length := er6
    refine lv_icmp_eq (tgt := 26) hx hb dX8_isWord_21 (by decide) (fun c7 => ?_) (fun c7 => ?_)
    · have h := h.1 c7
      refine lv_iconst (v := 0) hx hb dX8_isWord_26 (by decide) ?_
      refine lv_istore_n (lv' := [(2, .int 0), (0, .ref a0), (1, .ref qp1)]) hx hb dX8_isWord_27 rfl hl (by decide) rfl (fun ls hl => ?_)
      obtain ⟨n, h⟩ := h
      exact N28  n 0 _ _ _ h hP hD hS (lv_sub hl [1, 2, 0] rfl)
    · have h := h.2 c7
      refine lv_iconst (v := 0) hx hb dX8_isWord_24 (by decide) ?_
      rw [← hQ]
      exact cRetZ (v := 0) () hx hb hr hlocks hS hP hD (Or.inl rfl) h dX8_isWord_25
abbrev vsX5_readWord : List Cond := Cond.code yX5_readWord cX5_readWord 2 none :: WS
abbrev rmX5_readWord : Room := { frames := 5, cells := 0, slots := 0, locals := 107 }
set_option maxHeartbeats 4000000 in
set_option maxRecDepth 100000 in
theorem k_X5_readWord (l : Launch) (D : va_G) (C : Nat → ClassId) (sz : Nat) (aU : Nat → Nat)  (us : Nat → Int32) (ua : Nat → Nat → Int32) (p1 : List Int32) (qp1 : Nat) {post : (Nat → Int32) → Prop} (h : P_X5_readWord us ua p1 post) : Met l yX5_readWord vsX5_readWord rmX5_readWord (cPreS D C [.ref (aU 0), .ref qp1] sz (wReader aU C us ua) (X1 p1 qp1)) (cQv D (fun (u : (Nat → Int32)) => post u) (fun u => wReader aU C u ua) (va_A (List.flatten (wReader aU C us ua)) sz)) 0 0 (va_A (List.flatten (wReader aU C us ua)) sz) := by
  refine cStartS (QA := fun A => cQv D (fun (u : (Nat → Int32)) => post u) (fun u => wReader aU C u ua) A) (cc := cX5_readWord) (maxL := 2) (ret := none) (by decide) (Nat.le_of_ble_eq_true rfl) ?_
  intro p e s m args below meth c A ls hx hb hr hml hown hw hlocks hname hK hN hA hP hD hS hl hX
  generalize hQ : MQ below _ args s 0 0 A = Q
  have hl : lv_has ls 2 [(0, .ref (aU 0)), (1, .ref qp1)] := hl
  obtain ⟨hZ, h_qp1⟩ := hX
  obtain ⟨H, hH⟩ : ∃ H, H = s.heap := ⟨_, rfl⟩
  obtain ⟨locs, hlo⟩ : ∃ z : List Loc, z = [] := ⟨_, rfl⟩
  have hP : va_P D vwCl (List.flatten (wReader aU C us ua)) H := by rw [hH]; exact hP
  have hS : va_S A s.heap H locs := by rw [hH, hlo]; exact hS
  rw [show W p l e rmX5_readWord s m args below meth c s.heap [] 0 0 Q (F0 m 0 ls []) = W p l e rmX5_readWord s m args below meth c H locs 0 0 Q (F0 m 0 ls []) from by rw [hH, hlo]]
  have N28 : ∀ (us : Nat → Int32) (H : Heap) (locs : List Loc) (ls : Array Slot), P_X5_readWord_28 ua p1 post  us → va_P D vwCl (List.flatten (wReader aU C us ua)) H → va_D A (List.flatten (wReader aU C us ua)) → va_S A s.heap H locs → lv_has ls 2 [(0, .ref (aU 0))] → W p l e rmX5_readWord s m args below meth c H locs 0 0 Q (F0 m 28 ls []) := by
    intro us H locs ls h hP hD hS hl
    refine lv_aload_n hx hb dX5_readWord_28 rfl (lv_at hl 0 rfl) ?_
    refine lv_iconst (v := 1) hx hb dX5_readWord_29 (by decide) ?_
    refine cGoAV (cRunAV (As := [.int 1]) (rest := []) ⟨hx, hb, hml, hown, hw⟩ hK hN hP hD (k_X5_fail l D C _ aU  us ua 1 h) (cwV 1 hw (goodV mw_3_34 mw_3_36 mw_s10 mw_1_2 mw_3_37) rfl rfl rfl (by decide +kernel) ⟨Nat.le_of_ble_eq_true rfl, Nat.le_of_ble_eq_true rfl⟩) rfl rfl rfl hl.1 rfl (Nat.le_of_ble_eq_true rfl) dX5_readWord_30 ⟨Nat.zero_le _, Nat.zero_le _⟩) hP hD hS hA (fun us_1 H locs h hP hD hS => ?_)
    have hP : va_P D vwCl (List.flatten (wReader aU C us_1 ua)) H := hP
    have hD : va_D A (List.flatten (wReader aU C us_1 ua)) := hD
    rw [← hQ]
    exact cRetV (us_1) hx hb hr hlocks hS hP hD h dX5_readWord_33
  refine lv_aload_n hx hb dX5_readWord_0 rfl (lv_at hl 0 rfl) ?_
  refine va_get (D := D) (ci := 5) (v := .int (us 0)) (C := RX5) (T := TX5) (N := 3) hx hb hw inW_X5 hown hK hP 0 rfl rfl 1 (by decide) (hw _ mw_1_67) (fun _ h9 => h9) rfl dX5_readWord_1 ?_
  refine lv_if_ne (tgt := 28) hx hb dX5_readWord_4 (by decide) (fun c2 => ?_) (fun c2 => ?_)
  · have h := h.1 c2
    exact N28 us _ _ _ h hP hD hS (lv_sub hl [0] rfl)
  · have h := h.2 c2
    refine lv_aload_n hx hb dX5_readWord_7 rfl (lv_at hl 0 rfl) ?_
    refine va_get (D := D) (ci := 5) (v := .ref (aU 1)) (C := RX5) (T := TX5) (N := 3) hx hb hw inW_X5 hown hK hP 0 rfl rfl 0 (by decide) (hw _ mw_1_65) (fun _ h9 => h9) rfl dX5_readWord_8 ?_
    refine lv_aload_n hx hb dX5_readWord_11 rfl (lv_at hl 1 rfl) ?_
    refine cGoI (wo := fun u => wReader aU C us ua) (cRunVNS (As := [.ref qp1]) (rest := []) (X1.ok p1 qp1) ⟨hZ, h_qp1⟩ hS hA ⟨hx, hb, hml, hown, hw⟩ hK hN hP hD [1] rfl rfl (k_X8_isWord l D C _ (aU 1) (aU 2)  (ua 0) (us 2) (us 3) (us 4) (us 5) (us 6) p1 qp1 h) ⟨va_cnB 1 hw (goodN mw_2_224) rfl rfl rfl (hN.m 16 rfl) (hw _ mw_1_3) (by decide +kernel) ⟨Nat.le_of_ble_eq_true rfl, Nat.le_of_ble_eq_true rfl⟩, hw _ mw_2_223, hw _ mw_s9⟩ rfl rfl rfl hl.1 rfl (Nat.le_of_ble_eq_true rfl) dX5_readWord_12 ⟨Nat.zero_le _, Nat.zero_le _⟩) hP hD hS hA [1] [0] [0, 1] rfl rfl rfl (by decide) rfl (fun _ => rfl) (fun r3 u H locs h hP hD hS => ?_)
    have hP : va_P D vwCl (List.flatten (wReader aU C us ua)) H := hP
    have hD : va_D A (List.flatten (wReader aU C us ua)) := hD
    refine lv_if_eq (tgt := 28) hx hb dX5_readWord_15 (by decide) (fun c4 => ?_) (fun c4 => ?_)
    · have h := h.1 c4
      exact N28 us _ _ _ h hP hD hS (lv_sub hl [0] rfl)
    · have h := h.2 c4
      refine lv_aload_n hx hb dX5_readWord_18 rfl (lv_at hl 0 rfl) ?_
      refine va_get (D := D) (ci := 5) (v := .ref (aU 1)) (C := RX5) (T := TX5) (N := 3) hx hb hw inW_X5 hown hK hP 0 rfl rfl 0 (by decide) (hw _ mw_1_65) (fun _ h9 => h9) rfl dX5_readWord_19 ?_
      refine cGoV (wo := fun u => wReader aU C (va_up (va_up (va_up (va_up us 3 u.1) 4 u.2.1) 5 u.2.2.1) 6 u.2.2.2) ua) (cRunVN (As := []) (rest := []) ⟨hx, hb, hml, hown, hw⟩ hK hN hP hD [1] rfl rfl (k_X8_step l D C _ (aU 1) (aU 2)  (ua 0) (us 2) (us 3) (us 4) (us 5) (us 6)  h) ⟨va_cnB 0 hw (goodN mw_2_199) rfl rfl rfl (hN.m 17 rfl) (hw _ mw_1_3) (by decide +kernel) ⟨Nat.le_of_ble_eq_true rfl, Nat.le_of_ble_eq_true rfl⟩, hw _ mw_2_198, hw _ mw_s4⟩ rfl rfl rfl hl.1 rfl (Nat.le_of_ble_eq_true rfl) dX5_readWord_22 ⟨Nat.zero_le _, Nat.zero_le _⟩) hP hD hS hA [1] [0] [0, 1] rfl rfl rfl (by decide) rfl (fun _ => rfl) (fun u H locs h hP hD hS => ?_)
      obtain ⟨spo_5, beh_6, kin_7, num_8⟩ := u
      have hP : va_P D vwCl (List.flatten (wReader aU C (va_up (va_up (va_up (va_up us 3 spo_5) 4 beh_6) 5 kin_7) 6 num_8) ua)) H := hP
      have hD : va_D A (List.flatten (wReader aU C (va_up (va_up (va_up (va_up us 3 spo_5) 4 beh_6) 5 kin_7) 6 num_8) ua)) := hD
      refine lv_goto (tgt := 33) hx hb dX5_readWord_25 (by decide) ?_
      rw [← hQ]
      exact cRetV ((va_up (va_up (va_up (va_up us 3 spo_5) 4 beh_6) 5 kin_7) 6 num_8)) hx hb hr hlocks hS hP hD h dX5_readWord_33
abbrev vsX5_readRail : List Cond := Cond.code yX5_readRail cX5_readRail 2 none :: WS
abbrev rmX5_readRail : Room := { frames := 6, cells := 0, slots := 0, locals := 128 }
set_option maxHeartbeats 4000000 in
set_option maxRecDepth 100000 in
theorem k_X5_readRail (l : Launch) (D : va_G) (C : Nat → ClassId) (sz : Nat) (aU : Nat → Nat) (aR : Nat → Nat)  (us : Nat → Int32) (ua : Nat → Nat → Int32) (rs : Nat → Int32) (ra : Nat → Nat → Int32)  {post : (Nat → Int32) → (Nat → Int32) → Prop} (h : P_X5_readRail us ua rs post) : Met l yX5_readRail vsX5_readRail rmX5_readRail (cPreS D C [.ref (aU 0), .ref (aR 0)] sz (wReader aU C us ua ++ (wRail aR C rs ra)) sAll) (cQv D (fun (u : (Nat → Int32) × (Nat → Int32)) => post u.1 u.2) (fun u => wReader aU C u.1 ua ++ (wRail aR C u.2 ra)) (va_A (List.flatten (wReader aU C us ua ++ (wRail aR C rs ra))) sz)) 0 0 (va_A (List.flatten (wReader aU C us ua ++ (wRail aR C rs ra))) sz) := by
  refine cStartS (QA := fun A => cQv D (fun (u : (Nat → Int32) × (Nat → Int32)) => post u.1 u.2) (fun u => wReader aU C u.1 ua ++ (wRail aR C u.2 ra)) A) (cc := cX5_readRail) (maxL := 2) (ret := none) (by decide) (Nat.le_of_ble_eq_true rfl) ?_
  intro p e s m args below meth c A ls hx hb hr hml hown hw hlocks hname hK hN hA hP hD hS hl hX
  generalize hQ : MQ below _ args s 0 0 A = Q
  have hl : lv_has ls 2 [(0, .ref (aU 0)), (1, .ref (aR 0))] := hl
  have hZ : sAll A s s.heap := hX
  have hn143 : (Cond.fieldLinkNest "LockRail$Reader" 143 "LockRail$Rail" "places" "I" "LockRail").before args s = true := hN.f 48 rfl
  have hn147 : (Cond.fieldLinkNest "LockRail$Reader" 147 "LockRail$Rail" "nights" "I" "LockRail").before args s = true := hN.f 50 rfl
  obtain ⟨H, hH⟩ : ∃ H, H = s.heap := ⟨_, rfl⟩
  obtain ⟨locs, hlo⟩ : ∃ z : List Loc, z = [] := ⟨_, rfl⟩
  have hP : va_P D vwCl (List.flatten (wReader aU C us ua ++ (wRail aR C rs ra))) H := by rw [hH]; exact hP
  have hS : va_S A s.heap H locs := by rw [hH, hlo]; exact hS
  rw [show W p l e rmX5_readRail s m args below meth c s.heap [] 0 0 Q (F0 m 0 ls []) = W p l e rmX5_readRail s m args below meth c H locs 0 0 Q (F0 m 0 ls []) from by rw [hH, hlo]]
  refine lv_aload_n hx hb dX5_readRail_0 rfl (lv_at hl 0 rfl) ?_
  obtain ⟨qc1, hR_qc1, h_qc1⟩ := hZ.1 (131, "rail", [114, 97, 105, 108]) (List.mem_of_getElem? (i := 0) rfl)
  have h_qc1 : sAt A s s.heap [114, 97, 105, 108] qc1 := h_qc1
  refine va_ldcS hx hb hown hR_qc1 dX5_readRail_1 ?_
  refine gs_V8_18 (cRunVS (As := [.ref qc1]) (rest := []) (X1.ok ([114, 97, 105, 108]) qc1) ⟨hZ, h_qc1⟩ hS hA ⟨hx, hb, hml, hown, hw⟩ hK hN hP hD [0, 1] rfl rfl (k_X5_readWord l D C _ aU  us ua ([114, 97, 105, 108]) qc1 h) (cwV 1 hw (goodV mw_2_217 mw_2_219 mw_s8 mw_1_2 mw_2_220) rfl rfl rfl (by decide +kernel) ⟨Nat.le_of_ble_eq_true rfl, Nat.le_of_ble_eq_true rfl⟩) rfl rfl rfl hl.1 rfl (Nat.le_of_ble_eq_true rfl) dX5_readRail_3 ⟨Nat.zero_le _, Nat.zero_le _⟩) hP hD hS hA (fun us_2 H locs h hP hD hS => ?_)
  have hP : va_P D vwCl (List.flatten (wReader aU C us_2 ua ++ (wRail aR C rs ra))) H := hP
  have hD : va_D A (List.flatten (wReader aU C us_2 ua ++ (wRail aR C rs ra))) := hD
  refine lv_aload_n hx hb dX5_readRail_6 rfl (lv_at hl 0 rfl) ?_
  obtain ⟨qc3, hR_qc3, h_qc3⟩ := hZ.1 (137, "places", [112, 108, 97, 99, 101, 115]) (List.mem_of_getElem? (i := 1) rfl)
  have h_qc3 : sAt A s s.heap [112, 108, 97, 99, 101, 115] qc3 := h_qc3
  refine va_ldcS hx hb hown hR_qc3 dX5_readRail_7 ?_
  refine gs_V8_18 (cRunVS (As := [.ref qc3]) (rest := []) (X1.ok ([112, 108, 97, 99, 101, 115]) qc3) ⟨hZ, h_qc3⟩ hS hA ⟨hx, hb, hml, hown, hw⟩ hK hN hP hD [0, 1] rfl rfl (k_X5_readWord l D C _ aU  us_2 ua ([112, 108, 97, 99, 101, 115]) qc3 h) (cwV 1 hw (goodV mw_2_217 mw_2_219 mw_s8 mw_1_2 mw_2_220) rfl rfl rfl (by decide +kernel) ⟨Nat.le_of_ble_eq_true rfl, Nat.le_of_ble_eq_true rfl⟩) rfl rfl rfl hl.1 rfl (Nat.le_of_ble_eq_true rfl) dX5_readRail_9 ⟨Nat.zero_le _, Nat.zero_le _⟩) hP hD hS hA (fun us_4 H locs h hP hD hS => ?_)
  have hP : va_P D vwCl (List.flatten (wReader aU C us_4 ua ++ (wRail aR C rs ra))) H := hP
  have hD : va_D A (List.flatten (wReader aU C us_4 ua ++ (wRail aR C rs ra))) := hD
  refine lv_aload_n hx hb dX5_readRail_12 rfl (lv_at hl 1 rfl) ?_
  refine lv_aload_n hx hb dX5_readRail_13 rfl (lv_at hl 0 rfl) ?_
  refine lv_iconst (v := 1) hx hb dX5_readRail_14 (by decide) ?_
  refine lv_bipush (v := 20) hx hb dX5_readRail_15 (by decide) ?_
  refine gs_I8_19 (rs_V8_18 (As := [.int 1, .int 20]) (rest := [.ref (aR 0)]) ⟨hx, hb, hml, hown, hw⟩ hK hN hP hD (k_X5_readNumber l D C _ aU  us_4 ua 1 20 h) (cwV 2 hw (goodV mw_3_39 mw_3_41 mw_s11 mw_1_2 mw_3_42) rfl rfl rfl (by decide +kernel) ⟨Nat.le_of_ble_eq_true rfl, Nat.le_of_ble_eq_true rfl⟩) rfl rfl rfl hl.1 rfl (Nat.le_of_ble_eq_true rfl) dX5_readRail_17 ⟨Nat.zero_le _, Nat.zero_le _⟩) hP hD hS hA (fun r6 us_5 H locs h hP hD hS => ?_)
  have hP : va_P D vwCl (List.flatten (wReader aU C us_5 ua ++ (wRail aR C rs ra))) H := hP
  have hD : va_D A (List.flatten (wReader aU C us_5 ua ++ (wRail aR C rs ra))) := hD
  refine va_putN (D := D) (ci := 4) (v := .int r6) (ty := .int) (C := RX4) (T := TX4) (N := 16) hx hb hw inW_X4 tyX4 tyX4_ok nmX4 hown hK hP hD hS 3 rfl rfl 0 (by decide) hn143 (fun _ h9 => h9) rfl (by decide +kernel) rfl rfl (Nat.le_of_ble_eq_true rfl) dX5_readRail_20 (fun H locs hP hD hS => ?_)
  refine lv_aload_n hx hb dX5_readRail_23 rfl (lv_at hl 0 rfl) ?_
  obtain ⟨qc7, hR_qc7, h_qc7⟩ := hZ.1 (145, "nights", [110, 105, 103, 104, 116, 115]) (List.mem_of_getElem? (i := 2) rfl)
  have h_qc7 : sAt A s s.heap [110, 105, 103, 104, 116, 115] qc7 := h_qc7
  refine va_ldcS hx hb hown hR_qc7 dX5_readRail_24 ?_
  have hP : va_P D vwCl (List.flatten (wReader aU C us_5 ua ++ (wRail aR C (va_up rs 0 r6) ra))) H := hP
  have hD : va_D A (List.flatten (wReader aU C us_5 ua ++ (wRail aR C (va_up rs 0 r6) ra))) := hD
  refine gs_V8_18 (cRunVS (As := [.ref qc7]) (rest := []) (X1.ok ([110, 105, 103, 104, 116, 115]) qc7) ⟨hZ, h_qc7⟩ hS hA ⟨hx, hb, hml, hown, hw⟩ hK hN hP hD [0, 1] rfl rfl (k_X5_readWord l D C _ aU  us_5 ua ([110, 105, 103, 104, 116, 115]) qc7 h) (cwV 1 hw (goodV mw_2_217 mw_2_219 mw_s8 mw_1_2 mw_2_220) rfl rfl rfl (by decide +kernel) ⟨Nat.le_of_ble_eq_true rfl, Nat.le_of_ble_eq_true rfl⟩) rfl rfl rfl hl.1 rfl (Nat.le_of_ble_eq_true rfl) dX5_readRail_26 ⟨Nat.zero_le _, Nat.zero_le _⟩) hP hD hS hA (fun us_8 H locs h hP hD hS => ?_)
  have hP : va_P D vwCl (List.flatten (wReader aU C us_8 ua ++ (wRail aR C (va_up rs 0 r6) ra))) H := hP
  have hD : va_D A (List.flatten (wReader aU C us_8 ua ++ (wRail aR C (va_up rs 0 r6) ra))) := hD
  refine lv_aload_n hx hb dX5_readRail_29 rfl (lv_at hl 1 rfl) ?_
  refine lv_aload_n hx hb dX5_readRail_30 rfl (lv_at hl 0 rfl) ?_
  refine lv_iconst (v := 1) hx hb dX5_readRail_31 (by decide) ?_
  refine lv_bipush (v := 60) hx hb dX5_readRail_32 (by decide) ?_
  refine gs_I8_19 (rs_V8_18 (As := [.int 1, .int 60]) (rest := [.ref (aR 0)]) ⟨hx, hb, hml, hown, hw⟩ hK hN hP hD (k_X5_readNumber l D C _ aU  us_8 ua 1 60 h) (cwV 2 hw (goodV mw_3_39 mw_3_41 mw_s11 mw_1_2 mw_3_42) rfl rfl rfl (by decide +kernel) ⟨Nat.le_of_ble_eq_true rfl, Nat.le_of_ble_eq_true rfl⟩) rfl rfl rfl hl.1 rfl (Nat.le_of_ble_eq_true rfl) dX5_readRail_34 ⟨Nat.zero_le _, Nat.zero_le _⟩) hP hD hS hA (fun r10 us_9 H locs h hP hD hS => ?_)
  have hP : va_P D vwCl (List.flatten (wReader aU C us_9 ua ++ (wRail aR C (va_up rs 0 r6) ra))) H := hP
  have hD : va_D A (List.flatten (wReader aU C us_9 ua ++ (wRail aR C (va_up rs 0 r6) ra))) := hD
  refine va_putN (D := D) (ci := 4) (v := .int r10) (ty := .int) (C := RX4) (T := TX4) (N := 16) hx hb hw inW_X4 tyX4 tyX4_ok nmX4 hown hK hP hD hS 3 rfl rfl 1 (by decide) hn147 (fun _ h9 => h9) rfl (by decide +kernel) rfl rfl (Nat.le_of_ble_eq_true rfl) dX5_readRail_37 (fun H locs hP hD hS => ?_)
  have hP : va_P D vwCl (List.flatten (wReader aU C us_9 ua ++ (wRail aR C (va_up (va_up rs 0 r6) 1 r10) ra))) H := hP
  have hD : va_D A (List.flatten (wReader aU C us_9 ua ++ (wRail aR C (va_up (va_up rs 0 r6) 1 r10) ra))) := hD
  rw [← hQ]
  exact cRetV (us_9, (va_up (va_up rs 0 r6) 1 r10)) hx hb hr hlocks hS hP hD h dX5_readRail_40
abbrev vsX5_readLamp : List Cond := Cond.code yX5_readLamp cX5_readLamp 4 none :: WS
abbrev rmX5_readLamp : Room := { frames := 6, cells := 0, slots := 0, locals := 128 }
set_option maxHeartbeats 4000000 in
set_option maxRecDepth 100000 in
theorem k_X5_readLamp (l : Launch) (D : va_G) (C : Nat → ClassId) (sz : Nat) (aU : Nat → Nat) (aR : Nat → Nat)  (us : Nat → Int32) (ua : Nat → Nat → Int32) (rs : Nat → Int32) (ra : Nat → Nat → Int32)  {post : (Nat → Int32) → (Nat → Int32) → (Nat → Nat → Int32) → Prop} (h : P_X5_readLamp us ua rs ra post) : Met l yX5_readLamp vsX5_readLamp rmX5_readLamp (cPreS D C [.ref (aU 0), .ref (aR 0)] sz (wReader aU C us ua ++ (wRail aR C rs ra)) sAll) (cQv D (fun (u : (Nat → Int32) × (Nat → Int32) × (Nat → Nat → Int32)) => post u.1 u.2.1 u.2.2) (fun u => wReader aU C u.1 ua ++ (wRail aR C u.2.1 u.2.2)) (va_A (List.flatten (wReader aU C us ua ++ (wRail aR C rs ra))) sz)) 0 0 (va_A (List.flatten (wReader aU C us ua ++ (wRail aR C rs ra))) sz) := by
  refine cStartS (QA := fun A => cQv D (fun (u : (Nat → Int32) × (Nat → Int32) × (Nat → Nat → Int32)) => post u.1 u.2.1 u.2.2) (fun u => wReader aU C u.1 ua ++ (wRail aR C u.2.1 u.2.2)) A) (cc := cX5_readLamp) (maxL := 4) (ret := none) (by decide) (Nat.le_of_ble_eq_true rfl) ?_
  intro p e s m args below meth c A ls hx hb hr hml hown hw hlocks hname hK hN hA hP hD hS hl hX
  generalize hQ : MQ below _ args s 0 0 A = Q
  have hl : lv_has ls 4 [(0, .ref (aU 0)), (1, .ref (aR 0))] := hl
  have hZ : sAll A s s.heap := hX
  have hn143 : (Cond.fieldLinkNest "LockRail$Reader" 143 "LockRail$Rail" "places" "I" "LockRail").before args s = true := hN.f 48 rfl
  have hn52 : (Cond.fieldLinkNest "LockRail$Reader" 52 "LockRail$Rail" "lamps" "LLockRail$Lamps;" "LockRail").before args s = true := hN.f 55 rfl
  obtain ⟨H, hH⟩ : ∃ H, H = s.heap := ⟨_, rfl⟩
  obtain ⟨locs, hlo⟩ : ∃ z : List Loc, z = [] := ⟨_, rfl⟩
  have hP : va_P D vwCl (List.flatten (wReader aU C us ua ++ (wRail aR C rs ra))) H := by rw [hH]; exact hP
  have hS : va_S A s.heap H locs := by rw [hH, hlo]; exact hS
  rw [show W p l e rmX5_readLamp s m args below meth c s.heap [] 0 0 Q (F0 m 0 ls []) = W p l e rmX5_readLamp s m args below meth c H locs 0 0 Q (F0 m 0 ls []) from by rw [hH, hlo]]
  refine lv_aload_n hx hb dX5_readLamp_0 rfl (lv_at hl 0 rfl) ?_
  obtain ⟨qc1, hR_qc1, h_qc1⟩ := hZ.1 (149, "at", [97, 116]) (List.mem_of_getElem? (i := 4) rfl)
  have h_qc1 : sAt A s s.heap [97, 116] qc1 := h_qc1
  refine va_ldcS hx hb hown hR_qc1 dX5_readLamp_1 ?_
  refine gs_V8_18 (cRunVS (As := [.ref qc1]) (rest := []) (X1.ok ([97, 116]) qc1) ⟨hZ, h_qc1⟩ hS hA ⟨hx, hb, hml, hown, hw⟩ hK hN hP hD [0, 1] rfl rfl (k_X5_readWord l D C _ aU  us ua ([97, 116]) qc1 h) (cwV 1 hw (goodV mw_2_217 mw_2_219 mw_s8 mw_1_2 mw_2_220) rfl rfl rfl (by decide +kernel) ⟨Nat.le_of_ble_eq_true rfl, Nat.le_of_ble_eq_true rfl⟩) rfl rfl rfl hl.1 rfl (Nat.le_of_ble_eq_true rfl) dX5_readLamp_3 ⟨Nat.zero_le _, Nat.zero_le _⟩) hP hD hS hA (fun us_2 H locs h hP hD hS => ?_)
  have hP : va_P D vwCl (List.flatten (wReader aU C us_2 ua ++ (wRail aR C rs ra))) H := hP
  have hD : va_D A (List.flatten (wReader aU C us_2 ua ++ (wRail aR C rs ra))) := hD
  refine lv_aload_n hx hb dX5_readLamp_6 rfl (lv_at hl 0 rfl) ?_
  refine lv_iconst (v := 0) hx hb dX5_readLamp_7 (by decide) ?_
  refine lv_aload_n hx hb dX5_readLamp_8 rfl (lv_at hl 1 rfl) ?_
  refine va_getN (D := D) (ci := 4) (v := .int (rs 0)) (C := RX4) (T := TX4) (N := 16) hx hb hw inW_X4 hown hK hP 3 rfl rfl 0 (by decide) hn143 (fun _ h9 => h9) rfl dX5_readLamp_9 ?_
  refine lv_iconst (v := 1) hx hb dX5_readLamp_12 (by decide) ?_
  refine lv_isub hx hb dX5_readLamp_13 ?_
  refine gs_I8_19 (rs_V8_18 (As := [.int 0, .int ((rs 0) - 1)]) (rest := []) ⟨hx, hb, hml, hown, hw⟩ hK hN hP hD (k_X5_readNumber l D C _ aU  us_2 ua 0 ((rs 0) - 1) h) (cwV 2 hw (goodV mw_3_39 mw_3_41 mw_s11 mw_1_2 mw_3_42) rfl rfl rfl (by decide +kernel) ⟨Nat.le_of_ble_eq_true rfl, Nat.le_of_ble_eq_true rfl⟩) rfl rfl rfl hl.1 rfl (Nat.le_of_ble_eq_true rfl) dX5_readLamp_14 ⟨Nat.zero_le _, Nat.zero_le _⟩) hP hD hS hA (fun r4 us_3 H locs h hP hD hS => ?_)
  have hP : va_P D vwCl (List.flatten (wReader aU C us_3 ua ++ (wRail aR C rs ra))) H := hP
  have hD : va_D A (List.flatten (wReader aU C us_3 ua ++ (wRail aR C rs ra))) := hD
  refine lv_istore_n (lv' := [(2, .int r4), (0, .ref (aU 0)), (1, .ref (aR 0))]) hx hb dX5_readLamp_17 rfl hl (by decide) rfl (fun ls hl => ?_)
  refine lv_aload_n hx hb dX5_readLamp_18 rfl (lv_at hl 1 rfl) ?_
  obtain ⟨qc5, hR_qc5, h_qc5⟩ := hZ.1 (151, "bright", [98, 114, 105, 103, 104, 116]) (List.mem_of_getElem? (i := 5) rfl)
  have h_qc5 : sAt A s s.heap [98, 114, 105, 103, 104, 116] qc5 := h_qc5
  refine va_ldcS hx hb hown hR_qc5 dX5_readLamp_19 ?_
  refine gs_V8_18 (cRunVS (As := [.ref qc5]) (rest := []) (X1.ok ([98, 114, 105, 103, 104, 116]) qc5) ⟨hZ, h_qc5⟩ hS hA ⟨hx, hb, hml, hown, hw⟩ hK hN hP hD [0, 1] rfl rfl (k_X5_readWord l D C _ aU  us_3 ua ([98, 114, 105, 103, 104, 116]) qc5 h) (cwV 1 hw (goodV mw_2_217 mw_2_219 mw_s8 mw_1_2 mw_2_220) rfl rfl rfl (by decide +kernel) ⟨Nat.le_of_ble_eq_true rfl, Nat.le_of_ble_eq_true rfl⟩) rfl rfl rfl hl.1 rfl (Nat.le_of_ble_eq_true rfl) dX5_readLamp_21 ⟨Nat.zero_le _, Nat.zero_le _⟩) hP hD hS hA (fun us_6 H locs h hP hD hS => ?_)
  have hP : va_P D vwCl (List.flatten (wReader aU C us_6 ua ++ (wRail aR C rs ra))) H := hP
  have hD : va_D A (List.flatten (wReader aU C us_6 ua ++ (wRail aR C rs ra))) := hD
  refine lv_aload_n hx hb dX5_readLamp_24 rfl (lv_at hl 1 rfl) ?_
  refine lv_iconst (v := 0) hx hb dX5_readLamp_25 (by decide) ?_
  refine lv_bipush (v := 99) hx hb dX5_readLamp_26 (by decide) ?_
  refine gs_I8_19 (rs_V8_18 (As := [.int 0, .int 99]) (rest := []) ⟨hx, hb, hml, hown, hw⟩ hK hN hP hD (k_X5_readNumber l D C _ aU  us_6 ua 0 99 h) (cwV 2 hw (goodV mw_3_39 mw_3_41 mw_s11 mw_1_2 mw_3_42) rfl rfl rfl (by decide +kernel) ⟨Nat.le_of_ble_eq_true rfl, Nat.le_of_ble_eq_true rfl⟩) rfl rfl rfl hl.1 rfl (Nat.le_of_ble_eq_true rfl) dX5_readLamp_28 ⟨Nat.zero_le _, Nat.zero_le _⟩) hP hD hS hA (fun r8 us_7 H locs h hP hD hS => ?_)
  have hP : va_P D vwCl (List.flatten (wReader aU C us_7 ua ++ (wRail aR C rs ra))) H := hP
  have hD : va_D A (List.flatten (wReader aU C us_7 ua ++ (wRail aR C rs ra))) := hD
  refine lv_istore_n (lv' := [(3, .int r8), (2, .int r4), (0, .ref (aU 0)), (1, .ref (aR 0))]) hx hb dX5_readLamp_31 rfl hl (by decide) rfl (fun ls hl => ?_)
  refine lv_aload_n hx hb dX5_readLamp_32 rfl (lv_at hl 2 rfl) ?_
  refine va_get (D := D) (ci := 5) (v := .int (us_7 0)) (C := RX5) (T := TX5) (N := 3) hx hb hw inW_X5 hown hK hP 0 rfl rfl 1 (by decide) (hw _ mw_1_67) (fun _ h9 => h9) rfl dX5_readLamp_33 ?_
  refine lv_if_ne (tgt := 48) hx hb dX5_readLamp_36 (by decide) (fun c9 => ?_) (fun c9 => ?_)
  · have h := h.1 c9
    rw [← hQ]
    exact cRetV (us_7, rs, ra) hx hb hr hlocks hS hP hD h dX5_readLamp_48
  · have h := h.2 c9
    refine lv_aload_n hx hb dX5_readLamp_39 rfl (lv_at hl 3 rfl) ?_
    refine va_getN (D := D) (ci := 4) (v := .ref (aR 1)) (C := RX4) (T := TX4) (N := 16) hx hb hw inW_X4 hown hK hP 3 rfl rfl 3 (by decide) hn52 (fun _ h9 => h9) rfl dX5_readLamp_40 ?_
    refine lv_iload_n hx hb dX5_readLamp_43 rfl (lv_at hl 1 rfl) ?_
    refine lv_iload_n hx hb dX5_readLamp_44 rfl (lv_at hl 0 rfl) ?_
    refine gs_V8_20 (rs_VN8_19 (As := [.int r4, .int r8]) (rest := []) ⟨hx, hb, hml, hown, hw⟩ hK hN hP hD (k_X1_add l D C _ (aR 1) (aR 2) (aR 3)  (rs 11) (ra 0) (ra 1) r4 r8 h) ⟨va_cnB 2 hw (goodN mw_3_58) rfl rfl rfl (hN.m 18 rfl) (hw _ mw_1_5) (by decide +kernel) ⟨Nat.le_of_ble_eq_true rfl, Nat.le_of_ble_eq_true rfl⟩, hw _ mw_3_57, hw _ mw_s14⟩ rfl rfl rfl hl.1 rfl (Nat.le_of_ble_eq_true rfl) dX5_readLamp_45 ⟨Nat.zero_le _, Nat.zero_le _⟩) hP hD hS hA (fun u H locs h hP hD hS => ?_)
    obtain ⟨cou_10, pla_11, bri_12⟩ := u
    have hP : va_P D vwCl (List.flatten (wReader aU C us_7 ua ++ (wRail aR C (va_up rs 11 cou_10) (va_up (va_up ra 0 pla_11) 1 bri_12)))) H := hP
    have hD : va_D A (List.flatten (wReader aU C us_7 ua ++ (wRail aR C (va_up rs 11 cou_10) (va_up (va_up ra 0 pla_11) 1 bri_12)))) := hD
    rw [← hQ]
    exact cRetV (us_7, (va_up rs 11 cou_10), (va_up (va_up ra 0 pla_11) 1 bri_12)) hx hb hr hlocks hS hP hD h dX5_readLamp_48
abbrev vsX5_readLock : List Cond := Cond.code yX5_readLock cX5_readLock 6 none :: WS
abbrev rmX5_readLock : Room := { frames := 6, cells := 0, slots := 0, locals := 128 }
set_option maxHeartbeats 4000000 in
set_option maxRecDepth 100000 in
theorem k_X5_readLock (l : Launch) (D : va_G) (C : Nat → ClassId) (sz : Nat) (aU : Nat → Nat) (aR : Nat → Nat)  (us : Nat → Int32) (ua : Nat → Nat → Int32) (rs : Nat → Int32) (ra : Nat → Nat → Int32)  {post : (Nat → Int32) → (Nat → Int32) → (Nat → Nat → Int32) → Prop} (h : P_X5_readLock us ua rs ra post) : Met l yX5_readLock vsX5_readLock rmX5_readLock (cPreS D C [.ref (aU 0), .ref (aR 0)] sz (wReader aU C us ua ++ (wRail aR C rs ra)) sAll) (cQv D (fun (u : (Nat → Int32) × (Nat → Int32) × (Nat → Nat → Int32)) => post u.1 u.2.1 u.2.2) (fun u => wReader aU C u.1 ua ++ (wRail aR C u.2.1 u.2.2)) (va_A (List.flatten (wReader aU C us ua ++ (wRail aR C rs ra))) sz)) 0 0 (va_A (List.flatten (wReader aU C us ua ++ (wRail aR C rs ra))) sz) := by
  refine cStartS (QA := fun A => cQv D (fun (u : (Nat → Int32) × (Nat → Int32) × (Nat → Nat → Int32)) => post u.1 u.2.1 u.2.2) (fun u => wReader aU C u.1 ua ++ (wRail aR C u.2.1 u.2.2)) A) (cc := cX5_readLock) (maxL := 6) (ret := none) (by decide) (Nat.le_of_ble_eq_true rfl) ?_
  intro p e s m args below meth c A ls hx hb hr hml hown hw hlocks hname hK hN hA hP hD hS hl hX
  generalize hQ : MQ below _ args s 0 0 A = Q
  have hl : lv_has ls 6 [(0, .ref (aU 0)), (1, .ref (aR 0))] := hl
  have hZ : sAll A s s.heap := hX
  have hn70 : (Cond.fieldLinkNest "LockRail$Reader" 70 "LockRail$Rail" "locks" "LLockRail$Locks;" "LockRail").before args s = true := hN.f 57 rfl
  obtain ⟨H, hH⟩ : ∃ H, H = s.heap := ⟨_, rfl⟩
  obtain ⟨locs, hlo⟩ : ∃ z : List Loc, z = [] := ⟨_, rfl⟩
  have hP : va_P D vwCl (List.flatten (wReader aU C us ua ++ (wRail aR C rs ra))) H := by rw [hH]; exact hP
  have hS : va_S A s.heap H locs := by rw [hH, hlo]; exact hS
  rw [show W p l e rmX5_readLock s m args below meth c s.heap [] 0 0 Q (F0 m 0 ls []) = W p l e rmX5_readLock s m args below meth c H locs 0 0 Q (F0 m 0 ls []) from by rw [hH, hlo]]
  refine lv_aload_n hx hb dX5_readLock_0 rfl (lv_at hl 0 rfl) ?_
  obtain ⟨qc1, hR_qc1, h_qc1⟩ := hZ.1 (157, "price", [112, 114, 105, 99, 101]) (List.mem_of_getElem? (i := 7) rfl)
  have h_qc1 : sAt A s s.heap [112, 114, 105, 99, 101] qc1 := h_qc1
  refine va_ldcS hx hb hown hR_qc1 dX5_readLock_1 ?_
  refine gs_V8_18 (cRunVS (As := [.ref qc1]) (rest := []) (X1.ok ([112, 114, 105, 99, 101]) qc1) ⟨hZ, h_qc1⟩ hS hA ⟨hx, hb, hml, hown, hw⟩ hK hN hP hD [0, 1] rfl rfl (k_X5_readWord l D C _ aU  us ua ([112, 114, 105, 99, 101]) qc1 h) (cwV 1 hw (goodV mw_2_217 mw_2_219 mw_s8 mw_1_2 mw_2_220) rfl rfl rfl (by decide +kernel) ⟨Nat.le_of_ble_eq_true rfl, Nat.le_of_ble_eq_true rfl⟩) rfl rfl rfl hl.1 rfl (Nat.le_of_ble_eq_true rfl) dX5_readLock_3 ⟨Nat.zero_le _, Nat.zero_le _⟩) hP hD hS hA (fun us_2 H locs h hP hD hS => ?_)
  have hP : va_P D vwCl (List.flatten (wReader aU C us_2 ua ++ (wRail aR C rs ra))) H := hP
  have hD : va_D A (List.flatten (wReader aU C us_2 ua ++ (wRail aR C rs ra))) := hD
  refine lv_aload_n hx hb dX5_readLock_6 rfl (lv_at hl 0 rfl) ?_
  refine lv_iconst (v := 0) hx hb dX5_readLock_7 (by decide) ?_
  refine lv_sipush (v := 999) hx hb dX5_readLock_8 (by decide) ?_
  refine gs_I8_19 (rs_V8_18 (As := [.int 0, .int 999]) (rest := []) ⟨hx, hb, hml, hown, hw⟩ hK hN hP hD (k_X5_readNumber l D C _ aU  us_2 ua 0 999 h) (cwV 2 hw (goodV mw_3_39 mw_3_41 mw_s11 mw_1_2 mw_3_42) rfl rfl rfl (by decide +kernel) ⟨Nat.le_of_ble_eq_true rfl, Nat.le_of_ble_eq_true rfl⟩) rfl rfl rfl hl.1 rfl (Nat.le_of_ble_eq_true rfl) dX5_readLock_11 ⟨Nat.zero_le _, Nat.zero_le _⟩) hP hD hS hA (fun r4 us_3 H locs h hP hD hS => ?_)
  have hP : va_P D vwCl (List.flatten (wReader aU C us_3 ua ++ (wRail aR C rs ra))) H := hP
  have hD : va_D A (List.flatten (wReader aU C us_3 ua ++ (wRail aR C rs ra))) := hD
  refine lv_istore_n (lv' := [(2, .int r4), (0, .ref (aU 0)), (1, .ref (aR 0))]) hx hb dX5_readLock_14 rfl hl (by decide) rfl (fun ls hl => ?_)
  refine lv_aload_n hx hb dX5_readLock_15 rfl (lv_at hl 1 rfl) ?_
  obtain ⟨qc5, hR_qc5, h_qc5⟩ := hZ.1 (159, "cuts", [99, 117, 116, 115]) (List.mem_of_getElem? (i := 8) rfl)
  have h_qc5 : sAt A s s.heap [99, 117, 116, 115] qc5 := h_qc5
  refine va_ldcS hx hb hown hR_qc5 dX5_readLock_16 ?_
  refine gs_V8_18 (cRunVS (As := [.ref qc5]) (rest := []) (X1.ok ([99, 117, 116, 115]) qc5) ⟨hZ, h_qc5⟩ hS hA ⟨hx, hb, hml, hown, hw⟩ hK hN hP hD [0, 1] rfl rfl (k_X5_readWord l D C _ aU  us_3 ua ([99, 117, 116, 115]) qc5 h) (cwV 1 hw (goodV mw_2_217 mw_2_219 mw_s8 mw_1_2 mw_2_220) rfl rfl rfl (by decide +kernel) ⟨Nat.le_of_ble_eq_true rfl, Nat.le_of_ble_eq_true rfl⟩) rfl rfl rfl hl.1 rfl (Nat.le_of_ble_eq_true rfl) dX5_readLock_18 ⟨Nat.zero_le _, Nat.zero_le _⟩) hP hD hS hA (fun us_6 H locs h hP hD hS => ?_)
  have hP : va_P D vwCl (List.flatten (wReader aU C us_6 ua ++ (wRail aR C rs ra))) H := hP
  have hD : va_D A (List.flatten (wReader aU C us_6 ua ++ (wRail aR C rs ra))) := hD
  refine lv_aload_n hx hb dX5_readLock_21 rfl (lv_at hl 1 rfl) ?_
  refine lv_iconst (v := 1) hx hb dX5_readLock_22 (by decide) ?_
  refine lv_sipush (v := 999) hx hb dX5_readLock_23 (by decide) ?_
  refine gs_I8_19 (rs_V8_18 (As := [.int 1, .int 999]) (rest := []) ⟨hx, hb, hml, hown, hw⟩ hK hN hP hD (k_X5_readNumber l D C _ aU  us_6 ua 1 999 h) (cwV 2 hw (goodV mw_3_39 mw_3_41 mw_s11 mw_1_2 mw_3_42) rfl rfl rfl (by decide +kernel) ⟨Nat.le_of_ble_eq_true rfl, Nat.le_of_ble_eq_true rfl⟩) rfl rfl rfl hl.1 rfl (Nat.le_of_ble_eq_true rfl) dX5_readLock_26 ⟨Nat.zero_le _, Nat.zero_le _⟩) hP hD hS hA (fun r8 us_7 H locs h hP hD hS => ?_)
  have hP : va_P D vwCl (List.flatten (wReader aU C us_7 ua ++ (wRail aR C rs ra))) H := hP
  have hD : va_D A (List.flatten (wReader aU C us_7 ua ++ (wRail aR C rs ra))) := hD
  refine lv_istore_n (lv' := [(3, .int r8), (2, .int r4), (0, .ref (aU 0)), (1, .ref (aR 0))]) hx hb dX5_readLock_29 rfl hl (by decide) rfl (fun ls hl => ?_)
  refine lv_aload_n hx hb dX5_readLock_30 rfl (lv_at hl 2 rfl) ?_
  refine lv_iconst (v := 1) hx hb dX5_readLock_31 (by decide) ?_
  refine lv_sipush (v := 999) hx hb dX5_readLock_32 (by decide) ?_
  refine gs_I8_19 (rs_V8_18 (As := [.int 1, .int 999]) (rest := []) ⟨hx, hb, hml, hown, hw⟩ hK hN hP hD (k_X5_readNumber l D C _ aU  us_7 ua 1 999 h) (cwV 2 hw (goodV mw_3_39 mw_3_41 mw_s11 mw_1_2 mw_3_42) rfl rfl rfl (by decide +kernel) ⟨Nat.le_of_ble_eq_true rfl, Nat.le_of_ble_eq_true rfl⟩) rfl rfl rfl hl.1 rfl (Nat.le_of_ble_eq_true rfl) dX5_readLock_35 ⟨Nat.zero_le _, Nat.zero_le _⟩) hP hD hS hA (fun r10 us_9 H locs h hP hD hS => ?_)
  have hP : va_P D vwCl (List.flatten (wReader aU C us_9 ua ++ (wRail aR C rs ra))) H := hP
  have hD : va_D A (List.flatten (wReader aU C us_9 ua ++ (wRail aR C rs ra))) := hD
  refine lv_istore (lv' := [(4, .int r10), (3, .int r8), (2, .int r4), (0, .ref (aU 0)), (1, .ref (aR 0))]) hx hb dX5_readLock_38 hl (by decide) rfl (fun ls hl => ?_)
  refine lv_aload_n hx hb dX5_readLock_40 rfl (lv_at hl 3 rfl) ?_
  refine lv_iconst (v := 1) hx hb dX5_readLock_41 (by decide) ?_
  refine lv_sipush (v := 999) hx hb dX5_readLock_42 (by decide) ?_
  refine gs_I8_19 (rs_V8_18 (As := [.int 1, .int 999]) (rest := []) ⟨hx, hb, hml, hown, hw⟩ hK hN hP hD (k_X5_readNumber l D C _ aU  us_9 ua 1 999 h) (cwV 2 hw (goodV mw_3_39 mw_3_41 mw_s11 mw_1_2 mw_3_42) rfl rfl rfl (by decide +kernel) ⟨Nat.le_of_ble_eq_true rfl, Nat.le_of_ble_eq_true rfl⟩) rfl rfl rfl hl.1 rfl (Nat.le_of_ble_eq_true rfl) dX5_readLock_45 ⟨Nat.zero_le _, Nat.zero_le _⟩) hP hD hS hA (fun r12 us_11 H locs h hP hD hS => ?_)
  have hP : va_P D vwCl (List.flatten (wReader aU C us_11 ua ++ (wRail aR C rs ra))) H := hP
  have hD : va_D A (List.flatten (wReader aU C us_11 ua ++ (wRail aR C rs ra))) := hD
  refine lv_istore (lv' := [(5, .int r12), (4, .int r10), (3, .int r8), (2, .int r4), (0, .ref (aU 0)), (1, .ref (aR 0))]) hx hb dX5_readLock_48 hl (by decide) rfl (fun ls hl => ?_)
  refine lv_aload_n hx hb dX5_readLock_50 rfl (lv_at hl 4 rfl) ?_
  refine va_get (D := D) (ci := 5) (v := .int (us_11 0)) (C := RX5) (T := TX5) (N := 3) hx hb hw inW_X5 hown hK hP 0 rfl rfl 1 (by decide) (hw _ mw_1_67) (fun _ h9 => h9) rfl dX5_readLock_51 ?_
  refine lv_if_ne (tgt := 70) hx hb dX5_readLock_54 (by decide) (fun c13 => ?_) (fun c13 => ?_)
  · have h := h.1 c13
    rw [← hQ]
    exact cRetV (us_11, rs, ra) hx hb hr hlocks hS hP hD h dX5_readLock_70
  · have h := h.2 c13
    refine lv_aload_n hx hb dX5_readLock_57 rfl (lv_at hl 5 rfl) ?_
    refine va_getN (D := D) (ci := 4) (v := .ref (aR 4)) (C := RX4) (T := TX4) (N := 16) hx hb hw inW_X4 hown hK hP 3 rfl rfl 4 (by decide) hn70 (fun _ h9 => h9) rfl dX5_readLock_58 ?_
    refine lv_iload_n hx hb dX5_readLock_61 rfl (lv_at hl 3 rfl) ?_
    refine lv_iload_n hx hb dX5_readLock_62 rfl (lv_at hl 2 rfl) ?_
    refine lv_iload hx hb dX5_readLock_63 (lv_at hl 1 rfl) ?_
    refine lv_iload hx hb dX5_readLock_65 (lv_at hl 0 rfl) ?_
    refine gs_V8_21 (rs_VN8_20 (As := [.int r4, .int r8, .int r10, .int r12]) (rest := []) ⟨hx, hb, hml, hown, hw⟩ hK hN hP hD (k_X2_add l D C _ (aR 4) (aR 5) (aR 6)  (rs 12) (ra 2) (ra 3) r4 r8 r10 r12 h) ⟨va_cnB 4 hw (goodN mw_3_69) rfl rfl rfl (hN.m 19 rfl) (hw _ mw_1_6) (by decide +kernel) ⟨Nat.le_of_ble_eq_true rfl, Nat.le_of_ble_eq_true rfl⟩, hw _ mw_3_68, hw _ mw_s16⟩ rfl rfl rfl hl.1 rfl (Nat.le_of_ble_eq_true rfl) dX5_readLock_67 ⟨Nat.zero_le _, Nat.zero_le _⟩) hP hD hS hA (fun u H locs h hP hD hS => ?_)
    obtain ⟨cou_14, pri_15, cut_16⟩ := u
    have hP : va_P D vwCl (List.flatten (wReader aU C us_11 ua ++ (wRail aR C (va_up rs 12 cou_14) (va_up (va_up ra 2 pri_15) 3 cut_16)))) H := hP
    have hD : va_D A (List.flatten (wReader aU C us_11 ua ++ (wRail aR C (va_up rs 12 cou_14) (va_up (va_up ra 2 pri_15) 3 cut_16)))) := hD
    rw [← hQ]
    exact cRetV (us_11, (va_up rs 12 cou_14), (va_up (va_up ra 2 pri_15) 3 cut_16)) hx hb hr hlocks hS hP hD h dX5_readLock_70
abbrev vsX5_readIf : List Cond := Cond.code yX5_readIf cX5_readIf 3 (some .boolean) :: WS
abbrev rmX5_readIf : Room := { frames := 5, cells := 0, slots := 0, locals := 107 }
set_option maxHeartbeats 4000000 in
set_option maxRecDepth 100000 in
theorem k_X5_readIf (l : Launch) (D : va_G) (C : Nat → ClassId) (sz : Nat) (aU : Nat → Nat)  (us : Nat → Int32) (ua : Nat → Nat → Int32) (p1 : List Int32) (qp1 : Nat) {post : Int32 → (Nat → Int32) → Prop} (h : P_X5_readIf us ua p1 post) : Met l yX5_readIf vsX5_readIf rmX5_readIf (cPreS D C [.ref (aU 0), .ref qp1] sz (wReader aU C us ua) (X1 p1 qp1)) (cQi D (fun (r : Int32) (u : (Nat → Int32)) => post r u) (fun u => wReader aU C u ua) (va_A (List.flatten (wReader aU C us ua)) sz)) 0 0 (va_A (List.flatten (wReader aU C us ua)) sz) := by
  refine cStartS (QA := fun A => cQi D (fun (r : Int32) (u : (Nat → Int32)) => post r u) (fun u => wReader aU C u ua) A) (cc := cX5_readIf) (maxL := 3) (ret := (some .boolean)) (by decide) (Nat.le_of_ble_eq_true rfl) ?_
  intro p e s m args below meth c A ls hx hb hr hml hown hw hlocks hname hK hN hA hP hD hS hl hX
  generalize hQ : MQ below _ args s 0 0 A = Q
  have hl : lv_has ls 3 [(0, .ref (aU 0)), (1, .ref qp1)] := hl
  obtain ⟨hZ, h_qp1⟩ := hX
  obtain ⟨H, hH⟩ : ∃ H, H = s.heap := ⟨_, rfl⟩
  obtain ⟨locs, hlo⟩ : ∃ z : List Loc, z = [] := ⟨_, rfl⟩
  have hP : va_P D vwCl (List.flatten (wReader aU C us ua)) H := by rw [hH]; exact hP
  have hS : va_S A s.heap H locs := by rw [hH, hlo]; exact hS
  rw [show W p l e rmX5_readIf s m args below meth c s.heap [] 0 0 Q (F0 m 0 ls []) = W p l e rmX5_readIf s m args below meth c H locs 0 0 Q (F0 m 0 ls []) from by rw [hH, hlo]]
  have N23 : ∀ (k0_ : Int32) (us : Nat → Int32) (H : Heap) (locs : List Loc) (ls : Array Slot), P_X5_readIf_23 ua p1 post  k0_ us → va_P D vwCl (List.flatten (wReader aU C us ua)) H → va_D A (List.flatten (wReader aU C us ua)) → va_S A s.heap H locs → lv_has ls 3 [(0, .ref (aU 0))] → W p l e rmX5_readIf s m args below meth c H locs 0 0 Q (F0 m 23 ls [.int k0_]) := by
    intro k0_ us H locs ls h hP hD hS hl
    refine lv_istore_n (lv' := [(2, .int k0_), (0, .ref (aU 0))]) hx hb dX5_readIf_23 rfl hl (by decide) rfl (fun ls hl => ?_)
    refine lv_iload_n hx hb dX5_readIf_24 rfl (lv_at hl 0 rfl) ?_
    refine lv_if_eq (tgt := 35) hx hb dX5_readIf_25 (by decide) (fun c1 => ?_) (fun c1 => ?_)
    · have h := h.1 c1
      refine lv_iload_n hx hb dX5_readIf_35 rfl (lv_at hl 0 rfl) ?_
      rw [← hQ]
      exact cRetZ (v := k0_) (us) hx hb hr hlocks hS hP hD h.1 h.2 dX5_readIf_36
    · have h := h.2 c1
      refine lv_aload_n hx hb dX5_readIf_28 rfl (lv_at hl 1 rfl) ?_
      refine va_get (D := D) (ci := 5) (v := .ref (aU 1)) (C := RX5) (T := TX5) (N := 3) hx hb hw inW_X5 hown hK hP 0 rfl rfl 0 (by decide) (hw _ mw_1_65) (fun _ h9 => h9) rfl dX5_readIf_29 ?_
      refine cGoV (wo := fun u => wReader aU C (va_up (va_up (va_up (va_up us 3 u.1) 4 u.2.1) 5 u.2.2.1) 6 u.2.2.2) ua) (cRunVN (As := []) (rest := []) ⟨hx, hb, hml, hown, hw⟩ hK hN hP hD [1] rfl rfl (k_X8_step l D C _ (aU 1) (aU 2)  (ua 0) (us 2) (us 3) (us 4) (us 5) (us 6)  h) ⟨va_cnB 0 hw (goodN mw_2_199) rfl rfl rfl (hN.m 17 rfl) (hw _ mw_1_3) (by decide +kernel) ⟨Nat.le_of_ble_eq_true rfl, Nat.le_of_ble_eq_true rfl⟩, hw _ mw_2_198, hw _ mw_s4⟩ rfl rfl rfl hl.1 rfl (Nat.le_of_ble_eq_true rfl) dX5_readIf_32 ⟨Nat.zero_le _, Nat.zero_le _⟩) hP hD hS hA [1] [0] [0, 1] rfl rfl rfl (by decide) rfl (fun _ => rfl) (fun u H locs h hP hD hS => ?_)
      obtain ⟨spo_2, beh_3, kin_4, num_5⟩ := u
      have hP : va_P D vwCl (List.flatten (wReader aU C (va_up (va_up (va_up (va_up us 3 spo_2) 4 beh_3) 5 kin_4) 6 num_5) ua)) H := hP
      have hD : va_D A (List.flatten (wReader aU C (va_up (va_up (va_up (va_up us 3 spo_2) 4 beh_3) 5 kin_4) 6 num_5) ua)) := hD
      refine lv_iload_n hx hb dX5_readIf_35 rfl (lv_at hl 0 rfl) ?_
      rw [← hQ]
      exact cRetZ (v := k0_) ((va_up (va_up (va_up (va_up us 3 spo_2) 4 beh_3) 5 kin_4) 6 num_5)) hx hb hr hlocks hS hP hD h.1 h.2 dX5_readIf_36
  refine lv_aload_n hx hb dX5_readIf_0 rfl (lv_at hl 0 rfl) ?_
  refine va_get (D := D) (ci := 5) (v := .int (us 0)) (C := RX5) (T := TX5) (N := 3) hx hb hw inW_X5 hown hK hP 0 rfl rfl 1 (by decide) (hw _ mw_1_67) (fun _ h9 => h9) rfl dX5_readIf_1 ?_
  refine lv_if_ne (tgt := 22) hx hb dX5_readIf_4 (by decide) (fun c6 => ?_) (fun c6 => ?_)
  · have h := h.1 c6
    refine lv_iconst (v := 0) hx hb dX5_readIf_22 (by decide) ?_
    exact N23 0 us _ _ _ h hP hD hS (lv_sub hl [0] rfl)
  · have h := h.2 c6
    refine lv_aload_n hx hb dX5_readIf_7 rfl (lv_at hl 0 rfl) ?_
    refine va_get (D := D) (ci := 5) (v := .ref (aU 1)) (C := RX5) (T := TX5) (N := 3) hx hb hw inW_X5 hown hK hP 0 rfl rfl 0 (by decide) (hw _ mw_1_65) (fun _ h9 => h9) rfl dX5_readIf_8 ?_
    refine lv_aload_n hx hb dX5_readIf_11 rfl (lv_at hl 1 rfl) ?_
    refine cGoI (wo := fun u => wReader aU C us ua) (cRunVNS (As := [.ref qp1]) (rest := []) (X1.ok p1 qp1) ⟨hZ, h_qp1⟩ hS hA ⟨hx, hb, hml, hown, hw⟩ hK hN hP hD [1] rfl rfl (k_X8_isWord l D C _ (aU 1) (aU 2)  (ua 0) (us 2) (us 3) (us 4) (us 5) (us 6) p1 qp1 h) ⟨va_cnB 1 hw (goodN mw_2_224) rfl rfl rfl (hN.m 16 rfl) (hw _ mw_1_3) (by decide +kernel) ⟨Nat.le_of_ble_eq_true rfl, Nat.le_of_ble_eq_true rfl⟩, hw _ mw_2_223, hw _ mw_s9⟩ rfl rfl rfl hl.1 rfl (Nat.le_of_ble_eq_true rfl) dX5_readIf_12 ⟨Nat.zero_le _, Nat.zero_le _⟩) hP hD hS hA [1] [0] [0, 1] rfl rfl rfl (by decide) rfl (fun _ => rfl) (fun r7 u H locs h hP hD hS => ?_)
    have hP : va_P D vwCl (List.flatten (wReader aU C us ua)) H := hP
    have hD : va_D A (List.flatten (wReader aU C us ua)) := hD
    refine lv_if_eq (tgt := 22) hx hb dX5_readIf_15 (by decide) (fun c8 => ?_) (fun c8 => ?_)
    · have h := h.1 c8
      refine lv_iconst (v := 0) hx hb dX5_readIf_22 (by decide) ?_
      exact N23 0 us _ _ _ h hP hD hS (lv_sub hl [0] rfl)
    · have h := h.2 c8
      refine lv_iconst (v := 1) hx hb dX5_readIf_18 (by decide) ?_
      refine lv_goto (tgt := 23) hx hb dX5_readIf_19 (by decide) ?_
      exact N23 1 us _ _ _ h hP hD hS (lv_sub hl [0] rfl)
abbrev vsX5_readBike : List Cond := Cond.code yX5_readBike cX5_readBike 7 none :: WS
abbrev rmX5_readBike : Room := { frames := 6, cells := 0, slots := 0, locals := 129 }
set_option maxHeartbeats 4000000 in
set_option maxRecDepth 100000 in
theorem k_X5_readBike (l : Launch) (D : va_G) (C : Nat → ClassId) (sz : Nat) (aU : Nat → Nat) (aR : Nat → Nat)  (us : Nat → Int32) (ua : Nat → Nat → Int32) (rs : Nat → Int32) (ra : Nat → Nat → Int32)  {post : (Nat → Int32) → (Nat → Int32) → (Nat → Nat → Int32) → Prop} (h : P_X5_readBike us ua rs ra post) : Met l yX5_readBike vsX5_readBike rmX5_readBike (cPreS D C [.ref (aU 0), .ref (aR 0)] sz (wReader aU C us ua ++ (wRail aR C rs ra)) sAll) (cQv D (fun (u : (Nat → Int32) × (Nat → Int32) × (Nat → Nat → Int32)) => post u.1 u.2.1 u.2.2) (fun u => wReader aU C u.1 ua ++ (wRail aR C u.2.1 u.2.2)) (va_A (List.flatten (wReader aU C us ua ++ (wRail aR C rs ra))) sz)) 0 0 (va_A (List.flatten (wReader aU C us ua ++ (wRail aR C rs ra))) sz) := by
  refine cStartS (QA := fun A => cQv D (fun (u : (Nat → Int32) × (Nat → Int32) × (Nat → Nat → Int32)) => post u.1 u.2.1 u.2.2) (fun u => wReader aU C u.1 ua ++ (wRail aR C u.2.1 u.2.2)) A) (cc := cX5_readBike) (maxL := 7) (ret := none) (by decide) (Nat.le_of_ble_eq_true rfl) ?_
  intro p e s m args below meth c A ls hx hb hr hml hown hw hlocks hname hK hN hA hP hD hS hl hX
  generalize hQ : MQ below _ args s 0 0 A = Q
  have hl : lv_has ls 7 [(0, .ref (aU 0)), (1, .ref (aR 0))] := hl
  have hZ : sAll A s s.heap := hX
  have hn82 : (Cond.fieldLinkNest "LockRail$Reader" 82 "LockRail$Rail" "bikes" "LLockRail$Bikes;" "LockRail").before args s = true := hN.f 60 rfl
  have hn143 : (Cond.fieldLinkNest "LockRail$Reader" 143 "LockRail$Rail" "places" "I" "LockRail").before args s = true := hN.f 48 rfl
  have hn70 : (Cond.fieldLinkNest "LockRail$Reader" 70 "LockRail$Rail" "locks" "LLockRail$Locks;" "LockRail").before args s = true := hN.f 57 rfl
  have hn74 : (Cond.fieldLinkNest "LockRail$Reader" 74 "LockRail$Locks" "count" "I" "LockRail").before args s = true := hN.f 13 rfl
  have hn33 : (Cond.fieldLinkNest "LockRail$Reader" 33 "LockRail$Tape" "kind" "I" "LockRail").before args s = true := hN.f 2 rfl
  have hn168 : (Cond.fieldLinkNest "LockRail$Reader" 168 "LockRail$Tape" "number" "I" "LockRail").before args s = true := hN.f 3 rfl
  obtain ⟨H, hH⟩ : ∃ H, H = s.heap := ⟨_, rfl⟩
  obtain ⟨locs, hlo⟩ : ∃ z : List Loc, z = [] := ⟨_, rfl⟩
  have hP : va_P D vwCl (List.flatten (wReader aU C us ua ++ (wRail aR C rs ra))) H := by rw [hH]; exact hP
  have hS : va_S A s.heap H locs := by rw [hH, hlo]; exact hS
  rw [show W p l e rmX5_readBike s m args below meth c s.heap [] 0 0 Q (F0 m 0 ls []) = W p l e rmX5_readBike s m args below meth c H locs 0 0 Q (F0 m 0 ls []) from by rw [hH, hlo]]
  have N111 : ∀ (x2_ : Int32) (x3_ : Int32) (x4_ : Int32) (x5_ : Int32) (us : Nat → Int32) (rs : Nat → Int32) (ra : Nat → Nat → Int32) (H : Heap) (locs : List Loc) (ls : Array Slot), P_X5_readBike_111 ua post  x2_ x3_ x4_ x5_ us rs ra → va_P D vwCl (List.flatten (wReader aU C us ua ++ (wRail aR C rs ra))) H → va_D A (List.flatten (wReader aU C us ua ++ (wRail aR C rs ra))) → va_S A s.heap H locs → lv_has ls 7 [(0, .ref (aU 0)), (1, .ref (aR 0)), (2, .int x2_), (3, .int x3_), (4, .int x4_), (5, .int x5_)] → W p l e rmX5_readBike s m args below meth c H locs 0 0 Q (F0 m 111 ls []) := by
    intro x2_ x3_ x4_ x5_ us rs ra H locs ls h hP hD hS hl
    refine lv_aload_n hx hb dX5_readBike_111 rfl (lv_at hl 0 rfl) ?_
    obtain ⟨qc1, hR_qc1, h_qc1⟩ := hZ.1 (178, "marked", [109, 97, 114, 107, 101, 100]) (List.mem_of_getElem? (i := 12) rfl)
    have h_qc1 : sAt A s s.heap [109, 97, 114, 107, 101, 100] qc1 := h_qc1
    refine va_ldcS hx hb hown hR_qc1 dX5_readBike_112 ?_
    refine gs_I8_19 (cRunVS (As := [.ref qc1]) (rest := []) (X1.ok ([109, 97, 114, 107, 101, 100]) qc1) ⟨hZ, h_qc1⟩ hS hA ⟨hx, hb, hml, hown, hw⟩ hK hN hP hD [0, 1] rfl rfl (k_X5_readIf l D C _ aU  us ua ([109, 97, 114, 107, 101, 100]) qc1 h) (cwV 1 hw (goodV mw_3_81 mw_3_83 mw_s19 mw_1_2 mw_3_84) rfl rfl rfl (by decide +kernel) ⟨Nat.le_of_ble_eq_true rfl, Nat.le_of_ble_eq_true rfl⟩) rfl rfl rfl hl.1 rfl (Nat.le_of_ble_eq_true rfl) dX5_readBike_114 ⟨Nat.zero_le _, Nat.zero_le _⟩) hP hD hS hA (fun r3 us_2 H locs h hP hD hS => ?_)
    have hP : va_P D vwCl (List.flatten (wReader aU C us_2 ua ++ (wRail aR C rs ra))) H := hP
    have hD : va_D A (List.flatten (wReader aU C us_2 ua ++ (wRail aR C rs ra))) := hD
    refine lv_istore (lv' := [(6, .int r3), (0, .ref (aU 0)), (1, .ref (aR 0)), (2, .int x2_), (3, .int x3_), (4, .int x4_), (5, .int x5_)]) hx hb dX5_readBike_117 hl (by decide) rfl (fun ls hl => ?_)
    refine lv_aload_n hx hb dX5_readBike_119 rfl (lv_at hl 1 rfl) ?_
    refine va_get (D := D) (ci := 5) (v := .int (us_2 0)) (C := RX5) (T := TX5) (N := 3) hx hb hw inW_X5 hown hK hP 0 rfl rfl 1 (by decide) (hw _ mw_1_67) (fun _ h9 => h9) rfl dX5_readBike_120 ?_
    refine lv_if_ne (tgt := 141) hx hb dX5_readBike_123 (by decide) (fun c4 => ?_) (fun c4 => ?_)
    · have h := h.1 c4
      rw [← hQ]
      exact cRetV (us_2, rs, ra) hx hb hr hlocks hS hP hD h dX5_readBike_141
    · have h := h.2 c4
      refine lv_aload_n hx hb dX5_readBike_126 rfl (lv_at hl 2 rfl) ?_
      refine va_getN (D := D) (ci := 4) (v := .ref (aR 7)) (C := RX4) (T := TX4) (N := 16) hx hb hw inW_X4 hown hK hP 3 rfl rfl 5 (by decide) hn82 (fun _ h9 => h9) rfl dX5_readBike_127 ?_
      refine lv_iload_n hx hb dX5_readBike_130 rfl (lv_at hl 3 rfl) ?_
      refine lv_iload_n hx hb dX5_readBike_131 rfl (lv_at hl 4 rfl) ?_
      refine lv_iload hx hb dX5_readBike_132 (lv_at hl 5 rfl) ?_
      refine lv_iload hx hb dX5_readBike_134 (lv_at hl 6 rfl) ?_
      refine lv_iload hx hb dX5_readBike_136 (lv_at hl 0 rfl) ?_
      refine gs_V8_22 (rs_VN8_21 (As := [.int x2_, .int x3_, .int x4_, .int x5_, .int r3]) (rest := []) ⟨hx, hb, hml, hown, hw⟩ hK hN hP hD (k_X0_add l D C _ (aR 7) (aR 8) (aR 9) (aR 10) (aR 11) (aR 12)  (rs 13) (ra 4) (ra 5) (ra 6) (ra 7) (ra 8) x2_ x3_ x4_ x5_ r3 h) ⟨va_cnB 5 hw (goodN mw_3_89) rfl rfl rfl (hN.m 21 rfl) (hw _ mw_1_7) (by decide +kernel) ⟨Nat.le_of_ble_eq_true rfl, Nat.le_of_ble_eq_true rfl⟩, hw _ mw_3_88, hw _ mw_s20⟩ rfl rfl rfl hl.1 rfl (Nat.le_of_ble_eq_true rfl) dX5_readBike_138 ⟨Nat.zero_le _, Nat.zero_le _⟩) hP hD hS hA (fun u H locs h hP hD hS => ?_)
      obtain ⟨cou_5, wor_6, see_7, pla_8, loc_9, mar_10⟩ := u
      have hP : va_P D vwCl (List.flatten (wReader aU C us_2 ua ++ (wRail aR C (va_up rs 13 cou_5) (va_up (va_up (va_up (va_up (va_up ra 4 wor_6) 5 see_7) 6 pla_8) 7 loc_9) 8 mar_10)))) H := hP
      have hD : va_D A (List.flatten (wReader aU C us_2 ua ++ (wRail aR C (va_up rs 13 cou_5) (va_up (va_up (va_up (va_up (va_up ra 4 wor_6) 5 see_7) 6 pla_8) 7 loc_9) 8 mar_10)))) := hD
      rw [← hQ]
      exact cRetV (us_2, (va_up rs 13 cou_5), (va_up (va_up (va_up (va_up (va_up ra 4 wor_6) 5 see_7) 6 pla_8) 7 loc_9) 8 mar_10)) hx hb hr hlocks hS hP hD h dX5_readBike_141
  have N70 : ∀ (x2_ : Int32) (x3_ : Int32) (us : Nat → Int32) (rs : Nat → Int32) (ra : Nat → Nat → Int32) (H : Heap) (locs : List Loc) (ls : Array Slot), P_X5_readBike_70 ua post  x2_ x3_ us rs ra → va_P D vwCl (List.flatten (wReader aU C us ua ++ (wRail aR C rs ra))) H → va_D A (List.flatten (wReader aU C us ua ++ (wRail aR C rs ra))) → va_S A s.heap H locs → lv_has ls 7 [(0, .ref (aU 0)), (1, .ref (aR 0)), (2, .int x2_), (3, .int x3_)] → W p l e rmX5_readBike s m args below meth c H locs 0 0 Q (F0 m 70 ls []) := by
    intro x2_ x3_ us rs ra H locs ls h hP hD hS hl
    refine lv_aload_n hx hb dX5_readBike_70 rfl (lv_at hl 0 rfl) ?_
    refine lv_iconst (v := 0) hx hb dX5_readBike_71 (by decide) ?_
    refine lv_aload_n hx hb dX5_readBike_72 rfl (lv_at hl 1 rfl) ?_
    refine va_getN (D := D) (ci := 4) (v := .int (rs 0)) (C := RX4) (T := TX4) (N := 16) hx hb hw inW_X4 hown hK hP 3 rfl rfl 0 (by decide) hn143 (fun _ h9 => h9) rfl dX5_readBike_73 ?_
    refine lv_iconst (v := 1) hx hb dX5_readBike_76 (by decide) ?_
    refine lv_isub hx hb dX5_readBike_77 ?_
    refine gs_I8_19 (rs_V8_18 (As := [.int 0, .int ((rs 0) - 1)]) (rest := []) ⟨hx, hb, hml, hown, hw⟩ hK hN hP hD (k_X5_readNumber l D C _ aU  us ua 0 ((rs 0) - 1) h) (cwV 2 hw (goodV mw_3_39 mw_3_41 mw_s11 mw_1_2 mw_3_42) rfl rfl rfl (by decide +kernel) ⟨Nat.le_of_ble_eq_true rfl, Nat.le_of_ble_eq_true rfl⟩) rfl rfl rfl hl.1 rfl (Nat.le_of_ble_eq_true rfl) dX5_readBike_78 ⟨Nat.zero_le _, Nat.zero_le _⟩) hP hD hS hA (fun r12 us_11 H locs h hP hD hS => ?_)
    have hP : va_P D vwCl (List.flatten (wReader aU C us_11 ua ++ (wRail aR C rs ra))) H := hP
    have hD : va_D A (List.flatten (wReader aU C us_11 ua ++ (wRail aR C rs ra))) := hD
    refine lv_istore (lv' := [(4, .int r12), (0, .ref (aU 0)), (1, .ref (aR 0)), (2, .int x2_), (3, .int x3_)]) hx hb dX5_readBike_81 hl (by decide) rfl (fun ls hl => ?_)
    refine lv_iconst (v := (-1)) hx hb dX5_readBike_83 (by decide) ?_
    refine lv_istore (lv' := [(5, .int (-1)), (4, .int r12), (0, .ref (aU 0)), (1, .ref (aR 0)), (2, .int x2_), (3, .int x3_)]) hx hb dX5_readBike_84 hl (by decide) rfl (fun ls hl => ?_)
    refine lv_aload_n hx hb dX5_readBike_86 rfl (lv_at hl 2 rfl) ?_
    obtain ⟨qc13, hR_qc13, h_qc13⟩ := hZ.1 (68, "lock", [108, 111, 99, 107]) (List.mem_of_getElem? (i := 6) rfl)
    have h_qc13 : sAt A s s.heap [108, 111, 99, 107] qc13 := h_qc13
    refine va_ldcS hx hb hown hR_qc13 dX5_readBike_87 ?_
    refine gs_I8_19 (cRunVS (As := [.ref qc13]) (rest := []) (X1.ok ([108, 111, 99, 107]) qc13) ⟨hZ, h_qc13⟩ hS hA ⟨hx, hb, hml, hown, hw⟩ hK hN hP hD [0, 1] rfl rfl (k_X5_readIf l D C _ aU  us_11 ua ([108, 111, 99, 107]) qc13 h) (cwV 1 hw (goodV mw_3_81 mw_3_83 mw_s19 mw_1_2 mw_3_84) rfl rfl rfl (by decide +kernel) ⟨Nat.le_of_ble_eq_true rfl, Nat.le_of_ble_eq_true rfl⟩) rfl rfl rfl hl.1 rfl (Nat.le_of_ble_eq_true rfl) dX5_readBike_89 ⟨Nat.zero_le _, Nat.zero_le _⟩) hP hD hS hA (fun r15 us_14 H locs h hP hD hS => ?_)
    have hP : va_P D vwCl (List.flatten (wReader aU C us_14 ua ++ (wRail aR C rs ra))) H := hP
    have hD : va_D A (List.flatten (wReader aU C us_14 ua ++ (wRail aR C rs ra))) := hD
    refine lv_if_eq (tgt := 111) hx hb dX5_readBike_92 (by decide) (fun c16 => ?_) (fun c16 => ?_)
    · have h := h.1 c16
      exact N111 x2_ x3_ r12 (-1) us_14 rs ra _ _ _ h hP hD hS (lv_sub hl [2, 3, 4, 5, 1, 0] rfl)
    · have h := h.2 c16
      refine lv_aload_n hx hb dX5_readBike_95 rfl (lv_at hl 2 rfl) ?_
      refine lv_iconst (v := 0) hx hb dX5_readBike_96 (by decide) ?_
      refine lv_aload_n hx hb dX5_readBike_97 rfl (lv_at hl 3 rfl) ?_
      refine va_getN (D := D) (ci := 4) (v := .ref (aR 4)) (C := RX4) (T := TX4) (N := 16) hx hb hw inW_X4 hown hK hP 3 rfl rfl 4 (by decide) hn70 (fun _ h9 => h9) rfl dX5_readBike_98 ?_
      refine va_getN (D := D) (ci := 2) (v := .int (rs 12)) (C := RX2) (T := TX2) (N := 3) hx hb hw inW_X2 hown hK hP 7 rfl rfl 0 (by decide) hn74 (fun _ h9 => h9) rfl dX5_readBike_101 ?_
      refine lv_iconst (v := 1) hx hb dX5_readBike_104 (by decide) ?_
      refine lv_isub hx hb dX5_readBike_105 ?_
      refine gs_I8_19 (rs_V8_18 (As := [.int 0, .int ((rs 12) - 1)]) (rest := []) ⟨hx, hb, hml, hown, hw⟩ hK hN hP hD (k_X5_readNumber l D C _ aU  us_14 ua 0 ((rs 12) - 1) h) (cwV 2 hw (goodV mw_3_39 mw_3_41 mw_s11 mw_1_2 mw_3_42) rfl rfl rfl (by decide +kernel) ⟨Nat.le_of_ble_eq_true rfl, Nat.le_of_ble_eq_true rfl⟩) rfl rfl rfl hl.1 rfl (Nat.le_of_ble_eq_true rfl) dX5_readBike_106 ⟨Nat.zero_le _, Nat.zero_le _⟩) hP hD hS hA (fun r18 us_17 H locs h hP hD hS => ?_)
      have hP : va_P D vwCl (List.flatten (wReader aU C us_17 ua ++ (wRail aR C rs ra))) H := hP
      have hD : va_D A (List.flatten (wReader aU C us_17 ua ++ (wRail aR C rs ra))) := hD
      refine lv_istore (lv' := [(5, .int r18), (4, .int r12), (0, .ref (aU 0)), (1, .ref (aR 0)), (2, .int x2_), (3, .int x3_)]) hx hb dX5_readBike_109 hl (by decide) rfl (fun ls hl => ?_)
      exact N111 x2_ x3_ r12 r18 us_17 rs ra _ _ _ h hP hD hS (lv_sub hl [2, 3, 4, 5, 1, 0] rfl)
  refine lv_aload_n hx hb dX5_readBike_0 rfl (lv_at hl 0 rfl) ?_
  obtain ⟨qc19, hR_qc19, h_qc19⟩ := hZ.1 (164, "worth", [119, 111, 114, 116, 104]) (List.mem_of_getElem? (i := 10) rfl)
  have h_qc19 : sAt A s s.heap [119, 111, 114, 116, 104] qc19 := h_qc19
  refine va_ldcS hx hb hown hR_qc19 dX5_readBike_1 ?_
  refine gs_V8_18 (cRunVS (As := [.ref qc19]) (rest := []) (X1.ok ([119, 111, 114, 116, 104]) qc19) ⟨hZ, h_qc19⟩ hS hA ⟨hx, hb, hml, hown, hw⟩ hK hN hP hD [0, 1] rfl rfl (k_X5_readWord l D C _ aU  us ua ([119, 111, 114, 116, 104]) qc19 h) (cwV 1 hw (goodV mw_2_217 mw_2_219 mw_s8 mw_1_2 mw_2_220) rfl rfl rfl (by decide +kernel) ⟨Nat.le_of_ble_eq_true rfl, Nat.le_of_ble_eq_true rfl⟩) rfl rfl rfl hl.1 rfl (Nat.le_of_ble_eq_true rfl) dX5_readBike_3 ⟨Nat.zero_le _, Nat.zero_le _⟩) hP hD hS hA (fun us_20 H locs h hP hD hS => ?_)
  have hP : va_P D vwCl (List.flatten (wReader aU C us_20 ua ++ (wRail aR C rs ra))) H := hP
  have hD : va_D A (List.flatten (wReader aU C us_20 ua ++ (wRail aR C rs ra))) := hD
  refine lv_aload_n hx hb dX5_readBike_6 rfl (lv_at hl 0 rfl) ?_
  refine lv_iconst (v := 0) hx hb dX5_readBike_7 (by decide) ?_
  refine lv_sipush (v := 9999) hx hb dX5_readBike_8 (by decide) ?_
  refine gs_I8_19 (rs_V8_18 (As := [.int 0, .int 9999]) (rest := []) ⟨hx, hb, hml, hown, hw⟩ hK hN hP hD (k_X5_readNumber l D C _ aU  us_20 ua 0 9999 h) (cwV 2 hw (goodV mw_3_39 mw_3_41 mw_s11 mw_1_2 mw_3_42) rfl rfl rfl (by decide +kernel) ⟨Nat.le_of_ble_eq_true rfl, Nat.le_of_ble_eq_true rfl⟩) rfl rfl rfl hl.1 rfl (Nat.le_of_ble_eq_true rfl) dX5_readBike_11 ⟨Nat.zero_le _, Nat.zero_le _⟩) hP hD hS hA (fun r22 us_21 H locs h hP hD hS => ?_)
  have hP : va_P D vwCl (List.flatten (wReader aU C us_21 ua ++ (wRail aR C rs ra))) H := hP
  have hD : va_D A (List.flatten (wReader aU C us_21 ua ++ (wRail aR C rs ra))) := hD
  refine lv_istore_n (lv' := [(2, .int r22), (0, .ref (aU 0)), (1, .ref (aR 0))]) hx hb dX5_readBike_14 rfl hl (by decide) rfl (fun ls hl => ?_)
  refine lv_aload_n hx hb dX5_readBike_15 rfl (lv_at hl 1 rfl) ?_
  obtain ⟨qc23, hR_qc23, h_qc23⟩ := hZ.1 (166, "seems", [115, 101, 101, 109, 115]) (List.mem_of_getElem? (i := 11) rfl)
  have h_qc23 : sAt A s s.heap [115, 101, 101, 109, 115] qc23 := h_qc23
  refine va_ldcS hx hb hown hR_qc23 dX5_readBike_16 ?_
  refine gs_V8_18 (cRunVS (As := [.ref qc23]) (rest := []) (X1.ok ([115, 101, 101, 109, 115]) qc23) ⟨hZ, h_qc23⟩ hS hA ⟨hx, hb, hml, hown, hw⟩ hK hN hP hD [0, 1] rfl rfl (k_X5_readWord l D C _ aU  us_21 ua ([115, 101, 101, 109, 115]) qc23 h) (cwV 1 hw (goodV mw_2_217 mw_2_219 mw_s8 mw_1_2 mw_2_220) rfl rfl rfl (by decide +kernel) ⟨Nat.le_of_ble_eq_true rfl, Nat.le_of_ble_eq_true rfl⟩) rfl rfl rfl hl.1 rfl (Nat.le_of_ble_eq_true rfl) dX5_readBike_18 ⟨Nat.zero_le _, Nat.zero_le _⟩) hP hD hS hA (fun us_24 H locs h hP hD hS => ?_)
  have hP : va_P D vwCl (List.flatten (wReader aU C us_24 ua ++ (wRail aR C rs ra))) H := hP
  have hD : va_D A (List.flatten (wReader aU C us_24 ua ++ (wRail aR C rs ra))) := hD
  refine lv_aload_n hx hb dX5_readBike_21 rfl (lv_at hl 1 rfl) ?_
  refine lv_iconst (v := 0) hx hb dX5_readBike_22 (by decide) ?_
  refine lv_sipush (v := 9999) hx hb dX5_readBike_23 (by decide) ?_
  refine gs_I8_19 (rs_V8_18 (As := [.int 0, .int 9999]) (rest := []) ⟨hx, hb, hml, hown, hw⟩ hK hN hP hD (k_X5_readNumber l D C _ aU  us_24 ua 0 9999 h) (cwV 2 hw (goodV mw_3_39 mw_3_41 mw_s11 mw_1_2 mw_3_42) rfl rfl rfl (by decide +kernel) ⟨Nat.le_of_ble_eq_true rfl, Nat.le_of_ble_eq_true rfl⟩) rfl rfl rfl hl.1 rfl (Nat.le_of_ble_eq_true rfl) dX5_readBike_26 ⟨Nat.zero_le _, Nat.zero_le _⟩) hP hD hS hA (fun r26 us_25 H locs h hP hD hS => ?_)
  have hP : va_P D vwCl (List.flatten (wReader aU C us_25 ua ++ (wRail aR C rs ra))) H := hP
  have hD : va_D A (List.flatten (wReader aU C us_25 ua ++ (wRail aR C rs ra))) := hD
  refine lv_istore_n (lv' := [(3, .int r26), (2, .int r22), (0, .ref (aU 0)), (1, .ref (aR 0))]) hx hb dX5_readBike_29 rfl hl (by decide) rfl (fun ls hl => ?_)
  refine lv_aload_n hx hb dX5_readBike_30 rfl (lv_at hl 2 rfl) ?_
  obtain ⟨qc27, hR_qc27, h_qc27⟩ := hZ.1 (149, "at", [97, 116]) (List.mem_of_getElem? (i := 4) rfl)
  have h_qc27 : sAt A s s.heap [97, 116] qc27 := h_qc27
  refine va_ldcS hx hb hown hR_qc27 dX5_readBike_31 ?_
  refine gs_V8_18 (cRunVS (As := [.ref qc27]) (rest := []) (X1.ok ([97, 116]) qc27) ⟨hZ, h_qc27⟩ hS hA ⟨hx, hb, hml, hown, hw⟩ hK hN hP hD [0, 1] rfl rfl (k_X5_readWord l D C _ aU  us_25 ua ([97, 116]) qc27 h) (cwV 1 hw (goodV mw_2_217 mw_2_219 mw_s8 mw_1_2 mw_2_220) rfl rfl rfl (by decide +kernel) ⟨Nat.le_of_ble_eq_true rfl, Nat.le_of_ble_eq_true rfl⟩) rfl rfl rfl hl.1 rfl (Nat.le_of_ble_eq_true rfl) dX5_readBike_33 ⟨Nat.zero_le _, Nat.zero_le _⟩) hP hD hS hA (fun us_28 H locs h hP hD hS => ?_)
  have hP : va_P D vwCl (List.flatten (wReader aU C us_28 ua ++ (wRail aR C rs ra))) H := hP
  have hD : va_D A (List.flatten (wReader aU C us_28 ua ++ (wRail aR C rs ra))) := hD
  refine lv_aload_n hx hb dX5_readBike_36 rfl (lv_at hl 2 rfl) ?_
  refine va_get (D := D) (ci := 5) (v := .ref (aU 1)) (C := RX5) (T := TX5) (N := 3) hx hb hw inW_X5 hown hK hP 0 rfl rfl 0 (by decide) (hw _ mw_1_65) (fun _ h9 => h9) rfl dX5_readBike_37 ?_
  refine va_getN (D := D) (ci := 8) (v := .int (us_28 5)) (C := RX8) (T := TX8) (N := 6) hx hb hw inW_X8 hown hK hP 1 rfl rfl 4 (by decide) hn33 (fun _ h9 => h9) rfl dX5_readBike_40 ?_
  refine lv_iconst (v := 2) hx hb dX5_readBike_43 (by decide) ?_
  refine lv_icmp_ne (tgt := 70) hx hb dX5_readBike_44 (by decide) (fun c29 => ?_) (fun c29 => ?_)
  · have h := h.1 c29
    exact N70 r22 r26 us_28 rs ra _ _ _ h hP hD hS (lv_sub hl [2, 3, 1, 0] rfl)
  · have h := h.2 c29
    refine lv_aload_n hx hb dX5_readBike_47 rfl (lv_at hl 3 rfl) ?_
    refine va_getN (D := D) (ci := 4) (v := .ref (aR 7)) (C := RX4) (T := TX4) (N := 16) hx hb hw inW_X4 hown hK hP 3 rfl rfl 5 (by decide) hn82 (fun _ h9 => h9) rfl dX5_readBike_48 ?_
    refine lv_aload_n hx hb dX5_readBike_51 rfl (lv_at hl 2 rfl) ?_
    refine va_get (D := D) (ci := 5) (v := .ref (aU 1)) (C := RX5) (T := TX5) (N := 3) hx hb hw inW_X5 hown hK hP 0 rfl rfl 0 (by decide) (hw _ mw_1_65) (fun _ h9 => h9) rfl dX5_readBike_52 ?_
    refine va_getN (D := D) (ci := 8) (v := .int (us_28 6)) (C := RX8) (T := TX8) (N := 6) hx hb hw inW_X8 hown hK hP 1 rfl rfl 5 (by decide) hn168 (fun _ h9 => h9) rfl dX5_readBike_55 ?_
    refine gs_I8_23 (rs_VN8_21 (As := [.int (us_28 6)]) (rest := []) ⟨hx, hb, hml, hown, hw⟩ hK hN hP hD (k_X0_standingAt l D C _ (aR 7) (aR 8) (aR 9) (aR 10) (aR 11) (aR 12)  (rs 13) (ra 4) (ra 5) (ra 6) (ra 7) (ra 8) (us_28 6) h) ⟨va_cnB 1 hw (goodN mw_3_80) rfl rfl rfl (hN.m 20 rfl) (hw _ mw_1_7) (by decide +kernel) ⟨Nat.le_of_ble_eq_true rfl, Nat.le_of_ble_eq_true rfl⟩, hw _ mw_3_79, hw _ mw_s18⟩ rfl rfl rfl hl.1 rfl (Nat.le_of_ble_eq_true rfl) dX5_readBike_58 ⟨Nat.zero_le _, Nat.zero_le _⟩) hP hD hS hA (fun r30 u H locs h hP hD hS => ?_)
    have hP : va_P D vwCl (List.flatten (wReader aU C us_28 ua ++ (wRail aR C rs ra))) H := hP
    have hD : va_D A (List.flatten (wReader aU C us_28 ua ++ (wRail aR C rs ra))) := hD
    refine lv_iconst (v := (-1)) hx hb dX5_readBike_61 (by decide) ?_
    refine lv_icmp_eq (tgt := 70) hx hb dX5_readBike_62 (by decide) (fun c31 => ?_) (fun c31 => ?_)
    · have h := h.1 c31
      exact N70 r22 r26 us_28 rs ra _ _ _ h hP hD hS (lv_sub hl [2, 3, 1, 0] rfl)
    · have h := h.2 c31
      refine lv_aload_n hx hb dX5_readBike_65 rfl (lv_at hl 2 rfl) ?_
      refine lv_iconst (v := 2) hx hb dX5_readBike_66 (by decide) ?_
      refine gs_V8_18 (rs_V8_18 (As := [.int 2]) (rest := []) ⟨hx, hb, hml, hown, hw⟩ hK hN hP hD (k_X5_fail l D C _ aU  us_28 ua 2 h) (cwV 1 hw (goodV mw_3_34 mw_3_36 mw_s10 mw_1_2 mw_3_37) rfl rfl rfl (by decide +kernel) ⟨Nat.le_of_ble_eq_true rfl, Nat.le_of_ble_eq_true rfl⟩) rfl rfl rfl hl.1 rfl (Nat.le_of_ble_eq_true rfl) dX5_readBike_67 ⟨Nat.zero_le _, Nat.zero_le _⟩) hP hD hS hA (fun us_32 H locs h hP hD hS => ?_)
      have hP : va_P D vwCl (List.flatten (wReader aU C us_32 ua ++ (wRail aR C rs ra))) H := hP
      have hD : va_D A (List.flatten (wReader aU C us_32 ua ++ (wRail aR C rs ra))) := hD
      exact N70 r22 r26 us_32 rs ra _ _ _ h hP hD hS (lv_sub hl [2, 3, 1, 0] rfl)
abbrev vsX5_readThief : List Cond := Cond.code yX5_readThief cX5_readThief 7 none :: WS
abbrev rmX5_readThief : Room := { frames := 6, cells := 0, slots := 0, locals := 129 }
set_option maxHeartbeats 4000000 in
set_option maxRecDepth 100000 in
theorem k_X5_readThief (l : Launch) (D : va_G) (C : Nat → ClassId) (sz : Nat) (aU : Nat → Nat) (aR : Nat → Nat)  (us : Nat → Int32) (ua : Nat → Nat → Int32) (rs : Nat → Int32) (ra : Nat → Nat → Int32)  {post : (Nat → Int32) → (Nat → Int32) → (Nat → Nat → Int32) → Prop} (h : P_X5_readThief us ua rs ra post) : Met l yX5_readThief vsX5_readThief rmX5_readThief (cPreS D C [.ref (aU 0), .ref (aR 0)] sz (wReader aU C us ua ++ (wRail aR C rs ra)) sAll) (cQv D (fun (u : (Nat → Int32) × (Nat → Int32) × (Nat → Nat → Int32)) => post u.1 u.2.1 u.2.2) (fun u => wReader aU C u.1 ua ++ (wRail aR C u.2.1 u.2.2)) (va_A (List.flatten (wReader aU C us ua ++ (wRail aR C rs ra))) sz)) 0 0 (va_A (List.flatten (wReader aU C us ua ++ (wRail aR C rs ra))) sz) := by
  refine cStartS (QA := fun A => cQv D (fun (u : (Nat → Int32) × (Nat → Int32) × (Nat → Nat → Int32)) => post u.1 u.2.1 u.2.2) (fun u => wReader aU C u.1 ua ++ (wRail aR C u.2.1 u.2.2)) A) (cc := cX5_readThief) (maxL := 7) (ret := none) (by decide) (Nat.le_of_ble_eq_true rfl) ?_
  intro p e s m args below meth c A ls hx hb hr hml hown hw hlocks hname hK hN hA hP hD hS hl hX
  generalize hQ : MQ below _ args s 0 0 A = Q
  have hl : lv_has ls 7 [(0, .ref (aU 0)), (1, .ref (aR 0))] := hl
  have hZ : sAll A s s.heap := hX
  have hn94 : (Cond.fieldLinkNest "LockRail$Reader" 94 "LockRail$Rail" "thieves" "LLockRail$Thieves;" "LockRail").before args s = true := hN.f 63 rfl
  have hn82 : (Cond.fieldLinkNest "LockRail$Reader" 82 "LockRail$Rail" "bikes" "LLockRail$Bikes;" "LockRail").before args s = true := hN.f 60 rfl
  have hn86 : (Cond.fieldLinkNest "LockRail$Reader" 86 "LockRail$Bikes" "count" "I" "LockRail").before args s = true := hN.f 19 rfl
  obtain ⟨H, hH⟩ : ∃ H, H = s.heap := ⟨_, rfl⟩
  obtain ⟨locs, hlo⟩ : ∃ z : List Loc, z = [] := ⟨_, rfl⟩
  have hP : va_P D vwCl (List.flatten (wReader aU C us ua ++ (wRail aR C rs ra))) H := by rw [hH]; exact hP
  have hS : va_S A s.heap H locs := by rw [hH, hlo]; exact hS
  rw [show W p l e rmX5_readThief s m args below meth c s.heap [] 0 0 Q (F0 m 0 ls []) = W p l e rmX5_readThief s m args below meth c H locs 0 0 Q (F0 m 0 ls []) from by rw [hH, hlo]]
  have N100 : ∀ (x2_ : Int32) (x3_ : Int32) (x4_ : Int32) (x5_ : Int32) (x6_ : Int32) (us : Nat → Int32) (rs : Nat → Int32) (ra : Nat → Nat → Int32) (H : Heap) (locs : List Loc) (ls : Array Slot), P_X5_readThief_100 ua post  x2_ x3_ x4_ x5_ x6_ us rs ra → va_P D vwCl (List.flatten (wReader aU C us ua ++ (wRail aR C rs ra))) H → va_D A (List.flatten (wReader aU C us ua ++ (wRail aR C rs ra))) → va_S A s.heap H locs → lv_has ls 7 [(0, .ref (aU 0)), (1, .ref (aR 0)), (2, .int x2_), (3, .int x3_), (4, .int x4_), (5, .int x5_), (6, .int x6_)] → W p l e rmX5_readThief s m args below meth c H locs 0 0 Q (F0 m 100 ls []) := by
    intro x2_ x3_ x4_ x5_ x6_ us rs ra H locs ls h hP hD hS hl
    refine lv_aload_n hx hb dX5_readThief_100 rfl (lv_at hl 0 rfl) ?_
    refine va_get (D := D) (ci := 5) (v := .int (us 0)) (C := RX5) (T := TX5) (N := 3) hx hb hw inW_X5 hown hK hP 0 rfl rfl 1 (by decide) (hw _ mw_1_67) (fun _ h9 => h9) rfl dX5_readThief_101 ?_
    refine lv_if_ne (tgt := 122) hx hb dX5_readThief_104 (by decide) (fun c1 => ?_) (fun c1 => ?_)
    · have h := h.1 c1
      rw [← hQ]
      exact cRetV (us, rs, ra) hx hb hr hlocks hS hP hD h dX5_readThief_122
    · have h := h.2 c1
      refine lv_aload_n hx hb dX5_readThief_107 rfl (lv_at hl 1 rfl) ?_
      refine va_getN (D := D) (ci := 4) (v := .ref (aR 13)) (C := RX4) (T := TX4) (N := 16) hx hb hw inW_X4 hown hK hP 3 rfl rfl 6 (by decide) hn94 (fun _ h9 => h9) rfl dX5_readThief_108 ?_
      refine lv_iload_n hx hb dX5_readThief_111 rfl (lv_at hl 2 rfl) ?_
      refine lv_iload_n hx hb dX5_readThief_112 rfl (lv_at hl 3 rfl) ?_
      refine lv_iload hx hb dX5_readThief_113 (lv_at hl 4 rfl) ?_
      refine lv_iload hx hb dX5_readThief_115 (lv_at hl 5 rfl) ?_
      refine lv_iload hx hb dX5_readThief_117 (lv_at hl 6 rfl) ?_
      refine gs_V8_24 (rs_VN8_22 (As := [.int x2_, .int x3_, .int x4_, .int x5_, .int x6_]) (rest := []) ⟨hx, hb, hml, hown, hw⟩ hK hN hP hD (k_X9_add l D C _ (aR 13) (aR 14) (aR 15) (aR 16) (aR 17) (aR 18)  (rs 14) (ra 9) (ra 10) (ra 11) (ra 12) (ra 13) x2_ x3_ x4_ x5_ x6_ h) ⟨va_cnB 5 hw (goodN mw_3_104) rfl rfl rfl (hN.m 22 rfl) (hw _ mw_1_8) (by decide +kernel) ⟨Nat.le_of_ble_eq_true rfl, Nat.le_of_ble_eq_true rfl⟩, hw _ mw_3_103, hw _ mw_s22⟩ rfl rfl rfl hl.1 rfl (Nat.le_of_ble_eq_true rfl) dX5_readThief_119 ⟨Nat.zero_le _, Nat.zero_le _⟩) hP hD hS hA (fun u H locs h hP hD hS => ?_)
      obtain ⟨cou_2, too_3, com_4, fea_5, kin_6, jus_7⟩ := u
      have hP : va_P D vwCl (List.flatten (wReader aU C us ua ++ (wRail aR C (va_up rs 14 cou_2) (va_up (va_up (va_up (va_up (va_up ra 9 too_3) 10 com_4) 11 fea_5) 12 kin_6) 13 jus_7)))) H := hP
      have hD : va_D A (List.flatten (wReader aU C us ua ++ (wRail aR C (va_up rs 14 cou_2) (va_up (va_up (va_up (va_up (va_up ra 9 too_3) 10 com_4) 11 fea_5) 12 kin_6) 13 jus_7)))) := hD
      rw [← hQ]
      exact cRetV (us, (va_up rs 14 cou_2), (va_up (va_up (va_up (va_up (va_up ra 9 too_3) 10 com_4) 11 fea_5) 12 kin_6) 13 jus_7)) hx hb hr hlocks hS hP hD h dX5_readThief_122
  refine lv_aload_n hx hb dX5_readThief_0 rfl (lv_at hl 0 rfl) ?_
  obtain ⟨qc8, hR_qc8, h_qc8⟩ := hZ.1 (183, "tool", [116, 111, 111, 108]) (List.mem_of_getElem? (i := 14) rfl)
  have h_qc8 : sAt A s s.heap [116, 111, 111, 108] qc8 := h_qc8
  refine va_ldcS hx hb hown hR_qc8 dX5_readThief_1 ?_
  refine gs_V8_18 (cRunVS (As := [.ref qc8]) (rest := []) (X1.ok ([116, 111, 111, 108]) qc8) ⟨hZ, h_qc8⟩ hS hA ⟨hx, hb, hml, hown, hw⟩ hK hN hP hD [0, 1] rfl rfl (k_X5_readWord l D C _ aU  us ua ([116, 111, 111, 108]) qc8 h) (cwV 1 hw (goodV mw_2_217 mw_2_219 mw_s8 mw_1_2 mw_2_220) rfl rfl rfl (by decide +kernel) ⟨Nat.le_of_ble_eq_true rfl, Nat.le_of_ble_eq_true rfl⟩) rfl rfl rfl hl.1 rfl (Nat.le_of_ble_eq_true rfl) dX5_readThief_3 ⟨Nat.zero_le _, Nat.zero_le _⟩) hP hD hS hA (fun us_9 H locs h hP hD hS => ?_)
  have hP : va_P D vwCl (List.flatten (wReader aU C us_9 ua ++ (wRail aR C rs ra))) H := hP
  have hD : va_D A (List.flatten (wReader aU C us_9 ua ++ (wRail aR C rs ra))) := hD
  refine lv_aload_n hx hb dX5_readThief_6 rfl (lv_at hl 0 rfl) ?_
  refine lv_iconst (v := 0) hx hb dX5_readThief_7 (by decide) ?_
  refine lv_iconst (v := 2) hx hb dX5_readThief_8 (by decide) ?_
  refine gs_I8_19 (rs_V8_18 (As := [.int 0, .int 2]) (rest := []) ⟨hx, hb, hml, hown, hw⟩ hK hN hP hD (k_X5_readNumber l D C _ aU  us_9 ua 0 2 h) (cwV 2 hw (goodV mw_3_39 mw_3_41 mw_s11 mw_1_2 mw_3_42) rfl rfl rfl (by decide +kernel) ⟨Nat.le_of_ble_eq_true rfl, Nat.le_of_ble_eq_true rfl⟩) rfl rfl rfl hl.1 rfl (Nat.le_of_ble_eq_true rfl) dX5_readThief_9 ⟨Nat.zero_le _, Nat.zero_le _⟩) hP hD hS hA (fun r11 us_10 H locs h hP hD hS => ?_)
  have hP : va_P D vwCl (List.flatten (wReader aU C us_10 ua ++ (wRail aR C rs ra))) H := hP
  have hD : va_D A (List.flatten (wReader aU C us_10 ua ++ (wRail aR C rs ra))) := hD
  refine lv_istore_n (lv' := [(2, .int r11), (0, .ref (aU 0)), (1, .ref (aR 0))]) hx hb dX5_readThief_12 rfl hl (by decide) rfl (fun ls hl => ?_)
  refine lv_aload_n hx hb dX5_readThief_13 rfl (lv_at hl 1 rfl) ?_
  obtain ⟨qc12, hR_qc12, h_qc12⟩ := hZ.1 (185, "comes", [99, 111, 109, 101, 115]) (List.mem_of_getElem? (i := 15) rfl)
  have h_qc12 : sAt A s s.heap [99, 111, 109, 101, 115] qc12 := h_qc12
  refine va_ldcS hx hb hown hR_qc12 dX5_readThief_14 ?_
  refine gs_V8_18 (cRunVS (As := [.ref qc12]) (rest := []) (X1.ok ([99, 111, 109, 101, 115]) qc12) ⟨hZ, h_qc12⟩ hS hA ⟨hx, hb, hml, hown, hw⟩ hK hN hP hD [0, 1] rfl rfl (k_X5_readWord l D C _ aU  us_10 ua ([99, 111, 109, 101, 115]) qc12 h) (cwV 1 hw (goodV mw_2_217 mw_2_219 mw_s8 mw_1_2 mw_2_220) rfl rfl rfl (by decide +kernel) ⟨Nat.le_of_ble_eq_true rfl, Nat.le_of_ble_eq_true rfl⟩) rfl rfl rfl hl.1 rfl (Nat.le_of_ble_eq_true rfl) dX5_readThief_16 ⟨Nat.zero_le _, Nat.zero_le _⟩) hP hD hS hA (fun us_13 H locs h hP hD hS => ?_)
  have hP : va_P D vwCl (List.flatten (wReader aU C us_13 ua ++ (wRail aR C rs ra))) H := hP
  have hD : va_D A (List.flatten (wReader aU C us_13 ua ++ (wRail aR C rs ra))) := hD
  refine lv_aload_n hx hb dX5_readThief_19 rfl (lv_at hl 1 rfl) ?_
  refine lv_iconst (v := 0) hx hb dX5_readThief_20 (by decide) ?_
  refine lv_bipush (v := 100) hx hb dX5_readThief_21 (by decide) ?_
  refine gs_I8_19 (rs_V8_18 (As := [.int 0, .int 100]) (rest := []) ⟨hx, hb, hml, hown, hw⟩ hK hN hP hD (k_X5_readNumber l D C _ aU  us_13 ua 0 100 h) (cwV 2 hw (goodV mw_3_39 mw_3_41 mw_s11 mw_1_2 mw_3_42) rfl rfl rfl (by decide +kernel) ⟨Nat.le_of_ble_eq_true rfl, Nat.le_of_ble_eq_true rfl⟩) rfl rfl rfl hl.1 rfl (Nat.le_of_ble_eq_true rfl) dX5_readThief_23 ⟨Nat.zero_le _, Nat.zero_le _⟩) hP hD hS hA (fun r15 us_14 H locs h hP hD hS => ?_)
  have hP : va_P D vwCl (List.flatten (wReader aU C us_14 ua ++ (wRail aR C rs ra))) H := hP
  have hD : va_D A (List.flatten (wReader aU C us_14 ua ++ (wRail aR C rs ra))) := hD
  refine lv_istore_n (lv' := [(3, .int r15), (2, .int r11), (0, .ref (aU 0)), (1, .ref (aR 0))]) hx hb dX5_readThief_26 rfl hl (by decide) rfl (fun ls hl => ?_)
  refine lv_aload_n hx hb dX5_readThief_27 rfl (lv_at hl 2 rfl) ?_
  obtain ⟨qc16, hR_qc16, h_qc16⟩ := hZ.1 (187, "fears", [102, 101, 97, 114, 115]) (List.mem_of_getElem? (i := 16) rfl)
  have h_qc16 : sAt A s s.heap [102, 101, 97, 114, 115] qc16 := h_qc16
  refine va_ldcS hx hb hown hR_qc16 dX5_readThief_28 ?_
  refine gs_V8_18 (cRunVS (As := [.ref qc16]) (rest := []) (X1.ok ([102, 101, 97, 114, 115]) qc16) ⟨hZ, h_qc16⟩ hS hA ⟨hx, hb, hml, hown, hw⟩ hK hN hP hD [0, 1] rfl rfl (k_X5_readWord l D C _ aU  us_14 ua ([102, 101, 97, 114, 115]) qc16 h) (cwV 1 hw (goodV mw_2_217 mw_2_219 mw_s8 mw_1_2 mw_2_220) rfl rfl rfl (by decide +kernel) ⟨Nat.le_of_ble_eq_true rfl, Nat.le_of_ble_eq_true rfl⟩) rfl rfl rfl hl.1 rfl (Nat.le_of_ble_eq_true rfl) dX5_readThief_30 ⟨Nat.zero_le _, Nat.zero_le _⟩) hP hD hS hA (fun us_17 H locs h hP hD hS => ?_)
  have hP : va_P D vwCl (List.flatten (wReader aU C us_17 ua ++ (wRail aR C rs ra))) H := hP
  have hD : va_D A (List.flatten (wReader aU C us_17 ua ++ (wRail aR C rs ra))) := hD
  refine lv_aload_n hx hb dX5_readThief_33 rfl (lv_at hl 2 rfl) ?_
  refine lv_iconst (v := 0) hx hb dX5_readThief_34 (by decide) ?_
  refine lv_bipush (v := 99) hx hb dX5_readThief_35 (by decide) ?_
  refine gs_I8_19 (rs_V8_18 (As := [.int 0, .int 99]) (rest := []) ⟨hx, hb, hml, hown, hw⟩ hK hN hP hD (k_X5_readNumber l D C _ aU  us_17 ua 0 99 h) (cwV 2 hw (goodV mw_3_39 mw_3_41 mw_s11 mw_1_2 mw_3_42) rfl rfl rfl (by decide +kernel) ⟨Nat.le_of_ble_eq_true rfl, Nat.le_of_ble_eq_true rfl⟩) rfl rfl rfl hl.1 rfl (Nat.le_of_ble_eq_true rfl) dX5_readThief_37 ⟨Nat.zero_le _, Nat.zero_le _⟩) hP hD hS hA (fun r19 us_18 H locs h hP hD hS => ?_)
  have hP : va_P D vwCl (List.flatten (wReader aU C us_18 ua ++ (wRail aR C rs ra))) H := hP
  have hD : va_D A (List.flatten (wReader aU C us_18 ua ++ (wRail aR C rs ra))) := hD
  refine lv_istore (lv' := [(4, .int r19), (3, .int r15), (2, .int r11), (0, .ref (aU 0)), (1, .ref (aR 0))]) hx hb dX5_readThief_40 hl (by decide) rfl (fun ls hl => ?_)
  refine lv_iconst (v := 2) hx hb dX5_readThief_42 (by decide) ?_
  refine lv_istore (lv' := [(5, .int 2), (4, .int r19), (3, .int r15), (2, .int r11), (0, .ref (aU 0)), (1, .ref (aR 0))]) hx hb dX5_readThief_43 hl (by decide) rfl (fun ls hl => ?_)
  refine lv_iconst (v := (-1)) hx hb dX5_readThief_45 (by decide) ?_
  refine lv_istore (lv' := [(6, .int (-1)), (5, .int 2), (4, .int r19), (3, .int r15), (2, .int r11), (0, .ref (aU 0)), (1, .ref (aR 0))]) hx hb dX5_readThief_46 hl (by decide) rfl (fun ls hl => ?_)
  refine lv_aload_n hx hb dX5_readThief_48 rfl (lv_at hl 5 rfl) ?_
  obtain ⟨qc20, hR_qc20, h_qc20⟩ := hZ.1 (189, "best", [98, 101, 115, 116]) (List.mem_of_getElem? (i := 17) rfl)
  have h_qc20 : sAt A s s.heap [98, 101, 115, 116] qc20 := h_qc20
  refine va_ldcS hx hb hown hR_qc20 dX5_readThief_49 ?_
  refine gs_I8_19 (cRunVS (As := [.ref qc20]) (rest := []) (X1.ok ([98, 101, 115, 116]) qc20) ⟨hZ, h_qc20⟩ hS hA ⟨hx, hb, hml, hown, hw⟩ hK hN hP hD [0, 1] rfl rfl (k_X5_readIf l D C _ aU  us_18 ua ([98, 101, 115, 116]) qc20 h) (cwV 1 hw (goodV mw_3_81 mw_3_83 mw_s19 mw_1_2 mw_3_84) rfl rfl rfl (by decide +kernel) ⟨Nat.le_of_ble_eq_true rfl, Nat.le_of_ble_eq_true rfl⟩) rfl rfl rfl hl.1 rfl (Nat.le_of_ble_eq_true rfl) dX5_readThief_51 ⟨Nat.zero_le _, Nat.zero_le _⟩) hP hD hS hA (fun r22 us_21 H locs h hP hD hS => ?_)
  have hP : va_P D vwCl (List.flatten (wReader aU C us_21 ua ++ (wRail aR C rs ra))) H := hP
  have hD : va_D A (List.flatten (wReader aU C us_21 ua ++ (wRail aR C rs ra))) := hD
  refine lv_if_eq (tgt := 63) hx hb dX5_readThief_54 (by decide) (fun c23 => ?_) (fun c23 => ?_)
  · have h := h.1 c23
    refine lv_aload_n hx hb dX5_readThief_63 rfl (lv_at hl 5 rfl) ?_
    obtain ⟨qc24, hR_qc24, h_qc24⟩ := hZ.1 (191, "any", [97, 110, 121]) (List.mem_of_getElem? (i := 18) rfl)
    have h_qc24 : sAt A s s.heap [97, 110, 121] qc24 := h_qc24
    refine va_ldcS hx hb hown hR_qc24 dX5_readThief_64 ?_
    refine gs_I8_19 (cRunVS (As := [.ref qc24]) (rest := []) (X1.ok ([97, 110, 121]) qc24) ⟨hZ, h_qc24⟩ hS hA ⟨hx, hb, hml, hown, hw⟩ hK hN hP hD [0, 1] rfl rfl (k_X5_readIf l D C _ aU  us_21 ua ([97, 110, 121]) qc24 h) (cwV 1 hw (goodV mw_3_81 mw_3_83 mw_s19 mw_1_2 mw_3_84) rfl rfl rfl (by decide +kernel) ⟨Nat.le_of_ble_eq_true rfl, Nat.le_of_ble_eq_true rfl⟩) rfl rfl rfl hl.1 rfl (Nat.le_of_ble_eq_true rfl) dX5_readThief_66 ⟨Nat.zero_le _, Nat.zero_le _⟩) hP hD hS hA (fun r26 us_25 H locs h hP hD hS => ?_)
    have hP : va_P D vwCl (List.flatten (wReader aU C us_25 ua ++ (wRail aR C rs ra))) H := hP
    have hD : va_D A (List.flatten (wReader aU C us_25 ua ++ (wRail aR C rs ra))) := hD
    refine lv_if_eq (tgt := 78) hx hb dX5_readThief_69 (by decide) (fun c27 => ?_) (fun c27 => ?_)
    · have h := h.1 c27
      refine lv_aload_n hx hb dX5_readThief_78 rfl (lv_at hl 5 rfl) ?_
      obtain ⟨qc28, hR_qc28, h_qc28⟩ := hZ.1 (193, "just", [106, 117, 115, 116]) (List.mem_of_getElem? (i := 19) rfl)
      have h_qc28 : sAt A s s.heap [106, 117, 115, 116] qc28 := h_qc28
      refine va_ldcS hx hb hown hR_qc28 dX5_readThief_79 ?_
      refine gs_V8_18 (cRunVS (As := [.ref qc28]) (rest := []) (X1.ok ([106, 117, 115, 116]) qc28) ⟨hZ, h_qc28⟩ hS hA ⟨hx, hb, hml, hown, hw⟩ hK hN hP hD [0, 1] rfl rfl (k_X5_readWord l D C _ aU  us_25 ua ([106, 117, 115, 116]) qc28 h) (cwV 1 hw (goodV mw_2_217 mw_2_219 mw_s8 mw_1_2 mw_2_220) rfl rfl rfl (by decide +kernel) ⟨Nat.le_of_ble_eq_true rfl, Nat.le_of_ble_eq_true rfl⟩) rfl rfl rfl hl.1 rfl (Nat.le_of_ble_eq_true rfl) dX5_readThief_81 ⟨Nat.zero_le _, Nat.zero_le _⟩) hP hD hS hA (fun us_29 H locs h hP hD hS => ?_)
      have hP : va_P D vwCl (List.flatten (wReader aU C us_29 ua ++ (wRail aR C rs ra))) H := hP
      have hD : va_D A (List.flatten (wReader aU C us_29 ua ++ (wRail aR C rs ra))) := hD
      refine lv_aload_n hx hb dX5_readThief_84 rfl (lv_at hl 5 rfl) ?_
      refine lv_iconst (v := 0) hx hb dX5_readThief_85 (by decide) ?_
      refine lv_aload_n hx hb dX5_readThief_86 rfl (lv_at hl 6 rfl) ?_
      refine va_getN (D := D) (ci := 4) (v := .ref (aR 7)) (C := RX4) (T := TX4) (N := 16) hx hb hw inW_X4 hown hK hP 3 rfl rfl 5 (by decide) hn82 (fun _ h9 => h9) rfl dX5_readThief_87 ?_
      refine va_getN (D := D) (ci := 0) (v := .int (rs 13)) (C := RX0) (T := TX0) (N := 6) hx hb hw inW_X0 hown hK hP 10 rfl rfl 0 (by decide) hn86 (fun _ h9 => h9) rfl dX5_readThief_90 ?_
      refine lv_iconst (v := 1) hx hb dX5_readThief_93 (by decide) ?_
      refine lv_isub hx hb dX5_readThief_94 ?_
      refine gs_I8_19 (rs_V8_18 (As := [.int 0, .int ((rs 13) - 1)]) (rest := []) ⟨hx, hb, hml, hown, hw⟩ hK hN hP hD (k_X5_readNumber l D C _ aU  us_29 ua 0 ((rs 13) - 1) h) (cwV 2 hw (goodV mw_3_39 mw_3_41 mw_s11 mw_1_2 mw_3_42) rfl rfl rfl (by decide +kernel) ⟨Nat.le_of_ble_eq_true rfl, Nat.le_of_ble_eq_true rfl⟩) rfl rfl rfl hl.1 rfl (Nat.le_of_ble_eq_true rfl) dX5_readThief_95 ⟨Nat.zero_le _, Nat.zero_le _⟩) hP hD hS hA (fun r31 us_30 H locs h hP hD hS => ?_)
      have hP : va_P D vwCl (List.flatten (wReader aU C us_30 ua ++ (wRail aR C rs ra))) H := hP
      have hD : va_D A (List.flatten (wReader aU C us_30 ua ++ (wRail aR C rs ra))) := hD
      refine lv_istore (lv' := [(6, .int r31), (5, .int 2), (4, .int r19), (3, .int r15), (2, .int r11), (0, .ref (aU 0)), (1, .ref (aR 0))]) hx hb dX5_readThief_98 hl (by decide) rfl (fun ls hl => ?_)
      exact N100 r11 r15 r19 2 r31 us_30 rs ra _ _ _ h hP hD hS (lv_sub hl [5, 6, 4, 3, 2, 1, 0] rfl)
    · have h := h.2 c27
      refine lv_iconst (v := 1) hx hb dX5_readThief_72 (by decide) ?_
      refine lv_istore (lv' := [(5, .int 1), (6, .int (-1)), (4, .int r19), (3, .int r15), (2, .int r11), (0, .ref (aU 0)), (1, .ref (aR 0))]) hx hb dX5_readThief_73 hl (by decide) rfl (fun ls hl => ?_)
      refine lv_goto (tgt := 100) hx hb dX5_readThief_75 (by decide) ?_
      exact N100 r11 r15 r19 1 (-1) us_25 rs ra _ _ _ h hP hD hS (lv_sub hl [5, 6, 4, 3, 2, 0, 1] rfl)
  · have h := h.2 c23
    refine lv_iconst (v := 0) hx hb dX5_readThief_57 (by decide) ?_
    refine lv_istore (lv' := [(5, .int 0), (6, .int (-1)), (4, .int r19), (3, .int r15), (2, .int r11), (0, .ref (aU 0)), (1, .ref (aR 0))]) hx hb dX5_readThief_58 hl (by decide) rfl (fun ls hl => ?_)
    refine lv_goto (tgt := 100) hx hb dX5_readThief_60 (by decide) ?_
    exact N100 r11 r15 r19 0 (-1) us_21 rs ra _ _ _ h hP hD hS (lv_sub hl [5, 6, 4, 3, 2, 0, 1] rfl)
abbrev vsX5_readMark : List Cond := Cond.code yX5_readMark cX5_readMark 2 none :: WS
abbrev rmX5_readMark : Room := { frames := 6, cells := 0, slots := 0, locals := 129 }
set_option maxHeartbeats 4000000 in
set_option maxRecDepth 100000 in
theorem k_X5_readMark (l : Launch) (D : va_G) (C : Nat → ClassId) (sz : Nat) (aU : Nat → Nat) (aR : Nat → Nat)  (us : Nat → Int32) (ua : Nat → Nat → Int32) (rs : Nat → Int32) (ra : Nat → Nat → Int32)  {post : (Nat → Int32) → (Nat → Int32) → Prop} (h : P_X5_readMark us ua rs post) : Met l yX5_readMark vsX5_readMark rmX5_readMark (cPreS D C [.ref (aU 0), .ref (aR 0)] sz (wReader aU C us ua ++ (wRail aR C rs ra)) sAll) (cQv D (fun (u : (Nat → Int32) × (Nat → Int32)) => post u.1 u.2) (fun u => wReader aU C u.1 ua ++ (wRail aR C u.2 ra)) (va_A (List.flatten (wReader aU C us ua ++ (wRail aR C rs ra))) sz)) 0 0 (va_A (List.flatten (wReader aU C us ua ++ (wRail aR C rs ra))) sz) := by
  refine cStartS (QA := fun A => cQv D (fun (u : (Nat → Int32) × (Nat → Int32)) => post u.1 u.2) (fun u => wReader aU C u.1 ua ++ (wRail aR C u.2 ra)) A) (cc := cX5_readMark) (maxL := 2) (ret := none) (by decide) (Nat.le_of_ble_eq_true rfl) ?_
  intro p e s m args below meth c A ls hx hb hr hml hown hw hlocks hname hK hN hA hP hD hS hl hX
  generalize hQ : MQ below _ args s 0 0 A = Q
  have hl : lv_has ls 2 [(0, .ref (aU 0)), (1, .ref (aR 0))] := hl
  have hZ : sAll A s s.heap := hX
  have hn198 : (Cond.fieldLinkNest "LockRail$Reader" 198 "LockRail$Rail" "markPrice" "I" "LockRail").before args s = true := hN.f 66 rfl
  have hn203 : (Cond.fieldLinkNest "LockRail$Reader" 203 "LockRail$Rail" "known" "I" "LockRail").before args s = true := hN.f 67 rfl
  have hn207 : (Cond.fieldLinkNest "LockRail$Reader" 207 "LockRail$Rail" "hidden" "Z" "LockRail").before args s = true := hN.f 68 rfl
  have hn106 : (Cond.fieldLinkNest "LockRail$Reader" 106 "LockRail$Rail" "markTold" "Z" "LockRail").before args s = true := hN.f 65 rfl
  obtain ⟨H, hH⟩ : ∃ H, H = s.heap := ⟨_, rfl⟩
  obtain ⟨locs, hlo⟩ : ∃ z : List Loc, z = [] := ⟨_, rfl⟩
  have hP : va_P D vwCl (List.flatten (wReader aU C us ua ++ (wRail aR C rs ra))) H := by rw [hH]; exact hP
  have hS : va_S A s.heap H locs := by rw [hH, hlo]; exact hS
  rw [show W p l e rmX5_readMark s m args below meth c s.heap [] 0 0 Q (F0 m 0 ls []) = W p l e rmX5_readMark s m args below meth c H locs 0 0 Q (F0 m 0 ls []) from by rw [hH, hlo]]
  refine lv_aload_n hx hb dX5_readMark_0 rfl (lv_at hl 0 rfl) ?_
  obtain ⟨qc1, hR_qc1, h_qc1⟩ := hZ.1 (157, "price", [112, 114, 105, 99, 101]) (List.mem_of_getElem? (i := 7) rfl)
  have h_qc1 : sAt A s s.heap [112, 114, 105, 99, 101] qc1 := h_qc1
  refine va_ldcS hx hb hown hR_qc1 dX5_readMark_1 ?_
  refine gs_V8_18 (cRunVS (As := [.ref qc1]) (rest := []) (X1.ok ([112, 114, 105, 99, 101]) qc1) ⟨hZ, h_qc1⟩ hS hA ⟨hx, hb, hml, hown, hw⟩ hK hN hP hD [0, 1] rfl rfl (k_X5_readWord l D C _ aU  us ua ([112, 114, 105, 99, 101]) qc1 h) (cwV 1 hw (goodV mw_2_217 mw_2_219 mw_s8 mw_1_2 mw_2_220) rfl rfl rfl (by decide +kernel) ⟨Nat.le_of_ble_eq_true rfl, Nat.le_of_ble_eq_true rfl⟩) rfl rfl rfl hl.1 rfl (Nat.le_of_ble_eq_true rfl) dX5_readMark_3 ⟨Nat.zero_le _, Nat.zero_le _⟩) hP hD hS hA (fun us_2 H locs h hP hD hS => ?_)
  have hP : va_P D vwCl (List.flatten (wReader aU C us_2 ua ++ (wRail aR C rs ra))) H := hP
  have hD : va_D A (List.flatten (wReader aU C us_2 ua ++ (wRail aR C rs ra))) := hD
  refine lv_aload_n hx hb dX5_readMark_6 rfl (lv_at hl 1 rfl) ?_
  refine lv_aload_n hx hb dX5_readMark_7 rfl (lv_at hl 0 rfl) ?_
  refine lv_iconst (v := 0) hx hb dX5_readMark_8 (by decide) ?_
  refine lv_sipush (v := 999) hx hb dX5_readMark_9 (by decide) ?_
  refine gs_I8_19 (rs_V8_18 (As := [.int 0, .int 999]) (rest := [.ref (aR 0)]) ⟨hx, hb, hml, hown, hw⟩ hK hN hP hD (k_X5_readNumber l D C _ aU  us_2 ua 0 999 h) (cwV 2 hw (goodV mw_3_39 mw_3_41 mw_s11 mw_1_2 mw_3_42) rfl rfl rfl (by decide +kernel) ⟨Nat.le_of_ble_eq_true rfl, Nat.le_of_ble_eq_true rfl⟩) rfl rfl rfl hl.1 rfl (Nat.le_of_ble_eq_true rfl) dX5_readMark_12 ⟨Nat.zero_le _, Nat.zero_le _⟩) hP hD hS hA (fun r4 us_3 H locs h hP hD hS => ?_)
  have hP : va_P D vwCl (List.flatten (wReader aU C us_3 ua ++ (wRail aR C rs ra))) H := hP
  have hD : va_D A (List.flatten (wReader aU C us_3 ua ++ (wRail aR C rs ra))) := hD
  refine va_putN (D := D) (ci := 4) (v := .int r4) (ty := .int) (C := RX4) (T := TX4) (N := 16) hx hb hw inW_X4 tyX4 tyX4_ok nmX4 hown hK hP hD hS 3 rfl rfl 8 (by decide) hn198 (fun _ h9 => h9) rfl (by decide +kernel) rfl rfl (Nat.le_of_ble_eq_true rfl) dX5_readMark_15 (fun H locs hP hD hS => ?_)
  refine lv_aload_n hx hb dX5_readMark_18 rfl (lv_at hl 0 rfl) ?_
  obtain ⟨qc5, hR_qc5, h_qc5⟩ := hZ.1 (201, "known", [107, 110, 111, 119, 110]) (List.mem_of_getElem? (i := 21) rfl)
  have h_qc5 : sAt A s s.heap [107, 110, 111, 119, 110] qc5 := h_qc5
  refine va_ldcS hx hb hown hR_qc5 dX5_readMark_19 ?_
  have hP : va_P D vwCl (List.flatten (wReader aU C us_3 ua ++ (wRail aR C (va_up rs 4 r4) ra))) H := hP
  have hD : va_D A (List.flatten (wReader aU C us_3 ua ++ (wRail aR C (va_up rs 4 r4) ra))) := hD
  refine gs_V8_18 (cRunVS (As := [.ref qc5]) (rest := []) (X1.ok ([107, 110, 111, 119, 110]) qc5) ⟨hZ, h_qc5⟩ hS hA ⟨hx, hb, hml, hown, hw⟩ hK hN hP hD [0, 1] rfl rfl (k_X5_readWord l D C _ aU  us_3 ua ([107, 110, 111, 119, 110]) qc5 h) (cwV 1 hw (goodV mw_2_217 mw_2_219 mw_s8 mw_1_2 mw_2_220) rfl rfl rfl (by decide +kernel) ⟨Nat.le_of_ble_eq_true rfl, Nat.le_of_ble_eq_true rfl⟩) rfl rfl rfl hl.1 rfl (Nat.le_of_ble_eq_true rfl) dX5_readMark_21 ⟨Nat.zero_le _, Nat.zero_le _⟩) hP hD hS hA (fun us_6 H locs h hP hD hS => ?_)
  have hP : va_P D vwCl (List.flatten (wReader aU C us_6 ua ++ (wRail aR C (va_up rs 4 r4) ra))) H := hP
  have hD : va_D A (List.flatten (wReader aU C us_6 ua ++ (wRail aR C (va_up rs 4 r4) ra))) := hD
  refine lv_aload_n hx hb dX5_readMark_24 rfl (lv_at hl 1 rfl) ?_
  refine lv_aload_n hx hb dX5_readMark_25 rfl (lv_at hl 0 rfl) ?_
  refine lv_iconst (v := 0) hx hb dX5_readMark_26 (by decide) ?_
  refine lv_bipush (v := 100) hx hb dX5_readMark_27 (by decide) ?_
  refine gs_I8_19 (rs_V8_18 (As := [.int 0, .int 100]) (rest := [.ref (aR 0)]) ⟨hx, hb, hml, hown, hw⟩ hK hN hP hD (k_X5_readNumber l D C _ aU  us_6 ua 0 100 h) (cwV 2 hw (goodV mw_3_39 mw_3_41 mw_s11 mw_1_2 mw_3_42) rfl rfl rfl (by decide +kernel) ⟨Nat.le_of_ble_eq_true rfl, Nat.le_of_ble_eq_true rfl⟩) rfl rfl rfl hl.1 rfl (Nat.le_of_ble_eq_true rfl) dX5_readMark_29 ⟨Nat.zero_le _, Nat.zero_le _⟩) hP hD hS hA (fun r8 us_7 H locs h hP hD hS => ?_)
  have hP : va_P D vwCl (List.flatten (wReader aU C us_7 ua ++ (wRail aR C (va_up rs 4 r4) ra))) H := hP
  have hD : va_D A (List.flatten (wReader aU C us_7 ua ++ (wRail aR C (va_up rs 4 r4) ra))) := hD
  refine va_putN (D := D) (ci := 4) (v := .int r8) (ty := .int) (C := RX4) (T := TX4) (N := 16) hx hb hw inW_X4 tyX4 tyX4_ok nmX4 hown hK hP hD hS 3 rfl rfl 9 (by decide) hn203 (fun _ h9 => h9) rfl (by decide +kernel) rfl rfl (Nat.le_of_ble_eq_true rfl) dX5_readMark_32 (fun H locs hP hD hS => ?_)
  refine lv_aload_n hx hb dX5_readMark_35 rfl (lv_at hl 1 rfl) ?_
  refine lv_aload_n hx hb dX5_readMark_36 rfl (lv_at hl 0 rfl) ?_
  obtain ⟨qc9, hR_qc9, h_qc9⟩ := hZ.1 (205, "hidden", [104, 105, 100, 100, 101, 110]) (List.mem_of_getElem? (i := 22) rfl)
  have h_qc9 : sAt A s s.heap [104, 105, 100, 100, 101, 110] qc9 := h_qc9
  refine va_ldcS hx hb hown hR_qc9 dX5_readMark_37 ?_
  have hP : va_P D vwCl (List.flatten (wReader aU C us_7 ua ++ (wRail aR C (va_up (va_up rs 4 r4) 5 r8) ra))) H := hP
  have hD : va_D A (List.flatten (wReader aU C us_7 ua ++ (wRail aR C (va_up (va_up rs 4 r4) 5 r8) ra))) := hD
  refine gs_I8_19 (cRunVS (As := [.ref qc9]) (rest := [.ref (aR 0)]) (X1.ok ([104, 105, 100, 100, 101, 110]) qc9) ⟨hZ, h_qc9⟩ hS hA ⟨hx, hb, hml, hown, hw⟩ hK hN hP hD [0, 1] rfl rfl (k_X5_readIf l D C _ aU  us_7 ua ([104, 105, 100, 100, 101, 110]) qc9 h) (cwV 1 hw (goodV mw_3_81 mw_3_83 mw_s19 mw_1_2 mw_3_84) rfl rfl rfl (by decide +kernel) ⟨Nat.le_of_ble_eq_true rfl, Nat.le_of_ble_eq_true rfl⟩) rfl rfl rfl hl.1 rfl (Nat.le_of_ble_eq_true rfl) dX5_readMark_39 ⟨Nat.zero_le _, Nat.zero_le _⟩) hP hD hS hA (fun r11 us_10 H locs h hP hD hS => ?_)
  have hP : va_P D vwCl (List.flatten (wReader aU C us_10 ua ++ (wRail aR C (va_up (va_up rs 4 r4) 5 r8) ra))) H := hP
  have hD : va_D A (List.flatten (wReader aU C us_10 ua ++ (wRail aR C (va_up (va_up rs 4 r4) 5 r8) ra))) := hD
  refine va_putN (D := D) (ci := 4) (v := .int r11) (ty := .boolean) (C := RX4) (T := TX4) (N := 16) hx hb hw inW_X4 tyX4 tyX4_ok nmX4 hown hK hP hD hS 3 rfl rfl 10 (by decide) hn207 (fun _ h9 => h9) rfl (by decide +kernel) (zb_n h.1) (zb_f h.1) (Nat.le_of_ble_eq_true rfl) dX5_readMark_42 (fun H locs hP hD hS => ?_)
  have h := h.2
  refine lv_aload_n hx hb dX5_readMark_45 rfl (lv_at hl 1 rfl) ?_
  refine lv_iconst (v := 1) hx hb dX5_readMark_46 (by decide) ?_
  refine va_putN (D := D) (ci := 4) (v := .int 1) (ty := .boolean) (C := RX4) (T := TX4) (N := 16) hx hb hw inW_X4 tyX4 tyX4_ok nmX4 hown hK hP hD hS 3 rfl rfl 7 (by decide) hn106 (fun _ h9 => h9) rfl (by decide +kernel) rfl rfl (Nat.le_of_ble_eq_true rfl) dX5_readMark_47 (fun H locs hP hD hS => ?_)
  have hP : va_P D vwCl (List.flatten (wReader aU C us_10 ua ++ (wRail aR C (va_up (va_up (va_up (va_up rs 3 1) 4 r4) 5 r8) 6 r11) ra))) H := hP
  have hD : va_D A (List.flatten (wReader aU C us_10 ua ++ (wRail aR C (va_up (va_up (va_up (va_up rs 3 1) 4 r4) 5 r8) 6 r11) ra))) := hD
  rw [← hQ]
  exact cRetV (us_10, (va_up (va_up (va_up (va_up rs 3 1) 4 r4) 5 r8) 6 r11)) hx hb hr hlocks hS hP hD h dX5_readMark_50
abbrev vsX5_readWatch : List Cond := Cond.code yX5_readWatch cX5_readWatch 2 none :: WS
abbrev rmX5_readWatch : Room := { frames := 6, cells := 0, slots := 0, locals := 128 }
set_option maxHeartbeats 4000000 in
set_option maxRecDepth 100000 in
theorem k_X5_readWatch (l : Launch) (D : va_G) (C : Nat → ClassId) (sz : Nat) (aU : Nat → Nat) (aR : Nat → Nat)  (us : Nat → Int32) (ua : Nat → Nat → Int32) (rs : Nat → Int32) (ra : Nat → Nat → Int32)  {post : (Nat → Int32) → (Nat → Int32) → Prop} (h : P_X5_readWatch us ua rs post) : Met l yX5_readWatch vsX5_readWatch rmX5_readWatch (cPreS D C [.ref (aU 0), .ref (aR 0)] sz (wReader aU C us ua ++ (wRail aR C rs ra)) sAll) (cQv D (fun (u : (Nat → Int32) × (Nat → Int32)) => post u.1 u.2) (fun u => wReader aU C u.1 ua ++ (wRail aR C u.2 ra)) (va_A (List.flatten (wReader aU C us ua ++ (wRail aR C rs ra))) sz)) 0 0 (va_A (List.flatten (wReader aU C us ua ++ (wRail aR C rs ra))) sz) := by
  refine cStartS (QA := fun A => cQv D (fun (u : (Nat → Int32) × (Nat → Int32)) => post u.1 u.2) (fun u => wReader aU C u.1 ua ++ (wRail aR C u.2 ra)) A) (cc := cX5_readWatch) (maxL := 2) (ret := none) (by decide) (Nat.le_of_ble_eq_true rfl) ?_
  intro p e s m args below meth c A ls hx hb hr hml hown hw hlocks hname hK hN hA hP hD hS hl hX
  generalize hQ : MQ below _ args s 0 0 A = Q
  have hl : lv_has ls 2 [(0, .ref (aU 0)), (1, .ref (aR 0))] := hl
  have hZ : sAll A s s.heap := hX
  have hn211 : (Cond.fieldLinkNest "LockRail$Reader" 211 "LockRail$Rail" "wage" "I" "LockRail").before args s = true := hN.f 71 rfl
  have hn215 : (Cond.fieldLinkNest "LockRail$Reader" 215 "LockRail$Rail" "adds" "I" "LockRail").before args s = true := hN.f 72 rfl
  have hn115 : (Cond.fieldLinkNest "LockRail$Reader" 115 "LockRail$Rail" "watchTold" "Z" "LockRail").before args s = true := hN.f 69 rfl
  obtain ⟨H, hH⟩ : ∃ H, H = s.heap := ⟨_, rfl⟩
  obtain ⟨locs, hlo⟩ : ∃ z : List Loc, z = [] := ⟨_, rfl⟩
  have hP : va_P D vwCl (List.flatten (wReader aU C us ua ++ (wRail aR C rs ra))) H := by rw [hH]; exact hP
  have hS : va_S A s.heap H locs := by rw [hH, hlo]; exact hS
  rw [show W p l e rmX5_readWatch s m args below meth c s.heap [] 0 0 Q (F0 m 0 ls []) = W p l e rmX5_readWatch s m args below meth c H locs 0 0 Q (F0 m 0 ls []) from by rw [hH, hlo]]
  refine lv_aload_n hx hb dX5_readWatch_0 rfl (lv_at hl 0 rfl) ?_
  obtain ⟨qc1, hR_qc1, h_qc1⟩ := hZ.1 (209, "wage", [119, 97, 103, 101]) (List.mem_of_getElem? (i := 24) rfl)
  have h_qc1 : sAt A s s.heap [119, 97, 103, 101] qc1 := h_qc1
  refine va_ldcS hx hb hown hR_qc1 dX5_readWatch_1 ?_
  refine gs_V8_18 (cRunVS (As := [.ref qc1]) (rest := []) (X1.ok ([119, 97, 103, 101]) qc1) ⟨hZ, h_qc1⟩ hS hA ⟨hx, hb, hml, hown, hw⟩ hK hN hP hD [0, 1] rfl rfl (k_X5_readWord l D C _ aU  us ua ([119, 97, 103, 101]) qc1 h) (cwV 1 hw (goodV mw_2_217 mw_2_219 mw_s8 mw_1_2 mw_2_220) rfl rfl rfl (by decide +kernel) ⟨Nat.le_of_ble_eq_true rfl, Nat.le_of_ble_eq_true rfl⟩) rfl rfl rfl hl.1 rfl (Nat.le_of_ble_eq_true rfl) dX5_readWatch_3 ⟨Nat.zero_le _, Nat.zero_le _⟩) hP hD hS hA (fun us_2 H locs h hP hD hS => ?_)
  have hP : va_P D vwCl (List.flatten (wReader aU C us_2 ua ++ (wRail aR C rs ra))) H := hP
  have hD : va_D A (List.flatten (wReader aU C us_2 ua ++ (wRail aR C rs ra))) := hD
  refine lv_aload_n hx hb dX5_readWatch_6 rfl (lv_at hl 1 rfl) ?_
  refine lv_aload_n hx hb dX5_readWatch_7 rfl (lv_at hl 0 rfl) ?_
  refine lv_iconst (v := 0) hx hb dX5_readWatch_8 (by decide) ?_
  refine lv_sipush (v := 999) hx hb dX5_readWatch_9 (by decide) ?_
  refine gs_I8_19 (rs_V8_18 (As := [.int 0, .int 999]) (rest := [.ref (aR 0)]) ⟨hx, hb, hml, hown, hw⟩ hK hN hP hD (k_X5_readNumber l D C _ aU  us_2 ua 0 999 h) (cwV 2 hw (goodV mw_3_39 mw_3_41 mw_s11 mw_1_2 mw_3_42) rfl rfl rfl (by decide +kernel) ⟨Nat.le_of_ble_eq_true rfl, Nat.le_of_ble_eq_true rfl⟩) rfl rfl rfl hl.1 rfl (Nat.le_of_ble_eq_true rfl) dX5_readWatch_12 ⟨Nat.zero_le _, Nat.zero_le _⟩) hP hD hS hA (fun r4 us_3 H locs h hP hD hS => ?_)
  have hP : va_P D vwCl (List.flatten (wReader aU C us_3 ua ++ (wRail aR C rs ra))) H := hP
  have hD : va_D A (List.flatten (wReader aU C us_3 ua ++ (wRail aR C rs ra))) := hD
  refine va_putN (D := D) (ci := 4) (v := .int r4) (ty := .int) (C := RX4) (T := TX4) (N := 16) hx hb hw inW_X4 tyX4 tyX4_ok nmX4 hown hK hP hD hS 3 rfl rfl 12 (by decide) hn211 (fun _ h9 => h9) rfl (by decide +kernel) rfl rfl (Nat.le_of_ble_eq_true rfl) dX5_readWatch_15 (fun H locs hP hD hS => ?_)
  refine lv_aload_n hx hb dX5_readWatch_18 rfl (lv_at hl 0 rfl) ?_
  obtain ⟨qc5, hR_qc5, h_qc5⟩ := hZ.1 (213, "adds", [97, 100, 100, 115]) (List.mem_of_getElem? (i := 25) rfl)
  have h_qc5 : sAt A s s.heap [97, 100, 100, 115] qc5 := h_qc5
  refine va_ldcS hx hb hown hR_qc5 dX5_readWatch_19 ?_
  have hP : va_P D vwCl (List.flatten (wReader aU C us_3 ua ++ (wRail aR C (va_up rs 8 r4) ra))) H := hP
  have hD : va_D A (List.flatten (wReader aU C us_3 ua ++ (wRail aR C (va_up rs 8 r4) ra))) := hD
  refine gs_V8_18 (cRunVS (As := [.ref qc5]) (rest := []) (X1.ok ([97, 100, 100, 115]) qc5) ⟨hZ, h_qc5⟩ hS hA ⟨hx, hb, hml, hown, hw⟩ hK hN hP hD [0, 1] rfl rfl (k_X5_readWord l D C _ aU  us_3 ua ([97, 100, 100, 115]) qc5 h) (cwV 1 hw (goodV mw_2_217 mw_2_219 mw_s8 mw_1_2 mw_2_220) rfl rfl rfl (by decide +kernel) ⟨Nat.le_of_ble_eq_true rfl, Nat.le_of_ble_eq_true rfl⟩) rfl rfl rfl hl.1 rfl (Nat.le_of_ble_eq_true rfl) dX5_readWatch_21 ⟨Nat.zero_le _, Nat.zero_le _⟩) hP hD hS hA (fun us_6 H locs h hP hD hS => ?_)
  have hP : va_P D vwCl (List.flatten (wReader aU C us_6 ua ++ (wRail aR C (va_up rs 8 r4) ra))) H := hP
  have hD : va_D A (List.flatten (wReader aU C us_6 ua ++ (wRail aR C (va_up rs 8 r4) ra))) := hD
  refine lv_aload_n hx hb dX5_readWatch_24 rfl (lv_at hl 1 rfl) ?_
  refine lv_aload_n hx hb dX5_readWatch_25 rfl (lv_at hl 0 rfl) ?_
  refine lv_iconst (v := 0) hx hb dX5_readWatch_26 (by decide) ?_
  refine lv_bipush (v := 99) hx hb dX5_readWatch_27 (by decide) ?_
  refine gs_I8_19 (rs_V8_18 (As := [.int 0, .int 99]) (rest := [.ref (aR 0)]) ⟨hx, hb, hml, hown, hw⟩ hK hN hP hD (k_X5_readNumber l D C _ aU  us_6 ua 0 99 h) (cwV 2 hw (goodV mw_3_39 mw_3_41 mw_s11 mw_1_2 mw_3_42) rfl rfl rfl (by decide +kernel) ⟨Nat.le_of_ble_eq_true rfl, Nat.le_of_ble_eq_true rfl⟩) rfl rfl rfl hl.1 rfl (Nat.le_of_ble_eq_true rfl) dX5_readWatch_29 ⟨Nat.zero_le _, Nat.zero_le _⟩) hP hD hS hA (fun r8 us_7 H locs h hP hD hS => ?_)
  have hP : va_P D vwCl (List.flatten (wReader aU C us_7 ua ++ (wRail aR C (va_up rs 8 r4) ra))) H := hP
  have hD : va_D A (List.flatten (wReader aU C us_7 ua ++ (wRail aR C (va_up rs 8 r4) ra))) := hD
  refine va_putN (D := D) (ci := 4) (v := .int r8) (ty := .int) (C := RX4) (T := TX4) (N := 16) hx hb hw inW_X4 tyX4 tyX4_ok nmX4 hown hK hP hD hS 3 rfl rfl 13 (by decide) hn215 (fun _ h9 => h9) rfl (by decide +kernel) rfl rfl (Nat.le_of_ble_eq_true rfl) dX5_readWatch_32 (fun H locs hP hD hS => ?_)
  refine lv_aload_n hx hb dX5_readWatch_35 rfl (lv_at hl 1 rfl) ?_
  refine lv_iconst (v := 1) hx hb dX5_readWatch_36 (by decide) ?_
  refine va_putN (D := D) (ci := 4) (v := .int 1) (ty := .boolean) (C := RX4) (T := TX4) (N := 16) hx hb hw inW_X4 tyX4 tyX4_ok nmX4 hown hK hP hD hS 3 rfl rfl 11 (by decide) hn115 (fun _ h9 => h9) rfl (by decide +kernel) rfl rfl (Nat.le_of_ble_eq_true rfl) dX5_readWatch_37 (fun H locs hP hD hS => ?_)
  have hP : va_P D vwCl (List.flatten (wReader aU C us_7 ua ++ (wRail aR C (va_up (va_up (va_up rs 7 1) 8 r4) 9 r8) ra))) H := hP
  have hD : va_D A (List.flatten (wReader aU C us_7 ua ++ (wRail aR C (va_up (va_up (va_up rs 7 1) 8 r4) 9 r8) ra))) := hD
  rw [← hQ]
  exact cRetV (us_7, (va_up (va_up (va_up rs 7 1) 8 r4) 9 r8)) hx hb hr hlocks hS hP hD h dX5_readWatch_40
abbrev vsX5_readLine : List Cond := Cond.code yX5_readLine cX5_readLine 2 none :: WS
abbrev rmX5_readLine : Room := { frames := 7, cells := 0, slots := 0, locals := 155 }
set_option maxHeartbeats 4000000 in
set_option maxRecDepth 100000 in
theorem k_X5_readLine (l : Launch) (D : va_G) (C : Nat → ClassId) (sz : Nat) (aU : Nat → Nat) (aR : Nat → Nat)  (us : Nat → Int32) (ua : Nat → Nat → Int32) (rs : Nat → Int32) (ra : Nat → Nat → Int32)  {post : (Nat → Int32) → (Nat → Int32) → (Nat → Nat → Int32) → Prop} (h : P_X5_readLine us ua rs ra post) : Met l yX5_readLine vsX5_readLine rmX5_readLine (cPreS D C [.ref (aU 0), .ref (aR 0)] sz (wReader aU C us ua ++ (wRail aR C rs ra)) sAll) (cQv D (fun (u : (Nat → Int32) × (Nat → Int32) × (Nat → Nat → Int32)) => post u.1 u.2.1 u.2.2) (fun u => wReader aU C u.1 ua ++ (wRail aR C u.2.1 u.2.2)) (va_A (List.flatten (wReader aU C us ua ++ (wRail aR C rs ra))) sz)) 0 0 (va_A (List.flatten (wReader aU C us ua ++ (wRail aR C rs ra))) sz) := by
  refine cStartS (QA := fun A => cQv D (fun (u : (Nat → Int32) × (Nat → Int32) × (Nat → Nat → Int32)) => post u.1 u.2.1 u.2.2) (fun u => wReader aU C u.1 ua ++ (wRail aR C u.2.1 u.2.2)) A) (cc := cX5_readLine) (maxL := 2) (ret := none) (by decide) (Nat.le_of_ble_eq_true rfl) ?_
  intro p e s m args below meth c A ls hx hb hr hml hown hw hlocks hname hK hN hA hP hD hS hl hX
  generalize hQ : MQ below _ args s 0 0 A = Q
  have hl : lv_has ls 2 [(0, .ref (aU 0)), (1, .ref (aR 0))] := hl
  have hZ : sAll A s s.heap := hX
  have hn40 : (Cond.fieldLinkNest "LockRail$Reader" 40 "LockRail$Rail" "lines" "I" "LockRail").before args s = true := hN.f 53 rfl
  have hn115 : (Cond.fieldLinkNest "LockRail$Reader" 115 "LockRail$Rail" "watchTold" "Z" "LockRail").before args s = true := hN.f 69 rfl
  have hn106 : (Cond.fieldLinkNest "LockRail$Reader" 106 "LockRail$Rail" "markTold" "Z" "LockRail").before args s = true := hN.f 65 rfl
  have hn94 : (Cond.fieldLinkNest "LockRail$Reader" 94 "LockRail$Rail" "thieves" "LLockRail$Thieves;" "LockRail").before args s = true := hN.f 63 rfl
  have hn98 : (Cond.fieldLinkNest "LockRail$Reader" 98 "LockRail$Thieves" "count" "I" "LockRail").before args s = true := hN.f 34 rfl
  have hn82 : (Cond.fieldLinkNest "LockRail$Reader" 82 "LockRail$Rail" "bikes" "LLockRail$Bikes;" "LockRail").before args s = true := hN.f 60 rfl
  have hn86 : (Cond.fieldLinkNest "LockRail$Reader" 86 "LockRail$Bikes" "count" "I" "LockRail").before args s = true := hN.f 19 rfl
  have hn70 : (Cond.fieldLinkNest "LockRail$Reader" 70 "LockRail$Rail" "locks" "LLockRail$Locks;" "LockRail").before args s = true := hN.f 57 rfl
  have hn74 : (Cond.fieldLinkNest "LockRail$Reader" 74 "LockRail$Locks" "count" "I" "LockRail").before args s = true := hN.f 13 rfl
  have hn52 : (Cond.fieldLinkNest "LockRail$Reader" 52 "LockRail$Rail" "lamps" "LLockRail$Lamps;" "LockRail").before args s = true := hN.f 55 rfl
  have hn56 : (Cond.fieldLinkNest "LockRail$Reader" 56 "LockRail$Lamps" "count" "I" "LockRail").before args s = true := hN.f 8 rfl
  obtain ⟨H, hH⟩ : ∃ H, H = s.heap := ⟨_, rfl⟩
  obtain ⟨locs, hlo⟩ : ∃ z : List Loc, z = [] := ⟨_, rfl⟩
  have hP : va_P D vwCl (List.flatten (wReader aU C us ua ++ (wRail aR C rs ra))) H := by rw [hH]; exact hP
  have hS : va_S A s.heap H locs := by rw [hH, hlo]; exact hS
  rw [show W p l e rmX5_readLine s m args below meth c s.heap [] 0 0 Q (F0 m 0 ls []) = W p l e rmX5_readLine s m args below meth c H locs 0 0 Q (F0 m 0 ls []) from by rw [hH, hlo]]
  have N260 : ∀ (us : Nat → Int32) (rs : Nat → Int32) (ra : Nat → Nat → Int32) (H : Heap) (locs : List Loc) (ls : Array Slot), P_X5_readLine_260 ua post  us rs ra → va_P D vwCl (List.flatten (wReader aU C us ua ++ (wRail aR C rs ra))) H → va_D A (List.flatten (wReader aU C us ua ++ (wRail aR C rs ra))) → va_S A s.heap H locs → lv_has ls 2 [(0, .ref (aU 0)), (1, .ref (aR 0))] → W p l e rmX5_readLine s m args below meth c H locs 0 0 Q (F0 m 260 ls []) := by
    intro us rs ra H locs ls h hP hD hS hl
    refine lv_aload_n hx hb dX5_readLine_260 rfl (lv_at hl 0 rfl) ?_
    refine gs_V8_18 (rs_V8_18 (As := []) (rest := []) ⟨hx, hb, hml, hown, hw⟩ hK hN hP hD (k_X5_readSign l D C _ aU  us ua  h) (cwV 0 hw (goodV mw_3_119 mw_3_121 mw_s25 mw_1_2 mw_3_122) rfl rfl rfl (by decide +kernel) ⟨Nat.le_of_ble_eq_true rfl, Nat.le_of_ble_eq_true rfl⟩) rfl rfl rfl hl.1 rfl (Nat.le_of_ble_eq_true rfl) dX5_readLine_261 ⟨Nat.zero_le _, Nat.zero_le _⟩) hP hD hS hA (fun us_1 H locs h hP hD hS => ?_)
    have hP : va_P D vwCl (List.flatten (wReader aU C us_1 ua ++ (wRail aR C rs ra))) H := hP
    have hD : va_D A (List.flatten (wReader aU C us_1 ua ++ (wRail aR C rs ra))) := hD
    refine lv_aload_n hx hb dX5_readLine_264 rfl (lv_at hl 1 rfl) ?_
    refine lv_dup hx hb dX5_readLine_265 rfl ?_
    refine va_getN (D := D) (ci := 4) (v := .int (rs 2)) (C := RX4) (T := TX4) (N := 16) hx hb hw inW_X4 hown hK hP 3 rfl rfl 2 (by decide) hn40 (fun _ h9 => h9) rfl dX5_readLine_266 ?_
    refine lv_iconst (v := 1) hx hb dX5_readLine_269 (by decide) ?_
    refine lv_iadd hx hb dX5_readLine_270 ?_
    refine lv_topi (fun x2 ex2 => ?_)
    have h := h x2 ex2
    refine va_putN (D := D) (ci := 4) (v := .int x2) (ty := .int) (C := RX4) (T := TX4) (N := 16) hx hb hw inW_X4 tyX4 tyX4_ok nmX4 hown hK hP hD hS 3 rfl rfl 2 (by decide) hn40 (fun _ h9 => h9) rfl (by decide +kernel) rfl rfl (Nat.le_of_ble_eq_true rfl) dX5_readLine_271 (fun H locs hP hD hS => ?_)
    have hP : va_P D vwCl (List.flatten (wReader aU C us_1 ua ++ (wRail aR C (va_up rs 2 x2) ra))) H := hP
    have hD : va_D A (List.flatten (wReader aU C us_1 ua ++ (wRail aR C (va_up rs 2 x2) ra))) := hD
    rw [← hQ]
    exact cRetV (us_1, (va_up rs 2 x2), ra) hx hb hr hlocks hS hP hD h dX5_readLine_274
  have N243 : ∀ (k0_ : Int32) (us : Nat → Int32) (rs : Nat → Int32) (ra : Nat → Nat → Int32) (H : Heap) (locs : List Loc) (ls : Array Slot), P_X5_readLine_243 ua post  k0_ us rs ra → va_P D vwCl (List.flatten (wReader aU C us ua ++ (wRail aR C rs ra))) H → va_D A (List.flatten (wReader aU C us ua ++ (wRail aR C rs ra))) → va_S A s.heap H locs → lv_has ls 2 [(0, .ref (aU 0)), (1, .ref (aR 0))] → W p l e rmX5_readLine s m args below meth c H locs 0 0 Q (F0 m 243 ls [.int k0_, .ref (aU 0)]) := by
    intro k0_ us rs ra H locs ls h hP hD hS hl
    refine lv_iconst (v := 2) hx hb dX5_readLine_243 (by decide) ?_
    refine gs_V8_18 (rs_V8_18 (As := [.int k0_, .int 2]) (rest := []) ⟨hx, hb, hml, hown, hw⟩ hK hN hP hD (k_X5_readHead l D C _ aU  us ua k0_ 2 h) (cwV 2 hw (goodV mw_3_45 mw_3_47 mw_s12 mw_1_2 mw_3_48) rfl rfl rfl (by decide +kernel) ⟨Nat.le_of_ble_eq_true rfl, Nat.le_of_ble_eq_true rfl⟩) rfl rfl rfl hl.1 rfl (Nat.le_of_ble_eq_true rfl) dX5_readLine_244 ⟨Nat.zero_le _, Nat.zero_le _⟩) hP hD hS hA (fun us_3 H locs h hP hD hS => ?_)
    have hP : va_P D vwCl (List.flatten (wReader aU C us_3 ua ++ (wRail aR C rs ra))) H := hP
    have hD : va_D A (List.flatten (wReader aU C us_3 ua ++ (wRail aR C rs ra))) := hD
    refine lv_aload_n hx hb dX5_readLine_247 rfl (lv_at hl 0 rfl) ?_
    refine lv_aload_n hx hb dX5_readLine_248 rfl (lv_at hl 1 rfl) ?_
    refine cGoAV (cRunVS (As := [.ref (aR 0)]) (rest := []) sAll.ok hZ hS hA ⟨hx, hb, hml, hown, hw⟩ hK hN hP hD [0, 1, 2, 3, 4, 5, 6, 7] rfl rfl (k_X5_readWatch l D C _ aU aR  us_3 ua rs ra  h) (cwV 1 hw (goodV mw_3_113 mw_3_115 mw_s24 mw_1_2 mw_3_116) rfl rfl rfl (by decide +kernel) ⟨Nat.le_of_ble_eq_true rfl, Nat.le_of_ble_eq_true rfl⟩) rfl rfl rfl hl.1 rfl (Nat.le_of_ble_eq_true rfl) dX5_readLine_249 ⟨Nat.zero_le _, Nat.zero_le _⟩) hP hD hS hA (fun u H locs h hP hD hS => ?_)
    obtain ⟨us_4, rs_5⟩ := u
    have hP : va_P D vwCl (List.flatten (wReader aU C us_4 ua ++ (wRail aR C rs_5 ra))) H := hP
    have hD : va_D A (List.flatten (wReader aU C us_4 ua ++ (wRail aR C rs_5 ra))) := hD
    refine lv_goto (tgt := 260) hx hb dX5_readLine_252 (by decide) ?_
    exact N260 us_4 rs_5 ra _ _ _ h hP hD hS (lv_sub hl [0, 1] rfl)
  have N206 : ∀ (k0_ : Int32) (us : Nat → Int32) (rs : Nat → Int32) (ra : Nat → Nat → Int32) (H : Heap) (locs : List Loc) (ls : Array Slot), P_X5_readLine_206 ua post  k0_ us rs ra → va_P D vwCl (List.flatten (wReader aU C us ua ++ (wRail aR C rs ra))) H → va_D A (List.flatten (wReader aU C us ua ++ (wRail aR C rs ra))) → va_S A s.heap H locs → lv_has ls 2 [(0, .ref (aU 0)), (1, .ref (aR 0))] → W p l e rmX5_readLine s m args below meth c H locs 0 0 Q (F0 m 206 ls [.int k0_, .ref (aU 0)]) := by
    intro k0_ us rs ra H locs ls h hP hD hS hl
    refine lv_iconst (v := 2) hx hb dX5_readLine_206 (by decide) ?_
    refine gs_V8_18 (rs_V8_18 (As := [.int k0_, .int 2]) (rest := []) ⟨hx, hb, hml, hown, hw⟩ hK hN hP hD (k_X5_readHead l D C _ aU  us ua k0_ 2 h) (cwV 2 hw (goodV mw_3_45 mw_3_47 mw_s12 mw_1_2 mw_3_48) rfl rfl rfl (by decide +kernel) ⟨Nat.le_of_ble_eq_true rfl, Nat.le_of_ble_eq_true rfl⟩) rfl rfl rfl hl.1 rfl (Nat.le_of_ble_eq_true rfl) dX5_readLine_207 ⟨Nat.zero_le _, Nat.zero_le _⟩) hP hD hS hA (fun us_6 H locs h hP hD hS => ?_)
    have hP : va_P D vwCl (List.flatten (wReader aU C us_6 ua ++ (wRail aR C rs ra))) H := hP
    have hD : va_D A (List.flatten (wReader aU C us_6 ua ++ (wRail aR C rs ra))) := hD
    refine lv_aload_n hx hb dX5_readLine_210 rfl (lv_at hl 0 rfl) ?_
    refine lv_aload_n hx hb dX5_readLine_211 rfl (lv_at hl 1 rfl) ?_
    refine cGoAV (cRunVS (As := [.ref (aR 0)]) (rest := []) sAll.ok hZ hS hA ⟨hx, hb, hml, hown, hw⟩ hK hN hP hD [0, 1, 2, 3, 4, 5, 6, 7] rfl rfl (k_X5_readMark l D C _ aU aR  us_6 ua rs ra  h) (cwV 1 hw (goodV mw_3_106 mw_3_108 mw_s23 mw_1_2 mw_3_109) rfl rfl rfl (by decide +kernel) ⟨Nat.le_of_ble_eq_true rfl, Nat.le_of_ble_eq_true rfl⟩) rfl rfl rfl hl.1 rfl (Nat.le_of_ble_eq_true rfl) dX5_readLine_212 ⟨Nat.zero_le _, Nat.zero_le _⟩) hP hD hS hA (fun u H locs h hP hD hS => ?_)
    obtain ⟨us_7, rs_8⟩ := u
    have hP : va_P D vwCl (List.flatten (wReader aU C us_7 ua ++ (wRail aR C rs_8 ra))) H := hP
    have hD : va_D A (List.flatten (wReader aU C us_7 ua ++ (wRail aR C rs_8 ra))) := hD
    refine lv_goto (tgt := 260) hx hb dX5_readLine_215 (by decide) ?_
    exact N260 us_7 rs_8 ra _ _ _ h hP hD hS (lv_sub hl [0, 1] rfl)
  have N169 : ∀ (k0_ : Int32) (us : Nat → Int32) (rs : Nat → Int32) (ra : Nat → Nat → Int32) (H : Heap) (locs : List Loc) (ls : Array Slot), P_X5_readLine_169 ua post  k0_ us rs ra → va_P D vwCl (List.flatten (wReader aU C us ua ++ (wRail aR C rs ra))) H → va_D A (List.flatten (wReader aU C us ua ++ (wRail aR C rs ra))) → va_S A s.heap H locs → lv_has ls 2 [(0, .ref (aU 0)), (1, .ref (aR 0))] → W p l e rmX5_readLine s m args below meth c H locs 0 0 Q (F0 m 169 ls [.int k0_, .ref (aU 0)]) := by
    intro k0_ us rs ra H locs ls h hP hD hS hl
    refine lv_iconst (v := 3) hx hb dX5_readLine_169 (by decide) ?_
    refine gs_V8_18 (rs_V8_18 (As := [.int k0_, .int 3]) (rest := []) ⟨hx, hb, hml, hown, hw⟩ hK hN hP hD (k_X5_readHead l D C _ aU  us ua k0_ 3 h) (cwV 2 hw (goodV mw_3_45 mw_3_47 mw_s12 mw_1_2 mw_3_48) rfl rfl rfl (by decide +kernel) ⟨Nat.le_of_ble_eq_true rfl, Nat.le_of_ble_eq_true rfl⟩) rfl rfl rfl hl.1 rfl (Nat.le_of_ble_eq_true rfl) dX5_readLine_170 ⟨Nat.zero_le _, Nat.zero_le _⟩) hP hD hS hA (fun us_9 H locs h hP hD hS => ?_)
    have hP : va_P D vwCl (List.flatten (wReader aU C us_9 ua ++ (wRail aR C rs ra))) H := hP
    have hD : va_D A (List.flatten (wReader aU C us_9 ua ++ (wRail aR C rs ra))) := hD
    refine lv_aload_n hx hb dX5_readLine_173 rfl (lv_at hl 0 rfl) ?_
    refine lv_aload_n hx hb dX5_readLine_174 rfl (lv_at hl 1 rfl) ?_
    refine cGoAV (cRunVS (As := [.ref (aR 0)]) (rest := []) sAll.ok hZ hS hA ⟨hx, hb, hml, hown, hw⟩ hK hN hP hD [0, 1, 2, 3, 4, 5, 6, 7] rfl rfl (k_X5_readThief l D C _ aU aR  us_9 ua rs ra  h) (cwV 1 hw (goodV mw_3_91 mw_3_93 mw_s21 mw_1_2 mw_3_94) rfl rfl rfl (by decide +kernel) ⟨Nat.le_of_ble_eq_true rfl, Nat.le_of_ble_eq_true rfl⟩) rfl rfl rfl hl.1 rfl (Nat.le_of_ble_eq_true rfl) dX5_readLine_175 ⟨Nat.zero_le _, Nat.zero_le _⟩) hP hD hS hA (fun u H locs h hP hD hS => ?_)
    obtain ⟨us_10, rs_11, ra_12⟩ := u
    have hP : va_P D vwCl (List.flatten (wReader aU C us_10 ua ++ (wRail aR C rs_11 ra_12))) H := hP
    have hD : va_D A (List.flatten (wReader aU C us_10 ua ++ (wRail aR C rs_11 ra_12))) := hD
    refine lv_goto (tgt := 260) hx hb dX5_readLine_178 (by decide) ?_
    exact N260 us_10 rs_11 ra_12 _ _ _ h hP hD hS (lv_sub hl [0, 1] rfl)
  have N127 : ∀ (k0_ : Int32) (us : Nat → Int32) (rs : Nat → Int32) (ra : Nat → Nat → Int32) (H : Heap) (locs : List Loc) (ls : Array Slot), P_X5_readLine_127 ua post  k0_ us rs ra → va_P D vwCl (List.flatten (wReader aU C us ua ++ (wRail aR C rs ra))) H → va_D A (List.flatten (wReader aU C us ua ++ (wRail aR C rs ra))) → va_S A s.heap H locs → lv_has ls 2 [(0, .ref (aU 0)), (1, .ref (aR 0))] → W p l e rmX5_readLine s m args below meth c H locs 0 0 Q (F0 m 127 ls [.int k0_, .ref (aU 0)]) := by
    intro k0_ us rs ra H locs ls h hP hD hS hl
    refine lv_iconst (v := 3) hx hb dX5_readLine_127 (by decide) ?_
    refine gs_V8_18 (rs_V8_18 (As := [.int k0_, .int 3]) (rest := []) ⟨hx, hb, hml, hown, hw⟩ hK hN hP hD (k_X5_readHead l D C _ aU  us ua k0_ 3 h) (cwV 2 hw (goodV mw_3_45 mw_3_47 mw_s12 mw_1_2 mw_3_48) rfl rfl rfl (by decide +kernel) ⟨Nat.le_of_ble_eq_true rfl, Nat.le_of_ble_eq_true rfl⟩) rfl rfl rfl hl.1 rfl (Nat.le_of_ble_eq_true rfl) dX5_readLine_128 ⟨Nat.zero_le _, Nat.zero_le _⟩) hP hD hS hA (fun us_13 H locs h hP hD hS => ?_)
    have hP : va_P D vwCl (List.flatten (wReader aU C us_13 ua ++ (wRail aR C rs ra))) H := hP
    have hD : va_D A (List.flatten (wReader aU C us_13 ua ++ (wRail aR C rs ra))) := hD
    refine lv_aload_n hx hb dX5_readLine_131 rfl (lv_at hl 0 rfl) ?_
    refine lv_aload_n hx hb dX5_readLine_132 rfl (lv_at hl 1 rfl) ?_
    refine cGoAV (cRunVS (As := [.ref (aR 0)]) (rest := []) sAll.ok hZ hS hA ⟨hx, hb, hml, hown, hw⟩ hK hN hP hD [0, 1, 2, 3, 4, 5, 6, 7] rfl rfl (k_X5_readBike l D C _ aU aR  us_13 ua rs ra  h) (cwV 1 hw (goodV mw_3_71 mw_3_73 mw_s17 mw_1_2 mw_3_74) rfl rfl rfl (by decide +kernel) ⟨Nat.le_of_ble_eq_true rfl, Nat.le_of_ble_eq_true rfl⟩) rfl rfl rfl hl.1 rfl (Nat.le_of_ble_eq_true rfl) dX5_readLine_133 ⟨Nat.zero_le _, Nat.zero_le _⟩) hP hD hS hA (fun u H locs h hP hD hS => ?_)
    obtain ⟨us_14, rs_15, ra_16⟩ := u
    have hP : va_P D vwCl (List.flatten (wReader aU C us_14 ua ++ (wRail aR C rs_15 ra_16))) H := hP
    have hD : va_D A (List.flatten (wReader aU C us_14 ua ++ (wRail aR C rs_15 ra_16))) := hD
    refine lv_goto (tgt := 260) hx hb dX5_readLine_136 (by decide) ?_
    exact N260 us_14 rs_15 ra_16 _ _ _ h hP hD hS (lv_sub hl [0, 1] rfl)
  have N85 : ∀ (k0_ : Int32) (us : Nat → Int32) (rs : Nat → Int32) (ra : Nat → Nat → Int32) (H : Heap) (locs : List Loc) (ls : Array Slot), P_X5_readLine_85 ua post  k0_ us rs ra → va_P D vwCl (List.flatten (wReader aU C us ua ++ (wRail aR C rs ra))) H → va_D A (List.flatten (wReader aU C us ua ++ (wRail aR C rs ra))) → va_S A s.heap H locs → lv_has ls 2 [(0, .ref (aU 0)), (1, .ref (aR 0))] → W p l e rmX5_readLine s m args below meth c H locs 0 0 Q (F0 m 85 ls [.int k0_, .ref (aU 0)]) := by
    intro k0_ us rs ra H locs ls h hP hD hS hl
    refine lv_iconst (v := 3) hx hb dX5_readLine_85 (by decide) ?_
    refine gs_V8_18 (rs_V8_18 (As := [.int k0_, .int 3]) (rest := []) ⟨hx, hb, hml, hown, hw⟩ hK hN hP hD (k_X5_readHead l D C _ aU  us ua k0_ 3 h) (cwV 2 hw (goodV mw_3_45 mw_3_47 mw_s12 mw_1_2 mw_3_48) rfl rfl rfl (by decide +kernel) ⟨Nat.le_of_ble_eq_true rfl, Nat.le_of_ble_eq_true rfl⟩) rfl rfl rfl hl.1 rfl (Nat.le_of_ble_eq_true rfl) dX5_readLine_86 ⟨Nat.zero_le _, Nat.zero_le _⟩) hP hD hS hA (fun us_17 H locs h hP hD hS => ?_)
    have hP : va_P D vwCl (List.flatten (wReader aU C us_17 ua ++ (wRail aR C rs ra))) H := hP
    have hD : va_D A (List.flatten (wReader aU C us_17 ua ++ (wRail aR C rs ra))) := hD
    refine lv_aload_n hx hb dX5_readLine_89 rfl (lv_at hl 0 rfl) ?_
    refine lv_aload_n hx hb dX5_readLine_90 rfl (lv_at hl 1 rfl) ?_
    refine cGoAV (cRunVS (As := [.ref (aR 0)]) (rest := []) sAll.ok hZ hS hA ⟨hx, hb, hml, hown, hw⟩ hK hN hP hD [0, 1, 2, 3, 4, 5, 6, 7] rfl rfl (k_X5_readLock l D C _ aU aR  us_17 ua rs ra  h) (cwV 1 hw (goodV mw_3_60 mw_3_62 mw_s15 mw_1_2 mw_3_63) rfl rfl rfl (by decide +kernel) ⟨Nat.le_of_ble_eq_true rfl, Nat.le_of_ble_eq_true rfl⟩) rfl rfl rfl hl.1 rfl (Nat.le_of_ble_eq_true rfl) dX5_readLine_91 ⟨Nat.zero_le _, Nat.zero_le _⟩) hP hD hS hA (fun u H locs h hP hD hS => ?_)
    obtain ⟨us_18, rs_19, ra_20⟩ := u
    have hP : va_P D vwCl (List.flatten (wReader aU C us_18 ua ++ (wRail aR C rs_19 ra_20))) H := hP
    have hD : va_D A (List.flatten (wReader aU C us_18 ua ++ (wRail aR C rs_19 ra_20))) := hD
    refine lv_goto (tgt := 260) hx hb dX5_readLine_94 (by decide) ?_
    exact N260 us_18 rs_19 ra_20 _ _ _ h hP hD hS (lv_sub hl [0, 1] rfl)
  have N44 : ∀ (k0_ : Int32) (us : Nat → Int32) (rs : Nat → Int32) (ra : Nat → Nat → Int32) (H : Heap) (locs : List Loc) (ls : Array Slot), P_X5_readLine_44 ua post  k0_ us rs ra → va_P D vwCl (List.flatten (wReader aU C us ua ++ (wRail aR C rs ra))) H → va_D A (List.flatten (wReader aU C us ua ++ (wRail aR C rs ra))) → va_S A s.heap H locs → lv_has ls 2 [(0, .ref (aU 0)), (1, .ref (aR 0))] → W p l e rmX5_readLine s m args below meth c H locs 0 0 Q (F0 m 44 ls [.int k0_, .ref (aU 0)]) := by
    intro k0_ us rs ra H locs ls h hP hD hS hl
    refine lv_iconst (v := 3) hx hb dX5_readLine_44 (by decide) ?_
    refine gs_V8_18 (rs_V8_18 (As := [.int k0_, .int 3]) (rest := []) ⟨hx, hb, hml, hown, hw⟩ hK hN hP hD (k_X5_readHead l D C _ aU  us ua k0_ 3 h) (cwV 2 hw (goodV mw_3_45 mw_3_47 mw_s12 mw_1_2 mw_3_48) rfl rfl rfl (by decide +kernel) ⟨Nat.le_of_ble_eq_true rfl, Nat.le_of_ble_eq_true rfl⟩) rfl rfl rfl hl.1 rfl (Nat.le_of_ble_eq_true rfl) dX5_readLine_45 ⟨Nat.zero_le _, Nat.zero_le _⟩) hP hD hS hA (fun us_21 H locs h hP hD hS => ?_)
    have hP : va_P D vwCl (List.flatten (wReader aU C us_21 ua ++ (wRail aR C rs ra))) H := hP
    have hD : va_D A (List.flatten (wReader aU C us_21 ua ++ (wRail aR C rs ra))) := hD
    refine lv_aload_n hx hb dX5_readLine_48 rfl (lv_at hl 0 rfl) ?_
    refine lv_aload_n hx hb dX5_readLine_49 rfl (lv_at hl 1 rfl) ?_
    refine cGoAV (cRunVS (As := [.ref (aR 0)]) (rest := []) sAll.ok hZ hS hA ⟨hx, hb, hml, hown, hw⟩ hK hN hP hD [0, 1, 2, 3, 4, 5, 6, 7] rfl rfl (k_X5_readLamp l D C _ aU aR  us_21 ua rs ra  h) (cwV 1 hw (goodV mw_3_49 mw_3_51 mw_s13 mw_1_2 mw_3_52) rfl rfl rfl (by decide +kernel) ⟨Nat.le_of_ble_eq_true rfl, Nat.le_of_ble_eq_true rfl⟩) rfl rfl rfl hl.1 rfl (Nat.le_of_ble_eq_true rfl) dX5_readLine_50 ⟨Nat.zero_le _, Nat.zero_le _⟩) hP hD hS hA (fun u H locs h hP hD hS => ?_)
    obtain ⟨us_22, rs_23, ra_24⟩ := u
    have hP : va_P D vwCl (List.flatten (wReader aU C us_22 ua ++ (wRail aR C rs_23 ra_24))) H := hP
    have hD : va_D A (List.flatten (wReader aU C us_22 ua ++ (wRail aR C rs_23 ra_24))) := hD
    refine lv_goto (tgt := 260) hx hb dX5_readLine_53 (by decide) ?_
    exact N260 us_22 rs_23 ra_24 _ _ _ h hP hD hS (lv_sub hl [0, 1] rfl)
  refine lv_aload_n hx hb dX5_readLine_0 rfl (lv_at hl 1 rfl) ?_
  refine va_getN (D := D) (ci := 4) (v := .int (rs 2)) (C := RX4) (T := TX4) (N := 16) hx hb hw inW_X4 hown hK hP 3 rfl rfl 2 (by decide) hn40 (fun _ h9 => h9) rfl dX5_readLine_1 ?_
  refine lv_if_ne (tgt := 15) hx hb dX5_readLine_4 (by decide) (fun c25 => ?_) (fun c25 => ?_)
  · have h := h.1 c25
    refine lv_aload_n hx hb dX5_readLine_15 rfl (lv_at hl 0 rfl) ?_
    refine va_get (D := D) (ci := 5) (v := .ref (aU 1)) (C := RX5) (T := TX5) (N := 3) hx hb hw inW_X5 hown hK hP 0 rfl rfl 0 (by decide) (hw _ mw_1_65) (fun _ h9 => h9) rfl dX5_readLine_16 ?_
    obtain ⟨qc26, hR_qc26, h_qc26⟩ := hZ.1 (46, "lamp", [108, 97, 109, 112]) (List.mem_of_getElem? (i := 3) rfl)
    have h_qc26 : sAt A s s.heap [108, 97, 109, 112] qc26 := h_qc26
    refine va_ldcS hx hb hown hR_qc26 dX5_readLine_19 ?_
    refine gs_I8_25 (cRunVNS (As := [.ref qc26]) (rest := []) (X1.ok ([108, 97, 109, 112]) qc26) ⟨hZ, h_qc26⟩ hS hA ⟨hx, hb, hml, hown, hw⟩ hK hN hP hD [1] rfl rfl (k_X8_isWord l D C _ (aU 1) (aU 2)  (ua 0) (us 2) (us 3) (us 4) (us 5) (us 6) ([108, 97, 109, 112]) qc26 h) ⟨va_cnB 1 hw (goodN mw_2_224) rfl rfl rfl (hN.m 16 rfl) (hw _ mw_1_3) (by decide +kernel) ⟨Nat.le_of_ble_eq_true rfl, Nat.le_of_ble_eq_true rfl⟩, hw _ mw_2_223, hw _ mw_s9⟩ rfl rfl rfl hl.1 rfl (Nat.le_of_ble_eq_true rfl) dX5_readLine_21 ⟨Nat.zero_le _, Nat.zero_le _⟩) hP hD hS hA (fun r27 u H locs h hP hD hS => ?_)
    have hP : va_P D vwCl (List.flatten (wReader aU C us ua ++ (wRail aR C rs ra))) H := hP
    have hD : va_D A (List.flatten (wReader aU C us ua ++ (wRail aR C rs ra))) := hD
    refine lv_if_eq (tgt := 56) hx hb dX5_readLine_24 (by decide) (fun c28 => ?_) (fun c28 => ?_)
    · have h := h.1 c28
      refine lv_aload_n hx hb dX5_readLine_56 rfl (lv_at hl 0 rfl) ?_
      refine va_get (D := D) (ci := 5) (v := .ref (aU 1)) (C := RX5) (T := TX5) (N := 3) hx hb hw inW_X5 hown hK hP 0 rfl rfl 0 (by decide) (hw _ mw_1_65) (fun _ h9 => h9) rfl dX5_readLine_57 ?_
      obtain ⟨qc29, hR_qc29, h_qc29⟩ := hZ.1 (68, "lock", [108, 111, 99, 107]) (List.mem_of_getElem? (i := 6) rfl)
      have h_qc29 : sAt A s s.heap [108, 111, 99, 107] qc29 := h_qc29
      refine va_ldcS hx hb hown hR_qc29 dX5_readLine_60 ?_
      refine gs_I8_25 (cRunVNS (As := [.ref qc29]) (rest := []) (X1.ok ([108, 111, 99, 107]) qc29) ⟨hZ, h_qc29⟩ hS hA ⟨hx, hb, hml, hown, hw⟩ hK hN hP hD [1] rfl rfl (k_X8_isWord l D C _ (aU 1) (aU 2)  (ua 0) (us 2) (us 3) (us 4) (us 5) (us 6) ([108, 111, 99, 107]) qc29 h) ⟨va_cnB 1 hw (goodN mw_2_224) rfl rfl rfl (hN.m 16 rfl) (hw _ mw_1_3) (by decide +kernel) ⟨Nat.le_of_ble_eq_true rfl, Nat.le_of_ble_eq_true rfl⟩, hw _ mw_2_223, hw _ mw_s9⟩ rfl rfl rfl hl.1 rfl (Nat.le_of_ble_eq_true rfl) dX5_readLine_62 ⟨Nat.zero_le _, Nat.zero_le _⟩) hP hD hS hA (fun r30 u H locs h hP hD hS => ?_)
      have hP : va_P D vwCl (List.flatten (wReader aU C us ua ++ (wRail aR C rs ra))) H := hP
      have hD : va_D A (List.flatten (wReader aU C us ua ++ (wRail aR C rs ra))) := hD
      refine lv_if_eq (tgt := 97) hx hb dX5_readLine_65 (by decide) (fun c31 => ?_) (fun c31 => ?_)
      · have h := h.1 c31
        refine lv_aload_n hx hb dX5_readLine_97 rfl (lv_at hl 0 rfl) ?_
        refine va_get (D := D) (ci := 5) (v := .ref (aU 1)) (C := RX5) (T := TX5) (N := 3) hx hb hw inW_X5 hown hK hP 0 rfl rfl 0 (by decide) (hw _ mw_1_65) (fun _ h9 => h9) rfl dX5_readLine_98 ?_
        obtain ⟨qc32, hR_qc32, h_qc32⟩ := hZ.1 (80, "bike", [98, 105, 107, 101]) (List.mem_of_getElem? (i := 9) rfl)
        have h_qc32 : sAt A s s.heap [98, 105, 107, 101] qc32 := h_qc32
        refine va_ldcS hx hb hown hR_qc32 dX5_readLine_101 ?_
        refine gs_I8_25 (cRunVNS (As := [.ref qc32]) (rest := []) (X1.ok ([98, 105, 107, 101]) qc32) ⟨hZ, h_qc32⟩ hS hA ⟨hx, hb, hml, hown, hw⟩ hK hN hP hD [1] rfl rfl (k_X8_isWord l D C _ (aU 1) (aU 2)  (ua 0) (us 2) (us 3) (us 4) (us 5) (us 6) ([98, 105, 107, 101]) qc32 h) ⟨va_cnB 1 hw (goodN mw_2_224) rfl rfl rfl (hN.m 16 rfl) (hw _ mw_1_3) (by decide +kernel) ⟨Nat.le_of_ble_eq_true rfl, Nat.le_of_ble_eq_true rfl⟩, hw _ mw_2_223, hw _ mw_s9⟩ rfl rfl rfl hl.1 rfl (Nat.le_of_ble_eq_true rfl) dX5_readLine_103 ⟨Nat.zero_le _, Nat.zero_le _⟩) hP hD hS hA (fun r33 u H locs h hP hD hS => ?_)
        have hP : va_P D vwCl (List.flatten (wReader aU C us ua ++ (wRail aR C rs ra))) H := hP
        have hD : va_D A (List.flatten (wReader aU C us ua ++ (wRail aR C rs ra))) := hD
        refine lv_if_eq (tgt := 139) hx hb dX5_readLine_106 (by decide) (fun c34 => ?_) (fun c34 => ?_)
        · have h := h.1 c34
          refine lv_aload_n hx hb dX5_readLine_139 rfl (lv_at hl 0 rfl) ?_
          refine va_get (D := D) (ci := 5) (v := .ref (aU 1)) (C := RX5) (T := TX5) (N := 3) hx hb hw inW_X5 hown hK hP 0 rfl rfl 0 (by decide) (hw _ mw_1_65) (fun _ h9 => h9) rfl dX5_readLine_140 ?_
          obtain ⟨qc35, hR_qc35, h_qc35⟩ := hZ.1 (92, "thief", [116, 104, 105, 101, 102]) (List.mem_of_getElem? (i := 13) rfl)
          have h_qc35 : sAt A s s.heap [116, 104, 105, 101, 102] qc35 := h_qc35
          refine va_ldcS hx hb hown hR_qc35 dX5_readLine_143 ?_
          refine gs_I8_25 (cRunVNS (As := [.ref qc35]) (rest := []) (X1.ok ([116, 104, 105, 101, 102]) qc35) ⟨hZ, h_qc35⟩ hS hA ⟨hx, hb, hml, hown, hw⟩ hK hN hP hD [1] rfl rfl (k_X8_isWord l D C _ (aU 1) (aU 2)  (ua 0) (us 2) (us 3) (us 4) (us 5) (us 6) ([116, 104, 105, 101, 102]) qc35 h) ⟨va_cnB 1 hw (goodN mw_2_224) rfl rfl rfl (hN.m 16 rfl) (hw _ mw_1_3) (by decide +kernel) ⟨Nat.le_of_ble_eq_true rfl, Nat.le_of_ble_eq_true rfl⟩, hw _ mw_2_223, hw _ mw_s9⟩ rfl rfl rfl hl.1 rfl (Nat.le_of_ble_eq_true rfl) dX5_readLine_145 ⟨Nat.zero_le _, Nat.zero_le _⟩) hP hD hS hA (fun r36 u H locs h hP hD hS => ?_)
          have hP : va_P D vwCl (List.flatten (wReader aU C us ua ++ (wRail aR C rs ra))) H := hP
          have hD : va_D A (List.flatten (wReader aU C us ua ++ (wRail aR C rs ra))) := hD
          refine lv_if_eq (tgt := 181) hx hb dX5_readLine_148 (by decide) (fun c37 => ?_) (fun c37 => ?_)
          · have h := h.1 c37
            refine lv_aload_n hx hb dX5_readLine_181 rfl (lv_at hl 0 rfl) ?_
            refine va_get (D := D) (ci := 5) (v := .ref (aU 1)) (C := RX5) (T := TX5) (N := 3) hx hb hw inW_X5 hown hK hP 0 rfl rfl 0 (by decide) (hw _ mw_1_65) (fun _ h9 => h9) rfl dX5_readLine_182 ?_
            obtain ⟨qc38, hR_qc38, h_qc38⟩ := hZ.1 (104, "mark", [109, 97, 114, 107]) (List.mem_of_getElem? (i := 20) rfl)
            have h_qc38 : sAt A s s.heap [109, 97, 114, 107] qc38 := h_qc38
            refine va_ldcS hx hb hown hR_qc38 dX5_readLine_185 ?_
            refine gs_I8_25 (cRunVNS (As := [.ref qc38]) (rest := []) (X1.ok ([109, 97, 114, 107]) qc38) ⟨hZ, h_qc38⟩ hS hA ⟨hx, hb, hml, hown, hw⟩ hK hN hP hD [1] rfl rfl (k_X8_isWord l D C _ (aU 1) (aU 2)  (ua 0) (us 2) (us 3) (us 4) (us 5) (us 6) ([109, 97, 114, 107]) qc38 h) ⟨va_cnB 1 hw (goodN mw_2_224) rfl rfl rfl (hN.m 16 rfl) (hw _ mw_1_3) (by decide +kernel) ⟨Nat.le_of_ble_eq_true rfl, Nat.le_of_ble_eq_true rfl⟩, hw _ mw_2_223, hw _ mw_s9⟩ rfl rfl rfl hl.1 rfl (Nat.le_of_ble_eq_true rfl) dX5_readLine_187 ⟨Nat.zero_le _, Nat.zero_le _⟩) hP hD hS hA (fun r39 u H locs h hP hD hS => ?_)
            have hP : va_P D vwCl (List.flatten (wReader aU C us ua ++ (wRail aR C rs ra))) H := hP
            have hD : va_D A (List.flatten (wReader aU C us ua ++ (wRail aR C rs ra))) := hD
            refine lv_if_eq (tgt := 218) hx hb dX5_readLine_190 (by decide) (fun c40 => ?_) (fun c40 => ?_)
            · have h := h.1 c40
              refine lv_aload_n hx hb dX5_readLine_218 rfl (lv_at hl 0 rfl) ?_
              refine va_get (D := D) (ci := 5) (v := .ref (aU 1)) (C := RX5) (T := TX5) (N := 3) hx hb hw inW_X5 hown hK hP 0 rfl rfl 0 (by decide) (hw _ mw_1_65) (fun _ h9 => h9) rfl dX5_readLine_219 ?_
              obtain ⟨qc41, hR_qc41, h_qc41⟩ := hZ.1 (113, "watch", [119, 97, 116, 99, 104]) (List.mem_of_getElem? (i := 23) rfl)
              have h_qc41 : sAt A s s.heap [119, 97, 116, 99, 104] qc41 := h_qc41
              refine va_ldcS hx hb hown hR_qc41 dX5_readLine_222 ?_
              refine gs_I8_25 (cRunVNS (As := [.ref qc41]) (rest := []) (X1.ok ([119, 97, 116, 99, 104]) qc41) ⟨hZ, h_qc41⟩ hS hA ⟨hx, hb, hml, hown, hw⟩ hK hN hP hD [1] rfl rfl (k_X8_isWord l D C _ (aU 1) (aU 2)  (ua 0) (us 2) (us 3) (us 4) (us 5) (us 6) ([119, 97, 116, 99, 104]) qc41 h) ⟨va_cnB 1 hw (goodN mw_2_224) rfl rfl rfl (hN.m 16 rfl) (hw _ mw_1_3) (by decide +kernel) ⟨Nat.le_of_ble_eq_true rfl, Nat.le_of_ble_eq_true rfl⟩, hw _ mw_2_223, hw _ mw_s9⟩ rfl rfl rfl hl.1 rfl (Nat.le_of_ble_eq_true rfl) dX5_readLine_224 ⟨Nat.zero_le _, Nat.zero_le _⟩) hP hD hS hA (fun r42 u H locs h hP hD hS => ?_)
              have hP : va_P D vwCl (List.flatten (wReader aU C us ua ++ (wRail aR C rs ra))) H := hP
              have hD : va_D A (List.flatten (wReader aU C us ua ++ (wRail aR C rs ra))) := hD
              refine lv_if_eq (tgt := 255) hx hb dX5_readLine_227 (by decide) (fun c43 => ?_) (fun c43 => ?_)
              · have h := h.1 c43
                refine lv_aload_n hx hb dX5_readLine_255 rfl (lv_at hl 0 rfl) ?_
                refine lv_iconst (v := 1) hx hb dX5_readLine_256 (by decide) ?_
                refine gs_V8_18 (rs_V8_18 (As := [.int 1]) (rest := []) ⟨hx, hb, hml, hown, hw⟩ hK hN hP hD (k_X5_fail l D C _ aU  us ua 1 h) (cwV 1 hw (goodV mw_3_34 mw_3_36 mw_s10 mw_1_2 mw_3_37) rfl rfl rfl (by decide +kernel) ⟨Nat.le_of_ble_eq_true rfl, Nat.le_of_ble_eq_true rfl⟩) rfl rfl rfl hl.1 rfl (Nat.le_of_ble_eq_true rfl) dX5_readLine_257 ⟨Nat.zero_le _, Nat.zero_le _⟩) hP hD hS hA (fun us_44 H locs h hP hD hS => ?_)
                have hP : va_P D vwCl (List.flatten (wReader aU C us_44 ua ++ (wRail aR C rs ra))) H := hP
                have hD : va_D A (List.flatten (wReader aU C us_44 ua ++ (wRail aR C rs ra))) := hD
                exact N260 us_44 rs ra _ _ _ h hP hD hS (lv_sub hl [0, 1] rfl)
              · have h := h.2 c43
                refine lv_aload_n hx hb dX5_readLine_230 rfl (lv_at hl 0 rfl) ?_
                refine lv_aload_n hx hb dX5_readLine_231 rfl (lv_at hl 1 rfl) ?_
                refine va_getN (D := D) (ci := 4) (v := .int (rs 7)) (C := RX4) (T := TX4) (N := 16) hx hb hw inW_X4 hown hK hP 3 rfl rfl 11 (by decide) hn115 (fun _ h9 => h9) rfl dX5_readLine_232 ?_
                refine lv_if_ne (tgt := 242) hx hb dX5_readLine_235 (by decide) (fun c45 => ?_) (fun c45 => ?_)
                · have h := h.1 c45
                  refine lv_iconst (v := 0) hx hb dX5_readLine_242 (by decide) ?_
                  exact N243 0 us rs ra _ _ _ h hP hD hS (lv_sub hl [0, 1] rfl)
                · have h := h.2 c45
                  refine lv_iconst (v := 1) hx hb dX5_readLine_238 (by decide) ?_
                  refine lv_goto (tgt := 243) hx hb dX5_readLine_239 (by decide) ?_
                  exact N243 1 us rs ra _ _ _ h hP hD hS (lv_sub hl [0, 1] rfl)
            · have h := h.2 c40
              refine lv_aload_n hx hb dX5_readLine_193 rfl (lv_at hl 0 rfl) ?_
              refine lv_aload_n hx hb dX5_readLine_194 rfl (lv_at hl 1 rfl) ?_
              refine va_getN (D := D) (ci := 4) (v := .int (rs 3)) (C := RX4) (T := TX4) (N := 16) hx hb hw inW_X4 hown hK hP 3 rfl rfl 7 (by decide) hn106 (fun _ h9 => h9) rfl dX5_readLine_195 ?_
              refine lv_if_ne (tgt := 205) hx hb dX5_readLine_198 (by decide) (fun c46 => ?_) (fun c46 => ?_)
              · have h := h.1 c46
                refine lv_iconst (v := 0) hx hb dX5_readLine_205 (by decide) ?_
                exact N206 0 us rs ra _ _ _ h hP hD hS (lv_sub hl [0, 1] rfl)
              · have h := h.2 c46
                refine lv_iconst (v := 1) hx hb dX5_readLine_201 (by decide) ?_
                refine lv_goto (tgt := 206) hx hb dX5_readLine_202 (by decide) ?_
                exact N206 1 us rs ra _ _ _ h hP hD hS (lv_sub hl [0, 1] rfl)
          · have h := h.2 c37
            refine lv_aload_n hx hb dX5_readLine_151 rfl (lv_at hl 0 rfl) ?_
            refine lv_aload_n hx hb dX5_readLine_152 rfl (lv_at hl 1 rfl) ?_
            refine va_getN (D := D) (ci := 4) (v := .ref (aR 13)) (C := RX4) (T := TX4) (N := 16) hx hb hw inW_X4 hown hK hP 3 rfl rfl 6 (by decide) hn94 (fun _ h9 => h9) rfl dX5_readLine_153 ?_
            refine va_getN (D := D) (ci := 9) (v := .int (rs 14)) (C := RX9) (T := TX9) (N := 6) hx hb hw inW_X9 hown hK hP 16 rfl rfl 0 (by decide) hn98 (fun _ h9 => h9) rfl dX5_readLine_156 ?_
            refine lv_bipush (v := 6) hx hb dX5_readLine_159 (by decide) ?_
            refine lv_icmp_ge (tgt := 168) hx hb dX5_readLine_161 (by decide) (fun c47 => ?_) (fun c47 => ?_)
            · have h := h.1 c47
              refine lv_iconst (v := 0) hx hb dX5_readLine_168 (by decide) ?_
              exact N169 0 us rs ra _ _ _ h hP hD hS (lv_sub hl [0, 1] rfl)
            · have h := h.2 c47
              refine lv_iconst (v := 1) hx hb dX5_readLine_164 (by decide) ?_
              refine lv_goto (tgt := 169) hx hb dX5_readLine_165 (by decide) ?_
              exact N169 1 us rs ra _ _ _ h hP hD hS (lv_sub hl [0, 1] rfl)
        · have h := h.2 c34
          refine lv_aload_n hx hb dX5_readLine_109 rfl (lv_at hl 0 rfl) ?_
          refine lv_aload_n hx hb dX5_readLine_110 rfl (lv_at hl 1 rfl) ?_
          refine va_getN (D := D) (ci := 4) (v := .ref (aR 7)) (C := RX4) (T := TX4) (N := 16) hx hb hw inW_X4 hown hK hP 3 rfl rfl 5 (by decide) hn82 (fun _ h9 => h9) rfl dX5_readLine_111 ?_
          refine va_getN (D := D) (ci := 0) (v := .int (rs 13)) (C := RX0) (T := TX0) (N := 6) hx hb hw inW_X0 hown hK hP 10 rfl rfl 0 (by decide) hn86 (fun _ h9 => h9) rfl dX5_readLine_114 ?_
          refine lv_bipush (v := 10) hx hb dX5_readLine_117 (by decide) ?_
          refine lv_icmp_ge (tgt := 126) hx hb dX5_readLine_119 (by decide) (fun c48 => ?_) (fun c48 => ?_)
          · have h := h.1 c48
            refine lv_iconst (v := 0) hx hb dX5_readLine_126 (by decide) ?_
            exact N127 0 us rs ra _ _ _ h hP hD hS (lv_sub hl [0, 1] rfl)
          · have h := h.2 c48
            refine lv_iconst (v := 1) hx hb dX5_readLine_122 (by decide) ?_
            refine lv_goto (tgt := 127) hx hb dX5_readLine_123 (by decide) ?_
            exact N127 1 us rs ra _ _ _ h hP hD hS (lv_sub hl [0, 1] rfl)
      · have h := h.2 c31
        refine lv_aload_n hx hb dX5_readLine_68 rfl (lv_at hl 0 rfl) ?_
        refine lv_aload_n hx hb dX5_readLine_69 rfl (lv_at hl 1 rfl) ?_
        refine va_getN (D := D) (ci := 4) (v := .ref (aR 4)) (C := RX4) (T := TX4) (N := 16) hx hb hw inW_X4 hown hK hP 3 rfl rfl 4 (by decide) hn70 (fun _ h9 => h9) rfl dX5_readLine_70 ?_
        refine va_getN (D := D) (ci := 2) (v := .int (rs 12)) (C := RX2) (T := TX2) (N := 3) hx hb hw inW_X2 hown hK hP 7 rfl rfl 0 (by decide) hn74 (fun _ h9 => h9) rfl dX5_readLine_73 ?_
        refine lv_iconst (v := 5) hx hb dX5_readLine_76 (by decide) ?_
        refine lv_icmp_ge (tgt := 84) hx hb dX5_readLine_77 (by decide) (fun c49 => ?_) (fun c49 => ?_)
        · have h := h.1 c49
          refine lv_iconst (v := 0) hx hb dX5_readLine_84 (by decide) ?_
          exact N85 0 us rs ra _ _ _ h hP hD hS (lv_sub hl [0, 1] rfl)
        · have h := h.2 c49
          refine lv_iconst (v := 1) hx hb dX5_readLine_80 (by decide) ?_
          refine lv_goto (tgt := 85) hx hb dX5_readLine_81 (by decide) ?_
          exact N85 1 us rs ra _ _ _ h hP hD hS (lv_sub hl [0, 1] rfl)
    · have h := h.2 c28
      refine lv_aload_n hx hb dX5_readLine_27 rfl (lv_at hl 0 rfl) ?_
      refine lv_aload_n hx hb dX5_readLine_28 rfl (lv_at hl 1 rfl) ?_
      refine va_getN (D := D) (ci := 4) (v := .ref (aR 1)) (C := RX4) (T := TX4) (N := 16) hx hb hw inW_X4 hown hK hP 3 rfl rfl 3 (by decide) hn52 (fun _ h9 => h9) rfl dX5_readLine_29 ?_
      refine va_getN (D := D) (ci := 1) (v := .int (rs 11)) (C := RX1) (T := TX1) (N := 3) hx hb hw inW_X1 hown hK hP 4 rfl rfl 0 (by decide) hn56 (fun _ h9 => h9) rfl dX5_readLine_32 ?_
      refine lv_iconst (v := 4) hx hb dX5_readLine_35 (by decide) ?_
      refine lv_icmp_ge (tgt := 43) hx hb dX5_readLine_36 (by decide) (fun c50 => ?_) (fun c50 => ?_)
      · have h := h.1 c50
        refine lv_iconst (v := 0) hx hb dX5_readLine_43 (by decide) ?_
        exact N44 0 us rs ra _ _ _ h hP hD hS (lv_sub hl [0, 1] rfl)
      · have h := h.2 c50
        refine lv_iconst (v := 1) hx hb dX5_readLine_39 (by decide) ?_
        refine lv_goto (tgt := 44) hx hb dX5_readLine_40 (by decide) ?_
        exact N44 1 us rs ra _ _ _ h hP hD hS (lv_sub hl [0, 1] rfl)
  · have h := h.2 c25
    refine lv_aload_n hx hb dX5_readLine_7 rfl (lv_at hl 0 rfl) ?_
    refine lv_aload_n hx hb dX5_readLine_8 rfl (lv_at hl 1 rfl) ?_
    refine cGoAV (cRunVS (As := [.ref (aR 0)]) (rest := []) sAll.ok hZ hS hA ⟨hx, hb, hml, hown, hw⟩ hK hN hP hD [0, 1, 2, 3, 4, 5, 6, 7] rfl rfl (k_X5_readRail l D C _ aU aR  us ua rs ra  h) (cwV 1 hw (goodV mw_2_212 mw_2_214 mw_s7 mw_1_2 mw_2_215) rfl rfl rfl (by decide +kernel) ⟨Nat.le_of_ble_eq_true rfl, Nat.le_of_ble_eq_true rfl⟩) rfl rfl rfl hl.1 rfl (Nat.le_of_ble_eq_true rfl) dX5_readLine_9 ⟨Nat.zero_le _, Nat.zero_le _⟩) hP hD hS hA (fun u H locs h hP hD hS => ?_)
    obtain ⟨us_51, rs_52⟩ := u
    have hP : va_P D vwCl (List.flatten (wReader aU C us_51 ua ++ (wRail aR C rs_52 ra))) H := hP
    have hD : va_D A (List.flatten (wReader aU C us_51 ua ++ (wRail aR C rs_52 ra))) := hD
    refine lv_goto (tgt := 260) hx hb dX5_readLine_12 (by decide) ?_
    exact N260 us_51 rs_52 ra _ _ _ h hP hD hS (lv_sub hl [0, 1] rfl)
abbrev vsX5_readInto : List Cond := Cond.code yX5_readInto cX5_readInto 3 (some .boolean) :: WS
abbrev rmX5_readInto : Room := { frames := 8, cells := 0, slots := 0, locals := 176 }
set_option maxHeartbeats 4000000 in
set_option maxRecDepth 100000 in
theorem k_X5_readInto (l : Launch) (D : va_G) (C : Nat → ClassId) (sz : Nat) (aU : Nat → Nat) (aR : Nat → Nat)  (us : Nat → Int32) (ua : Nat → Nat → Int32) (rs : Nat → Int32) (ra : Nat → Nat → Int32)  {post : Int32 → (Nat → Int32) → (Nat → Int32) → (Nat → Nat → Int32) → Prop} (h : P_X5_readInto us ua rs ra post) : Met l yX5_readInto vsX5_readInto rmX5_readInto (cPreS D C [.ref (aU 0), .ref (aR 0)] sz (wReader aU C us ua ++ (wRail aR C rs ra)) sAll) (cQi D (fun (r : Int32) (u : (Nat → Int32) × (Nat → Int32) × (Nat → Nat → Int32)) => post r u.1 u.2.1 u.2.2) (fun u => wReader aU C u.1 ua ++ (wRail aR C u.2.1 u.2.2)) (va_A (List.flatten (wReader aU C us ua ++ (wRail aR C rs ra))) sz)) 0 0 (va_A (List.flatten (wReader aU C us ua ++ (wRail aR C rs ra))) sz) := by
  refine cStartS (QA := fun A => cQi D (fun (r : Int32) (u : (Nat → Int32) × (Nat → Int32) × (Nat → Nat → Int32)) => post r u.1 u.2.1 u.2.2) (fun u => wReader aU C u.1 ua ++ (wRail aR C u.2.1 u.2.2)) A) (cc := cX5_readInto) (maxL := 3) (ret := (some .boolean)) (by decide) (Nat.le_of_ble_eq_true rfl) ?_
  intro p e s m args below meth c A ls hx hb hr hml hown hw hlocks hname hK hN hA hP hD hS hl hX
  generalize hQ : MQ below _ args s 0 0 A = Q
  have hl : lv_has ls 3 [(0, .ref (aU 0)), (1, .ref (aR 0))] := hl
  have hZ : sAll A s s.heap := hX
  have hn33 : (Cond.fieldLinkNest "LockRail$Reader" 33 "LockRail$Tape" "kind" "I" "LockRail").before args s = true := hN.f 2 rfl
  obtain ⟨H, hH⟩ : ∃ H, H = s.heap := ⟨_, rfl⟩
  obtain ⟨locs, hlo⟩ : ∃ z : List Loc, z = [] := ⟨_, rfl⟩
  have hP : va_P D vwCl (List.flatten (wReader aU C us ua ++ (wRail aR C rs ra))) H := by rw [hH]; exact hP
  have hS : va_S A s.heap H locs := by rw [hH, hlo]; exact hS
  rw [show W p l e rmX5_readInto s m args below meth c s.heap [] 0 0 Q (F0 m 0 ls []) = W p l e rmX5_readInto s m args below meth c H locs 0 0 Q (F0 m 0 ls []) from by rw [hH, hlo]]
  have N58 : ∀ (us : Nat → Int32) (rs : Nat → Int32) (ra : Nat → Nat → Int32) (H : Heap) (locs : List Loc) (ls : Array Slot), P_X5_readInto_58 ua post  us rs ra → va_P D vwCl (List.flatten (wReader aU C us ua ++ (wRail aR C rs ra))) H → va_D A (List.flatten (wReader aU C us ua ++ (wRail aR C rs ra))) → va_S A s.heap H locs → lv_has ls 3 [(0, .ref (aU 0))] → W p l e rmX5_readInto s m args below meth c H locs 0 0 Q (F0 m 58 ls []) := by
    intro us rs ra H locs ls h hP hD hS hl
    refine lv_aload_n hx hb dX5_readInto_58 rfl (lv_at hl 0 rfl) ?_
    refine va_get (D := D) (ci := 5) (v := .int (us 0)) (C := RX5) (T := TX5) (N := 3) hx hb hw inW_X5 hown hK hP 0 rfl rfl 1 (by decide) (hw _ mw_1_67) (fun _ h9 => h9) rfl dX5_readInto_59 ?_
    refine lv_if_ne (tgt := 69) hx hb dX5_readInto_62 (by decide) (fun c1 => ?_) (fun c1 => ?_)
    · have h := h.1 c1
      refine lv_iconst (v := 0) hx hb dX5_readInto_69 (by decide) ?_
      rw [← hQ]
      exact cRetZ (v := 0) (us, rs, ra) hx hb hr hlocks hS hP hD (Or.inl rfl) h dX5_readInto_70
    · have h := h.2 c1
      refine lv_iconst (v := 1) hx hb dX5_readInto_65 (by decide) ?_
      refine lv_goto (tgt := 70) hx hb dX5_readInto_66 (by decide) ?_
      rw [← hQ]
      exact cRetZ (v := 1) (us, rs, ra) hx hb hr hlocks hS hP hD (Or.inr rfl) h dX5_readInto_70
  have N23 : ∀  (n23 : Nat) (x2_ : Int32) (us : Nat → Int32) (rs : Nat → Int32) (ra : Nat → Nat → Int32) (H : Heap) (locs : List Loc) (ls : Array Slot), P_X5_readInto_23 ua post (fun (us : Nat → Int32) (rs : Nat → Int32) (ra : Nat → Nat → Int32) => P_X5_readInto_58 ua post  us rs ra)  n23 x2_ us rs ra → va_P D vwCl (List.flatten (wReader aU C us ua ++ (wRail aR C rs ra))) H → va_D A (List.flatten (wReader aU C us ua ++ (wRail aR C rs ra))) → va_S A s.heap H locs → lv_has ls 3 [(0, .ref (aU 0)), (1, .ref (aR 0)), (2, .int x2_)] → W p l e rmX5_readInto s m args below meth c H locs 0 0 Q (F0 m 23 ls []) := by
    intro n23
    induction n23 with
    | zero => intro x2_ us rs ra H locs ls h hP hD hS hl; exact False.elim h
    | succ n23 ih23 =>
      intro x2_ us rs ra H locs ls h hP hD hS hl
      refine lv_iload_n hx hb dX5_readInto_23 rfl (lv_at hl 2 rfl) ?_
      refine lv_sipush (v := 1600) hx hb dX5_readInto_24 (by decide) ?_
      refine lv_icmp_ge (tgt := 58) hx hb dX5_readInto_27 (by decide) (fun c2 => ?_) (fun c2 => ?_)
      · have h := h.1 c2
        exact N58 us rs ra _ _ _ h hP hD hS (lv_sub hl [0] rfl)
      · have h := h.2 c2
        refine lv_aload_n hx hb dX5_readInto_30 rfl (lv_at hl 0 rfl) ?_
        refine va_get (D := D) (ci := 5) (v := .int (us 0)) (C := RX5) (T := TX5) (N := 3) hx hb hw inW_X5 hown hK hP 0 rfl rfl 1 (by decide) (hw _ mw_1_67) (fun _ h9 => h9) rfl dX5_readInto_31 ?_
        refine lv_if_ne (tgt := 58) hx hb dX5_readInto_34 (by decide) (fun c3 => ?_) (fun c3 => ?_)
        · have h := h.1 c3
          exact N58 us rs ra _ _ _ h hP hD hS (lv_sub hl [0] rfl)
        · have h := h.2 c3
          refine lv_aload_n hx hb dX5_readInto_37 rfl (lv_at hl 0 rfl) ?_
          refine va_get (D := D) (ci := 5) (v := .ref (aU 1)) (C := RX5) (T := TX5) (N := 3) hx hb hw inW_X5 hown hK hP 0 rfl rfl 0 (by decide) (hw _ mw_1_65) (fun _ h9 => h9) rfl dX5_readInto_38 ?_
          refine va_getN (D := D) (ci := 8) (v := .int (us 5)) (C := RX8) (T := TX8) (N := 6) hx hb hw inW_X8 hown hK hP 1 rfl rfl 4 (by decide) hn33 (fun _ h9 => h9) rfl dX5_readInto_41 ?_
          refine lv_if_eq (tgt := 58) hx hb dX5_readInto_44 (by decide) (fun c4 => ?_) (fun c4 => ?_)
          · have h := h.1 c4
            exact N58 us rs ra _ _ _ h hP hD hS (lv_sub hl [0] rfl)
          · have h := h.2 c4
            refine lv_aload_n hx hb dX5_readInto_47 rfl (lv_at hl 0 rfl) ?_
            refine lv_aload_n hx hb dX5_readInto_48 rfl (lv_at hl 1 rfl) ?_
            refine cGoAV (cRunVS (As := [.ref (aR 0)]) (rest := []) sAll.ok hZ hS hA ⟨hx, hb, hml, hown, hw⟩ hK hN hP hD [0, 1, 2, 3, 4, 5, 6, 7] rfl rfl (k_X5_readLine l D C _ aU aR  us ua rs ra  h) (cwV 1 hw (goodV mw_2_208 mw_2_210 mw_s6 mw_1_2 mw_2_211) rfl rfl rfl (by decide +kernel) ⟨Nat.le_of_ble_eq_true rfl, Nat.le_of_ble_eq_true rfl⟩) rfl rfl rfl hl.1 rfl (Nat.le_of_ble_eq_true rfl) dX5_readInto_49 ⟨Nat.zero_le _, Nat.zero_le _⟩) hP hD hS hA (fun u H locs h hP hD hS => ?_)
            obtain ⟨us_5, rs_6, ra_7⟩ := u
            have hP : va_P D vwCl (List.flatten (wReader aU C us_5 ua ++ (wRail aR C rs_6 ra_7))) H := hP
            have hD : va_D A (List.flatten (wReader aU C us_5 ua ++ (wRail aR C rs_6 ra_7))) := hD
            refine lv_iinc (v := (x2_ + 1)) (lv' := [(2, .int (x2_ + 1)), (0, .ref (aU 0)), (1, .ref (aR 0))]) hx hb dX5_readInto_52 hl (k := 2) rfl rfl (by decide) rfl (fun ls hl => ?_)
            refine lv_goto (tgt := 23) hx hb dX5_readInto_55 (by decide) ?_
            exact ih23 (x2_ + 1) us_5 rs_6 ra_7 _ _ _ h hP hD hS (lv_sub hl [1, 2, 0] rfl)
  refine lv_aload_n hx hb dX5_readInto_0 rfl (lv_at hl 0 rfl) ?_
  refine lv_iconst (v := 0) hx hb dX5_readInto_1 (by decide) ?_
  refine va_put (D := D) (ci := 5) (v := .int 0) (ty := .int) (C := RX5) (T := TX5) (N := 3) hx hb hw inW_X5 tyX5 tyX5_ok nmX5 hown hK hP hD hS 0 rfl rfl 1 (by decide) (hw _ mw_1_67) (fun _ h9 => h9) rfl (by decide +kernel) rfl rfl (Nat.le_of_ble_eq_true rfl) dX5_readInto_2 (fun H locs hP hD hS => ?_)
  refine lv_aload_n hx hb dX5_readInto_5 rfl (lv_at hl 0 rfl) ?_
  refine lv_iconst (v := (-1)) hx hb dX5_readInto_6 (by decide) ?_
  refine va_put (D := D) (ci := 5) (v := .int (-1)) (ty := .int) (C := RX5) (T := TX5) (N := 3) hx hb hw inW_X5 tyX5 tyX5_ok nmX5 hown hK hP hD hS 0 rfl rfl 2 (by decide) (hw _ mw_1_69) (fun _ h9 => h9) rfl (by decide +kernel) rfl rfl (Nat.le_of_ble_eq_true rfl) dX5_readInto_7 (fun H locs hP hD hS => ?_)
  refine lv_aload_n hx hb dX5_readInto_10 rfl (lv_at hl 1 rfl) ?_
  have hP : va_P D vwCl (List.flatten (wReader aU C (va_up (va_up us 0 0) 1 (-1)) ua ++ (wRail aR C rs ra))) H := hP
  have hD : va_D A (List.flatten (wReader aU C (va_up (va_up us 0 0) 1 (-1)) ua ++ (wRail aR C rs ra))) := hD
  refine gs_V8_26 (rs_VN8_23 (As := []) (rest := []) ⟨hx, hb, hml, hown, hw⟩ hK hN hP hD (k_X4_wipe l D C _ aR  rs ra  h) ⟨va_cnB 0 hw (goodN mw_2_191) rfl rfl rfl (hN.m 14 rfl) (hw _ mw_1_4) (by decide +kernel) ⟨Nat.le_of_ble_eq_true rfl, Nat.le_of_ble_eq_true rfl⟩, hw _ mw_2_190, hw _ mw_s2⟩ rfl rfl rfl hl.1 rfl (Nat.le_of_ble_eq_true rfl) dX5_readInto_11 ⟨Nat.zero_le _, Nat.zero_le _⟩) hP hD hS hA (fun rs_8 H locs h hP hD hS => ?_)
  have hP : va_P D vwCl (List.flatten (wReader aU C (va_up (va_up us 0 0) 1 (-1)) ua ++ (wRail aR C rs_8 ra))) H := hP
  have hD : va_D A (List.flatten (wReader aU C (va_up (va_up us 0 0) 1 (-1)) ua ++ (wRail aR C rs_8 ra))) := hD
  refine lv_aload_n hx hb dX5_readInto_14 rfl (lv_at hl 0 rfl) ?_
  refine va_get (D := D) (ci := 5) (v := .ref (aU 1)) (C := RX5) (T := TX5) (N := 3) hx hb hw inW_X5 hown hK hP 0 rfl rfl 0 (by decide) (hw _ mw_1_65) (fun _ h9 => h9) rfl dX5_readInto_15 ?_
  refine gs_V8_27 (rs_VN8_24 (As := []) (rest := []) ⟨hx, hb, hml, hown, hw⟩ hK hN hP hD (k_X8_rewind l D C _ (aU 1) (aU 2)  (ua 0) (us 2) (us 3) (us 4) (us 5) (us 6)  h) ⟨va_cnB 0 hw (goodN mw_2_195) rfl rfl rfl (hN.m 15 rfl) (hw _ mw_1_3) (by decide +kernel) ⟨Nat.le_of_ble_eq_true rfl, Nat.le_of_ble_eq_true rfl⟩, hw _ mw_2_194, hw _ mw_s3⟩ rfl rfl rfl hl.1 rfl (Nat.le_of_ble_eq_true rfl) dX5_readInto_18 ⟨Nat.zero_le _, Nat.zero_le _⟩) hP hD hS hA (fun u H locs h hP hD hS => ?_)
  obtain ⟨spo_9, beh_10, kin_11, num_12⟩ := u
  have hP : va_P D vwCl (List.flatten (wReader aU C (va_up (va_up (va_up (va_up (va_up (va_up us 0 0) 1 (-1)) 3 spo_9) 4 beh_10) 5 kin_11) 6 num_12) ua ++ (wRail aR C rs_8 ra))) H := hP
  have hD : va_D A (List.flatten (wReader aU C (va_up (va_up (va_up (va_up (va_up (va_up us 0 0) 1 (-1)) 3 spo_9) 4 beh_10) 5 kin_11) 6 num_12) ua ++ (wRail aR C rs_8 ra))) := hD
  refine lv_iconst (v := 0) hx hb dX5_readInto_21 (by decide) ?_
  refine lv_istore_n (lv' := [(2, .int 0), (0, .ref (aU 0)), (1, .ref (aR 0))]) hx hb dX5_readInto_22 rfl hl (by decide) rfl (fun ls hl => ?_)
  obtain ⟨n, h⟩ := h
  exact N23  n 0 (va_up (va_up (va_up (va_up (va_up (va_up us 0 0) 1 (-1)) 3 spo_9) 4 beh_10) 5 kin_11) 6 num_12) rs_8 ra _ _ _ h hP hD hS (lv_sub hl [1, 2, 0] rfl)
abbrev vsX11_rail : List Cond := Cond.code yX11_rail cX11_rail 2 (some .int) :: WS
abbrev rmX11_rail : Room := { frames := 9, cells := 0, slots := 0, locals := 198 }
set_option maxHeartbeats 4000000 in
set_option maxRecDepth 100000 in
theorem k_X11_rail (l : Launch) (D : va_G) (C : Nat → ClassId) (sz : Nat) (L0 : Nat) (aU : Nat → Nat) (aR : Nat → Nat) (aR2 : Nat → Nat) (aS : Nat → Nat) (n0 : Nat) (aN : Nat → Nat) (y0 : Nat) (y1 : Nat) (y2 : Nat) (o0 : Nat) (h_images : Nat) (us : Nat → Int32) (ua : Nat → Nat → Int32) (rs : Nat → Int32) (ra : Nat → Nat → Int32) (rs2 : Nat → Int32) (ra2 : Nat → Nat → Int32) (sa : Nat → Nat → Int32) (sl : Nat → Nat → Int64) (ns : Nat → Int32) (na : Nat → Nat → Int32) (nl : Nat → Nat → Int64) (y_isThere : Int32) (y_taken : Nat → Int32) (y_took : Nat → Int32) (o_of : Nat → Int64)  {post : Int32 → (Nat → Int32) → (Nat → Int32) → (Nat → Nat → Int32) → (Nat → Int32) → (Nat → Nat → Int32) → Prop} (h : P_X11_rail us ua rs ra rs2 ra2 post) : Met l yX11_rail vsX11_rail rmX11_rail (cPreS D C [.ref L0] sz ([cLockRail L0 (aU 0) (aR 0) (aR2 0) h_images (aS 0) n0 y0 o0 C ] ++ (wReader aU C us ua ++ (wRail aR C rs ra ++ (wRail aR2 C rs2 ra2 ++ (wSlots aS C sa sl ++ (wNight n0 aN C ns na nl ++ ([cYear y0 y1 y2 C y_isThere y_taken y_took] ++ ([cOb o0 C o_of])))))))) sAll) (cQi D (fun (r : Int32) (u : (Nat → Int32) × (Nat → Int32) × (Nat → Nat → Int32) × (Nat → Int32) × (Nat → Nat → Int32)) => post r u.1 u.2.1 u.2.2.1 u.2.2.2.1 u.2.2.2.2) (fun u => [cLockRail L0 (aU 0) (aR 0) (aR2 0) h_images (aS 0) n0 y0 o0 C ] ++ (wReader aU C u.1 ua ++ (wRail aR C u.2.1 u.2.2.1 ++ (wRail aR2 C u.2.2.2.1 u.2.2.2.2 ++ (wSlots aS C sa sl ++ (wNight n0 aN C ns na nl ++ ([cYear y0 y1 y2 C y_isThere y_taken y_took] ++ ([cOb o0 C o_of])))))))) (va_A (List.flatten ([cLockRail L0 (aU 0) (aR 0) (aR2 0) h_images (aS 0) n0 y0 o0 C ] ++ (wReader aU C us ua ++ (wRail aR C rs ra ++ (wRail aR2 C rs2 ra2 ++ (wSlots aS C sa sl ++ (wNight n0 aN C ns na nl ++ ([cYear y0 y1 y2 C y_isThere y_taken y_took] ++ ([cOb o0 C o_of]))))))))) sz)) 0 0 (va_A (List.flatten ([cLockRail L0 (aU 0) (aR 0) (aR2 0) h_images (aS 0) n0 y0 o0 C ] ++ (wReader aU C us ua ++ (wRail aR C rs ra ++ (wRail aR2 C rs2 ra2 ++ (wSlots aS C sa sl ++ (wNight n0 aN C ns na nl ++ ([cYear y0 y1 y2 C y_isThere y_taken y_took] ++ ([cOb o0 C o_of]))))))))) sz) := by
  refine cStartS (QA := fun A => cQi D (fun (r : Int32) (u : (Nat → Int32) × (Nat → Int32) × (Nat → Nat → Int32) × (Nat → Int32) × (Nat → Nat → Int32)) => post r u.1 u.2.1 u.2.2.1 u.2.2.2.1 u.2.2.2.2) (fun u => [cLockRail L0 (aU 0) (aR 0) (aR2 0) h_images (aS 0) n0 y0 o0 C ] ++ (wReader aU C u.1 ua ++ (wRail aR C u.2.1 u.2.2.1 ++ (wRail aR2 C u.2.2.2.1 u.2.2.2.2 ++ (wSlots aS C sa sl ++ (wNight n0 aN C ns na nl ++ ([cYear y0 y1 y2 C y_isThere y_taken y_took] ++ ([cOb o0 C o_of])))))))) A) (cc := cX11_rail) (maxL := 2) (ret := (some .int)) (by decide) (Nat.le_of_ble_eq_true rfl) ?_
  intro p e s m args below meth c A ls hx hb hr hml hown hw hlocks hname hK hN hA hP hD hS hl hX
  generalize hQ : MQ below _ args s 0 0 A = Q
  have hl : lv_has ls 2 [(0, .ref L0)] := hl
  have hZ : sAll A s s.heap := hX
  have hn55 : (Cond.fieldLinkNest "LockRail" 55 "LockRail$Reader" "tape" "LLockRail$Tape;" "LockRail").before args s = true := hN.f 4 rfl
  have hn59 : (Cond.fieldLinkNest "LockRail" 59 "LockRail$Tape" "length" "I" "LockRail").before args s = true := hN.f 0 rfl
  have hn77 : (Cond.fieldLinkNest "LockRail" 77 "LockRail$Rail" "lines" "I" "LockRail").before args s = true := hN.f 54 rfl
  obtain ⟨H, hH⟩ : ∃ H, H = s.heap := ⟨_, rfl⟩
  obtain ⟨locs, hlo⟩ : ∃ z : List Loc, z = [] := ⟨_, rfl⟩
  have hP : va_P D vwCl (List.flatten ([cLockRail L0 (aU 0) (aR 0) (aR2 0) h_images (aS 0) n0 y0 o0 C ] ++ (wReader aU C us ua ++ (wRail aR C rs ra ++ (wRail aR2 C rs2 ra2 ++ (wSlots aS C sa sl ++ (wNight n0 aN C ns na nl ++ ([cYear y0 y1 y2 C y_isThere y_taken y_took] ++ ([cOb o0 C o_of]))))))))) H := by rw [hH]; exact hP
  have hS : va_S A s.heap H locs := by rw [hH, hlo]; exact hS
  rw [show W p l e rmX11_rail s m args below meth c s.heap [] 0 0 Q (F0 m 0 ls []) = W p l e rmX11_rail s m args below meth c H locs 0 0 Q (F0 m 0 ls []) from by rw [hH, hlo]]
  refine lv_aload_n hx hb dX11_rail_0 rfl (lv_at hl 0 rfl) ?_
  refine va_get (D := D) (ci := 11) (v := .ref (aU 0)) (C := RX11) (T := TX11) (N := 8) hx hb hw inW_X11 hown hK hP 0 rfl rfl 0 (by decide) (hw _ mw_2_143) (fun _ h9 => h9) rfl dX11_rail_1 ?_
  refine lv_aload_n hx hb dX11_rail_4 rfl (lv_at hl 0 rfl) ?_
  refine va_get (D := D) (ci := 11) (v := .ref (aR2 0)) (C := RX11) (T := TX11) (N := 8) hx hb hw inW_X11 hown hK hP 0 rfl rfl 2 (by decide) (hw _ mw_2_145) (fun _ h9 => h9) rfl dX11_rail_5 ?_
  refine gs_I21_28 (cRunVNS (As := [.ref (aR2 0)]) (rest := []) sAll.ok hZ hS hA ⟨hx, hb, hml, hown, hw⟩ hK hN hP hD [1, 2, 9, 10, 11, 12, 13, 14] rfl rfl (k_X5_readInto l D C _ aU aR2  us ua rs2 ra2  h) ⟨va_cnB 1 hw (goodN mw_2_187) rfl rfl rfl (hN.m 13 rfl) (hw _ mw_1_2) (by decide +kernel) ⟨Nat.le_of_ble_eq_true rfl, Nat.le_of_ble_eq_true rfl⟩, hw _ mw_2_186, hw _ mw_s1⟩ rfl rfl rfl hl.1 rfl (Nat.le_of_ble_eq_true rfl) dX11_rail_8 ⟨Nat.zero_le _, Nat.zero_le _⟩) hP hD hS hA (fun r4 u H locs h hP hD hS => ?_)
  obtain ⟨us_1, rs_2, ra_3⟩ := u
  have hP : va_P D vwCl (List.flatten ([cLockRail L0 (aU 0) (aR 0) (aR2 0) h_images (aS 0) n0 y0 o0 C ] ++ (wReader aU C us_1 ua ++ (wRail aR C rs ra ++ (wRail aR2 C rs_2 ra_3 ++ (wSlots aS C sa sl ++ (wNight n0 aN C ns na nl ++ ([cYear y0 y1 y2 C y_isThere y_taken y_took] ++ ([cOb o0 C o_of]))))))))) H := hP
  have hD : va_D A (List.flatten ([cLockRail L0 (aU 0) (aR 0) (aR2 0) h_images (aS 0) n0 y0 o0 C ] ++ (wReader aU C us_1 ua ++ (wRail aR C rs ra ++ (wRail aR2 C rs_2 ra_3 ++ (wSlots aS C sa sl ++ (wNight n0 aN C ns na nl ++ ([cYear y0 y1 y2 C y_isThere y_taken y_took] ++ ([cOb o0 C o_of]))))))))) := hD
  refine lv_istore_n (lv' := [(1, .int r4), (0, .ref L0)]) hx hb dX11_rail_11 rfl hl (by decide) rfl (fun ls hl => ?_)
  refine lv_aload_n hx hb dX11_rail_12 rfl (lv_at hl 1 rfl) ?_
  refine va_get (D := D) (ci := 11) (v := .ref (aU 0)) (C := RX11) (T := TX11) (N := 8) hx hb hw inW_X11 hown hK hP 0 rfl rfl 0 (by decide) (hw _ mw_2_143) (fun _ h9 => h9) rfl dX11_rail_13 ?_
  refine va_getN (D := D) (ci := 5) (v := .ref (aU 1)) (C := RX5) (T := TX5) (N := 3) hx hb hw inW_X5 hown hK hP 1 rfl rfl 0 (by decide) hn55 (fun _ h9 => h9) rfl dX11_rail_16 ?_
  refine lv_iconst (v := 0) hx hb dX11_rail_19 (by decide) ?_
  refine va_putN (D := D) (ci := 8) (v := .int 0) (ty := .int) (C := RX8) (T := TX8) (N := 6) hx hb hw inW_X8 tyX8 tyX8_ok nmX8 hown hK hP hD hS 2 rfl rfl 1 (by decide) hn59 (fun _ h9 => h9) rfl (by decide +kernel) rfl rfl (Nat.le_of_ble_eq_true rfl) dX11_rail_20 (fun H locs hP hD hS => ?_)
  refine lv_iload_n hx hb dX11_rail_23 rfl (lv_at hl 0 rfl) ?_
  refine lv_if_ne (tgt := 30) hx hb dX11_rail_24 (by decide) (fun c5 => ?_) (fun c5 => ?_)
  · have h := h.1 c5
    refine lv_aload_n hx hb dX11_rail_30 rfl (lv_at hl 1 rfl) ?_
    refine va_get (D := D) (ci := 11) (v := .ref (aR 0)) (C := RX11) (T := TX11) (N := 8) hx hb hw inW_X11 hown hK hP 0 rfl rfl 1 (by decide) (hw _ mw_2_144) (fun _ h9 => h9) rfl dX11_rail_31 ?_
    refine lv_aload_n hx hb dX11_rail_34 rfl (lv_at hl 1 rfl) ?_
    refine va_get (D := D) (ci := 11) (v := .ref (aR2 0)) (C := RX11) (T := TX11) (N := 8) hx hb hw inW_X11 hown hK hP 0 rfl rfl 2 (by decide) (hw _ mw_2_145) (fun _ h9 => h9) rfl dX11_rail_35 ?_
    have hP : va_P D vwCl (List.flatten ([cLockRail L0 (aU 0) (aR 0) (aR2 0) h_images (aS 0) n0 y0 o0 C ] ++ (wReader aU C (va_up us_1 2 0) ua ++ (wRail aR C rs ra ++ (wRail aR2 C rs_2 ra_3 ++ (wSlots aS C sa sl ++ (wNight n0 aN C ns na nl ++ ([cYear y0 y1 y2 C y_isThere y_taken y_took] ++ ([cOb o0 C o_of]))))))))) H := hP
    have hD : va_D A (List.flatten ([cLockRail L0 (aU 0) (aR 0) (aR2 0) h_images (aS 0) n0 y0 o0 C ] ++ (wReader aU C (va_up us_1 2 0) ua ++ (wRail aR C rs ra ++ (wRail aR2 C rs_2 ra_3 ++ (wSlots aS C sa sl ++ (wNight n0 aN C ns na nl ++ ([cYear y0 y1 y2 C y_isThere y_taken y_took] ++ ([cOb o0 C o_of]))))))))) := hD
    refine gs_V21_29 (rs_VN21_25 (As := [.ref (aR2 0)]) (rest := []) ⟨hx, hb, hml, hown, hw⟩ hK hN hP hD (k_X4_copyFrom l D C _ aR aR2  rs ra rs_2 ra_3  h) ⟨va_cnB 1 hw (goodN mw_3_126) rfl rfl rfl (hN.m 23 rfl) (hw _ mw_1_4) (by decide +kernel) ⟨Nat.le_of_ble_eq_true rfl, Nat.le_of_ble_eq_true rfl⟩, hw _ mw_3_125, hw _ mw_s26⟩ rfl rfl rfl hl.1 rfl (Nat.le_of_ble_eq_true rfl) dX11_rail_38 ⟨Nat.zero_le _, Nat.zero_le _⟩) hP hD hS hA (fun u H locs h hP hD hS => ?_)
    obtain ⟨rs_6, ra_7⟩ := u
    have hP : va_P D vwCl (List.flatten ([cLockRail L0 (aU 0) (aR 0) (aR2 0) h_images (aS 0) n0 y0 o0 C ] ++ (wReader aU C (va_up us_1 2 0) ua ++ (wRail aR C rs_6 ra_7 ++ (wRail aR2 C rs_2 ra_3 ++ (wSlots aS C sa sl ++ (wNight n0 aN C ns na nl ++ ([cYear y0 y1 y2 C y_isThere y_taken y_took] ++ ([cOb o0 C o_of]))))))))) H := hP
    have hD : va_D A (List.flatten ([cLockRail L0 (aU 0) (aR 0) (aR2 0) h_images (aS 0) n0 y0 o0 C ] ++ (wReader aU C (va_up us_1 2 0) ua ++ (wRail aR C rs_6 ra_7 ++ (wRail aR2 C rs_2 ra_3 ++ (wSlots aS C sa sl ++ (wNight n0 aN C ns na nl ++ ([cYear y0 y1 y2 C y_isThere y_taken y_took] ++ ([cOb o0 C o_of]))))))))) := hD
    refine lv_aload_n hx hb dX11_rail_41 rfl (lv_at hl 1 rfl) ?_
    refine va_get (D := D) (ci := 11) (v := .ref (aR 0)) (C := RX11) (T := TX11) (N := 8) hx hb hw inW_X11 hown hK hP 0 rfl rfl 1 (by decide) (hw _ mw_2_144) (fun _ h9 => h9) rfl dX11_rail_42 ?_
    refine va_getN (D := D) (ci := 4) (v := .int (rs_6 2)) (C := RX4) (T := TX4) (N := 16) hx hb hw inW_X4 hown hK hP 4 rfl rfl 2 (by decide) hn77 (fun _ h9 => h9) rfl dX11_rail_45 ?_
    rw [← hQ]
    exact cRetI (v := (rs_6 2)) ((va_up us_1 2 0), rs_6, ra_7, rs_2, ra_3) hx hb hr hlocks hS hP hD h dX11_rail_48
  · have h := h.2 c5
    refine lv_bipush (v := (-4)) hx hb dX11_rail_27 (by decide) ?_
    have hP : va_P D vwCl (List.flatten ([cLockRail L0 (aU 0) (aR 0) (aR2 0) h_images (aS 0) n0 y0 o0 C ] ++ (wReader aU C (va_up us_1 2 0) ua ++ (wRail aR C rs ra ++ (wRail aR2 C rs_2 ra_3 ++ (wSlots aS C sa sl ++ (wNight n0 aN C ns na nl ++ ([cYear y0 y1 y2 C y_isThere y_taken y_took] ++ ([cOb o0 C o_of]))))))))) H := hP
    have hD : va_D A (List.flatten ([cLockRail L0 (aU 0) (aR 0) (aR2 0) h_images (aS 0) n0 y0 o0 C ] ++ (wReader aU C (va_up us_1 2 0) ua ++ (wRail aR C rs ra ++ (wRail aR2 C rs_2 ra_3 ++ (wSlots aS C sa sl ++ (wNight n0 aN C ns na nl ++ ([cYear y0 y1 y2 C y_isThere y_taken y_took] ++ ([cOb o0 C o_of]))))))))) := hD
    rw [← hQ]
    exact cRetI (v := (-4)) ((va_up us_1 2 0), rs, ra, rs_2, ra_3) hx hb hr hlocks hS hP hD h dX11_rail_29
