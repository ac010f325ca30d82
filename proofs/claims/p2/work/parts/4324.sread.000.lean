abbrev vsX8_isWord : List Cond := Cond.code yX8_isWord cX8_isWord 3 (some .boolean) :: WS
abbrev rmX8_isWord : Room := { frames := 4, cells := 0, slots := 0, locals := 85 }
set_option maxHeartbeats 4000000 in
set_option maxRecDepth 100000 in
theorem k_X8_isWord (l : Launch) (D : va_G) (C : Nat → ClassId) (sz : Nat) (a0 : Nat) (a1 : Nat)  (a_bytes : Nat → Int32) (a_length : Int32) (a_spot : Int32) (a_behind : Int32) (a_kind : Int32) (a_number : Int32) (p1 : List Int32) (qp1 : Nat) {post : Int32 → Prop} (h : P_X8_isWord a_bytes a_spot a_behind a_kind p1 post) : Met l yX8_isWord vsX8_isWord rmX8_isWord (cPreS D C [.ref a0, .ref qp1] sz ([cTape a0 a1 C a_bytes a_length a_spot a_behind a_kind a_number]) (X1 p1 qp1)) (cQi D (fun (r : Int32) (u : Unit) => post r ) (fun u => [cTape a0 a1 C a_bytes a_length a_spot a_behind a_kind a_number]) (va_A (List.flatten ([cTape a0 a1 C a_bytes a_length a_spot a_behind a_kind a_number])) sz)) 0 0 (va_A (List.flatten ([cTape a0 a1 C a_bytes a_length a_spot a_behind a_kind a_number])) sz) := by
  refine cStartS (QA := fun A => cQi D (fun (r : Int32) (u : Unit) => post r ) (fun u => [cTape a0 a1 C a_bytes a_length a_spot a_behind a_kind a_number]) A) (cc := cX8_isWord) (maxL := 3) (ret := (some .boolean)) (by decide) (Nat.le_of_ble_eq_true rfl) ?_
  intro p e s m args below meth c A ls hx hb hr hml hown hw hlocks hname hK hN hA hP hD hS hl hX
  generalize hQ : MQ below _ args s 0 0 A = Q
  have hl : lv_has ls 3 [(0, .ref a0), (1, .ref qp1)] := hl
  obtain ⟨hZ, h_qp1⟩ := hX
  obtain ⟨H, hH⟩ : ∃ H, H = s.heap := ⟨_, rfl⟩
  obtain ⟨locs, hlo⟩ : ∃ z : List Loc, z = [] := ⟨_, rfl⟩
  have hP : va_P D vwCl (List.flatten ([cTape a0 a1 C a_bytes a_length a_spot a_behind a_kind a_number])) H := by rw [hH]; exact hP
  have hS : va_S A s.heap H locs := by rw [hH, hlo]; exact hS
  rw [show W p l e rmX8_isWord s m args below meth c s.heap [] 0 0 Q (F0 m 0 ls []) = W p l e rmX8_isWord s m args below meth c H locs 0 0 Q (F0 m 0 ls []) from by rw [hH, hlo]]
  have N28 : ∀  (n28 : Nat) (x2_ : Int32) (H : Heap) (locs : List Loc) (ls : Array Slot), P_X8_isWord_28 a_bytes a_spot a_behind a_kind p1 post   n28 x2_ → va_P D vwCl (List.flatten ([cTape a0 a1 C a_bytes a_length a_spot a_behind a_kind a_number])) H → va_D A (List.flatten ([cTape a0 a1 C a_bytes a_length a_spot a_behind a_kind a_number])) → va_S A s.heap H locs → lv_has ls 3 [(0, .ref a0), (1, .ref qp1), (2, .int x2_)] → W p l e rmX8_isWord s m args below meth c H locs 0 0 Q (F0 m 28 ls []) := by
    intro n28
    induction n28 with
    | zero => intro x2_ H locs ls h hP hD hS hl; exact False.elim h
    | succ n28 ih28 =>
      intro x2_ H locs ls h hP hD hS hl
      refine lv_iload_n hx hb dX8_isWord_28 rfl (lv_at hl 2 rfl) ?_
      refine lv_aload_n hx hb dX8_isWord_29 rfl (lv_at hl 1 rfl) ?_
      refine cGoI (wo := fun u => [cTape a0 a1 C a_bytes a_length a_spot a_behind a_kind a_number]) (cRunVQ (X := X1 p1 qp1) (As := []) (rest := [.int x2_]) (X1.ok _ _) ⟨hZ, h_qp1⟩ hS hA ⟨hx, hb, hml, hown, hw⟩ hK hN h_qp1.2.1 (k_J0_length l D C _ p1 qp1) (cwV 0 hw (goodV mw_2_225 mw_2_226 mw_2_227 mw_1_15 mw_2_228) rfl rfl rfl (by decide +kernel) ⟨Nat.le_of_ble_eq_true rfl, Nat.le_of_ble_eq_true rfl⟩) rfl hl.1 rfl (Nat.le_of_ble_eq_true rfl) dX8_isWord_30 ⟨Nat.zero_le _, Nat.zero_le _⟩) hP hD hS hA [] [0] [0] rfl rfl rfl (by decide) rfl (fun _ => rfl) (fun r1 u H locs er1 hP hD hS => ?_)
      obtain rfl : r1 = Int32.ofNat p1.length := er1
      refine lv_icmp_ge (tgt := 63) hx hb dX8_isWord_33 (by decide) (fun c2 => ?_) (fun c2 => ?_)
      · have h := h.1 c2
        refine lv_iconst (v := 1) hx hb dX8_isWord_63 (by decide) ?_
        rw [← hQ]
        exact cRetZ (v := 1) () hx hb hr hlocks hS hP hD (Or.inr rfl) h dX8_isWord_64
      · have h := h.2 c2
        refine lv_aload_n hx hb dX8_isWord_36 rfl (lv_at hl 0 rfl) ?_
        refine va_get (D := D) (ci := 8) (v := .ref a1) (C := RX8) (T := TX8) (N := 6) hx hb hw inW_X8 hown hK hP 0 rfl rfl 0 (by decide) (hw _ mw_1_41) (fun _ h9 => h9) rfl dX8_isWord_37 ?_
        refine lv_aload_n hx hb dX8_isWord_40 rfl (lv_at hl 0 rfl) ?_
        refine va_get (D := D) (ci := 8) (v := .int a_spot) (C := RX8) (T := TX8) (N := 6) hx hb hw inW_X8 hown hK hP 0 rfl rfl 2 (by decide) (hw _ mw_1_44) (fun _ h9 => h9) rfl dX8_isWord_41 ?_
        refine lv_iload_n hx hb dX8_isWord_44 rfl (lv_at hl 2 rfl) ?_
        refine lv_iadd hx hb dX8_isWord_45 ?_
        refine cBald hx hb hK hP 1 2 rfl rfl ((a_spot + x2_).toNatClampNeg) rfl h.1 dX8_isWord_46 ?_
        have h := h.2
        refine lv_aload_n hx hb dX8_isWord_47 rfl (lv_at hl 1 rfl) ?_
        refine lv_iload_n hx hb dX8_isWord_48 rfl (lv_at hl 2 rfl) ?_
        refine cGoI (wo := fun u => [cTape a0 a1 C a_bytes a_length a_spot a_behind a_kind a_number]) (cRunVQ (X := X1 p1 qp1) (As := [.int x2_]) (rest := [.int (a_bytes ((a_spot + x2_).toNatClampNeg))]) (X1.ok _ _) ⟨hZ, h_qp1⟩ hS hA ⟨hx, hb, hml, hown, hw⟩ hK hN h_qp1.2.1 (k_J0_charAt l D C _ p1 qp1 x2_ h.1) (cwV 1 hw (goodV mw_2_235 mw_2_236 mw_2_237 mw_1_15 mw_2_238) rfl rfl rfl (by decide +kernel) ⟨Nat.le_of_ble_eq_true rfl, Nat.le_of_ble_eq_true rfl⟩) rfl hl.1 rfl (Nat.le_of_ble_eq_true rfl) dX8_isWord_49 ⟨Nat.zero_le _, Nat.zero_le _⟩) hP hD hS hA [] [0] [0] rfl rfl rfl (by decide) rfl (fun _ => rfl) (fun r3 u H locs er3 hP hD hS => ?_)
        obtain rfl : r3 = p1.getD x2_.toNatClampNeg 0 := er3
        have h := h.2
        refine lv_icmp_eq (tgt := 57) hx hb dX8_isWord_52 (by decide) (fun c4 => ?_) (fun c4 => ?_)
        · have h := h.1 c4
          refine lv_iinc (v := (x2_ + 1)) (lv' := [(2, .int (x2_ + 1)), (0, .ref a0), (1, .ref qp1)]) hx hb dX8_isWord_57 hl (k := 2) rfl rfl (by decide) rfl (fun ls hl => ?_)
          refine lv_goto (tgt := 28) hx hb dX8_isWord_60 (by decide) ?_
          exact ih28 (x2_ + 1) _ _ _ h hP hD hS (lv_sub hl [1, 2, 0] rfl)
        · have h := h.2 c4
          refine lv_iconst (v := 0) hx hb dX8_isWord_55 (by decide) ?_
          rw [← hQ]
          exact cRetZ (v := 0) () hx hb hr hlocks hS hP hD (Or.inl rfl) h dX8_isWord_56
  refine lv_aload_n hx hb dX8_isWord_0 rfl (lv_at hl 0 rfl) ?_
  refine va_get (D := D) (ci := 8) (v := .int a_kind) (C := RX8) (T := TX8) (N := 6) hx hb hw inW_X8 hown hK hP 0 rfl rfl 4 (by decide) (hw _ mw_1_48) (fun _ h9 => h9) rfl dX8_isWord_1 ?_
  refine lv_iconst (v := 1) hx hb dX8_isWord_4 (by decide) ?_
  refine lv_icmp_ne (tgt := 24) hx hb dX8_isWord_5 (by decide) (fun c5 => ?_) (fun c5 => ?_)
  · have h := h.1 c5
    refine lv_iconst (v := 0) hx hb dX8_isWord_24 (by decide) ?_
    rw [← hQ]
    exact cRetZ (v := 0) () hx hb hr hlocks hS hP hD (Or.inl rfl) h dX8_isWord_25
  · have h := h.2 c5
    refine lv_aload_n hx hb dX8_isWord_8 rfl (lv_at hl 0 rfl) ?_
    refine va_get (D := D) (ci := 8) (v := .int a_behind) (C := RX8) (T := TX8) (N := 6) hx hb hw inW_X8 hown hK hP 0 rfl rfl 3 (by decide) (hw _ mw_1_46) (fun _ h9 => h9) rfl dX8_isWord_9 ?_
    refine lv_aload_n hx hb dX8_isWord_12 rfl (lv_at hl 0 rfl) ?_
    refine va_get (D := D) (ci := 8) (v := .int a_spot) (C := RX8) (T := TX8) (N := 6) hx hb hw inW_X8 hown hK hP 0 rfl rfl 2 (by decide) (hw _ mw_1_44) (fun _ h9 => h9) rfl dX8_isWord_13 ?_
    refine lv_isub hx hb dX8_isWord_16 ?_
    refine lv_aload_n hx hb dX8_isWord_17 rfl (lv_at hl 1 rfl) ?_
    refine cGoI (wo := fun u => [cTape a0 a1 C a_bytes a_length a_spot a_behind a_kind a_number]) (cRunVQ (X := X1 p1 qp1) (As := []) (rest := [.int (a_behind - a_spot)]) (X1.ok _ _) ⟨hZ, h_qp1⟩ hS hA ⟨hx, hb, hml, hown, hw⟩ hK hN h_qp1.2.1 (k_J0_length l D C _ p1 qp1) (cwV 0 hw (goodV mw_2_225 mw_2_226 mw_2_227 mw_1_15 mw_2_228) rfl rfl rfl (by decide +kernel) ⟨Nat.le_of_ble_eq_true rfl, Nat.le_of_ble_eq_true rfl⟩) rfl hl.1 rfl (Nat.le_of_ble_eq_true rfl) dX8_isWord_18 ⟨Nat.zero_le _, Nat.zero_le _⟩) hP hD hS hA [] [0] [0] rfl rfl rfl (by decide) rfl (fun _ => rfl) (fun r6 u H locs er6 hP hD hS => ?_)
    obtain rfl : r6 = Int32.ofNat p1.length := er6
    refine lv_icmp_eq (tgt := 26) hx hb dX8_isWord_21 (by decide) (fun c7 => ?_) (fun c7 => ?_)
    · have h := h.1 c7
      refine lv_iconst (v := 0) hx hb dX8_isWord_26 (by decide) ?_
      refine lv_istore_n (lv' := [(2, .int 0), (0, .ref a0), (1, .ref qp1)]) hx hb dX8_isWord_27 rfl hl (by decide) rfl (fun ls hl => ?_)
      obtain ⟨n, h⟩ := h
      exact N28  n 0 _ _ _ h hP hD hS (lv_sub hl [1, 2, 0] rfl)
    · have h := h.2 c7
      refine lv_iconst (v := 0) hx hb dX8_isWord_24 (by decide) ?_
      rw [← hQ]
      exact cRetZ (v := 0) () hx hb hr hlocks hS hP hD (Or.inl rfl) h dX8_isWord_25
abbrev vsX5_readWord : List Cond := Cond.code yX5_readWord cX5_readWord 2 none :: WS
abbrev rmX5_readWord : Room := { frames := 5, cells := 0, slots := 0, locals := 107 }
set_option maxHeartbeats 4000000 in
set_option maxRecDepth 100000 in
theorem k_X5_readWord (l : Launch) (D : va_G) (C : Nat → ClassId) (sz : Nat) (aU : Nat → Nat)  (us : Nat → Int32) (ua : Nat → Nat → Int32) (p1 : List Int32) (qp1 : Nat) {post : (Nat → Int32) → Prop} (h : P_X5_readWord us ua p1 post) : Met l yX5_readWord vsX5_readWord rmX5_readWord (cPreS D C [.ref (aU 0), .ref qp1] sz (wReader aU C us ua) (X1 p1 qp1)) (cQv D (fun (u : (Nat → Int32)) => post u) (fun u => wReader aU C u ua) (va_A (List.flatten (wReader aU C us ua)) sz)) 0 0 (va_A (List.flatten (wReader aU C us ua)) sz) := by
  refine cStartS (QA := fun A => cQv D (fun (u : (Nat → Int32)) => post u) (fun u => wReader aU C u ua) A) (cc := cX5_readWord) (maxL := 2) (ret := none) (by decide) (Nat.le_of_ble_eq_true rfl) ?_
  intro p e s m args below meth c A ls hx hb hr hml hown hw hlocks hname hK hN hA hP hD hS hl hX
  generalize hQ : MQ below _ args s 0 0 A = Q
  have hl : lv_has ls 2 [(0, .ref (aU 0)), (1, .ref qp1)] := hl
  obtain ⟨hZ, h_qp1⟩ := hX
  obtain ⟨H, hH⟩ : ∃ H, H = s.heap := ⟨_, rfl⟩
  obtain ⟨locs, hlo⟩ : ∃ z : List Loc, z = [] := ⟨_, rfl⟩
  have hP : va_P D vwCl (List.flatten (wReader aU C us ua)) H := by rw [hH]; exact hP
  have hS : va_S A s.heap H locs := by rw [hH, hlo]; exact hS
  rw [show W p l e rmX5_readWord s m args below meth c s.heap [] 0 0 Q (F0 m 0 ls []) = W p l e rmX5_readWord s m args below meth c H locs 0 0 Q (F0 m 0 ls []) from by rw [hH, hlo]]
  have N28 : ∀ (us : Nat → Int32) (H : Heap) (locs : List Loc) (ls : Array Slot), P_X5_readWord_28 ua p1 post  us → va_P D vwCl (List.flatten (wReader aU C us ua)) H → va_D A (List.flatten (wReader aU C us ua)) → va_S A s.heap H locs → lv_has ls 2 [(0, .ref (aU 0))] → W p l e rmX5_readWord s m args below meth c H locs 0 0 Q (F0 m 28 ls []) := by
    intro us H locs ls h hP hD hS hl
    refine lv_aload_n hx hb dX5_readWord_28 rfl (lv_at hl 0 rfl) ?_
    refine lv_iconst (v := 1) hx hb dX5_readWord_29 (by decide) ?_
    refine cGoV (wo := fun u => wReader aU C u ua) (cRunV (As := [.int 1]) (rest := []) ⟨hx, hb, hml, hown, hw⟩ hK hN hP hD [0, 1] rfl rfl (k_X5_fail l D C _ aU  us ua 1 h) (cwV 1 hw (goodV mw_3_34 mw_3_36 mw_s10 mw_1_2 mw_3_37) rfl rfl rfl (by decide +kernel) ⟨Nat.le_of_ble_eq_true rfl, Nat.le_of_ble_eq_true rfl⟩) rfl rfl rfl hl.1 rfl (Nat.le_of_ble_eq_true rfl) dX5_readWord_30 ⟨Nat.zero_le _, Nat.zero_le _⟩) hP hD hS hA [0, 1] [] [0, 1] rfl rfl rfl (by decide) rfl (fun _ => rfl) (fun us_1 H locs h hP hD hS => ?_)
    have hP : va_P D vwCl (List.flatten (wReader aU C us_1 ua)) H := hP
    have hD : va_D A (List.flatten (wReader aU C us_1 ua)) := hD
    rw [← hQ]
    exact cRetV (us_1) hx hb hr hlocks hS hP hD h dX5_readWord_33
  refine lv_aload_n hx hb dX5_readWord_0 rfl (lv_at hl 0 rfl) ?_
  refine va_get (D := D) (ci := 5) (v := .int (us 0)) (C := RX5) (T := TX5) (N := 3) hx hb hw inW_X5 hown hK hP 0 rfl rfl 1 (by decide) (hw _ mw_1_67) (fun _ h9 => h9) rfl dX5_readWord_1 ?_
  refine lv_if_ne (tgt := 28) hx hb dX5_readWord_4 (by decide) (fun c2 => ?_) (fun c2 => ?_)
  · have h := h.1 c2
    exact N28 us _ _ _ h hP hD hS (lv_sub hl [0] rfl)
  · have h := h.2 c2
    refine lv_aload_n hx hb dX5_readWord_7 rfl (lv_at hl 0 rfl) ?_
    refine va_get (D := D) (ci := 5) (v := .ref (aU 1)) (C := RX5) (T := TX5) (N := 3) hx hb hw inW_X5 hown hK hP 0 rfl rfl 0 (by decide) (hw _ mw_1_65) (fun _ h9 => h9) rfl dX5_readWord_8 ?_
    refine lv_aload_n hx hb dX5_readWord_11 rfl (lv_at hl 1 rfl) ?_
    refine cGoI (wo := fun u => wReader aU C us ua) (cRunVNS (As := [.ref qp1]) (rest := []) (X1.ok p1 qp1) ⟨hZ, h_qp1⟩ hS hA ⟨hx, hb, hml, hown, hw⟩ hK hN hP hD [1] rfl rfl (k_X8_isWord l D C _ (aU 1) (aU 2)  (ua 0) (us 2) (us 3) (us 4) (us 5) (us 6) p1 qp1 h) ⟨va_cnB 1 hw (goodN mw_2_224) rfl rfl rfl (hN.m 16 rfl) (hw _ mw_1_3) (by decide +kernel) ⟨Nat.le_of_ble_eq_true rfl, Nat.le_of_ble_eq_true rfl⟩, hw _ mw_2_223, hw _ mw_s9⟩ rfl rfl rfl hl.1 rfl (Nat.le_of_ble_eq_true rfl) dX5_readWord_12 ⟨Nat.zero_le _, Nat.zero_le _⟩) hP hD hS hA [1] [0] [0, 1] rfl rfl rfl (by decide) rfl (fun _ => rfl) (fun r3 u H locs h hP hD hS => ?_)
    have hP : va_P D vwCl (List.flatten (wReader aU C us ua)) H := hP
    have hD : va_D A (List.flatten (wReader aU C us ua)) := hD
    refine lv_if_eq (tgt := 28) hx hb dX5_readWord_15 (by decide) (fun c4 => ?_) (fun c4 => ?_)
    · have h := h.1 c4
      exact N28 us _ _ _ h hP hD hS (lv_sub hl [0] rfl)
    · have h := h.2 c4
      refine lv_aload_n hx hb dX5_readWord_18 rfl (lv_at hl 0 rfl) ?_
      refine va_get (D := D) (ci := 5) (v := .ref (aU 1)) (C := RX5) (T := TX5) (N := 3) hx hb hw inW_X5 hown hK hP 0 rfl rfl 0 (by decide) (hw _ mw_1_65) (fun _ h9 => h9) rfl dX5_readWord_19 ?_
      refine cGoV (wo := fun u => wReader aU C (va_up (va_up (va_up (va_up us 3 u.1) 4 u.2.1) 5 u.2.2.1) 6 u.2.2.2) ua) (cRunVN (As := []) (rest := []) ⟨hx, hb, hml, hown, hw⟩ hK hN hP hD [1] rfl rfl (k_X8_step l D C _ (aU 1) (aU 2)  (ua 0) (us 2) (us 3) (us 4) (us 5) (us 6)  h) ⟨va_cnB 0 hw (goodN mw_2_199) rfl rfl rfl (hN.m 17 rfl) (hw _ mw_1_3) (by decide +kernel) ⟨Nat.le_of_ble_eq_true rfl, Nat.le_of_ble_eq_true rfl⟩, hw _ mw_2_198, hw _ mw_s4⟩ rfl rfl rfl hl.1 rfl (Nat.le_of_ble_eq_true rfl) dX5_readWord_22 ⟨Nat.zero_le _, Nat.zero_le _⟩) hP hD hS hA [1] [0] [0, 1] rfl rfl rfl (by decide) rfl (fun _ => rfl) (fun u H locs h hP hD hS => ?_)
      obtain ⟨spo_5, beh_6, kin_7, num_8⟩ := u
      have hP : va_P D vwCl (List.flatten (wReader aU C (va_up (va_up (va_up (va_up us 3 spo_5) 4 beh_6) 5 kin_7) 6 num_8) ua)) H := hP
      have hD : va_D A (List.flatten (wReader aU C (va_up (va_up (va_up (va_up us 3 spo_5) 4 beh_6) 5 kin_7) 6 num_8) ua)) := hD
      refine lv_goto (tgt := 33) hx hb dX5_readWord_25 (by decide) ?_
      rw [← hQ]
      exact cRetV ((va_up (va_up (va_up (va_up us 3 spo_5) 4 beh_6) 5 kin_7) 6 num_8)) hx hb hr hlocks hS hP hD h dX5_readWord_33
abbrev vsX5_readRail : List Cond := Cond.code yX5_readRail cX5_readRail 2 none :: WS
abbrev rmX5_readRail : Room := { frames := 6, cells := 0, slots := 0, locals := 128 }
set_option maxHeartbeats 4000000 in
set_option maxRecDepth 100000 in
theorem k_X5_readRail (l : Launch) (D : va_G) (C : Nat → ClassId) (sz : Nat) (aU : Nat → Nat) (aR : Nat → Nat)  (us : Nat → Int32) (ua : Nat → Nat → Int32) (rs : Nat → Int32) (ra : Nat → Nat → Int32)  {post : (Nat → Int32) → (Nat → Int32) → Prop} (h : P_X5_readRail us ua rs post) : Met l yX5_readRail vsX5_readRail rmX5_readRail (cPreS D C [.ref (aU 0), .ref (aR 0)] sz (wReader aU C us ua ++ (wRail aR C rs ra)) sAll) (cQv D (fun (u : (Nat → Int32) × (Nat → Int32)) => post u.1 u.2) (fun u => wReader aU C u.1 ua ++ (wRail aR C u.2 ra)) (va_A (List.flatten (wReader aU C us ua ++ (wRail aR C rs ra))) sz)) 0 0 (va_A (List.flatten (wReader aU C us ua ++ (wRail aR C rs ra))) sz) := by
  refine cStartS (QA := fun A => cQv D (fun (u : (Nat → Int32) × (Nat → Int32)) => post u.1 u.2) (fun u => wReader aU C u.1 ua ++ (wRail aR C u.2 ra)) A) (cc := cX5_readRail) (maxL := 2) (ret := none) (by decide) (Nat.le_of_ble_eq_true rfl) ?_
  intro p e s m args below meth c A ls hx hb hr hml hown hw hlocks hname hK hN hA hP hD hS hl hX
  generalize hQ : MQ below _ args s 0 0 A = Q
  have hl : lv_has ls 2 [(0, .ref (aU 0)), (1, .ref (aR 0))] := hl
  have hZ : sAll A s s.heap := hX
  have hn143 : (Cond.fieldLinkNest "LockRail$Reader" 143 "LockRail$Rail" "places" "I" "LockRail").before args s = true := hN.f 48 rfl
  have hn147 : (Cond.fieldLinkNest "LockRail$Reader" 147 "LockRail$Rail" "nights" "I" "LockRail").before args s = true := hN.f 50 rfl
  obtain ⟨H, hH⟩ : ∃ H, H = s.heap := ⟨_, rfl⟩
  obtain ⟨locs, hlo⟩ : ∃ z : List Loc, z = [] := ⟨_, rfl⟩
  have hP : va_P D vwCl (List.flatten (wReader aU C us ua ++ (wRail aR C rs ra))) H := by rw [hH]; exact hP
  have hS : va_S A s.heap H locs := by rw [hH, hlo]; exact hS
  rw [show W p l e rmX5_readRail s m args below meth c s.heap [] 0 0 Q (F0 m 0 ls []) = W p l e rmX5_readRail s m args below meth c H locs 0 0 Q (F0 m 0 ls []) from by rw [hH, hlo]]
  refine lv_aload_n hx hb dX5_readRail_0 rfl (lv_at hl 0 rfl) ?_
  obtain ⟨qc1, hR_qc1, h_qc1⟩ := hZ.1 (131, "rail", [114, 97, 105, 108]) (List.mem_of_getElem? (i := 0) rfl)
  have h_qc1 : sAt A s s.heap [114, 97, 105, 108] qc1 := h_qc1
  refine va_ldcS hx hb hown hR_qc1 dX5_readRail_1 ?_
  refine cGoV (wo := fun u => wReader aU C u ua ++ (wRail aR C rs ra)) (cRunVS (As := [.ref qc1]) (rest := []) (X1.ok ([114, 97, 105, 108]) qc1) ⟨hZ, h_qc1⟩ hS hA ⟨hx, hb, hml, hown, hw⟩ hK hN hP hD [0, 1] rfl rfl (k_X5_readWord l D C _ aU  us ua ([114, 97, 105, 108]) qc1 h) (cwV 1 hw (goodV mw_2_217 mw_2_219 mw_s8 mw_1_2 mw_2_220) rfl rfl rfl (by decide +kernel) ⟨Nat.le_of_ble_eq_true rfl, Nat.le_of_ble_eq_true rfl⟩) rfl rfl rfl hl.1 rfl (Nat.le_of_ble_eq_true rfl) dX5_readRail_3 ⟨Nat.zero_le _, Nat.zero_le _⟩) hP hD hS hA [0, 1] [2, 3, 4, 5, 6, 7] [6, 7, 0, 1, 2, 3, 4, 5] rfl rfl rfl (by decide) rfl (fun _ => rfl) (fun us_2 H locs h hP hD hS => ?_)
  have hP : va_P D vwCl (List.flatten (wReader aU C us_2 ua ++ (wRail aR C rs ra))) H := hP
  have hD : va_D A (List.flatten (wReader aU C us_2 ua ++ (wRail aR C rs ra))) := hD
  refine lv_aload_n hx hb dX5_readRail_6 rfl (lv_at hl 0 rfl) ?_
  obtain ⟨qc3, hR_qc3, h_qc3⟩ := hZ.1 (137, "places", [112, 108, 97, 99, 101, 115]) (List.mem_of_getElem? (i := 1) rfl)
  have h_qc3 : sAt A s s.heap [112, 108, 97, 99, 101, 115] qc3 := h_qc3
  refine va_ldcS hx hb hown hR_qc3 dX5_readRail_7 ?_
  refine cGoV (wo := fun u => wReader aU C u ua ++ (wRail aR C rs ra)) (cRunVS (As := [.ref qc3]) (rest := []) (X1.ok ([112, 108, 97, 99, 101, 115]) qc3) ⟨hZ, h_qc3⟩ hS hA ⟨hx, hb, hml, hown, hw⟩ hK hN hP hD [0, 1] rfl rfl (k_X5_readWord l D C _ aU  us_2 ua ([112, 108, 97, 99, 101, 115]) qc3 h) (cwV 1 hw (goodV mw_2_217 mw_2_219 mw_s8 mw_1_2 mw_2_220) rfl rfl rfl (by decide +kernel) ⟨Nat.le_of_ble_eq_true rfl, Nat.le_of_ble_eq_true rfl⟩) rfl rfl rfl hl.1 rfl (Nat.le_of_ble_eq_true rfl) dX5_readRail_9 ⟨Nat.zero_le _, Nat.zero_le _⟩) hP hD hS hA [0, 1] [2, 3, 4, 5, 6, 7] [6, 7, 0, 1, 2, 3, 4, 5] rfl rfl rfl (by decide) rfl (fun _ => rfl) (fun us_4 H locs h hP hD hS => ?_)
  have hP : va_P D vwCl (List.flatten (wReader aU C us_4 ua ++ (wRail aR C rs ra))) H := hP
  have hD : va_D A (List.flatten (wReader aU C us_4 ua ++ (wRail aR C rs ra))) := hD
  refine lv_aload_n hx hb dX5_readRail_12 rfl (lv_at hl 1 rfl) ?_
  refine lv_aload_n hx hb dX5_readRail_13 rfl (lv_at hl 0 rfl) ?_
  refine lv_iconst (v := 1) hx hb dX5_readRail_14 (by decide) ?_
  refine lv_bipush (v := 20) hx hb dX5_readRail_15 (by decide) ?_
  refine cGoI (wo := fun u => wReader aU C u ua ++ (wRail aR C rs ra)) (cRunV (As := [.int 1, .int 20]) (rest := [.ref (aR 0)]) ⟨hx, hb, hml, hown, hw⟩ hK hN hP hD [0, 1] rfl rfl (k_X5_readNumber l D C _ aU  us_4 ua 1 20 h) (cwV 2 hw (goodV mw_3_39 mw_3_41 mw_s11 mw_1_2 mw_3_42) rfl rfl rfl (by decide +kernel) ⟨Nat.le_of_ble_eq_true rfl, Nat.le_of_ble_eq_true rfl⟩) rfl rfl rfl hl.1 rfl (Nat.le_of_ble_eq_true rfl) dX5_readRail_17 ⟨Nat.zero_le _, Nat.zero_le _⟩) hP hD hS hA [0, 1] [2, 3, 4, 5, 6, 7] [6, 7, 0, 1, 2, 3, 4, 5] rfl rfl rfl (by decide) rfl (fun _ => rfl) (fun r6 us_5 H locs h hP hD hS => ?_)
  have hP : va_P D vwCl (List.flatten (wReader aU C us_5 ua ++ (wRail aR C rs ra))) H := hP
  have hD : va_D A (List.flatten (wReader aU C us_5 ua ++ (wRail aR C rs ra))) := hD
  refine va_putN (D := D) (ci := 4) (v := .int r6) (ty := .int) (C := RX4) (T := TX4) (N := 16) hx hb hw inW_X4 tyX4 tyX4_ok nmX4 hown hK hP hD hS 3 rfl rfl 0 (by decide) hn143 (fun _ h9 => h9) rfl (by decide +kernel) rfl rfl (Nat.le_of_ble_eq_true rfl) dX5_readRail_20 (fun H locs hP hD hS => ?_)
  refine lv_aload_n hx hb dX5_readRail_23 rfl (lv_at hl 0 rfl) ?_
  obtain ⟨qc7, hR_qc7, h_qc7⟩ := hZ.1 (145, "nights", [110, 105, 103, 104, 116, 115]) (List.mem_of_getElem? (i := 2) rfl)
  have h_qc7 : sAt A s s.heap [110, 105, 103, 104, 116, 115] qc7 := h_qc7
  refine va_ldcS hx hb hown hR_qc7 dX5_readRail_24 ?_
  have hP : va_P D vwCl (List.flatten (wReader aU C us_5 ua ++ (wRail aR C (va_up rs 0 r6) ra))) H := hP
  have hD : va_D A (List.flatten (wReader aU C us_5 ua ++ (wRail aR C (va_up rs 0 r6) ra))) := hD
  refine cGoV (wo := fun u => wReader aU C u ua ++ (wRail aR C (va_up rs 0 r6) ra)) (cRunVS (As := [.ref qc7]) (rest := []) (X1.ok ([110, 105, 103, 104, 116, 115]) qc7) ⟨hZ, h_qc7⟩ hS hA ⟨hx, hb, hml, hown, hw⟩ hK hN hP hD [0, 1] rfl rfl (k_X5_readWord l D C _ aU  us_5 ua ([110, 105, 103, 104, 116, 115]) qc7 h) (cwV 1 hw (goodV mw_2_217 mw_2_219 mw_s8 mw_1_2 mw_2_220) rfl rfl rfl (by decide +kernel) ⟨Nat.le_of_ble_eq_true rfl, Nat.le_of_ble_eq_true rfl⟩) rfl rfl rfl hl.1 rfl (Nat.le_of_ble_eq_true rfl) dX5_readRail_26 ⟨Nat.zero_le _, Nat.zero_le _⟩) hP hD hS hA [0, 1] [2, 3, 4, 5, 6, 7] [6, 7, 0, 1, 2, 3, 4, 5] rfl rfl rfl (by decide) rfl (fun _ => rfl) (fun us_8 H locs h hP hD hS => ?_)
  have hP : va_P D vwCl (List.flatten (wReader aU C us_8 ua ++ (wRail aR C (va_up rs 0 r6) ra))) H := hP
  have hD : va_D A (List.flatten (wReader aU C us_8 ua ++ (wRail aR C (va_up rs 0 r6) ra))) := hD
  refine lv_aload_n hx hb dX5_readRail_29 rfl (lv_at hl 1 rfl) ?_
  refine lv_aload_n hx hb dX5_readRail_30 rfl (lv_at hl 0 rfl) ?_
  refine lv_iconst (v := 1) hx hb dX5_readRail_31 (by decide) ?_
  refine lv_bipush (v := 60) hx hb dX5_readRail_32 (by decide) ?_
  refine cGoI (wo := fun u => wReader aU C u ua ++ (wRail aR C (va_up rs 0 r6) ra)) (cRunV (As := [.int 1, .int 60]) (rest := [.ref (aR 0)]) ⟨hx, hb, hml, hown, hw⟩ hK hN hP hD [0, 1] rfl rfl (k_X5_readNumber l D C _ aU  us_8 ua 1 60 h) (cwV 2 hw (goodV mw_3_39 mw_3_41 mw_s11 mw_1_2 mw_3_42) rfl rfl rfl (by decide +kernel) ⟨Nat.le_of_ble_eq_true rfl, Nat.le_of_ble_eq_true rfl⟩) rfl rfl rfl hl.1 rfl (Nat.le_of_ble_eq_true rfl) dX5_readRail_34 ⟨Nat.zero_le _, Nat.zero_le _⟩) hP hD hS hA [0, 1] [2, 3, 4, 5, 6, 7] [6, 7, 0, 1, 2, 3, 4, 5] rfl rfl rfl (by decide) rfl (fun _ => rfl) (fun r10 us_9 H locs h hP hD hS => ?_)
  have hP : va_P D vwCl (List.flatten (wReader aU C us_9 ua ++ (wRail aR C (va_up rs 0 r6) ra))) H := hP
  have hD : va_D A (List.flatten (wReader aU C us_9 ua ++ (wRail aR C (va_up rs 0 r6) ra))) := hD
  refine va_putN (D := D) (ci := 4) (v := .int r10) (ty := .int) (C := RX4) (T := TX4) (N := 16) hx hb hw inW_X4 tyX4 tyX4_ok nmX4 hown hK hP hD hS 3 rfl rfl 1 (by decide) hn147 (fun _ h9 => h9) rfl (by decide +kernel) rfl rfl (Nat.le_of_ble_eq_true rfl) dX5_readRail_37 (fun H locs hP hD hS => ?_)
  have hP : va_P D vwCl (List.flatten (wReader aU C us_9 ua ++ (wRail aR C (va_up (va_up rs 0 r6) 1 r10) ra))) H := hP
  have hD : va_D A (List.flatten (wReader aU C us_9 ua ++ (wRail aR C (va_up (va_up rs 0 r6) 1 r10) ra))) := hD
  rw [← hQ]
  exact cRetV (us_9, (va_up (va_up rs 0 r6) 1 r10)) hx hb hr hlocks hS hP hD h dX5_readRail_40
abbrev vsX5_readLamp : List Cond := Cond.code yX5_readLamp cX5_readLamp 4 none :: WS
abbrev rmX5_readLamp : Room := { frames := 6, cells := 0, slots := 0, locals := 128 }
set_option maxHeartbeats 4000000 in
set_option maxRecDepth 100000 in
theorem k_X5_readLamp (l : Launch) (D : va_G) (C : Nat → ClassId) (sz : Nat) (aU : Nat → Nat) (aR : Nat → Nat)  (us : Nat → Int32) (ua : Nat → Nat → Int32) (rs : Nat → Int32) (ra : Nat → Nat → Int32)  {post : (Nat → Int32) → (Nat → Int32) → (Nat → Nat → Int32) → Prop} (h : P_X5_readLamp us ua rs ra post) : Met l yX5_readLamp vsX5_readLamp rmX5_readLamp (cPreS D C [.ref (aU 0), .ref (aR 0)] sz (wReader aU C us ua ++ (wRail aR C rs ra)) sAll) (cQv D (fun (u : (Nat → Int32) × (Nat → Int32) × (Nat → Nat → Int32)) => post u.1 u.2.1 u.2.2) (fun u => wReader aU C u.1 ua ++ (wRail aR C u.2.1 u.2.2)) (va_A (List.flatten (wReader aU C us ua ++ (wRail aR C rs ra))) sz)) 0 0 (va_A (List.flatten (wReader aU C us ua ++ (wRail aR C rs ra))) sz) := by
  refine cStartS (QA := fun A => cQv D (fun (u : (Nat → Int32) × (Nat → Int32) × (Nat → Nat → Int32)) => post u.1 u.2.1 u.2.2) (fun u => wReader aU C u.1 ua ++ (wRail aR C u.2.1 u.2.2)) A) (cc := cX5_readLamp) (maxL := 4) (ret := none) (by decide) (Nat.le_of_ble_eq_true rfl) ?_
  intro p e s m args below meth c A ls hx hb hr hml hown hw hlocks hname hK hN hA hP hD hS hl hX
  generalize hQ : MQ below _ args s 0 0 A = Q
  have hl : lv_has ls 4 [(0, .ref (aU 0)), (1, .ref (aR 0))] := hl
  have hZ : sAll A s s.heap := hX
  have hn143 : (Cond.fieldLinkNest "LockRail$Reader" 143 "LockRail$Rail" "places" "I" "LockRail").before args s = true := hN.f 48 rfl
  have hn52 : (Cond.fieldLinkNest "LockRail$Reader" 52 "LockRail$Rail" "lamps" "LLockRail$Lamps;" "LockRail").before args s = true := hN.f 55 rfl
  obtain ⟨H, hH⟩ : ∃ H, H = s.heap := ⟨_, rfl⟩
  obtain ⟨locs, hlo⟩ : ∃ z : List Loc, z = [] := ⟨_, rfl⟩
  have hP : va_P D vwCl (List.flatten (wReader aU C us ua ++ (wRail aR C rs ra))) H := by rw [hH]; exact hP
  have hS : va_S A s.heap H locs := by rw [hH, hlo]; exact hS
  rw [show W p l e rmX5_readLamp s m args below meth c s.heap [] 0 0 Q (F0 m 0 ls []) = W p l e rmX5_readLamp s m args below meth c H locs 0 0 Q (F0 m 0 ls []) from by rw [hH, hlo]]
  refine lv_aload_n hx hb dX5_readLamp_0 rfl (lv_at hl 0 rfl) ?_
  obtain ⟨qc1, hR_qc1, h_qc1⟩ := hZ.1 (149, "at", [97, 116]) (List.mem_of_getElem? (i := 4) rfl)
  have h_qc1 : sAt A s s.heap [97, 116] qc1 := h_qc1
  refine va_ldcS hx hb hown hR_qc1 dX5_readLamp_1 ?_
  refine cGoV (wo := fun u => wReader aU C u ua ++ (wRail aR C rs ra)) (cRunVS (As := [.ref qc1]) (rest := []) (X1.ok ([97, 116]) qc1) ⟨hZ, h_qc1⟩ hS hA ⟨hx, hb, hml, hown, hw⟩ hK hN hP hD [0, 1] rfl rfl (k_X5_readWord l D C _ aU  us ua ([97, 116]) qc1 h) (cwV 1 hw (goodV mw_2_217 mw_2_219 mw_s8 mw_1_2 mw_2_220) rfl rfl rfl (by decide +kernel) ⟨Nat.le_of_ble_eq_true rfl, Nat.le_of_ble_eq_true rfl⟩) rfl rfl rfl hl.1 rfl (Nat.le_of_ble_eq_true rfl) dX5_readLamp_3 ⟨Nat.zero_le _, Nat.zero_le _⟩) hP hD hS hA [0, 1] [2, 3, 4, 5, 6, 7] [6, 7, 0, 1, 2, 3, 4, 5] rfl rfl rfl (by decide) rfl (fun _ => rfl) (fun us_2 H locs h hP hD hS => ?_)
  have hP : va_P D vwCl (List.flatten (wReader aU C us_2 ua ++ (wRail aR C rs ra))) H := hP
  have hD : va_D A (List.flatten (wReader aU C us_2 ua ++ (wRail aR C rs ra))) := hD
  refine lv_aload_n hx hb dX5_readLamp_6 rfl (lv_at hl 0 rfl) ?_
  refine lv_iconst (v := 0) hx hb dX5_readLamp_7 (by decide) ?_
  refine lv_aload_n hx hb dX5_readLamp_8 rfl (lv_at hl 1 rfl) ?_
  refine va_getN (D := D) (ci := 4) (v := .int (rs 0)) (C := RX4) (T := TX4) (N := 16) hx hb hw inW_X4 hown hK hP 3 rfl rfl 0 (by decide) hn143 (fun _ h9 => h9) rfl dX5_readLamp_9 ?_
  refine lv_iconst (v := 1) hx hb dX5_readLamp_12 (by decide) ?_
  refine lv_isub hx hb dX5_readLamp_13 ?_
  refine cGoI (wo := fun u => wReader aU C u ua ++ (wRail aR C rs ra)) (cRunV (As := [.int 0, .int ((rs 0) - 1)]) (rest := []) ⟨hx, hb, hml, hown, hw⟩ hK hN hP hD [0, 1] rfl rfl (k_X5_readNumber l D C _ aU  us_2 ua 0 ((rs 0) - 1) h) (cwV 2 hw (goodV mw_3_39 mw_3_41 mw_s11 mw_1_2 mw_3_42) rfl rfl rfl (by decide +kernel) ⟨Nat.le_of_ble_eq_true rfl, Nat.le_of_ble_eq_true rfl⟩) rfl rfl rfl hl.1 rfl (Nat.le_of_ble_eq_true rfl) dX5_readLamp_14 ⟨Nat.zero_le _, Nat.zero_le _⟩) hP hD hS hA [0, 1] [2, 3, 4, 5, 6, 7] [6, 7, 0, 1, 2, 3, 4, 5] rfl rfl rfl (by decide) rfl (fun _ => rfl) (fun r4 us_3 H locs h hP hD hS => ?_)
  have hP : va_P D vwCl (List.flatten (wReader aU C us_3 ua ++ (wRail aR C rs ra))) H := hP
  have hD : va_D A (List.flatten (wReader aU C us_3 ua ++ (wRail aR C rs ra))) := hD
  refine lv_istore_n (lv' := [(2, .int r4), (0, .ref (aU 0)), (1, .ref (aR 0))]) hx hb dX5_readLamp_17 rfl hl (by decide) rfl (fun ls hl => ?_)
  refine lv_aload_n hx hb dX5_readLamp_18 rfl (lv_at hl 1 rfl) ?_
  obtain ⟨qc5, hR_qc5, h_qc5⟩ := hZ.1 (151, "bright", [98, 114, 105, 103, 104, 116]) (List.mem_of_getElem? (i := 5) rfl)
  have h_qc5 : sAt A s s.heap [98, 114, 105, 103, 104, 116] qc5 := h_qc5
  refine va_ldcS hx hb hown hR_qc5 dX5_readLamp_19 ?_
  refine cGoV (wo := fun u => wReader aU C u ua ++ (wRail aR C rs ra)) (cRunVS (As := [.ref qc5]) (rest := []) (X1.ok ([98, 114, 105, 103, 104, 116]) qc5) ⟨hZ, h_qc5⟩ hS hA ⟨hx, hb, hml, hown, hw⟩ hK hN hP hD [0, 1] rfl rfl (k_X5_readWord l D C _ aU  us_3 ua ([98, 114, 105, 103, 104, 116]) qc5 h) (cwV 1 hw (goodV mw_2_217 mw_2_219 mw_s8 mw_1_2 mw_2_220) rfl rfl rfl (by decide +kernel) ⟨Nat.le_of_ble_eq_true rfl, Nat.le_of_ble_eq_true rfl⟩) rfl rfl rfl hl.1 rfl (Nat.le_of_ble_eq_true rfl) dX5_readLamp_21 ⟨Nat.zero_le _, Nat.zero_le _⟩) hP hD hS hA [0, 1] [2, 3, 4, 5, 6, 7] [6, 7, 0, 1, 2, 3, 4, 5] rfl rfl rfl (by decide) rfl (fun _ => rfl) (fun us_6 H locs h hP hD hS => ?_)
  have hP : va_P D vwCl (List.flatten (wReader aU C us_6 ua ++ (wRail aR C rs ra))) H := hP
  have hD : va_D A (List.flatten (wReader aU C us_6 ua ++ (wRail aR C rs ra))) := hD
  refine lv_aload_n hx hb dX5_readLamp_24 rfl (lv_at hl 1 rfl) ?_
  refine lv_iconst (v := 0) hx hb dX5_readLamp_25 (by decide) ?_
  refine lv_bipush (v := 99) hx hb dX5_readLamp_26 (by decide) ?_
  refine cGoI (wo := fun u => wReader aU C u ua ++ (wRail aR C rs ra)) (cRunV (As := [.int 0, .int 99]) (rest := []) ⟨hx, hb, hml, hown, hw⟩ hK hN hP hD [0, 1] rfl rfl (k_X5_readNumber l D C _ aU  us_6 ua 0 99 h) (cwV 2 hw (goodV mw_3_39 mw_3_41 mw_s11 mw_1_2 mw_3_42) rfl rfl rfl (by decide +kernel) ⟨Nat.le_of_ble_eq_true rfl, Nat.le_of_ble_eq_true rfl⟩) rfl rfl rfl hl.1 rfl (Nat.le_of_ble_eq_true rfl) dX5_readLamp_28 ⟨Nat.zero_le _, Nat.zero_le _⟩) hP hD hS hA [0, 1] [2, 3, 4, 5, 6, 7] [6, 7, 0, 1, 2, 3, 4, 5] rfl rfl rfl (by decide) rfl (fun _ => rfl) (fun r8 us_7 H locs h hP hD hS => ?_)
  have hP : va_P D vwCl (List.flatten (wReader aU C us_7 ua ++ (wRail aR C rs ra))) H := hP
  have hD : va_D A (List.flatten (wReader aU C us_7 ua ++ (wRail aR C rs ra))) := hD
  refine lv_istore_n (lv' := [(3, .int r8), (2, .int r4), (0, .ref (aU 0)), (1, .ref (aR 0))]) hx hb dX5_readLamp_31 rfl hl (by decide) rfl (fun ls hl => ?_)
  refine lv_aload_n hx hb dX5_readLamp_32 rfl (lv_at hl 2 rfl) ?_
  refine va_get (D := D) (ci := 5) (v := .int (us_7 0)) (C := RX5) (T := TX5) (N := 3) hx hb hw inW_X5 hown hK hP 0 rfl rfl 1 (by decide) (hw _ mw_1_67) (fun _ h9 => h9) rfl dX5_readLamp_33 ?_
  refine lv_if_ne (tgt := 48) hx hb dX5_readLamp_36 (by decide) (fun c9 => ?_) (fun c9 => ?_)
  · have h := h.1 c9
    rw [← hQ]
    exact cRetV (us_7, rs, ra) hx hb hr hlocks hS hP hD h dX5_readLamp_48
  · have h := h.2 c9
    refine lv_aload_n hx hb dX5_readLamp_39 rfl (lv_at hl 3 rfl) ?_
    refine va_getN (D := D) (ci := 4) (v := .ref (aR 1)) (C := RX4) (T := TX4) (N := 16) hx hb hw inW_X4 hown hK hP 3 rfl rfl 3 (by decide) hn52 (fun _ h9 => h9) rfl dX5_readLamp_40 ?_
    refine lv_iload_n hx hb dX5_readLamp_43 rfl (lv_at hl 1 rfl) ?_
    refine lv_iload_n hx hb dX5_readLamp_44 rfl (lv_at hl 0 rfl) ?_
    refine cGoV (wo := fun u => wReader aU C us_7 ua ++ (wRail aR C (va_up rs 11 u.1) (va_up (va_up ra 0 u.2.1) 1 u.2.2))) (cRunVN (As := [.int r4, .int r8]) (rest := []) ⟨hx, hb, hml, hown, hw⟩ hK hN hP hD [3] rfl rfl (k_X1_add l D C _ (aR 1) (aR 2) (aR 3)  (rs 11) (ra 0) (ra 1) r4 r8 h) ⟨va_cnB 2 hw (goodN mw_3_58) rfl rfl rfl (hN.m 18 rfl) (hw _ mw_1_5) (by decide +kernel) ⟨Nat.le_of_ble_eq_true rfl, Nat.le_of_ble_eq_true rfl⟩, hw _ mw_3_57, hw _ mw_s14⟩ rfl rfl rfl hl.1 rfl (Nat.le_of_ble_eq_true rfl) dX5_readLamp_45 ⟨Nat.zero_le _, Nat.zero_le _⟩) hP hD hS hA [3] [0, 1, 2, 4, 5, 6, 7] [0, 1, 2, 7, 3, 4, 5, 6] rfl rfl rfl (by decide) rfl (fun _ => rfl) (fun u H locs h hP hD hS => ?_)
    obtain ⟨cou_10, pla_11, bri_12⟩ := u
    have hP : va_P D vwCl (List.flatten (wReader aU C us_7 ua ++ (wRail aR C (va_up rs 11 cou_10) (va_up (va_up ra 0 pla_11) 1 bri_12)))) H := hP
    have hD : va_D A (List.flatten (wReader aU C us_7 ua ++ (wRail aR C (va_up rs 11 cou_10) (va_up (va_up ra 0 pla_11) 1 bri_12)))) := hD
    rw [← hQ]
    exact cRetV (us_7, (va_up rs 11 cou_10), (va_up (va_up ra 0 pla_11) 1 bri_12)) hx hb hr hlocks hS hP hD h dX5_readLamp_48
abbrev vsX5_readLock : List Cond := Cond.code yX5_readLock cX5_readLock 6 none :: WS
abbrev rmX5_readLock : Room := { frames := 6, cells := 0, slots := 0, locals := 128 }
set_option maxHeartbeats 4000000 in
set_option maxRecDepth 100000 in
theorem k_X5_readLock (l : Launch) (D : va_G) (C : Nat → ClassId) (sz : Nat) (aU : Nat → Nat) (aR : Nat → Nat)  (us : Nat → Int32) (ua : Nat → Nat → Int32) (rs : Nat → Int32) (ra : Nat → Nat → Int32)  {post : (Nat → Int32) → (Nat → Int32) → (Nat → Nat → Int32) → Prop} (h : P_X5_readLock us ua rs ra post) : Met l yX5_readLock vsX5_readLock rmX5_readLock (cPreS D C [.ref (aU 0), .ref (aR 0)] sz (wReader aU C us ua ++ (wRail aR C rs ra)) sAll) (cQv D (fun (u : (Nat → Int32) × (Nat → Int32) × (Nat → Nat → Int32)) => post u.1 u.2.1 u.2.2) (fun u => wReader aU C u.1 ua ++ (wRail aR C u.2.1 u.2.2)) (va_A (List.flatten (wReader aU C us ua ++ (wRail aR C rs ra))) sz)) 0 0 (va_A (List.flatten (wReader aU C us ua ++ (wRail aR C rs ra))) sz) := by
  refine cStartS (QA := fun A => cQv D (fun (u : (Nat → Int32) × (Nat → Int32) × (Nat → Nat → Int32)) => post u.1 u.2.1 u.2.2) (fun u => wReader aU C u.1 ua ++ (wRail aR C u.2.1 u.2.2)) A) (cc := cX5_readLock) (maxL := 6) (ret := none) (by decide) (Nat.le_of_ble_eq_true rfl) ?_
  intro p e s m args below meth c A ls hx hb hr hml hown hw hlocks hname hK hN hA hP hD hS hl hX
  generalize hQ : MQ below _ args s 0 0 A = Q
  have hl : lv_has ls 6 [(0, .ref (aU 0)), (1, .ref (aR 0))] := hl
  have hZ : sAll A s s.heap := hX
  have hn70 : (Cond.fieldLinkNest "LockRail$Reader" 70 "LockRail$Rail" "locks" "LLockRail$Locks;" "LockRail").before args s = true := hN.f 57 rfl
  obtain ⟨H, hH⟩ : ∃ H, H = s.heap := ⟨_, rfl⟩
  obtain ⟨locs, hlo⟩ : ∃ z : List Loc, z = [] := ⟨_, rfl⟩
  have hP : va_P D vwCl (List.flatten (wReader aU C us ua ++ (wRail aR C rs ra))) H := by rw [hH]; exact hP
  have hS : va_S A s.heap H locs := by rw [hH, hlo]; exact hS
  rw [show W p l e rmX5_readLock s m args below meth c s.heap [] 0 0 Q (F0 m 0 ls []) = W p l e rmX5_readLock s m args below meth c H locs 0 0 Q (F0 m 0 ls []) from by rw [hH, hlo]]
  refine lv_aload_n hx hb dX5_readLock_0 rfl (lv_at hl 0 rfl) ?_
  obtain ⟨qc1, hR_qc1, h_qc1⟩ := hZ.1 (157, "price", [112, 114, 105, 99, 101]) (List.mem_of_getElem? (i := 7) rfl)
  have h_qc1 : sAt A s s.heap [112, 114, 105, 99, 101] qc1 := h_qc1
  refine va_ldcS hx hb hown hR_qc1 dX5_readLock_1 ?_
  refine cGoV (wo := fun u => wReader aU C u ua ++ (wRail aR C rs ra)) (cRunVS (As := [.ref qc1]) (rest := []) (X1.ok ([112, 114, 105, 99, 101]) qc1) ⟨hZ, h_qc1⟩ hS hA ⟨hx, hb, hml, hown, hw⟩ hK hN hP hD [0, 1] rfl rfl (k_X5_readWord l D C _ aU  us ua ([112, 114, 105, 99, 101]) qc1 h) (cwV 1 hw (goodV mw_2_217 mw_2_219 mw_s8 mw_1_2 mw_2_220) rfl rfl rfl (by decide +kernel) ⟨Nat.le_of_ble_eq_true rfl, Nat.le_of_ble_eq_true rfl⟩) rfl rfl rfl hl.1 rfl (Nat.le_of_ble_eq_true rfl) dX5_readLock_3 ⟨Nat.zero_le _, Nat.zero_le _⟩) hP hD hS hA [0, 1] [2, 3, 4, 5, 6, 7] [6, 7, 0, 1, 2, 3, 4, 5] rfl rfl rfl (by decide) rfl (fun _ => rfl) (fun us_2 H locs h hP hD hS => ?_)
  have hP : va_P D vwCl (List.flatten (wReader aU C us_2 ua ++ (wRail aR C rs ra))) H := hP
  have hD : va_D A (List.flatten (wReader aU C us_2 ua ++ (wRail aR C rs ra))) := hD
  refine lv_aload_n hx hb dX5_readLock_6 rfl (lv_at hl 0 rfl) ?_
  refine lv_iconst (v := 0) hx hb dX5_readLock_7 (by decide) ?_
  refine lv_sipush (v := 999) hx hb dX5_readLock_8 (by decide) ?_
  refine cGoI (wo := fun u => wReader aU C u ua ++ (wRail aR C rs ra)) (cRunV (As := [.int 0, .int 999]) (rest := []) ⟨hx, hb, hml, hown, hw⟩ hK hN hP hD [0, 1] rfl rfl (k_X5_readNumber l D C _ aU  us_2 ua 0 999 h) (cwV 2 hw (goodV mw_3_39 mw_3_41 mw_s11 mw_1_2 mw_3_42) rfl rfl rfl (by decide +kernel) ⟨Nat.le_of_ble_eq_true rfl, Nat.le_of_ble_eq_true rfl⟩) rfl rfl rfl hl.1 rfl (Nat.le_of_ble_eq_true rfl) dX5_readLock_11 ⟨Nat.zero_le _, Nat.zero_le _⟩) hP hD hS hA [0, 1] [2, 3, 4, 5, 6, 7] [6, 7, 0, 1, 2, 3, 4, 5] rfl rfl rfl (by decide) rfl (fun _ => rfl) (fun r4 us_3 H locs h hP hD hS => ?_)
  have hP : va_P D vwCl (List.flatten (wReader aU C us_3 ua ++ (wRail aR C rs ra))) H := hP
  have hD : va_D A (List.flatten (wReader aU C us_3 ua ++ (wRail aR C rs ra))) := hD
  refine lv_istore_n (lv' := [(2, .int r4), (0, .ref (aU 0)), (1, .ref (aR 0))]) hx hb dX5_readLock_14 rfl hl (by decide) rfl (fun ls hl => ?_)
  refine lv_aload_n hx hb dX5_readLock_15 rfl (lv_at hl 1 rfl) ?_
  obtain ⟨qc5, hR_qc5, h_qc5⟩ := hZ.1 (159, "cuts", [99, 117, 116, 115]) (List.mem_of_getElem? (i := 8) rfl)
  have h_qc5 : sAt A s s.heap [99, 117, 116, 115] qc5 := h_qc5
  refine va_ldcS hx hb hown hR_qc5 dX5_readLock_16 ?_
  refine cGoV (wo := fun u => wReader aU C u ua ++ (wRail aR C rs ra)) (cRunVS (As := [.ref qc5]) (rest := []) (X1.ok ([99, 117, 116, 115]) qc5) ⟨hZ, h_qc5⟩ hS hA ⟨hx, hb, hml, hown, hw⟩ hK hN hP hD [0, 1] rfl rfl (k_X5_readWord l D C _ aU  us_3 ua ([99, 117, 116, 115]) qc5 h) (cwV 1 hw (goodV mw_2_217 mw_2_219 mw_s8 mw_1_2 mw_2_220) rfl rfl rfl (by decide +kernel) ⟨Nat.le_of_ble_eq_true rfl, Nat.le_of_ble_eq_true rfl⟩) rfl rfl rfl hl.1 rfl (Nat.le_of_ble_eq_true rfl) dX5_readLock_18 ⟨Nat.zero_le _, Nat.zero_le _⟩) hP hD hS hA [0, 1] [2, 3, 4, 5, 6, 7] [6, 7, 0, 1, 2, 3, 4, 5] rfl rfl rfl (by decide) rfl (fun _ => rfl) (fun us_6 H locs h hP hD hS => ?_)
  have hP : va_P D vwCl (List.flatten (wReader aU C us_6 ua ++ (wRail aR C rs ra))) H := hP
  have hD : va_D A (List.flatten (wReader aU C us_6 ua ++ (wRail aR C rs ra))) := hD
  refine lv_aload_n hx hb dX5_readLock_21 rfl (lv_at hl 1 rfl) ?_
  refine lv_iconst (v := 1) hx hb dX5_readLock_22 (by decide) ?_
  refine lv_sipush (v := 999) hx hb dX5_readLock_23 (by decide) ?_
  refine cGoI (wo := fun u => wReader aU C u ua ++ (wRail aR C rs ra)) (cRunV (As := [.int 1, .int 999]) (rest := []) ⟨hx, hb, hml, hown, hw⟩ hK hN hP hD [0, 1] rfl rfl (k_X5_readNumber l D C _ aU  us_6 ua 1 999 h) (cwV 2 hw (goodV mw_3_39 mw_3_41 mw_s11 mw_1_2 mw_3_42) rfl rfl rfl (by decide +kernel) ⟨Nat.le_of_ble_eq_true rfl, Nat.le_of_ble_eq_true rfl⟩) rfl rfl rfl hl.1 rfl (Nat.le_of_ble_eq_true rfl) dX5_readLock_26 ⟨Nat.zero_le _, Nat.zero_le _⟩) hP hD hS hA [0, 1] [2, 3, 4, 5, 6, 7] [6, 7, 0, 1, 2, 3, 4, 5] rfl rfl rfl (by decide) rfl (fun _ => rfl) (fun r8 us_7 H locs h hP hD hS => ?_)
  have hP : va_P D vwCl (List.flatten (wReader aU C us_7 ua ++ (wRail aR C rs ra))) H := hP
  have hD : va_D A (List.flatten (wReader aU C us_7 ua ++ (wRail aR C rs ra))) := hD
  refine lv_istore_n (lv' := [(3, .int r8), (2, .int r4), (0, .ref (aU 0)), (1, .ref (aR 0))]) hx hb dX5_readLock_29 rfl hl (by decide) rfl (fun ls hl => ?_)
  refine lv_aload_n hx hb dX5_readLock_30 rfl (lv_at hl 2 rfl) ?_
  refine lv_iconst (v := 1) hx hb dX5_readLock_31 (by decide) ?_
  refine lv_sipush (v := 999) hx hb dX5_readLock_32 (by decide) ?_
  refine cGoI (wo := fun u => wReader aU C u ua ++ (wRail aR C rs ra)) (cRunV (As := [.int 1, .int 999]) (rest := []) ⟨hx, hb, hml, hown, hw⟩ hK hN hP hD [0, 1] rfl rfl (k_X5_readNumber l D C _ aU  us_7 ua 1 999 h) (cwV 2 hw (goodV mw_3_39 mw_3_41 mw_s11 mw_1_2 mw_3_42) rfl rfl rfl (by decide +kernel) ⟨Nat.le_of_ble_eq_true rfl, Nat.le_of_ble_eq_true rfl⟩) rfl rfl rfl hl.1 rfl (Nat.le_of_ble_eq_true rfl) dX5_readLock_35 ⟨Nat.zero_le _, Nat.zero_le _⟩) hP hD hS hA [0, 1] [2, 3, 4, 5, 6, 7] [6, 7, 0, 1, 2, 3, 4, 5] rfl rfl rfl (by decide) rfl (fun _ => rfl) (fun r10 us_9 H locs h hP hD hS => ?_)
  have hP : va_P D vwCl (List.flatten (wReader aU C us_9 ua ++ (wRail aR C rs ra))) H := hP
  have hD : va_D A (List.flatten (wReader aU C us_9 ua ++ (wRail aR C rs ra))) := hD
  refine lv_istore (lv' := [(4, .int r10), (3, .int r8), (2, .int r4), (0, .ref (aU 0)), (1, .ref (aR 0))]) hx hb dX5_readLock_38 hl (by decide) rfl (fun ls hl => ?_)
  refine lv_aload_n hx hb dX5_readLock_40 rfl (lv_at hl 3 rfl) ?_
  refine lv_iconst (v := 1) hx hb dX5_readLock_41 (by decide) ?_
  refine lv_sipush (v := 999) hx hb dX5_readLock_42 (by decide) ?_
  refine cGoI (wo := fun u => wReader aU C u ua ++ (wRail aR C rs ra)) (cRunV (As := [.int 1, .int 999]) (rest := []) ⟨hx, hb, hml, hown, hw⟩ hK hN hP hD [0, 1] rfl rfl (k_X5_readNumber l D C _ aU  us_9 ua 1 999 h) (cwV 2 hw (goodV mw_3_39 mw_3_41 mw_s11 mw_1_2 mw_3_42) rfl rfl rfl (by decide +kernel) ⟨Nat.le_of_ble_eq_true rfl, Nat.le_of_ble_eq_true rfl⟩) rfl rfl rfl hl.1 rfl (Nat.le_of_ble_eq_true rfl) dX5_readLock_45 ⟨Nat.zero_le _, Nat.zero_le _⟩) hP hD hS hA [0, 1] [2, 3, 4, 5, 6, 7] [6, 7, 0, 1, 2, 3, 4, 5] rfl rfl rfl (by decide) rfl (fun _ => rfl) (fun r12 us_11 H locs h hP hD hS => ?_)
  have hP : va_P D vwCl (List.flatten (wReader aU C us_11 ua ++ (wRail aR C rs ra))) H := hP
  have hD : va_D A (List.flatten (wReader aU C us_11 ua ++ (wRail aR C rs ra))) := hD
  refine lv_istore (lv' := [(5, .int r12), (4, .int r10), (3, .int r8), (2, .int r4), (0, .ref (aU 0)), (1, .ref (aR 0))]) hx hb dX5_readLock_48 hl (by decide) rfl (fun ls hl => ?_)
  refine lv_aload_n hx hb dX5_readLock_50 rfl (lv_at hl 4 rfl) ?_
  refine va_get (D := D) (ci := 5) (v := .int (us_11 0)) (C := RX5) (T := TX5) (N := 3) hx hb hw inW_X5 hown hK hP 0 rfl rfl 1 (by decide) (hw _ mw_1_67) (fun _ h9 => h9) rfl dX5_readLock_51 ?_
  refine lv_if_ne (tgt := 70) hx hb dX5_readLock_54 (by decide) (fun c13 => ?_) (fun c13 => ?_)
  · have h := h.1 c13
    rw [← hQ]
    exact cRetV (us_11, rs, ra) hx hb hr hlocks hS hP hD h dX5_readLock_70
  · have h := h.2 c13
    refine lv_aload_n hx hb dX5_readLock_57 rfl (lv_at hl 5 rfl) ?_
    refine va_getN (D := D) (ci := 4) (v := .ref (aR 4)) (C := RX4) (T := TX4) (N := 16) hx hb hw inW_X4 hown hK hP 3 rfl rfl 4 (by decide) hn70 (fun _ h9 => h9) rfl dX5_readLock_58 ?_
    refine lv_iload_n hx hb dX5_readLock_61 rfl (lv_at hl 3 rfl) ?_
    refine lv_iload_n hx hb dX5_readLock_62 rfl (lv_at hl 2 rfl) ?_
    refine lv_iload hx hb dX5_readLock_63 (lv_at hl 1 rfl) ?_
    refine lv_iload hx hb dX5_readLock_65 (lv_at hl 0 rfl) ?_
    refine cGoV (wo := fun u => wReader aU C us_11 ua ++ (wRail aR C (va_up rs 12 u.1) (va_up (va_up ra 2 u.2.1) 3 u.2.2))) (cRunVN (As := [.int r4, .int r8, .int r10, .int r12]) (rest := []) ⟨hx, hb, hml, hown, hw⟩ hK hN hP hD [4] rfl rfl (k_X2_add l D C _ (aR 4) (aR 5) (aR 6)  (rs 12) (ra 2) (ra 3) r4 r8 r10 r12 h) ⟨va_cnB 4 hw (goodN mw_3_69) rfl rfl rfl (hN.m 19 rfl) (hw _ mw_1_6) (by decide +kernel) ⟨Nat.le_of_ble_eq_true rfl, Nat.le_of_ble_eq_true rfl⟩, hw _ mw_3_68, hw _ mw_s16⟩ rfl rfl rfl hl.1 rfl (Nat.le_of_ble_eq_true rfl) dX5_readLock_67 ⟨Nat.zero_le _, Nat.zero_le _⟩) hP hD hS hA [4] [0, 1, 2, 3, 5, 6, 7] [0, 1, 2, 3, 7, 4, 5, 6] rfl rfl rfl (by decide) rfl (fun _ => rfl) (fun u H locs h hP hD hS => ?_)
    obtain ⟨cou_14, pri_15, cut_16⟩ := u
    have hP : va_P D vwCl (List.flatten (wReader aU C us_11 ua ++ (wRail aR C (va_up rs 12 cou_14) (va_up (va_up ra 2 pri_15) 3 cut_16)))) H := hP
    have hD : va_D A (List.flatten (wReader aU C us_11 ua ++ (wRail aR C (va_up rs 12 cou_14) (va_up (va_up ra 2 pri_15) 3 cut_16)))) := hD
    rw [← hQ]
    exact cRetV (us_11, (va_up rs 12 cou_14), (va_up (va_up ra 2 pri_15) 3 cut_16)) hx hb hr hlocks hS hP hD h dX5_readLock_70
