abbrev vsX12_move : List Cond := Cond.code yX12_move cX12_move 5 (some .int) :: WS
abbrev rmX12_move : Room := { frames := 2, cells := 0, slots := 0, locals := 46 }
set_option maxHeartbeats 4000000 in
set_option maxRecDepth 100000 in
theorem k_X12_move (l : Launch) (D : va_G) (C : Nat → ClassId) (sz : Nat) (aM : Nat → Nat)  (ms : Nat → Int32) (mw : Nat → Int64) (ma : Nat → Nat → Int32) (ml : Nat → Nat → Int64) (p1 : Int32) (p2 : Int32) {post : Int32 → (Nat → Int32) → (Nat → Nat → Int32) → Prop} (h : P_X12_move ms ma p1 p2 post) : Met l yX12_move vsX12_move rmX12_move (cPre D C [.ref (aM 0), .int p1, .int p2] sz (wM aM C ms mw ma ml)) (cQi D (fun (r : Int32) (u : (Nat → Int32) × (Nat → Nat → Int32)) => post r u.1 u.2) (fun u => wM aM C u.1 mw u.2 ml) (va_A (List.flatten (wM aM C ms mw ma ml)) sz)) 0 0 (va_A (List.flatten (wM aM C ms mw ma ml)) sz) := by
  refine cStart (QA := fun A => cQi D (fun (r : Int32) (u : (Nat → Int32) × (Nat → Nat → Int32)) => post r u.1 u.2) (fun u => wM aM C u.1 mw u.2 ml) A) (cc := cX12_move) (maxL := 5) (ret := (some .int)) (by decide) (Nat.le_of_ble_eq_true rfl) ?_
  intro p e s m args below meth c A ls hx hb hr hml hown hw hlocks hname hK hN hA hP hD hS hl
  generalize hQ : MQ below _ args s 0 0 A = Q
  have hl : lv_has ls 5 [(0, .ref (aM 0)), (1, .int p1), (2, .int p2)] := hl
  obtain ⟨H, hH⟩ : ∃ H, H = s.heap := ⟨_, rfl⟩
  obtain ⟨locs, hlo⟩ : ∃ z : List Loc, z = [] := ⟨_, rfl⟩
  have hP : va_P D vwCl (List.flatten (wM aM C ms mw ma ml)) H := by rw [hH]; exact hP
  have hS : va_S A s.heap H locs := by rw [hH, hlo]; exact hS
  rw [show W p l e rmX12_move s m args below meth c s.heap [] 0 0 Q (F0 m 0 ls []) = W p l e rmX12_move s m args below meth c H locs 0 0 Q (F0 m 0 ls []) from by rw [hH, hlo]]
  have N43 : ∀ (ms : Nat → Int32) (ma : Nat → Nat → Int32) (H : Heap) (locs : List Loc) (ls : Array Slot), P_X12_move_43 p1 p2 post  ms ma → va_P D vwCl (List.flatten (wM aM C ms mw ma ml)) H → va_D A (List.flatten (wM aM C ms mw ma ml)) → va_S A s.heap H locs → lv_has ls 5 [(0, .ref (aM 0)), (1, .int p1), (2, .int p2)] → W p l e rmX12_move s m args below meth c H locs 0 0 Q (F0 m 43 ls []) := by
    intro ms ma H locs ls h hP hD hS hl
    refine lv_aload_n hx hb dX12_move_43 rfl (lv_at hl 0 rfl) ?_
    refine va_get (D := D) (ci := 12) (v := .ref (aM 14)) (C := RX12) (T := TX12) (N := 51) hx hb hw inW_X12 hown hK hP 0 rfl rfl 24 (by decide) (hw _ mw_6_67) (fun _ h9 => h9) rfl dX12_move_44 ?_
    refine lv_iconst (v := 0) hx hb dX12_move_47 (by decide) ?_
    refine lv_iload_n hx hb dX12_move_48 rfl (lv_at hl 1 rfl) ?_
    refine cGoI (wo := fun u => wM aM C ms mw ma ml) (cRunS (As := [.int 0, .int p1]) (rest := [.ref (aM 14)]) ⟨hx, hb, hml, hown, hw⟩ hK hN hP hD [] rfl rfl (k_X12_at l D C _    0 p1 h) (va_cwS 2 hw (goodS mw_7_148 mw_7_149 mw_1_13 mw_7_150) rfl rfl rfl (by decide +kernel) ⟨Nat.le_of_ble_eq_true rfl, Nat.le_of_ble_eq_true rfl⟩) rfl hl.1 rfl (Nat.le_of_ble_eq_true rfl) dX12_move_49 ⟨Nat.zero_le _, Nat.zero_le _⟩) hP hD hS hA [] [0, 1, 2, 3, 4, 5, 6, 7, 8, 9, 10, 11, 12, 13, 14, 15, 16, 17, 18, 19, 20, 21, 22, 23, 24, 25, 26, 27, 28, 29, 30, 31, 32] [0, 1, 2, 3, 4, 5, 6, 7, 8, 9, 10, 11, 12, 13, 14, 15, 16, 17, 18, 19, 20, 21, 22, 23, 24, 25, 26, 27, 28, 29, 30, 31, 32] rfl rfl rfl (by decide) rfl (fun _ => rfl) (fun r1 u H locs h hP hD hS => ?_)
    have hP : va_P D vwCl (List.flatten (wM aM C ms mw ma ml)) H := hP
    have hD : va_D A (List.flatten (wM aM C ms mw ma ml)) := hD
    refine lv_iconst (v := 2) hx hb dX12_move_52 (by decide) ?_
    refine lv_iadd hx hb dX12_move_53 ?_
    refine cIald hx hb hK hP 14 0 rfl rfl ((r1 + 2).toNatClampNeg) rfl h.1 dX12_move_54 ?_
    have h := h.2
    refine lv_topi (fun x2 ex2 => ?_)
    have h := h x2 ex2
    refine lv_istore (lv' := [(4, .int x2), (0, .ref (aM 0)), (1, .int p1), (2, .int p2)]) hx hb dX12_move_55 hl (by decide) rfl (fun ls hl => ?_)
    refine lv_aload_n hx hb dX12_move_57 rfl (lv_at hl 1 rfl) ?_
    refine va_get (D := D) (ci := 12) (v := .ref (aM 14)) (C := RX12) (T := TX12) (N := 51) hx hb hw inW_X12 hown hK hP 0 rfl rfl 24 (by decide) (hw _ mw_6_67) (fun _ h9 => h9) rfl dX12_move_58 ?_
    refine lv_iconst (v := 0) hx hb dX12_move_61 (by decide) ?_
    refine lv_iload_n hx hb dX12_move_62 rfl (lv_at hl 2 rfl) ?_
    refine cGoI (wo := fun u => wM aM C ms mw ma ml) (cRunS (As := [.int 0, .int p1]) (rest := [.ref (aM 14)]) ⟨hx, hb, hml, hown, hw⟩ hK hN hP hD [] rfl rfl (k_X12_at l D C _    0 p1 h) (va_cwS 2 hw (goodS mw_7_148 mw_7_149 mw_1_13 mw_7_150) rfl rfl rfl (by decide +kernel) ⟨Nat.le_of_ble_eq_true rfl, Nat.le_of_ble_eq_true rfl⟩) rfl hl.1 rfl (Nat.le_of_ble_eq_true rfl) dX12_move_63 ⟨Nat.zero_le _, Nat.zero_le _⟩) hP hD hS hA [] [0, 1, 2, 3, 4, 5, 6, 7, 8, 9, 10, 11, 12, 13, 14, 15, 16, 17, 18, 19, 20, 21, 22, 23, 24, 25, 26, 27, 28, 29, 30, 31, 32] [0, 1, 2, 3, 4, 5, 6, 7, 8, 9, 10, 11, 12, 13, 14, 15, 16, 17, 18, 19, 20, 21, 22, 23, 24, 25, 26, 27, 28, 29, 30, 31, 32] rfl rfl rfl (by decide) rfl (fun _ => rfl) (fun r3 u H locs h hP hD hS => ?_)
    have hP : va_P D vwCl (List.flatten (wM aM C ms mw ma ml)) H := hP
    have hD : va_D A (List.flatten (wM aM C ms mw ma ml)) := hD
    refine lv_iconst (v := 2) hx hb dX12_move_66 (by decide) ?_
    refine lv_iadd hx hb dX12_move_67 ?_
    refine lv_iload_n hx hb dX12_move_68 rfl (lv_at hl 3 rfl) ?_
    refine cIast hx hb hK hP hD hS 14 0 rfl rfl ((r3 + 2).toNatClampNeg) rfl h.1 dX12_move_69 (fun H locs hP hD hS => ?_)
    have h := h.2
    refine lv_iload hx hb dX12_move_70 (lv_at hl 0 rfl) ?_
    have hP : va_P D vwCl (List.flatten (wM aM C ms mw (va_up ma 11 (upd (ma 11) ((r3 + 2).toNatClampNeg) p2)) ml)) H := hP
    have hD : va_D A (List.flatten (wM aM C ms mw (va_up ma 11 (upd (ma 11) ((r3 + 2).toNatClampNeg) p2)) ml)) := hD
    rw [← hQ]
    exact cRetI (v := x2) (ms, (va_up ma 11 (upd (ma 11) ((r3 + 2).toNatClampNeg) p2))) hx hb hr hlocks hS hP hD h dX12_move_72
  refine lv_aload_n hx hb dX12_move_0 rfl (lv_at hl 0 rfl) ?_
  refine lv_iconst (v := 0) hx hb dX12_move_1 (by decide) ?_
  refine va_put (D := D) (ci := 12) (v := .int 0) (ty := .int) (C := RX12) (T := TX12) (N := 51) hx hb hw inW_X12 tyX12 tyX12_ok nmX12 hown hK hP hD hS 0 rfl rfl 0 (by decide) (hw _ mw_6_43) (fun _ h9 => h9) rfl (by decide +kernel) rfl rfl (Nat.le_of_ble_eq_true rfl) dX12_move_2 (fun H locs hP hD hS => ?_)
  refine lv_aload_n hx hb dX12_move_5 rfl (lv_at hl 0 rfl) ?_
  refine lv_iload_n hx hb dX12_move_6 rfl (lv_at hl 1 rfl) ?_
  have hP : va_P D vwCl (List.flatten (wM aM C (va_up ms 0 0) mw ma ml)) H := hP
  have hD : va_D A (List.flatten (wM aM C (va_up ms 0 0) mw ma ml)) := hD
  refine cGoI (wo := fun u => wM aM C (va_up ms 0 0) mw ma ml) (cRunV (As := [.int p1]) (rest := []) ⟨hx, hb, hml, hown, hw⟩ hK hN hP hD [0, 1, 2, 3, 4, 5, 6, 7, 8, 9, 10, 11, 12, 13, 14, 15, 16, 17, 18, 19, 20, 21, 22, 23, 24, 25, 26, 27, 28, 29, 30, 31, 32] rfl rfl (k_X12_isBike l D C _ aM  (va_up ms 0 0) mw ma ml p1 h) (cwV 1 hw (goodV mw_7_143 mw_7_145 mw_s133 mw_1_13 mw_7_146) rfl rfl rfl (by decide +kernel) ⟨Nat.le_of_ble_eq_true rfl, Nat.le_of_ble_eq_true rfl⟩) rfl rfl rfl hl.1 rfl (Nat.le_of_ble_eq_true rfl) dX12_move_7 ⟨Nat.zero_le _, Nat.zero_le _⟩) hP hD hS hA [0, 1, 2, 3, 4, 5, 6, 7, 8, 9, 10, 11, 12, 13, 14, 15, 16, 17, 18, 19, 20, 21, 22, 23, 24, 25, 26, 27, 28, 29, 30, 31, 32] [] [0, 1, 2, 3, 4, 5, 6, 7, 8, 9, 10, 11, 12, 13, 14, 15, 16, 17, 18, 19, 20, 21, 22, 23, 24, 25, 26, 27, 28, 29, 30, 31, 32] rfl rfl rfl (by decide) rfl (fun _ => rfl) (fun r4 u H locs h hP hD hS => ?_)
  have hP : va_P D vwCl (List.flatten (wM aM C (va_up ms 0 0) mw ma ml)) H := hP
  have hD : va_D A (List.flatten (wM aM C (va_up ms 0 0) mw ma ml)) := hD
  refine lv_if_eq (tgt := 21) hx hb dX12_move_10 (by decide) (fun c5 => ?_) (fun c5 => ?_)
  · have h := h.1 c5
    refine lv_bipush (v := (-2)) hx hb dX12_move_21 (by decide) ?_
    rw [← hQ]
    exact cRetI (v := (-2)) ((va_up ms 0 0), ma) hx hb hr hlocks hS hP hD h dX12_move_23
  · have h := h.2 c5
    refine lv_aload_n hx hb dX12_move_13 rfl (lv_at hl 0 rfl) ?_
    refine lv_iload_n hx hb dX12_move_14 rfl (lv_at hl 2 rfl) ?_
    refine cGoI (wo := fun u => wM aM C (va_up ms 0 0) mw ma ml) (cRunV (As := [.int p2]) (rest := []) ⟨hx, hb, hml, hown, hw⟩ hK hN hP hD [0, 1, 2, 3, 4, 5, 6, 7, 8, 9, 10, 11, 12, 13, 14, 15, 16, 17, 18, 19, 20, 21, 22, 23, 24, 25, 26, 27, 28, 29, 30, 31, 32] rfl rfl (k_X12_isPlace l D C _ aM  (va_up ms 0 0) mw ma ml p2 h) (cwV 1 hw (goodV mw_7_125 mw_7_127 mw_s131 mw_1_13 mw_7_128) rfl rfl rfl (by decide +kernel) ⟨Nat.le_of_ble_eq_true rfl, Nat.le_of_ble_eq_true rfl⟩) rfl rfl rfl hl.1 rfl (Nat.le_of_ble_eq_true rfl) dX12_move_15 ⟨Nat.zero_le _, Nat.zero_le _⟩) hP hD hS hA [0, 1, 2, 3, 4, 5, 6, 7, 8, 9, 10, 11, 12, 13, 14, 15, 16, 17, 18, 19, 20, 21, 22, 23, 24, 25, 26, 27, 28, 29, 30, 31, 32] [] [0, 1, 2, 3, 4, 5, 6, 7, 8, 9, 10, 11, 12, 13, 14, 15, 16, 17, 18, 19, 20, 21, 22, 23, 24, 25, 26, 27, 28, 29, 30, 31, 32] rfl rfl rfl (by decide) rfl (fun _ => rfl) (fun r6 u H locs h hP hD hS => ?_)
    have hP : va_P D vwCl (List.flatten (wM aM C (va_up ms 0 0) mw ma ml)) H := hP
    have hD : va_D A (List.flatten (wM aM C (va_up ms 0 0) mw ma ml)) := hD
    refine lv_if_ne (tgt := 24) hx hb dX12_move_18 (by decide) (fun c7 => ?_) (fun c7 => ?_)
    · have h := h.1 c7
      refine lv_aload_n hx hb dX12_move_24 rfl (lv_at hl 0 rfl) ?_
      refine lv_iload_n hx hb dX12_move_25 rfl (lv_at hl 2 rfl) ?_
      refine cGoI (wo := fun u => wM aM C (va_up ms 0 0) mw ma ml) (cRunV (As := [.int p2]) (rest := []) ⟨hx, hb, hml, hown, hw⟩ hK hN hP hD [0, 1, 2, 3, 4, 5, 6, 7, 8, 9, 10, 11, 12, 13, 14, 15, 16, 17, 18, 19, 20, 21, 22, 23, 24, 25, 26, 27, 28, 29, 30, 31, 32] rfl rfl (k_X12_standsAt l D C _ aM  (va_up ms 0 0) mw ma ml p2 h) (cwV 1 hw (goodV mw_8_155 mw_8_157 mw_s167 mw_1_13 mw_8_158) rfl rfl rfl (by decide +kernel) ⟨Nat.le_of_ble_eq_true rfl, Nat.le_of_ble_eq_true rfl⟩) rfl rfl rfl hl.1 rfl (Nat.le_of_ble_eq_true rfl) dX12_move_26 ⟨Nat.zero_le _, Nat.zero_le _⟩) hP hD hS hA [0, 1, 2, 3, 4, 5, 6, 7, 8, 9, 10, 11, 12, 13, 14, 15, 16, 17, 18, 19, 20, 21, 22, 23, 24, 25, 26, 27, 28, 29, 30, 31, 32] [] [0, 1, 2, 3, 4, 5, 6, 7, 8, 9, 10, 11, 12, 13, 14, 15, 16, 17, 18, 19, 20, 21, 22, 23, 24, 25, 26, 27, 28, 29, 30, 31, 32] rfl rfl rfl (by decide) rfl (fun _ => rfl) (fun r8 u H locs h hP hD hS => ?_)
      have hP : va_P D vwCl (List.flatten (wM aM C (va_up ms 0 0) mw ma ml)) H := hP
      have hD : va_D A (List.flatten (wM aM C (va_up ms 0 0) mw ma ml)) := hD
      refine lv_istore_n (lv' := [(3, .int r8), (0, .ref (aM 0)), (1, .int p1), (2, .int p2)]) hx hb dX12_move_29 rfl hl (by decide) rfl (fun ls hl => ?_)
      refine lv_iload_n hx hb dX12_move_30 rfl (lv_at hl 0 rfl) ?_
      refine lv_iconst (v := (-1)) hx hb dX12_move_31 (by decide) ?_
      refine lv_icmp_eq (tgt := 43) hx hb dX12_move_32 (by decide) (fun c9 => ?_) (fun c9 => ?_)
      · have h := h.1 c9
        exact N43 (va_up ms 0 0) ma _ _ _ h hP hD hS (lv_sub hl [1, 2, 3] rfl)
      · have h := h.2 c9
        refine lv_iload_n hx hb dX12_move_35 rfl (lv_at hl 0 rfl) ?_
        refine lv_iload_n hx hb dX12_move_36 rfl (lv_at hl 2 rfl) ?_
        refine lv_icmp_eq (tgt := 43) hx hb dX12_move_37 (by decide) (fun c10 => ?_) (fun c10 => ?_)
        · have h := h.1 c10
          exact N43 (va_up ms 0 0) ma _ _ _ h hP hD hS (lv_sub hl [1, 2, 3] rfl)
        · have h := h.2 c10
          refine lv_bipush (v := (-5)) hx hb dX12_move_40 (by decide) ?_
          rw [← hQ]
          exact cRetI (v := (-5)) ((va_up ms 0 0), ma) hx hb hr hlocks hS hP hD h dX12_move_42
    · have h := h.2 c7
      refine lv_bipush (v := (-2)) hx hb dX12_move_21 (by decide) ?_
      rw [← hQ]
      exact cRetI (v := (-2)) ((va_up ms 0 0), ma) hx hb hr hlocks hS hP hD h dX12_move_23
abbrev vsX12_swap : List Cond := Cond.code yX12_swap cX12_swap 6 (some .int) :: WS
abbrev rmX12_swap : Room := { frames := 6, cells := 0, slots := 0, locals := 143 }
set_option maxHeartbeats 4000000 in
set_option maxRecDepth 100000 in
theorem k_X12_swap (l : Launch) (D : va_G) (C : Nat → ClassId) (sz : Nat) (aM : Nat → Nat)  (ms : Nat → Int32) (mw : Nat → Int64) (ma : Nat → Nat → Int32) (ml : Nat → Nat → Int64) (p1 : Int32) (p2 : Int32) {post : Int32 → (Nat → Int32) → (Nat → Nat → Int32) → (Nat → Nat → Int64) → Prop} (h : P_X12_swap ms ma ml p1 p2 post) : Met l yX12_swap vsX12_swap rmX12_swap (cPre D C [.ref (aM 0), .int p1, .int p2] sz (wM aM C ms mw ma ml)) (cQi D (fun (r : Int32) (u : (Nat → Int32) × (Nat → Nat → Int32) × (Nat → Nat → Int64)) => post r u.1 u.2.1 u.2.2) (fun u => wM aM C u.1 mw u.2.1 u.2.2) (va_A (List.flatten (wM aM C ms mw ma ml)) sz)) 0 0 (va_A (List.flatten (wM aM C ms mw ma ml)) sz) := by
  refine cStart (QA := fun A => cQi D (fun (r : Int32) (u : (Nat → Int32) × (Nat → Nat → Int32) × (Nat → Nat → Int64)) => post r u.1 u.2.1 u.2.2) (fun u => wM aM C u.1 mw u.2.1 u.2.2) A) (cc := cX12_swap) (maxL := 6) (ret := (some .int)) (by decide) (Nat.le_of_ble_eq_true rfl) ?_
  intro p e s m args below meth c A ls hx hb hr hml hown hw hlocks hname hK hN hA hP hD hS hl
  generalize hQ : MQ below _ args s 0 0 A = Q
  have hl : lv_has ls 6 [(0, .ref (aM 0)), (1, .int p1), (2, .int p2)] := hl
  obtain ⟨H, hH⟩ : ∃ H, H = s.heap := ⟨_, rfl⟩
  obtain ⟨locs, hlo⟩ : ∃ z : List Loc, z = [] := ⟨_, rfl⟩
  have hP : va_P D vwCl (List.flatten (wM aM C ms mw ma ml)) H := by rw [hH]; exact hP
  have hS : va_S A s.heap H locs := by rw [hH, hlo]; exact hS
  rw [show W p l e rmX12_swap s m args below meth c s.heap [] 0 0 Q (F0 m 0 ls []) = W p l e rmX12_swap s m args below meth c H locs 0 0 Q (F0 m 0 ls []) from by rw [hH, hlo]]
  unfold P_X12_swap at h
  refine lv_aload_n hx hb dX12_swap_0 rfl (lv_at hl 0 rfl) ?_
  refine lv_iconst (v := 0) hx hb dX12_swap_1 (by decide) ?_
  refine va_put (D := D) (ci := 12) (v := .int 0) (ty := .int) (C := RX12) (T := TX12) (N := 51) hx hb hw inW_X12 tyX12 tyX12_ok nmX12 hown hK hP hD hS 0 rfl rfl 0 (by decide) (hw _ mw_6_43) (fun _ h9 => h9) rfl (by decide +kernel) rfl rfl (Nat.le_of_ble_eq_true rfl) dX12_swap_2 (fun H locs hP hD hS => ?_)
  refine lv_aload_n hx hb dX12_swap_5 rfl (lv_at hl 0 rfl) ?_
  refine lv_iload_n hx hb dX12_swap_6 rfl (lv_at hl 1 rfl) ?_
  refine lv_iload_n hx hb dX12_swap_7 rfl (lv_at hl 2 rfl) ?_
  have hP : va_P D vwCl (List.flatten (wM aM C (va_up ms 0 0) mw ma ml)) H := hP
  have hD : va_D A (List.flatten (wM aM C (va_up ms 0 0) mw ma ml)) := hD
  refine cGoI (wo := fun u => wM aM C (va_up ms 0 0) mw ma ml) (cRunV (As := [.int p1, .int p2]) (rest := []) ⟨hx, hb, hml, hown, hw⟩ hK hN hP hD [0, 1, 2, 3, 4, 5, 6, 7, 8, 9, 10, 11, 12, 13, 14, 15, 16, 17, 18, 19, 20, 21, 22, 23, 24, 25, 26, 27, 28, 29, 30, 31, 32] rfl rfl (k_X12_areTwo l D C _ aM  (va_up ms 0 0) mw ma ml p1 p2 h) (cwV 2 hw (goodV mw_8_126 mw_8_128 mw_s165 mw_1_13 mw_8_129) rfl rfl rfl (by decide +kernel) ⟨Nat.le_of_ble_eq_true rfl, Nat.le_of_ble_eq_true rfl⟩) rfl rfl rfl hl.1 rfl (Nat.le_of_ble_eq_true rfl) dX12_swap_8 ⟨Nat.zero_le _, Nat.zero_le _⟩) hP hD hS hA [0, 1, 2, 3, 4, 5, 6, 7, 8, 9, 10, 11, 12, 13, 14, 15, 16, 17, 18, 19, 20, 21, 22, 23, 24, 25, 26, 27, 28, 29, 30, 31, 32] [] [0, 1, 2, 3, 4, 5, 6, 7, 8, 9, 10, 11, 12, 13, 14, 15, 16, 17, 18, 19, 20, 21, 22, 23, 24, 25, 26, 27, 28, 29, 30, 31, 32] rfl rfl rfl (by decide) rfl (fun _ => rfl) (fun r1 u H locs h hP hD hS => ?_)
  have hP : va_P D vwCl (List.flatten (wM aM C (va_up ms 0 0) mw ma ml)) H := hP
  have hD : va_D A (List.flatten (wM aM C (va_up ms 0 0) mw ma ml)) := hD
  refine lv_if_ne (tgt := 17) hx hb dX12_swap_11 (by decide) (fun c2 => ?_) (fun c2 => ?_)
  · have h := h.1 c2
    refine lv_aload_n hx hb dX12_swap_17 rfl (lv_at hl 0 rfl) ?_
    refine lv_iconst (v := 1) hx hb dX12_swap_18 (by decide) ?_
    refine cGoL (wo := fun u => wM aM C u.1 mw u.2.1 u.2.2) (cRunV (As := [.int 1]) (rest := []) ⟨hx, hb, hml, hown, hw⟩ hK hN hP hD [0, 1, 2, 3, 4, 5, 6, 7, 8, 9, 10, 11, 12, 13, 14, 15, 16, 17, 18, 19, 20, 21, 22, 23, 24, 25, 26, 27, 28, 29, 30, 31, 32] rfl rfl (k_X12_allNow l D C _ aM  (va_up ms 0 0) mw ma ml 1 h) (cwV 1 hw (goodV mw_8_28 mw_8_30 mw_s151 mw_1_13 mw_8_31) rfl rfl rfl (by decide +kernel) ⟨Nat.le_of_ble_eq_true rfl, Nat.le_of_ble_eq_true rfl⟩) rfl rfl rfl hl.1 rfl (Nat.le_of_ble_eq_true rfl) dX12_swap_19 ⟨Nat.zero_le _, Nat.zero_le _⟩) hP hD hS hA [0, 1, 2, 3, 4, 5, 6, 7, 8, 9, 10, 11, 12, 13, 14, 15, 16, 17, 18, 19, 20, 21, 22, 23, 24, 25, 26, 27, 28, 29, 30, 31, 32] [] [0, 1, 2, 3, 4, 5, 6, 7, 8, 9, 10, 11, 12, 13, 14, 15, 16, 17, 18, 19, 20, 21, 22, 23, 24, 25, 26, 27, 28, 29, 30, 31, 32] rfl rfl rfl (by decide) rfl (fun _ => rfl) (fun r6 u H locs h hP hD hS => ?_)
    obtain ⟨ms_3, ma_4, ml_5⟩ := u
    have hP : va_P D vwCl (List.flatten (wM aM C ms_3 mw ma_4 ml_5)) H := hP
    have hD : va_D A (List.flatten (wM aM C ms_3 mw ma_4 ml_5)) := hD
    refine lv_lstore_n (lv' := [(3, .long r6), (0, .ref (aM 0)), (1, .int p1), (2, .int p2)]) hx hb dX12_swap_22 rfl hl (by decide) rfl (fun ls hl => ?_)
    refine lv_aload_n hx hb dX12_swap_23 rfl (lv_at hl 1 rfl) ?_
    refine va_get (D := D) (ci := 12) (v := .ref (aM 14)) (C := RX12) (T := TX12) (N := 51) hx hb hw inW_X12 hown hK hP 0 rfl rfl 24 (by decide) (hw _ mw_6_67) (fun _ h9 => h9) rfl dX12_swap_24 ?_
    refine lv_iconst (v := 0) hx hb dX12_swap_27 (by decide) ?_
    refine lv_iload_n hx hb dX12_swap_28 rfl (lv_at hl 2 rfl) ?_
    refine cGoI (wo := fun u => wM aM C ms_3 mw ma_4 ml_5) (cRunS (As := [.int 0, .int p1]) (rest := [.ref (aM 14)]) ⟨hx, hb, hml, hown, hw⟩ hK hN hP hD [] rfl rfl (k_X12_at l D C _    0 p1 h) (va_cwS 2 hw (goodS mw_7_148 mw_7_149 mw_1_13 mw_7_150) rfl rfl rfl (by decide +kernel) ⟨Nat.le_of_ble_eq_true rfl, Nat.le_of_ble_eq_true rfl⟩) rfl hl.1 rfl (Nat.le_of_ble_eq_true rfl) dX12_swap_29 ⟨Nat.zero_le _, Nat.zero_le _⟩) hP hD hS hA [] [0, 1, 2, 3, 4, 5, 6, 7, 8, 9, 10, 11, 12, 13, 14, 15, 16, 17, 18, 19, 20, 21, 22, 23, 24, 25, 26, 27, 28, 29, 30, 31, 32] [0, 1, 2, 3, 4, 5, 6, 7, 8, 9, 10, 11, 12, 13, 14, 15, 16, 17, 18, 19, 20, 21, 22, 23, 24, 25, 26, 27, 28, 29, 30, 31, 32] rfl rfl rfl (by decide) rfl (fun _ => rfl) (fun r7 u H locs h hP hD hS => ?_)
    have hP : va_P D vwCl (List.flatten (wM aM C ms_3 mw ma_4 ml_5)) H := hP
    have hD : va_D A (List.flatten (wM aM C ms_3 mw ma_4 ml_5)) := hD
    refine lv_iconst (v := 2) hx hb dX12_swap_32 (by decide) ?_
    refine lv_iadd hx hb dX12_swap_33 ?_
    try dsimp only at h
    obtain ⟨kk_8, hkk_8⟩ : ∃ z : Nat, (r7 + 2).toNatClampNeg = z := ⟨_, rfl⟩
    rw [hkk_8] at h
    refine cIald hx hb hK hP 14 0 rfl rfl kk_8 hkk_8 h.1 dX12_swap_34 ?_
    have h := h.2
    refine lv_topi (fun x9 ex9 => ?_)
    have h := h x9 ex9
    refine lv_istore (lv' := [(5, .int x9), (3, .long r6), (0, .ref (aM 0)), (1, .int p1), (2, .int p2)]) hx hb dX12_swap_35 hl (by decide) rfl (fun ls hl => ?_)
    refine lv_aload_n hx hb dX12_swap_37 rfl (lv_at hl 2 rfl) ?_
    refine va_get (D := D) (ci := 12) (v := .ref (aM 14)) (C := RX12) (T := TX12) (N := 51) hx hb hw inW_X12 hown hK hP 0 rfl rfl 24 (by decide) (hw _ mw_6_67) (fun _ h9 => h9) rfl dX12_swap_38 ?_
    refine lv_iconst (v := 0) hx hb dX12_swap_41 (by decide) ?_
    refine lv_iload_n hx hb dX12_swap_42 rfl (lv_at hl 3 rfl) ?_
    refine cGoI (wo := fun u => wM aM C ms_3 mw ma_4 ml_5) (cRunS (As := [.int 0, .int p1]) (rest := [.ref (aM 14)]) ⟨hx, hb, hml, hown, hw⟩ hK hN hP hD [] rfl rfl (k_X12_at l D C _    0 p1 h) (va_cwS 2 hw (goodS mw_7_148 mw_7_149 mw_1_13 mw_7_150) rfl rfl rfl (by decide +kernel) ⟨Nat.le_of_ble_eq_true rfl, Nat.le_of_ble_eq_true rfl⟩) rfl hl.1 rfl (Nat.le_of_ble_eq_true rfl) dX12_swap_43 ⟨Nat.zero_le _, Nat.zero_le _⟩) hP hD hS hA [] [0, 1, 2, 3, 4, 5, 6, 7, 8, 9, 10, 11, 12, 13, 14, 15, 16, 17, 18, 19, 20, 21, 22, 23, 24, 25, 26, 27, 28, 29, 30, 31, 32] [0, 1, 2, 3, 4, 5, 6, 7, 8, 9, 10, 11, 12, 13, 14, 15, 16, 17, 18, 19, 20, 21, 22, 23, 24, 25, 26, 27, 28, 29, 30, 31, 32] rfl rfl rfl (by decide) rfl (fun _ => rfl) (fun r10 u H locs h hP hD hS => ?_)
    have hP : va_P D vwCl (List.flatten (wM aM C ms_3 mw ma_4 ml_5)) H := hP
    have hD : va_D A (List.flatten (wM aM C ms_3 mw ma_4 ml_5)) := hD
    refine lv_iconst (v := 2) hx hb dX12_swap_46 (by decide) ?_
    refine lv_iadd hx hb dX12_swap_47 ?_
    refine lv_aload_n hx hb dX12_swap_48 rfl (lv_at hl 2 rfl) ?_
    refine va_get (D := D) (ci := 12) (v := .ref (aM 14)) (C := RX12) (T := TX12) (N := 51) hx hb hw inW_X12 hown hK hP 0 rfl rfl 24 (by decide) (hw _ mw_6_67) (fun _ h9 => h9) rfl dX12_swap_49 ?_
    refine lv_iconst (v := 0) hx hb dX12_swap_52 (by decide) ?_
    refine lv_iload_n hx hb dX12_swap_53 rfl (lv_at hl 4 rfl) ?_
    refine cGoI (wo := fun u => wM aM C ms_3 mw ma_4 ml_5) (cRunS (As := [.int 0, .int p2]) (rest := [.ref (aM 14), .int (r10 + 2), .ref (aM 14)]) ⟨hx, hb, hml, hown, hw⟩ hK hN hP hD [] rfl rfl (k_X12_at l D C _    0 p2 h) (va_cwS 2 hw (goodS mw_7_148 mw_7_149 mw_1_13 mw_7_150) rfl rfl rfl (by decide +kernel) ⟨Nat.le_of_ble_eq_true rfl, Nat.le_of_ble_eq_true rfl⟩) rfl hl.1 rfl (Nat.le_of_ble_eq_true rfl) dX12_swap_54 ⟨Nat.zero_le _, Nat.zero_le _⟩) hP hD hS hA [] [0, 1, 2, 3, 4, 5, 6, 7, 8, 9, 10, 11, 12, 13, 14, 15, 16, 17, 18, 19, 20, 21, 22, 23, 24, 25, 26, 27, 28, 29, 30, 31, 32] [0, 1, 2, 3, 4, 5, 6, 7, 8, 9, 10, 11, 12, 13, 14, 15, 16, 17, 18, 19, 20, 21, 22, 23, 24, 25, 26, 27, 28, 29, 30, 31, 32] rfl rfl rfl (by decide) rfl (fun _ => rfl) (fun r11 u H locs h hP hD hS => ?_)
    have hP : va_P D vwCl (List.flatten (wM aM C ms_3 mw ma_4 ml_5)) H := hP
    have hD : va_D A (List.flatten (wM aM C ms_3 mw ma_4 ml_5)) := hD
    refine lv_iconst (v := 2) hx hb dX12_swap_57 (by decide) ?_
    refine lv_iadd hx hb dX12_swap_58 ?_
    try dsimp only at h
    obtain ⟨kk_12, hkk_12⟩ : ∃ z : Nat, (r11 + 2).toNatClampNeg = z := ⟨_, rfl⟩
    rw [hkk_12] at h
    refine cIald hx hb hK hP 14 0 rfl rfl kk_12 hkk_12 h.1 dX12_swap_59 ?_
    have h := h.2
    try dsimp only at h
    obtain ⟨kk_13, hkk_13⟩ : ∃ z : Nat, (r10 + 2).toNatClampNeg = z := ⟨_, rfl⟩
    rw [hkk_13] at h
    refine cIast hx hb hK hP hD hS 14 0 rfl rfl kk_13 hkk_13 h.1 dX12_swap_60 (fun H locs hP hD hS => ?_)
    have h := h.2
    refine lv_aload_n hx hb dX12_swap_61 rfl (lv_at hl 2 rfl) ?_
    refine va_get (D := D) (ci := 12) (v := .ref (aM 14)) (C := RX12) (T := TX12) (N := 51) hx hb hw inW_X12 hown hK hP 0 rfl rfl 24 (by decide) (hw _ mw_6_67) (fun _ h9 => h9) rfl dX12_swap_62 ?_
    refine lv_iconst (v := 0) hx hb dX12_swap_65 (by decide) ?_
    refine lv_iload_n hx hb dX12_swap_66 rfl (lv_at hl 4 rfl) ?_
    have hP : va_P D vwCl (List.flatten (wM aM C ms_3 mw (va_up ma_4 11 (upd (ma_4 11) kk_13 (ma_4 11 kk_12))) ml_5)) H := hP
    have hD : va_D A (List.flatten (wM aM C ms_3 mw (va_up ma_4 11 (upd (ma_4 11) kk_13 (ma_4 11 kk_12))) ml_5)) := hD
    refine cGoI (wo := fun u => wM aM C ms_3 mw (va_up ma_4 11 (upd (ma_4 11) kk_13 (ma_4 11 kk_12))) ml_5) (cRunS (As := [.int 0, .int p2]) (rest := [.ref (aM 14)]) ⟨hx, hb, hml, hown, hw⟩ hK hN hP hD [] rfl rfl (k_X12_at l D C _    0 p2 h) (va_cwS 2 hw (goodS mw_7_148 mw_7_149 mw_1_13 mw_7_150) rfl rfl rfl (by decide +kernel) ⟨Nat.le_of_ble_eq_true rfl, Nat.le_of_ble_eq_true rfl⟩) rfl hl.1 rfl (Nat.le_of_ble_eq_true rfl) dX12_swap_67 ⟨Nat.zero_le _, Nat.zero_le _⟩) hP hD hS hA [] [0, 1, 2, 3, 4, 5, 6, 7, 8, 9, 10, 11, 12, 13, 14, 15, 16, 17, 18, 19, 20, 21, 22, 23, 24, 25, 26, 27, 28, 29, 30, 31, 32] [0, 1, 2, 3, 4, 5, 6, 7, 8, 9, 10, 11, 12, 13, 14, 15, 16, 17, 18, 19, 20, 21, 22, 23, 24, 25, 26, 27, 28, 29, 30, 31, 32] rfl rfl rfl (by decide) rfl (fun _ => rfl) (fun r14 u H locs h hP hD hS => ?_)
    have hP : va_P D vwCl (List.flatten (wM aM C ms_3 mw (va_up ma_4 11 (upd (ma_4 11) kk_13 (ma_4 11 kk_12))) ml_5)) H := hP
    have hD : va_D A (List.flatten (wM aM C ms_3 mw (va_up ma_4 11 (upd (ma_4 11) kk_13 (ma_4 11 kk_12))) ml_5)) := hD
    refine lv_iconst (v := 2) hx hb dX12_swap_70 (by decide) ?_
    refine lv_iadd hx hb dX12_swap_71 ?_
    refine lv_iload hx hb dX12_swap_72 (lv_at hl 0 rfl) ?_
    try dsimp only at h
    obtain ⟨kk_15, hkk_15⟩ : ∃ z : Nat, (r14 + 2).toNatClampNeg = z := ⟨_, rfl⟩
    rw [hkk_15] at h
    refine cIast hx hb hK hP hD hS 14 0 rfl rfl kk_15 hkk_15 h.1 dX12_swap_74 (fun H locs hP hD hS => ?_)
    have h := h.2
    refine lv_aload_n hx hb dX12_swap_75 rfl (lv_at hl 2 rfl) ?_
    refine lv_iconst (v := 1) hx hb dX12_swap_76 (by decide) ?_
    have hP : va_P D vwCl (List.flatten (wM aM C ms_3 mw (va_up ma_4 11 (upd (upd (ma_4 11) kk_13 (ma_4 11 kk_12)) kk_15 x9)) ml_5)) H := hP
    have hD : va_D A (List.flatten (wM aM C ms_3 mw (va_up ma_4 11 (upd (upd (ma_4 11) kk_13 (ma_4 11 kk_12)) kk_15 x9)) ml_5)) := hD
    refine cGoL (wo := fun u => wM aM C u.1 mw u.2.1 u.2.2) (cRunV (As := [.int 1]) (rest := []) ⟨hx, hb, hml, hown, hw⟩ hK hN hP hD [0, 1, 2, 3, 4, 5, 6, 7, 8, 9, 10, 11, 12, 13, 14, 15, 16, 17, 18, 19, 20, 21, 22, 23, 24, 25, 26, 27, 28, 29, 30, 31, 32] rfl rfl (k_X12_allNow l D C _ aM  ms_3 mw (va_up ma_4 11 (upd (upd (ma_4 11) kk_13 (ma_4 11 kk_12)) kk_15 x9)) ml_5 1 h) (cwV 1 hw (goodV mw_8_28 mw_8_30 mw_s151 mw_1_13 mw_8_31) rfl rfl rfl (by decide +kernel) ⟨Nat.le_of_ble_eq_true rfl, Nat.le_of_ble_eq_true rfl⟩) rfl rfl rfl hl.1 rfl (Nat.le_of_ble_eq_true rfl) dX12_swap_77 ⟨Nat.zero_le _, Nat.zero_le _⟩) hP hD hS hA [0, 1, 2, 3, 4, 5, 6, 7, 8, 9, 10, 11, 12, 13, 14, 15, 16, 17, 18, 19, 20, 21, 22, 23, 24, 25, 26, 27, 28, 29, 30, 31, 32] [] [0, 1, 2, 3, 4, 5, 6, 7, 8, 9, 10, 11, 12, 13, 14, 15, 16, 17, 18, 19, 20, 21, 22, 23, 24, 25, 26, 27, 28, 29, 30, 31, 32] rfl rfl rfl (by decide) rfl (fun _ => rfl) (fun r19 u H locs h hP hD hS => ?_)
    obtain ⟨ms_16, ma_17, ml_18⟩ := u
    have hP : va_P D vwCl (List.flatten (wM aM C ms_16 mw ma_17 ml_18)) H := hP
    have hD : va_D A (List.flatten (wM aM C ms_16 mw ma_17 ml_18)) := hD
    refine lv_lload_n hx hb dX12_swap_80 rfl (lv_at hl 1 rfl) ?_
    refine W.lcmp hx hb dX12_swap_81 ?_
    refine lv_if_ge (tgt := 89) hx hb dX12_swap_82 (by decide) (fun c20 => ?_) (fun c20 => ?_)
    · have c20 : r6 ≤ r19 := (lg_cmp_ge _ _).mp c20
      have h := h.1 c20
      refine lv_iconst (v := 0) hx hb dX12_swap_89 (by decide) ?_
      rw [← hQ]
      exact cRetI (v := 0) (ms_16, ma_17, ml_18) hx hb hr hlocks hS hP hD h dX12_swap_90
    · have c20 : ¬ r6 ≤ r19 := fun q => c20 ((lg_cmp_ge _ _).mpr q)
      have h := h.2 c20
      refine lv_iconst (v := 1) hx hb dX12_swap_85 (by decide) ?_
      refine lv_goto (tgt := 90) hx hb dX12_swap_86 (by decide) ?_
      rw [← hQ]
      exact cRetI (v := 1) (ms_16, ma_17, ml_18) hx hb hr hlocks hS hP hD h dX12_swap_90
  · have h := h.2 c2
    refine lv_bipush (v := (-2)) hx hb dX12_swap_14 (by decide) ?_
    rw [← hQ]
    exact cRetI (v := (-2)) ((va_up ms 0 0), ma, ml) hx hb hr hlocks hS hP hD h dX12_swap_16
abbrev vsX12_where : List Cond := Cond.code yX12_where cX12_where 10 (some .int) :: WS
abbrev rmX12_where : Room := { frames := 6, cells := 0, slots := 0, locals := 140 }
set_option maxHeartbeats 4000000 in
set_option maxRecDepth 100000 in
theorem k_X12_where (l : Launch) (D : va_G) (C : Nat → ClassId) (sz : Nat) (aM : Nat → Nat)  (ms : Nat → Int32) (mw : Nat → Int64) (ma : Nat → Nat → Int32) (ml : Nat → Nat → Int64) (p1 : Int32) {post : Int32 → (Nat → Int32) → (Nat → Nat → Int32) → (Nat → Nat → Int64) → Prop} (h : P_X12_where ms ma ml p1 post) : Met l yX12_where vsX12_where rmX12_where (cPre D C [.ref (aM 0), .int p1] sz (wM aM C ms mw ma ml)) (cQi D (fun (r : Int32) (u : (Nat → Int32) × (Nat → Nat → Int32) × (Nat → Nat → Int64)) => post r u.1 u.2.1 u.2.2) (fun u => wM aM C u.1 mw u.2.1 u.2.2) (va_A (List.flatten (wM aM C ms mw ma ml)) sz)) 0 0 (va_A (List.flatten (wM aM C ms mw ma ml)) sz) := by
  refine cStart (QA := fun A => cQi D (fun (r : Int32) (u : (Nat → Int32) × (Nat → Nat → Int32) × (Nat → Nat → Int64)) => post r u.1 u.2.1 u.2.2) (fun u => wM aM C u.1 mw u.2.1 u.2.2) A) (cc := cX12_where) (maxL := 10) (ret := (some .int)) (by decide) (Nat.le_of_ble_eq_true rfl) ?_
  intro p e s m args below meth c A ls hx hb hr hml hown hw hlocks hname hK hN hA hP hD hS hl
  generalize hQ : MQ below _ args s 0 0 A = Q
  have hl : lv_has ls 10 [(0, .ref (aM 0)), (1, .int p1)] := hl
  obtain ⟨H, hH⟩ : ∃ H, H = s.heap := ⟨_, rfl⟩
  obtain ⟨locs, hlo⟩ : ∃ z : List Loc, z = [] := ⟨_, rfl⟩
  have hP : va_P D vwCl (List.flatten (wM aM C ms mw ma ml)) H := by rw [hH]; exact hP
  have hS : va_S A s.heap H locs := by rw [hH, hlo]; exact hS
  rw [show W p l e rmX12_where s m args below meth c s.heap [] 0 0 Q (F0 m 0 ls []) = W p l e rmX12_where s m args below meth c H locs 0 0 Q (F0 m 0 ls []) from by rw [hH, hlo]]
  have N134 : ∀ (x2_ : Int32) (x3_ : Int32) (ms : Nat → Int32) (ma : Nat → Nat → Int32) (ml : Nat → Nat → Int64) (H : Heap) (locs : List Loc) (ls : Array Slot), P_X12_where_134 p1 post  x2_ x3_ ms ma ml → va_P D vwCl (List.flatten (wM aM C ms mw ma ml)) H → va_D A (List.flatten (wM aM C ms mw ma ml)) → va_S A s.heap H locs → lv_has ls 10 [(0, .ref (aM 0)), (1, .int p1), (2, .int x2_), (3, .int x3_)] → W p l e rmX12_where s m args below meth c H locs 0 0 Q (F0 m 134 ls []) := by
    intro x2_ x3_ ms ma ml H locs ls h hP hD hS hl
    unfold P_X12_where_134 at h
    refine lv_aload_n hx hb dX12_where_134 rfl (lv_at hl 0 rfl) ?_
    refine va_get (D := D) (ci := 12) (v := .ref (aM 14)) (C := RX12) (T := TX12) (N := 51) hx hb hw inW_X12 hown hK hP 0 rfl rfl 24 (by decide) (hw _ mw_6_67) (fun _ h9 => h9) rfl dX12_where_135 ?_
    refine lv_iconst (v := 0) hx hb dX12_where_138 (by decide) ?_
    refine lv_iload_n hx hb dX12_where_139 rfl (lv_at hl 1 rfl) ?_
    refine cGoI (wo := fun u => wM aM C ms mw ma ml) (cRunS (As := [.int 0, .int p1]) (rest := [.ref (aM 14)]) ⟨hx, hb, hml, hown, hw⟩ hK hN hP hD [] rfl rfl (k_X12_at l D C _    0 p1 h) (va_cwS 2 hw (goodS mw_7_148 mw_7_149 mw_1_13 mw_7_150) rfl rfl rfl (by decide +kernel) ⟨Nat.le_of_ble_eq_true rfl, Nat.le_of_ble_eq_true rfl⟩) rfl hl.1 rfl (Nat.le_of_ble_eq_true rfl) dX12_where_140 ⟨Nat.zero_le _, Nat.zero_le _⟩) hP hD hS hA [] [0, 1, 2, 3, 4, 5, 6, 7, 8, 9, 10, 11, 12, 13, 14, 15, 16, 17, 18, 19, 20, 21, 22, 23, 24, 25, 26, 27, 28, 29, 30, 31, 32] [0, 1, 2, 3, 4, 5, 6, 7, 8, 9, 10, 11, 12, 13, 14, 15, 16, 17, 18, 19, 20, 21, 22, 23, 24, 25, 26, 27, 28, 29, 30, 31, 32] rfl rfl rfl (by decide) rfl (fun _ => rfl) (fun r9 u H locs h hP hD hS => ?_)
    have hP : va_P D vwCl (List.flatten (wM aM C ms mw ma ml)) H := hP
    have hD : va_D A (List.flatten (wM aM C ms mw ma ml)) := hD
    refine lv_iconst (v := 2) hx hb dX12_where_143 (by decide) ?_
    refine lv_iadd hx hb dX12_where_144 ?_
    refine lv_iload_n hx hb dX12_where_145 rfl (lv_at hl 2 rfl) ?_
    try dsimp only at h
    obtain ⟨kk_10, hkk_10⟩ : ∃ z : Nat, (r9 + 2).toNatClampNeg = z := ⟨_, rfl⟩
    rw [hkk_10] at h
    refine cIast hx hb hK hP hD hS 14 0 rfl rfl kk_10 hkk_10 h.1 dX12_where_146 (fun H locs hP hD hS => ?_)
    have h := h.2
    refine lv_iload_n hx hb dX12_where_147 rfl (lv_at hl 3 rfl) ?_
    have hP : va_P D vwCl (List.flatten (wM aM C ms mw (va_up ma 11 (upd (ma 11) kk_10 x2_)) ml)) H := hP
    have hD : va_D A (List.flatten (wM aM C ms mw (va_up ma 11 (upd (ma 11) kk_10 x2_)) ml)) := hD
    rw [← hQ]
    exact cRetI (v := x3_) (ms, (va_up ma 11 (upd (ma 11) kk_10 x2_)), ml) hx hb hr hlocks hS hP hD h dX12_where_148
  have N37 : ∀ (x2_ : Int32) (n37 : Nat) (x3_ : Int32) (x4_ : Int64) (x6_ : Int32) (ms : Nat → Int32) (ma : Nat → Nat → Int32) (ml : Nat → Nat → Int64) (H : Heap) (locs : List Loc) (ls : Array Slot), P_X12_where_37 p1 post (fun (x2_ : Int32) (x3_ : Int32) (ms : Nat → Int32) (ma : Nat → Nat → Int32) (ml : Nat → Nat → Int64) => P_X12_where_134 p1 post  x2_ x3_ ms ma ml) x2_ n37 x3_ x4_ x6_ ms ma ml → va_P D vwCl (List.flatten (wM aM C ms mw ma ml)) H → va_D A (List.flatten (wM aM C ms mw ma ml)) → va_S A s.heap H locs → lv_has ls 10 [(0, .ref (aM 0)), (1, .int p1), (2, .int x2_), (3, .int x3_), (4, .long x4_), (6, .int x6_)] → W p l e rmX12_where s m args below meth c H locs 0 0 Q (F0 m 37 ls []) := by
    intro x2_
    intro n37
    induction n37 with
    | zero => intro x3_ x4_ x6_ ms ma ml H locs ls h hP hD hS hl; exact False.elim h
    | succ n37 ih37 =>
      have N84 : ∀ (x3_ : Int32) (x4_ : Int64) (x6_ : Int32) (ms : Nat → Int32) (ma : Nat → Nat → Int32) (ml : Nat → Nat → Int64) (H : Heap) (locs : List Loc) (ls : Array Slot), P_X12_where_84 p1 x2_ post (P_X12_where_37 p1 post (fun (x2_ : Int32) (x3_ : Int32) (ms : Nat → Int32) (ma : Nat → Nat → Int32) (ml : Nat → Nat → Int64) => P_X12_where_134 p1 post  x2_ x3_ ms ma ml) x2_ n37) x3_ x4_ x6_ ms ma ml → va_P D vwCl (List.flatten (wM aM C ms mw ma ml)) H → va_D A (List.flatten (wM aM C ms mw ma ml)) → va_S A s.heap H locs → lv_has ls 10 [(0, .ref (aM 0)), (1, .int p1), (2, .int x2_), (3, .int x3_), (4, .long x4_), (6, .int x6_)] → W p l e rmX12_where s m args below meth c H locs 0 0 Q (F0 m 84 ls []) := by
        intro x3_ x4_ x6_ ms ma ml H locs ls h hP hD hS hl
        unfold P_X12_where_84 at h
        refine lv_aload_n hx hb dX12_where_84 rfl (lv_at hl 0 rfl) ?_
        refine va_get (D := D) (ci := 12) (v := .ref (aM 14)) (C := RX12) (T := TX12) (N := 51) hx hb hw inW_X12 hown hK hP 0 rfl rfl 24 (by decide) (hw _ mw_6_67) (fun _ h9 => h9) rfl dX12_where_85 ?_
        refine lv_iconst (v := 0) hx hb dX12_where_88 (by decide) ?_
        refine lv_iload_n hx hb dX12_where_89 rfl (lv_at hl 1 rfl) ?_
        refine cGoI (wo := fun u => wM aM C ms mw ma ml) (cRunS (As := [.int 0, .int p1]) (rest := [.ref (aM 14)]) ⟨hx, hb, hml, hown, hw⟩ hK hN hP hD [] rfl rfl (k_X12_at l D C _    0 p1 h) (va_cwS 2 hw (goodS mw_7_148 mw_7_149 mw_1_13 mw_7_150) rfl rfl rfl (by decide +kernel) ⟨Nat.le_of_ble_eq_true rfl, Nat.le_of_ble_eq_true rfl⟩) rfl hl.1 rfl (Nat.le_of_ble_eq_true rfl) dX12_where_90 ⟨Nat.zero_le _, Nat.zero_le _⟩) hP hD hS hA [] [0, 1, 2, 3, 4, 5, 6, 7, 8, 9, 10, 11, 12, 13, 14, 15, 16, 17, 18, 19, 20, 21, 22, 23, 24, 25, 26, 27, 28, 29, 30, 31, 32] [0, 1, 2, 3, 4, 5, 6, 7, 8, 9, 10, 11, 12, 13, 14, 15, 16, 17, 18, 19, 20, 21, 22, 23, 24, 25, 26, 27, 28, 29, 30, 31, 32] rfl rfl rfl (by decide) rfl (fun _ => rfl) (fun r1 u H locs h hP hD hS => ?_)
        have hP : va_P D vwCl (List.flatten (wM aM C ms mw ma ml)) H := hP
        have hD : va_D A (List.flatten (wM aM C ms mw ma ml)) := hD
        refine lv_iconst (v := 2) hx hb dX12_where_93 (by decide) ?_
        refine lv_iadd hx hb dX12_where_94 ?_
        refine lv_iload hx hb dX12_where_95 (lv_at hl 5 rfl) ?_
        try dsimp only at h
        obtain ⟨kk_2, hkk_2⟩ : ∃ z : Nat, (r1 + 2).toNatClampNeg = z := ⟨_, rfl⟩
        rw [hkk_2] at h
        refine cIast hx hb hK hP hD hS 14 0 rfl rfl kk_2 hkk_2 h.1 dX12_where_97 (fun H locs hP hD hS => ?_)
        have h := h.2
        refine lv_aload_n hx hb dX12_where_98 rfl (lv_at hl 0 rfl) ?_
        refine lv_iload_n hx hb dX12_where_99 rfl (lv_at hl 1 rfl) ?_
        have hP : va_P D vwCl (List.flatten (wM aM C ms mw (va_up ma 11 (upd (ma 11) kk_2 x6_)) ml)) H := hP
        have hD : va_D A (List.flatten (wM aM C ms mw (va_up ma 11 (upd (ma 11) kk_2 x6_)) ml)) := hD
        refine cGoL (wo := fun u => wM aM C u.1 mw u.2.1 u.2.2) (cRunV (As := [.int p1]) (rest := []) ⟨hx, hb, hml, hown, hw⟩ hK hN hP hD [0, 1, 2, 3, 4, 5, 6, 7, 8, 9, 10, 11, 12, 13, 14, 15, 16, 17, 18, 19, 20, 21, 22, 23, 24, 25, 26, 27, 28, 29, 30, 31, 32] rfl rfl (k_X12_costNow l D C _ aM  ms mw (va_up ma 11 (upd (ma 11) kk_2 x6_)) ml p1 h) (cwV 1 hw (goodV mw_8_60 mw_8_62 mw_s157 mw_1_13 mw_8_63) rfl rfl rfl (by decide +kernel) ⟨Nat.le_of_ble_eq_true rfl, Nat.le_of_ble_eq_true rfl⟩) rfl rfl rfl hl.1 rfl (Nat.le_of_ble_eq_true rfl) dX12_where_100 ⟨Nat.zero_le _, Nat.zero_le _⟩) hP hD hS hA [0, 1, 2, 3, 4, 5, 6, 7, 8, 9, 10, 11, 12, 13, 14, 15, 16, 17, 18, 19, 20, 21, 22, 23, 24, 25, 26, 27, 28, 29, 30, 31, 32] [] [0, 1, 2, 3, 4, 5, 6, 7, 8, 9, 10, 11, 12, 13, 14, 15, 16, 17, 18, 19, 20, 21, 22, 23, 24, 25, 26, 27, 28, 29, 30, 31, 32] rfl rfl rfl (by decide) rfl (fun _ => rfl) (fun r6 u H locs h hP hD hS => ?_)
        obtain ⟨ms_3, ma_4, ml_5⟩ := u
        have hP : va_P D vwCl (List.flatten (wM aM C ms_3 mw ma_4 ml_5)) H := hP
        have hD : va_D A (List.flatten (wM aM C ms_3 mw ma_4 ml_5)) := hD
        refine lv_lstore (lv' := [(8, .long r6), (0, .ref (aM 0)), (1, .int p1), (2, .int x2_), (3, .int x3_), (4, .long x4_), (6, .int x6_)]) hx hb dX12_where_103 hl (by decide) rfl (fun ls hl => ?_)
        refine lv_iload_n hx hb dX12_where_105 rfl (lv_at hl 4 rfl) ?_
        refine lv_iconst (v := (-1)) hx hb dX12_where_106 (by decide) ?_
        refine lv_icmp_eq (tgt := 121) hx hb dX12_where_107 (by decide) (fun c7 => ?_) (fun c7 => ?_)
        · have h := h.1 c7
          refine lv_iload hx hb dX12_where_121 (lv_at hl 6 rfl) ?_
          refine lv_istore_n (lv' := [(3, .int x6_), (8, .long r6), (0, .ref (aM 0)), (1, .int p1), (2, .int x2_), (4, .long x4_), (6, .int x6_)]) hx hb dX12_where_123 rfl hl (by decide) rfl (fun ls hl => ?_)
          refine lv_lload hx hb dX12_where_124 (lv_at hl 1 rfl) ?_
          refine lv_lstore (lv' := [(4, .long r6), (3, .int x6_), (8, .long r6), (0, .ref (aM 0)), (1, .int p1), (2, .int x2_), (6, .int x6_)]) hx hb dX12_where_126 hl (by decide) rfl (fun ls hl => ?_)
          refine lv_iinc (v := (x6_ + 1)) (lv' := [(6, .int (x6_ + 1)), (4, .long r6), (3, .int x6_), (8, .long r6), (0, .ref (aM 0)), (1, .int p1), (2, .int x2_)]) hx hb dX12_where_128 hl (k := 6) rfl rfl (by decide) rfl (fun ls hl => ?_)
          refine lv_goto (tgt := 37) hx hb dX12_where_131 (by decide) ?_
          exact ih37 x6_ r6 (x6_ + 1) ms_3 ma_4 ml_5 _ _ _ h hP hD hS (lv_sub hl [4, 5, 6, 2, 1, 0] rfl)
        · have h := h.2 c7
          refine lv_lload hx hb dX12_where_110 (lv_at hl 0 rfl) ?_
          refine lv_lload hx hb dX12_where_112 (lv_at hl 5 rfl) ?_
          refine W.lcmp hx hb dX12_where_114 ?_
          refine lv_if_lt (tgt := 121) hx hb dX12_where_115 (by decide) (fun c8 => ?_) (fun c8 => ?_)
          · have c8 : r6 < x4_ := (lg_cmp_lt _ _).mp c8
            have h := h.1 c8
            refine lv_iload hx hb dX12_where_121 (lv_at hl 6 rfl) ?_
            refine lv_istore_n (lv' := [(3, .int x6_), (8, .long r6), (0, .ref (aM 0)), (1, .int p1), (2, .int x2_), (4, .long x4_), (6, .int x6_)]) hx hb dX12_where_123 rfl hl (by decide) rfl (fun ls hl => ?_)
            refine lv_lload hx hb dX12_where_124 (lv_at hl 1 rfl) ?_
            refine lv_lstore (lv' := [(4, .long r6), (3, .int x6_), (8, .long r6), (0, .ref (aM 0)), (1, .int p1), (2, .int x2_), (6, .int x6_)]) hx hb dX12_where_126 hl (by decide) rfl (fun ls hl => ?_)
            refine lv_iinc (v := (x6_ + 1)) (lv' := [(6, .int (x6_ + 1)), (4, .long r6), (3, .int x6_), (8, .long r6), (0, .ref (aM 0)), (1, .int p1), (2, .int x2_)]) hx hb dX12_where_128 hl (k := 6) rfl rfl (by decide) rfl (fun ls hl => ?_)
            refine lv_goto (tgt := 37) hx hb dX12_where_131 (by decide) ?_
            exact ih37 x6_ r6 (x6_ + 1) ms_3 ma_4 ml_5 _ _ _ h hP hD hS (lv_sub hl [4, 5, 6, 2, 1, 0] rfl)
          · have c8 : ¬ r6 < x4_ := fun q => c8 ((lg_cmp_lt _ _).mpr q)
            have h := h.2 c8
            refine lv_goto (tgt := 128) hx hb dX12_where_118 (by decide) ?_
            refine lv_iinc (v := (x6_ + 1)) (lv' := [(6, .int (x6_ + 1)), (8, .long r6), (0, .ref (aM 0)), (1, .int p1), (2, .int x2_), (3, .int x3_), (4, .long x4_)]) hx hb dX12_where_128 hl (k := 6) rfl rfl (by decide) rfl (fun ls hl => ?_)
            refine lv_goto (tgt := 37) hx hb dX12_where_131 (by decide) ?_
            exact ih37 x3_ x4_ (x6_ + 1) ms_3 ma_4 ml_5 _ _ _ h hP hD hS (lv_sub hl [2, 3, 4, 5, 6, 0] rfl)
      intro x3_ x4_ x6_ ms ma ml H locs ls h hP hD hS hl
      have h : P_X12_where_37_b p1 post (fun (x2_ : Int32) (x3_ : Int32) (ms : Nat → Int32) (ma : Nat → Nat → Int32) (ml : Nat → Nat → Int64) => P_X12_where_134 p1 post  x2_ x3_ ms ma ml) x2_ (P_X12_where_37 p1 post (fun (x2_ : Int32) (x3_ : Int32) (ms : Nat → Int32) (ma : Nat → Nat → Int32) (ml : Nat → Nat → Int64) => P_X12_where_134 p1 post  x2_ x3_ ms ma ml) x2_ n37) x3_ x4_ x6_ ms ma ml := h
      unfold P_X12_where_37_b at h
      refine lv_iload hx hb dX12_where_37 (lv_at hl 5 rfl) ?_
      refine lv_aload_n hx hb dX12_where_39 rfl (lv_at hl 0 rfl) ?_
      refine va_get (D := D) (ci := 12) (v := .ref (aM 7)) (C := RX12) (T := TX12) (N := 51) hx hb hw inW_X12 hown hK hP 0 rfl rfl 17 (by decide) (hw _ mw_6_60) (fun _ h9 => h9) rfl dX12_where_40 ?_
      refine lv_iconst (v := 0) hx hb dX12_where_43 (by decide) ?_
      refine cIald hx hb hK hP 7 0 rfl rfl 0 (by decide +kernel) (cIn (by decide +kernel)) dX12_where_44 ?_
      refine lv_icmp_ge (tgt := 134) hx hb dX12_where_45 (by decide) (fun c11 => ?_) (fun c11 => ?_)
      · have h := h.1 c11
        exact N134 x2_ x3_ ms ma ml _ _ _ h hP hD hS (lv_sub hl [0, 1, 2, 3] rfl)
      · have h := h.2 c11
        refine lv_aload_n hx hb dX12_where_48 rfl (lv_at hl 0 rfl) ?_
        refine va_get (D := D) (ci := 12) (v := .ref (aM 14)) (C := RX12) (T := TX12) (N := 51) hx hb hw inW_X12 hown hK hP 0 rfl rfl 24 (by decide) (hw _ mw_6_67) (fun _ h9 => h9) rfl dX12_where_49 ?_
        refine lv_iconst (v := 0) hx hb dX12_where_52 (by decide) ?_
        refine lv_iload_n hx hb dX12_where_53 rfl (lv_at hl 1 rfl) ?_
        refine cGoI (wo := fun u => wM aM C ms mw ma ml) (cRunS (As := [.int 0, .int p1]) (rest := [.ref (aM 14)]) ⟨hx, hb, hml, hown, hw⟩ hK hN hP hD [] rfl rfl (k_X12_at l D C _    0 p1 h) (va_cwS 2 hw (goodS mw_7_148 mw_7_149 mw_1_13 mw_7_150) rfl rfl rfl (by decide +kernel) ⟨Nat.le_of_ble_eq_true rfl, Nat.le_of_ble_eq_true rfl⟩) rfl hl.1 rfl (Nat.le_of_ble_eq_true rfl) dX12_where_54 ⟨Nat.zero_le _, Nat.zero_le _⟩) hP hD hS hA [] [0, 1, 2, 3, 4, 5, 6, 7, 8, 9, 10, 11, 12, 13, 14, 15, 16, 17, 18, 19, 20, 21, 22, 23, 24, 25, 26, 27, 28, 29, 30, 31, 32] [0, 1, 2, 3, 4, 5, 6, 7, 8, 9, 10, 11, 12, 13, 14, 15, 16, 17, 18, 19, 20, 21, 22, 23, 24, 25, 26, 27, 28, 29, 30, 31, 32] rfl rfl rfl (by decide) rfl (fun _ => rfl) (fun r12 u H locs h hP hD hS => ?_)
        have hP : va_P D vwCl (List.flatten (wM aM C ms mw ma ml)) H := hP
        have hD : va_D A (List.flatten (wM aM C ms mw ma ml)) := hD
        refine lv_iconst (v := 2) hx hb dX12_where_57 (by decide) ?_
        refine lv_iadd hx hb dX12_where_58 ?_
        refine lv_iload_n hx hb dX12_where_59 rfl (lv_at hl 2 rfl) ?_
        try dsimp only at h
        obtain ⟨kk_13, hkk_13⟩ : ∃ z : Nat, (r12 + 2).toNatClampNeg = z := ⟨_, rfl⟩
        rw [hkk_13] at h
        refine cIast hx hb hK hP hD hS 14 0 rfl rfl kk_13 hkk_13 h.1 dX12_where_60 (fun H locs hP hD hS => ?_)
        have h := h.2
        refine lv_aload_n hx hb dX12_where_61 rfl (lv_at hl 0 rfl) ?_
        refine lv_iload hx hb dX12_where_62 (lv_at hl 5 rfl) ?_
        have hP : va_P D vwCl (List.flatten (wM aM C ms mw (va_up ma 11 (upd (ma 11) kk_13 x2_)) ml)) H := hP
        have hD : va_D A (List.flatten (wM aM C ms mw (va_up ma 11 (upd (ma 11) kk_13 x2_)) ml)) := hD
        refine cGoI (wo := fun u => wM aM C ms mw (va_up ma 11 (upd (ma 11) kk_13 x2_)) ml) (cRunV (As := [.int x6_]) (rest := []) ⟨hx, hb, hml, hown, hw⟩ hK hN hP hD [0, 1, 2, 3, 4, 5, 6, 7, 8, 9, 10, 11, 12, 13, 14, 15, 16, 17, 18, 19, 20, 21, 22, 23, 24, 25, 26, 27, 28, 29, 30, 31, 32] rfl rfl (k_X12_standsAt l D C _ aM  ms mw (va_up ma 11 (upd (ma 11) kk_13 x2_)) ml x6_ h) (cwV 1 hw (goodV mw_8_155 mw_8_157 mw_s167 mw_1_13 mw_8_158) rfl rfl rfl (by decide +kernel) ⟨Nat.le_of_ble_eq_true rfl, Nat.le_of_ble_eq_true rfl⟩) rfl rfl rfl hl.1 rfl (Nat.le_of_ble_eq_true rfl) dX12_where_64 ⟨Nat.zero_le _, Nat.zero_le _⟩) hP hD hS hA [0, 1, 2, 3, 4, 5, 6, 7, 8, 9, 10, 11, 12, 13, 14, 15, 16, 17, 18, 19, 20, 21, 22, 23, 24, 25, 26, 27, 28, 29, 30, 31, 32] [] [0, 1, 2, 3, 4, 5, 6, 7, 8, 9, 10, 11, 12, 13, 14, 15, 16, 17, 18, 19, 20, 21, 22, 23, 24, 25, 26, 27, 28, 29, 30, 31, 32] rfl rfl rfl (by decide) rfl (fun _ => rfl) (fun r14 u H locs h hP hD hS => ?_)
        have hP : va_P D vwCl (List.flatten (wM aM C ms mw (va_up ma 11 (upd (ma 11) kk_13 x2_)) ml)) H := hP
        have hD : va_D A (List.flatten (wM aM C ms mw (va_up ma 11 (upd (ma 11) kk_13 x2_)) ml)) := hD
        refine lv_istore (lv' := [(7, .int r14), (0, .ref (aM 0)), (1, .int p1), (2, .int x2_), (3, .int x3_), (4, .long x4_), (6, .int x6_)]) hx hb dX12_where_67 hl (by decide) rfl (fun ls hl => ?_)
        refine lv_iload hx hb dX12_where_69 (lv_at hl 0 rfl) ?_
        refine lv_iconst (v := (-1)) hx hb dX12_where_71 (by decide) ?_
        refine lv_icmp_eq (tgt := 84) hx hb dX12_where_72 (by decide) (fun c15 => ?_) (fun c15 => ?_)
        · have h := h.1 c15
          exact N84 x3_ x4_ x6_ ms (va_up ma 11 (upd (ma 11) kk_13 x2_)) ml _ _ _ h hP hD hS (lv_sub hl [1, 2, 3, 4, 5, 6] rfl)
        · have h := h.2 c15
          refine lv_iload hx hb dX12_where_75 (lv_at hl 0 rfl) ?_
          refine lv_iload_n hx hb dX12_where_77 rfl (lv_at hl 2 rfl) ?_
          refine lv_icmp_eq (tgt := 84) hx hb dX12_where_78 (by decide) (fun c16 => ?_) (fun c16 => ?_)
          · have h := h.1 c16
            exact N84 x3_ x4_ x6_ ms (va_up ma 11 (upd (ma 11) kk_13 x2_)) ml _ _ _ h hP hD hS (lv_sub hl [1, 2, 3, 4, 5, 6] rfl)
          · have h := h.2 c16
            refine lv_goto (tgt := 128) hx hb dX12_where_81 (by decide) ?_
            refine lv_iinc (v := (x6_ + 1)) (lv' := [(6, .int (x6_ + 1)), (7, .int r14), (0, .ref (aM 0)), (1, .int p1), (2, .int x2_), (3, .int x3_), (4, .long x4_)]) hx hb dX12_where_128 hl (k := 6) rfl rfl (by decide) rfl (fun ls hl => ?_)
            refine lv_goto (tgt := 37) hx hb dX12_where_131 (by decide) ?_
            exact ih37 x3_ x4_ (x6_ + 1) ms (va_up ma 11 (upd (ma 11) kk_13 x2_)) ml _ _ _ h hP hD hS (lv_sub hl [2, 3, 4, 5, 6, 0] rfl)
  unfold P_X12_where at h
  refine lv_aload_n hx hb dX12_where_0 rfl (lv_at hl 0 rfl) ?_
  refine lv_iconst (v := 0) hx hb dX12_where_1 (by decide) ?_
  refine va_put (D := D) (ci := 12) (v := .int 0) (ty := .int) (C := RX12) (T := TX12) (N := 51) hx hb hw inW_X12 tyX12 tyX12_ok nmX12 hown hK hP hD hS 0 rfl rfl 0 (by decide) (hw _ mw_6_43) (fun _ h9 => h9) rfl (by decide +kernel) rfl rfl (Nat.le_of_ble_eq_true rfl) dX12_where_2 (fun H locs hP hD hS => ?_)
  refine lv_aload_n hx hb dX12_where_5 rfl (lv_at hl 0 rfl) ?_
  refine lv_iload_n hx hb dX12_where_6 rfl (lv_at hl 1 rfl) ?_
  have hP : va_P D vwCl (List.flatten (wM aM C (va_up ms 0 0) mw ma ml)) H := hP
  have hD : va_D A (List.flatten (wM aM C (va_up ms 0 0) mw ma ml)) := hD
  refine cGoI (wo := fun u => wM aM C (va_up ms 0 0) mw ma ml) (cRunV (As := [.int p1]) (rest := []) ⟨hx, hb, hml, hown, hw⟩ hK hN hP hD [0, 1, 2, 3, 4, 5, 6, 7, 8, 9, 10, 11, 12, 13, 14, 15, 16, 17, 18, 19, 20, 21, 22, 23, 24, 25, 26, 27, 28, 29, 30, 31, 32] rfl rfl (k_X12_isBike l D C _ aM  (va_up ms 0 0) mw ma ml p1 h) (cwV 1 hw (goodV mw_7_143 mw_7_145 mw_s133 mw_1_13 mw_7_146) rfl rfl rfl (by decide +kernel) ⟨Nat.le_of_ble_eq_true rfl, Nat.le_of_ble_eq_true rfl⟩) rfl rfl rfl hl.1 rfl (Nat.le_of_ble_eq_true rfl) dX12_where_7 ⟨Nat.zero_le _, Nat.zero_le _⟩) hP hD hS hA [0, 1, 2, 3, 4, 5, 6, 7, 8, 9, 10, 11, 12, 13, 14, 15, 16, 17, 18, 19, 20, 21, 22, 23, 24, 25, 26, 27, 28, 29, 30, 31, 32] [] [0, 1, 2, 3, 4, 5, 6, 7, 8, 9, 10, 11, 12, 13, 14, 15, 16, 17, 18, 19, 20, 21, 22, 23, 24, 25, 26, 27, 28, 29, 30, 31, 32] rfl rfl rfl (by decide) rfl (fun _ => rfl) (fun r17 u H locs h hP hD hS => ?_)
  have hP : va_P D vwCl (List.flatten (wM aM C (va_up ms 0 0) mw ma ml)) H := hP
  have hD : va_D A (List.flatten (wM aM C (va_up ms 0 0) mw ma ml)) := hD
  refine lv_if_ne (tgt := 16) hx hb dX12_where_10 (by decide) (fun c18 => ?_) (fun c18 => ?_)
  · have h := h.1 c18
    refine lv_aload_n hx hb dX12_where_16 rfl (lv_at hl 0 rfl) ?_
    refine va_get (D := D) (ci := 12) (v := .ref (aM 14)) (C := RX12) (T := TX12) (N := 51) hx hb hw inW_X12 hown hK hP 0 rfl rfl 24 (by decide) (hw _ mw_6_67) (fun _ h9 => h9) rfl dX12_where_17 ?_
    refine lv_iconst (v := 0) hx hb dX12_where_20 (by decide) ?_
    refine lv_iload_n hx hb dX12_where_21 rfl (lv_at hl 1 rfl) ?_
    refine cGoI (wo := fun u => wM aM C (va_up ms 0 0) mw ma ml) (cRunS (As := [.int 0, .int p1]) (rest := [.ref (aM 14)]) ⟨hx, hb, hml, hown, hw⟩ hK hN hP hD [] rfl rfl (k_X12_at l D C _    0 p1 h) (va_cwS 2 hw (goodS mw_7_148 mw_7_149 mw_1_13 mw_7_150) rfl rfl rfl (by decide +kernel) ⟨Nat.le_of_ble_eq_true rfl, Nat.le_of_ble_eq_true rfl⟩) rfl hl.1 rfl (Nat.le_of_ble_eq_true rfl) dX12_where_22 ⟨Nat.zero_le _, Nat.zero_le _⟩) hP hD hS hA [] [0, 1, 2, 3, 4, 5, 6, 7, 8, 9, 10, 11, 12, 13, 14, 15, 16, 17, 18, 19, 20, 21, 22, 23, 24, 25, 26, 27, 28, 29, 30, 31, 32] [0, 1, 2, 3, 4, 5, 6, 7, 8, 9, 10, 11, 12, 13, 14, 15, 16, 17, 18, 19, 20, 21, 22, 23, 24, 25, 26, 27, 28, 29, 30, 31, 32] rfl rfl rfl (by decide) rfl (fun _ => rfl) (fun r19 u H locs h hP hD hS => ?_)
    have hP : va_P D vwCl (List.flatten (wM aM C (va_up ms 0 0) mw ma ml)) H := hP
    have hD : va_D A (List.flatten (wM aM C (va_up ms 0 0) mw ma ml)) := hD
    refine lv_iconst (v := 2) hx hb dX12_where_25 (by decide) ?_
    refine lv_iadd hx hb dX12_where_26 ?_
    try dsimp only at h
    obtain ⟨kk_20, hkk_20⟩ : ∃ z : Nat, (r19 + 2).toNatClampNeg = z := ⟨_, rfl⟩
    rw [hkk_20] at h
    refine cIald hx hb hK hP 14 0 rfl rfl kk_20 hkk_20 h.1 dX12_where_27 ?_
    have h := h.2
    refine lv_topi (fun x21 ex21 => ?_)
    have h := h x21 ex21
    refine lv_istore_n (lv' := [(2, .int x21), (0, .ref (aM 0)), (1, .int p1)]) hx hb dX12_where_28 rfl hl (by decide) rfl (fun ls hl => ?_)
    refine lv_iconst (v := (-1)) hx hb dX12_where_29 (by decide) ?_
    refine lv_istore_n (lv' := [(3, .int (-1)), (2, .int x21), (0, .ref (aM 0)), (1, .int p1)]) hx hb dX12_where_30 rfl hl (by decide) rfl (fun ls hl => ?_)
    refine lv_lconst (v := 0) hx hb dX12_where_31 (by decide) ?_
    refine lv_lstore (lv' := [(4, .long 0), (3, .int (-1)), (2, .int x21), (0, .ref (aM 0)), (1, .int p1)]) hx hb dX12_where_32 hl (by decide) rfl (fun ls hl => ?_)
    refine lv_iconst (v := 0) hx hb dX12_where_34 (by decide) ?_
    refine lv_istore (lv' := [(6, .int 0), (4, .long 0), (3, .int (-1)), (2, .int x21), (0, .ref (aM 0)), (1, .int p1)]) hx hb dX12_where_35 hl (by decide) rfl (fun ls hl => ?_)
    obtain ⟨n, h⟩ := h
    exact N37 x21 n (-1) 0 0 (va_up ms 0 0) ma ml _ _ _ h hP hD hS (lv_sub hl [4, 5, 3, 2, 1, 0] rfl)
  · have h := h.2 c18
    refine lv_bipush (v := (-2)) hx hb dX12_where_13 (by decide) ?_
    rw [← hQ]
    exact cRetI (v := (-2)) ((va_up ms 0 0), ma, ml) hx hb hr hlocks hS hP hD h dX12_where_15
abbrev vsX12_litBy : List Cond := Cond.code yX12_litBy cX12_litBy 5 (some .long) :: WS
abbrev rmX12_litBy : Room := { frames := 6, cells := 0, slots := 0, locals := 143 }
set_option maxHeartbeats 4000000 in
set_option maxRecDepth 100000 in
theorem k_X12_litBy (l : Launch) (D : va_G) (C : Nat → ClassId) (sz : Nat) (aM : Nat → Nat)  (ms : Nat → Int32) (mw : Nat → Int64) (ma : Nat → Nat → Int32) (ml : Nat → Nat → Int64) (p1 : Int32) (p2 : Int32) {post : Int64 → (Nat → Int32) → (Nat → Nat → Int32) → (Nat → Nat → Int64) → Prop} (h : P_X12_litBy ms ma ml p1 p2 post) : Met l yX12_litBy vsX12_litBy rmX12_litBy (cPre D C [.ref (aM 0), .int p1, .int p2] sz (wM aM C ms mw ma ml)) (cQl D (fun (r : Int64) (u : (Nat → Int32) × (Nat → Nat → Int32) × (Nat → Nat → Int64)) => post r u.1 u.2.1 u.2.2) (fun u => wM aM C u.1 mw u.2.1 u.2.2) (va_A (List.flatten (wM aM C ms mw ma ml)) sz)) 0 0 (va_A (List.flatten (wM aM C ms mw ma ml)) sz) := by
  refine cStart (QA := fun A => cQl D (fun (r : Int64) (u : (Nat → Int32) × (Nat → Nat → Int32) × (Nat → Nat → Int64)) => post r u.1 u.2.1 u.2.2) (fun u => wM aM C u.1 mw u.2.1 u.2.2) A) (cc := cX12_litBy) (maxL := 5) (ret := (some .long)) (by decide) (Nat.le_of_ble_eq_true rfl) ?_
  intro p e s m args below meth c A ls hx hb hr hml hown hw hlocks hname hK hN hA hP hD hS hl
  generalize hQ : MQ below _ args s 0 0 A = Q
  have hl : lv_has ls 5 [(0, .ref (aM 0)), (1, .int p1), (2, .int p2)] := hl
  obtain ⟨H, hH⟩ : ∃ H, H = s.heap := ⟨_, rfl⟩
  obtain ⟨locs, hlo⟩ : ∃ z : List Loc, z = [] := ⟨_, rfl⟩
  have hP : va_P D vwCl (List.flatten (wM aM C ms mw ma ml)) H := by rw [hH]; exact hP
  have hS : va_S A s.heap H locs := by rw [hH, hlo]; exact hS
  rw [show W p l e rmX12_litBy s m args below meth c s.heap [] 0 0 Q (F0 m 0 ls []) = W p l e rmX12_litBy s m args below meth c H locs 0 0 Q (F0 m 0 ls []) from by rw [hH, hlo]]
  refine lv_aload_n hx hb dX12_litBy_0 rfl (lv_at hl 0 rfl) ?_
  refine lv_iload_n hx hb dX12_litBy_1 rfl (lv_at hl 1 rfl) ?_
  refine va_put (D := D) (ci := 12) (v := .int p1) (ty := .int) (C := RX12) (T := TX12) (N := 51) hx hb hw inW_X12 tyX12 tyX12_ok nmX12 hown hK hP hD hS 0 rfl rfl 31 (by decide) (hw _ mw_6_74) (fun _ h9 => h9) rfl (by decide +kernel) rfl rfl (Nat.le_of_ble_eq_true rfl) dX12_litBy_2 (fun H locs hP hD hS => ?_)
  refine lv_aload_n hx hb dX12_litBy_5 rfl (lv_at hl 0 rfl) ?_
  refine lv_iload_n hx hb dX12_litBy_6 rfl (lv_at hl 2 rfl) ?_
  refine va_put (D := D) (ci := 12) (v := .int p2) (ty := .int) (C := RX12) (T := TX12) (N := 51) hx hb hw inW_X12 tyX12 tyX12_ok nmX12 hown hK hP hD hS 0 rfl rfl 32 (by decide) (hw _ mw_6_75) (fun _ h9 => h9) rfl (by decide +kernel) rfl rfl (Nat.le_of_ble_eq_true rfl) dX12_litBy_7 (fun H locs hP hD hS => ?_)
  refine lv_aload_n hx hb dX12_litBy_10 rfl (lv_at hl 0 rfl) ?_
  refine lv_iconst (v := 1) hx hb dX12_litBy_11 (by decide) ?_
  have hP : va_P D vwCl (List.flatten (wM aM C (va_up (va_up ms 10 p1) 11 p2) mw ma ml)) H := hP
  have hD : va_D A (List.flatten (wM aM C (va_up (va_up ms 10 p1) 11 p2) mw ma ml)) := hD
  refine cGoL (wo := fun u => wM aM C u.1 mw u.2.1 u.2.2) (cRunV (As := [.int 1]) (rest := []) ⟨hx, hb, hml, hown, hw⟩ hK hN hP hD [0, 1, 2, 3, 4, 5, 6, 7, 8, 9, 10, 11, 12, 13, 14, 15, 16, 17, 18, 19, 20, 21, 22, 23, 24, 25, 26, 27, 28, 29, 30, 31, 32] rfl rfl (k_X12_allNow l D C _ aM  (va_up (va_up ms 10 p1) 11 p2) mw ma ml 1 h) (cwV 1 hw (goodV mw_8_28 mw_8_30 mw_s151 mw_1_13 mw_8_31) rfl rfl rfl (by decide +kernel) ⟨Nat.le_of_ble_eq_true rfl, Nat.le_of_ble_eq_true rfl⟩) rfl rfl rfl hl.1 rfl (Nat.le_of_ble_eq_true rfl) dX12_litBy_12 ⟨Nat.zero_le _, Nat.zero_le _⟩) hP hD hS hA [0, 1, 2, 3, 4, 5, 6, 7, 8, 9, 10, 11, 12, 13, 14, 15, 16, 17, 18, 19, 20, 21, 22, 23, 24, 25, 26, 27, 28, 29, 30, 31, 32] [] [0, 1, 2, 3, 4, 5, 6, 7, 8, 9, 10, 11, 12, 13, 14, 15, 16, 17, 18, 19, 20, 21, 22, 23, 24, 25, 26, 27, 28, 29, 30, 31, 32] rfl rfl rfl (by decide) rfl (fun _ => rfl) (fun r4 u H locs h hP hD hS => ?_)
  obtain ⟨ms_1, ma_2, ml_3⟩ := u
  have hP : va_P D vwCl (List.flatten (wM aM C ms_1 mw ma_2 ml_3)) H := hP
  have hD : va_D A (List.flatten (wM aM C ms_1 mw ma_2 ml_3)) := hD
  refine lv_lstore_n (lv' := [(3, .long r4), (0, .ref (aM 0)), (1, .int p1), (2, .int p2)]) hx hb dX12_litBy_15 rfl hl (by decide) rfl (fun ls hl => ?_)
  refine lv_aload_n hx hb dX12_litBy_16 rfl (lv_at hl 1 rfl) ?_
  refine lv_iconst (v := 0) hx hb dX12_litBy_17 (by decide) ?_
  refine va_put (D := D) (ci := 12) (v := .int 0) (ty := .int) (C := RX12) (T := TX12) (N := 51) hx hb hw inW_X12 tyX12 tyX12_ok nmX12 hown hK hP hD hS 0 rfl rfl 32 (by decide) (hw _ mw_6_75) (fun _ h9 => h9) rfl (by decide +kernel) rfl rfl (Nat.le_of_ble_eq_true rfl) dX12_litBy_18 (fun H locs hP hD hS => ?_)
  refine lv_aload_n hx hb dX12_litBy_21 rfl (lv_at hl 1 rfl) ?_
  refine lv_iconst (v := 0) hx hb dX12_litBy_22 (by decide) ?_
  refine va_put (D := D) (ci := 12) (v := .int 0) (ty := .int) (C := RX12) (T := TX12) (N := 51) hx hb hw inW_X12 tyX12 tyX12_ok nmX12 hown hK hP hD hS 0 rfl rfl 31 (by decide) (hw _ mw_6_74) (fun _ h9 => h9) rfl (by decide +kernel) rfl rfl (Nat.le_of_ble_eq_true rfl) dX12_litBy_23 (fun H locs hP hD hS => ?_)
  refine lv_lload_n hx hb dX12_litBy_26 rfl (lv_at hl 0 rfl) ?_
  have hP : va_P D vwCl (List.flatten (wM aM C (va_up (va_up ms_1 10 0) 11 0) mw ma_2 ml_3)) H := hP
  have hD : va_D A (List.flatten (wM aM C (va_up (va_up ms_1 10 0) 11 0) mw ma_2 ml_3)) := hD
  rw [← hQ]
  exact cRetL (v := r4) ((va_up (va_up ms_1 10 0) 11 0), ma_2, ml_3) hx hb hr hlocks hS hP hD h dX12_litBy_27
abbrev vsX12_isBright : List Cond := Cond.code yX12_isBright cX12_isBright 1 (some .boolean) :: WS
abbrev rmX12_isBright : Room := { frames := 1, cells := 0, slots := 0, locals := 25 }
set_option maxHeartbeats 4000000 in
set_option maxRecDepth 100000 in
theorem k_X12_isBright (l : Launch) (D : va_G) (C : Nat → ClassId) (sz : Nat)    (p1 : Int32) {post : Int32 → Prop} (h : P_X12_isBright p1 post) : Met l yX12_isBright vsX12_isBright rmX12_isBright (cPre D C [.int p1] sz (([] : List va_W))) (cQi D (fun (r : Int32) (u : Unit) => post r ) (fun u => ([] : List va_W)) (va_A (List.flatten (([] : List va_W))) sz)) 0 0 (va_A (List.flatten (([] : List va_W))) sz) := by
  refine cStart (QA := fun A => cQi D (fun (r : Int32) (u : Unit) => post r ) (fun u => ([] : List va_W)) A) (cc := cX12_isBright) (maxL := 1) (ret := (some .boolean)) (by decide) (Nat.le_of_ble_eq_true rfl) ?_
  intro p e s m args below meth c A ls hx hb hr hml hown hw hlocks hname hK hN hA hP hD hS hl
  generalize hQ : MQ below _ args s 0 0 A = Q
  have hl : lv_has ls 1 [(0, .int p1)] := hl
  obtain ⟨H, hH⟩ : ∃ H, H = s.heap := ⟨_, rfl⟩
  obtain ⟨locs, hlo⟩ : ∃ z : List Loc, z = [] := ⟨_, rfl⟩
  have hP : va_P D vwCl (List.flatten (([] : List va_W))) H := by rw [hH]; exact hP
  have hS : va_S A s.heap H locs := by rw [hH, hlo]; exact hS
  rw [show W p l e rmX12_isBright s m args below meth c s.heap [] 0 0 Q (F0 m 0 ls []) = W p l e rmX12_isBright s m args below meth c H locs 0 0 Q (F0 m 0 ls []) from by rw [hH, hlo]]
  refine lv_iload_n hx hb dX12_isBright_0 rfl (lv_at hl 0 rfl) ?_
  refine lv_i2l hx hb dX12_isBright_1 rfl ?_
  refine lv_lconst (v := 0) hx hb dX12_isBright_2 (by decide) ?_
  refine lv_ldc2 (v := 99) hx hb hown (hw _ mw_8_174) dX12_isBright_3 ?_
  refine cGoI (wo := fun u => ([] : List va_W)) (cRunS (As := [.long p1.toInt64, .long 0, .long 99]) (rest := []) ⟨hx, hb, hml, hown, hw⟩ hK hN hP hD [] rfl rfl (k_X12_in l D C _    p1.toInt64 0 99 h) (va_cwS 3 hw (goodS mw_6_205 mw_6_206 mw_1_13 mw_6_207) rfl rfl rfl (by decide +kernel) ⟨Nat.le_of_ble_eq_true rfl, Nat.le_of_ble_eq_true rfl⟩) rfl hl.1 rfl (Nat.le_of_ble_eq_true rfl) dX12_isBright_6 ⟨Nat.zero_le _, Nat.zero_le _⟩) hP hD hS hA [] [] [] rfl rfl rfl (by decide) rfl (fun _ => rfl) (fun r1 u H locs h hP hD hS => ?_)
  have hP : va_P D vwCl (List.flatten (([] : List va_W))) H := hP
  have hD : va_D A (List.flatten (([] : List va_W))) := hD
  rw [← hQ]
  exact cRetZ (v := r1) () hx hb hr hlocks hS hP hD h.1 h.2 dX12_isBright_9

