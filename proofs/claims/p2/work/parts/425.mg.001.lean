abbrev vsX12_rather : List Cond := Cond.code yX12_rather cX12_rather 5 (some .int) :: WS
abbrev rmX12_rather : Room := { frames := 4, cells := 0, slots := 0, locals := 100 }
set_option maxHeartbeats 4000000 in
set_option maxRecDepth 100000 in
theorem k_X12_rather (l : Launch) (D : va_G) (C : Nat → ClassId) (sz : Nat) (aM : Nat → Nat)  (ms : Nat → Int32) (mw : Nat → Int64) (ma : Nat → Nat → Int32) (ml : Nat → Nat → Int64) (p1 : Int32) (p2 : Int32) {post : Int32 → (Nat → Int32) → Prop} (h : P_X12_rather ms ma p1 p2 post) : Met l yX12_rather vsX12_rather rmX12_rather (cPre D C [.ref (aM 0), .int p1, .int p2] sz (wM aM C ms mw ma ml)) (cQi D (fun (r : Int32) (u : (Nat → Int32)) => post r u) (fun u => wM aM C u mw ma ml) (va_A (List.flatten (wM aM C ms mw ma ml)) sz)) 0 0 (va_A (List.flatten (wM aM C ms mw ma ml)) sz) := by
  refine cStart (QA := fun A => cQi D (fun (r : Int32) (u : (Nat → Int32)) => post r u) (fun u => wM aM C u mw ma ml) A) (cc := cX12_rather) (maxL := 5) (ret := (some .int)) (by decide) (Nat.le_of_ble_eq_true rfl) ?_
  intro p e s m args below meth c A ls hx hb hr hml hown hw hlocks hname hK hN hA hP hD hS hl
  generalize hQ : MQ below _ args s 0 0 A = Q
  have hl : lv_has ls 5 [(0, .ref (aM 0)), (1, .int p1), (2, .int p2)] := hl
  obtain ⟨H, hH⟩ : ∃ H, H = s.heap := ⟨_, rfl⟩
  obtain ⟨locs, hlo⟩ : ∃ z : List Loc, z = [] := ⟨_, rfl⟩
  have hP : va_P D vwCl (List.flatten (wM aM C ms mw ma ml)) H := by rw [hH]; exact hP
  have hS : va_S A s.heap H locs := by rw [hH, hlo]; exact hS
  rw [show W p l e rmX12_rather s m args below meth c s.heap [] 0 0 Q (F0 m 0 ls []) = W p l e rmX12_rather s m args below meth c H locs 0 0 Q (F0 m 0 ls []) from by rw [hH, hlo]]
  have N67 : ∀ (x3_ : Int32) (x4_ : Int32) (ms : Nat → Int32) (H : Heap) (locs : List Loc) (ls : Array Slot), P_X12_rather_67 ma p1 p2 post  x3_ x4_ ms → va_P D vwCl (List.flatten (wM aM C ms mw ma ml)) H → va_D A (List.flatten (wM aM C ms mw ma ml)) → va_S A s.heap H locs → lv_has ls 5 [(3, .int x3_), (4, .int x4_)] → W p l e rmX12_rather s m args below meth c H locs 0 0 Q (F0 m 67 ls []) := by
    intro x3_ x4_ ms H locs ls h hP hD hS hl
    refine lv_iload hx hb dX12_rather_67 (lv_at hl 1 rfl) ?_
    refine lv_iload_n hx hb dX12_rather_69 rfl (lv_at hl 0 rfl) ?_
    refine lv_icmp_le (tgt := 77) hx hb dX12_rather_70 (by decide) (fun c1 => ?_) (fun c1 => ?_)
    · have h := h.1 c1
      refine lv_iconst (v := 0) hx hb dX12_rather_77 (by decide) ?_
      rw [← hQ]
      exact cRetI (v := 0) (ms) hx hb hr hlocks hS hP hD h dX12_rather_78
    · have h := h.2 c1
      refine lv_iconst (v := 1) hx hb dX12_rather_73 (by decide) ?_
      refine lv_goto (tgt := 78) hx hb dX12_rather_74 (by decide) ?_
      rw [← hQ]
      exact cRetI (v := 1) (ms) hx hb hr hlocks hS hP hD h dX12_rather_78
  refine lv_aload_n hx hb dX12_rather_0 rfl (lv_at hl 0 rfl) ?_
  refine lv_iconst (v := 0) hx hb dX12_rather_1 (by decide) ?_
  refine va_put (D := D) (ci := 12) (v := .int 0) (ty := .int) (C := RX12) (T := TX12) (N := 51) hx hb hw inW_X12 tyX12 tyX12_ok nmX12 hown hK hP hD hS 0 rfl rfl 0 (by decide) (hw _ mw_6_43) (fun _ h9 => h9) rfl (by decide +kernel) rfl rfl (Nat.le_of_ble_eq_true rfl) dX12_rather_2 (fun H locs hP hD hS => ?_)
  refine lv_aload_n hx hb dX12_rather_5 rfl (lv_at hl 0 rfl) ?_
  refine lv_iload_n hx hb dX12_rather_6 rfl (lv_at hl 1 rfl) ?_
  have hP : va_P D vwCl (List.flatten (wM aM C (va_up ms 0 0) mw ma ml)) H := hP
  have hD : va_D A (List.flatten (wM aM C (va_up ms 0 0) mw ma ml)) := hD
  refine cGoI (wo := fun u => wM aM C (va_up ms 0 0) mw ma ml) (cRunV (As := [.int p1]) (rest := []) ⟨hx, hb, hml, hown, hw⟩ hK hN hP hD [0, 1, 2, 3, 4, 5, 6, 7, 8, 9, 10, 11, 12, 13, 14, 15, 16, 17, 18, 19, 20, 21, 22, 23, 24, 25, 26, 27, 28, 29, 30, 31, 32] rfl rfl (k_X12_isThief l D C _ aM  (va_up ms 0 0) mw ma ml p1 h) (cwV 1 hw (goodV mw_7_155 mw_7_157 mw_s134 mw_1_13 mw_7_158) rfl rfl rfl (by decide +kernel) ⟨Nat.le_of_ble_eq_true rfl, Nat.le_of_ble_eq_true rfl⟩) rfl rfl rfl hl.1 rfl (Nat.le_of_ble_eq_true rfl) dX12_rather_7 ⟨Nat.zero_le _, Nat.zero_le _⟩) hP hD hS hA [0, 1, 2, 3, 4, 5, 6, 7, 8, 9, 10, 11, 12, 13, 14, 15, 16, 17, 18, 19, 20, 21, 22, 23, 24, 25, 26, 27, 28, 29, 30, 31, 32] [] [0, 1, 2, 3, 4, 5, 6, 7, 8, 9, 10, 11, 12, 13, 14, 15, 16, 17, 18, 19, 20, 21, 22, 23, 24, 25, 26, 27, 28, 29, 30, 31, 32] rfl rfl rfl (by decide) rfl (fun _ => rfl) (fun r2 u H locs h hP hD hS => ?_)
  have hP : va_P D vwCl (List.flatten (wM aM C (va_up ms 0 0) mw ma ml)) H := hP
  have hD : va_D A (List.flatten (wM aM C (va_up ms 0 0) mw ma ml)) := hD
  refine lv_if_eq (tgt := 34) hx hb dX12_rather_10 (by decide) (fun c3 => ?_) (fun c3 => ?_)
  · have h := h.1 c3
    refine lv_bipush (v := (-2)) hx hb dX12_rather_34 (by decide) ?_
    rw [← hQ]
    exact cRetI (v := (-2)) ((va_up ms 0 0)) hx hb hr hlocks hS hP hD h dX12_rather_36
  · have h := h.2 c3
    refine lv_iload_n hx hb dX12_rather_13 rfl (lv_at hl 2 rfl) ?_
    refine lv_i2l hx hb dX12_rather_14 rfl ?_
    refine lv_lconst (v := 0) hx hb dX12_rather_15 (by decide) ?_
    refine lv_ldc2 (v := 2) hx hb hown (hw _ mw_8_1) dX12_rather_16 ?_
    refine cGoI (wo := fun u => wM aM C (va_up ms 0 0) mw ma ml) (cRunS (As := [.long p2.toInt64, .long 0, .long 2]) (rest := []) ⟨hx, hb, hml, hown, hw⟩ hK hN hP hD [] rfl rfl (k_X12_in l D C _    p2.toInt64 0 2 h) (va_cwS 3 hw (goodS mw_6_205 mw_6_206 mw_1_13 mw_6_207) rfl rfl rfl (by decide +kernel) ⟨Nat.le_of_ble_eq_true rfl, Nat.le_of_ble_eq_true rfl⟩) rfl hl.1 rfl (Nat.le_of_ble_eq_true rfl) dX12_rather_19 ⟨Nat.zero_le _, Nat.zero_le _⟩) hP hD hS hA [] [0, 1, 2, 3, 4, 5, 6, 7, 8, 9, 10, 11, 12, 13, 14, 15, 16, 17, 18, 19, 20, 21, 22, 23, 24, 25, 26, 27, 28, 29, 30, 31, 32] [0, 1, 2, 3, 4, 5, 6, 7, 8, 9, 10, 11, 12, 13, 14, 15, 16, 17, 18, 19, 20, 21, 22, 23, 24, 25, 26, 27, 28, 29, 30, 31, 32] rfl rfl rfl (by decide) rfl (fun _ => rfl) (fun r4 u H locs h hP hD hS => ?_)
    have hP : va_P D vwCl (List.flatten (wM aM C (va_up ms 0 0) mw ma ml)) H := hP
    have hD : va_D A (List.flatten (wM aM C (va_up ms 0 0) mw ma ml)) := hD
    refine lv_if_eq (tgt := 34) hx hb dX12_rather_22 (by decide) (fun c5 => ?_) (fun c5 => ?_)
    · have h := h.1 c5
      refine lv_bipush (v := (-2)) hx hb dX12_rather_34 (by decide) ?_
      rw [← hQ]
      exact cRetI (v := (-2)) ((va_up ms 0 0)) hx hb hr hlocks hS hP hD h dX12_rather_36
    · have h := h.2 c5
      refine lv_aload_n hx hb dX12_rather_25 rfl (lv_at hl 0 rfl) ?_
      refine va_get (D := D) (ci := 12) (v := .ref (aM 20)) (C := RX12) (T := TX12) (N := 51) hx hb hw inW_X12 hown hK hP 0 rfl rfl 30 (by decide) (hw _ mw_6_73) (fun _ h9 => h9) rfl dX12_rather_26 ?_
      refine lv_iload_n hx hb dX12_rather_29 rfl (lv_at hl 2 rfl) ?_
      refine cZald hx hb hK hP 20 3 rfl rfl p2.toNatClampNeg rfl h.1 dX12_rather_30 ?_
      have h := h.2
      refine lv_if_ne (tgt := 37) hx hb dX12_rather_31 (by decide) (fun c6 => ?_) (fun c6 => ?_)
      · have h := h.1 c6
        refine lv_aload_n hx hb dX12_rather_37 rfl (lv_at hl 0 rfl) ?_
        refine lv_iload_n hx hb dX12_rather_38 rfl (lv_at hl 1 rfl) ?_
        refine lv_iconst (v := 0) hx hb dX12_rather_39 (by decide) ?_
        refine cGoI (wo := fun u => wM aM C (va_up ms 0 0) mw ma ml) (cRunV (As := [.int p1, .int 0]) (rest := []) ⟨hx, hb, hml, hown, hw⟩ hK hN hP hD [0, 1, 2, 3, 4, 5, 6, 7, 8, 9, 10, 11, 12, 13, 14, 15, 16, 17, 18, 19, 20, 21, 22, 23, 24, 25, 26, 27, 28, 29, 30, 31, 32] rfl rfl (k_X12_netOn l D C _ aM  (va_up ms 0 0) mw ma ml p1 0 h) (cwV 2 hw (goodV mw_9_35 mw_9_37 mw_s178 mw_1_13 mw_9_38) rfl rfl rfl (by decide +kernel) ⟨Nat.le_of_ble_eq_true rfl, Nat.le_of_ble_eq_true rfl⟩) rfl rfl rfl hl.1 rfl (Nat.le_of_ble_eq_true rfl) dX12_rather_40 ⟨Nat.zero_le _, Nat.zero_le _⟩) hP hD hS hA [0, 1, 2, 3, 4, 5, 6, 7, 8, 9, 10, 11, 12, 13, 14, 15, 16, 17, 18, 19, 20, 21, 22, 23, 24, 25, 26, 27, 28, 29, 30, 31, 32] [] [0, 1, 2, 3, 4, 5, 6, 7, 8, 9, 10, 11, 12, 13, 14, 15, 16, 17, 18, 19, 20, 21, 22, 23, 24, 25, 26, 27, 28, 29, 30, 31, 32] rfl rfl rfl (by decide) rfl (fun _ => rfl) (fun r7 u H locs h hP hD hS => ?_)
        have hP : va_P D vwCl (List.flatten (wM aM C (va_up ms 0 0) mw ma ml)) H := hP
        have hD : va_D A (List.flatten (wM aM C (va_up ms 0 0) mw ma ml)) := hD
        refine lv_istore_n (lv' := [(3, .int r7), (0, .ref (aM 0)), (1, .int p1), (2, .int p2)]) hx hb dX12_rather_43 rfl hl (by decide) rfl (fun ls hl => ?_)
        refine lv_aload_n hx hb dX12_rather_44 rfl (lv_at hl 1 rfl) ?_
        refine lv_iload_n hx hb dX12_rather_45 rfl (lv_at hl 2 rfl) ?_
        refine lv_iconst (v := 1) hx hb dX12_rather_46 (by decide) ?_
        refine lv_iload_n hx hb dX12_rather_47 rfl (lv_at hl 3 rfl) ?_
        refine lv_iadd hx hb dX12_rather_48 ?_
        refine cGoI (wo := fun u => wM aM C (va_up ms 0 0) mw ma ml) (cRunV (As := [.int p1, .int (1 + p2)]) (rest := []) ⟨hx, hb, hml, hown, hw⟩ hK hN hP hD [0, 1, 2, 3, 4, 5, 6, 7, 8, 9, 10, 11, 12, 13, 14, 15, 16, 17, 18, 19, 20, 21, 22, 23, 24, 25, 26, 27, 28, 29, 30, 31, 32] rfl rfl (k_X12_netOn l D C _ aM  (va_up ms 0 0) mw ma ml p1 (1 + p2) h) (cwV 2 hw (goodV mw_9_35 mw_9_37 mw_s178 mw_1_13 mw_9_38) rfl rfl rfl (by decide +kernel) ⟨Nat.le_of_ble_eq_true rfl, Nat.le_of_ble_eq_true rfl⟩) rfl rfl rfl hl.1 rfl (Nat.le_of_ble_eq_true rfl) dX12_rather_49 ⟨Nat.zero_le _, Nat.zero_le _⟩) hP hD hS hA [0, 1, 2, 3, 4, 5, 6, 7, 8, 9, 10, 11, 12, 13, 14, 15, 16, 17, 18, 19, 20, 21, 22, 23, 24, 25, 26, 27, 28, 29, 30, 31, 32] [] [0, 1, 2, 3, 4, 5, 6, 7, 8, 9, 10, 11, 12, 13, 14, 15, 16, 17, 18, 19, 20, 21, 22, 23, 24, 25, 26, 27, 28, 29, 30, 31, 32] rfl rfl rfl (by decide) rfl (fun _ => rfl) (fun r8 u H locs h hP hD hS => ?_)
        have hP : va_P D vwCl (List.flatten (wM aM C (va_up ms 0 0) mw ma ml)) H := hP
        have hD : va_D A (List.flatten (wM aM C (va_up ms 0 0) mw ma ml)) := hD
        refine lv_istore (lv' := [(4, .int r8), (3, .int r7), (0, .ref (aM 0)), (1, .int p1), (2, .int p2)]) hx hb dX12_rather_52 hl (by decide) rfl (fun ls hl => ?_)
        refine lv_iload_n hx hb dX12_rather_54 rfl (lv_at hl 1 rfl) ?_
        refine lv_if_ne (tgt := 67) hx hb dX12_rather_55 (by decide) (fun c9 => ?_) (fun c9 => ?_)
        · have h := h.1 c9
          exact N67 r7 r8 (va_up ms 0 0) _ _ _ h hP hD hS (lv_sub hl [1, 0] rfl)
        · have h := h.2 c9
          refine lv_iload hx hb dX12_rather_58 (lv_at hl 0 rfl) ?_
          refine lv_if_ne (tgt := 67) hx hb dX12_rather_60 (by decide) (fun c10 => ?_) (fun c10 => ?_)
          · have h := h.1 c10
            exact N67 r7 r8 (va_up ms 0 0) _ _ _ h hP hD hS (lv_sub hl [1, 0] rfl)
          · have h := h.2 c10
            refine lv_iconst (v := (-1)) hx hb dX12_rather_63 (by decide) ?_
            refine lv_goto (tgt := 78) hx hb dX12_rather_64 (by decide) ?_
            rw [← hQ]
            exact cRetI (v := (-1)) ((va_up ms 0 0)) hx hb hr hlocks hS hP hD h dX12_rather_78
      · have h := h.2 c6
        refine lv_bipush (v := (-2)) hx hb dX12_rather_34 (by decide) ?_
        rw [← hQ]
        exact cRetI (v := (-2)) ((va_up ms 0 0)) hx hb hr hlocks hS hP hD h dX12_rather_36
abbrev vsX12_draw : List Cond := Cond.code yX12_draw cX12_draw 1 (some .int) :: WS
abbrev rmX12_draw : Room := { frames := 0, cells := 0, slots := 0, locals := 0 }
set_option maxHeartbeats 4000000 in
set_option maxRecDepth 100000 in
theorem k_X12_draw (l : Launch) (D : va_G) (C : Nat → ClassId) (sz : Nat) (aM : Nat → Nat)  (ms : Nat → Int32) (mw : Nat → Int64) (ma : Nat → Nat → Int32) (ml : Nat → Nat → Int64)  {post : Int32 → (Nat → Int64) → Prop} (h : P_X12_draw mw post) : Met l yX12_draw vsX12_draw rmX12_draw (cPre D C [.ref (aM 0)] sz (wM aM C ms mw ma ml)) (cQi D (fun (r : Int32) (u : (Nat → Int64)) => post r u) (fun u => wM aM C ms u ma ml) (va_A (List.flatten (wM aM C ms mw ma ml)) sz)) 0 0 (va_A (List.flatten (wM aM C ms mw ma ml)) sz) := by
  refine cStart (QA := fun A => cQi D (fun (r : Int32) (u : (Nat → Int64)) => post r u) (fun u => wM aM C ms u ma ml) A) (cc := cX12_draw) (maxL := 1) (ret := (some .int)) (by decide) (Nat.le_of_ble_eq_true rfl) ?_
  intro p e s m args below meth c A ls hx hb hr hml hown hw hlocks hname hK hN hA hP hD hS hl
  generalize hQ : MQ below _ args s 0 0 A = Q
  have hl : lv_has ls 1 [(0, .ref (aM 0))] := hl
  obtain ⟨H, hH⟩ : ∃ H, H = s.heap := ⟨_, rfl⟩
  obtain ⟨locs, hlo⟩ : ∃ z : List Loc, z = [] := ⟨_, rfl⟩
  have hP : va_P D vwCl (List.flatten (wM aM C ms mw ma ml)) H := by rw [hH]; exact hP
  have hS : va_S A s.heap H locs := by rw [hH, hlo]; exact hS
  rw [show W p l e rmX12_draw s m args below meth c s.heap [] 0 0 Q (F0 m 0 ls []) = W p l e rmX12_draw s m args below meth c H locs 0 0 Q (F0 m 0 ls []) from by rw [hH, hlo]]
  refine lv_aload_n hx hb dX12_draw_0 rfl (lv_at hl 0 rfl) ?_
  refine lv_ldc2 (v := 1103515245) hx hb hown (hw _ mw_9_59) dX12_draw_1 ?_
  refine lv_aload_n hx hb dX12_draw_4 rfl (lv_at hl 0 rfl) ?_
  refine va_get (D := D) (ci := 12) (v := .long (mw 4)) (C := RX12) (T := TX12) (N := 51) hx hb hw inW_X12 hown hK hP 0 rfl rfl 50 (by decide) (hw _ mw_6_93) (fun _ h9 => h9) rfl dX12_draw_5 ?_
  refine lv_lmul hx hb dX12_draw_8 ?_
  refine lv_ldc2 (v := 12345) hx hb hown (hw _ mw_9_60) dX12_draw_9 ?_
  refine lv_ladd hx hb dX12_draw_12 ?_
  refine lv_ldc2 (v := 2147483648) hx hb hown (hw _ mw_9_61) dX12_draw_13 ?_
  refine lv_lrem hx hb dX12_draw_16 (by decide) ?_
  refine lv_topl (fun x1 ex1 => ?_)
  have h := h x1 ex1
  refine va_put (D := D) (ci := 12) (v := .long x1) (ty := .long) (C := RX12) (T := TX12) (N := 51) hx hb hw inW_X12 tyX12 tyX12_ok nmX12 hown hK hP hD hS 0 rfl rfl 50 (by decide) (hw _ mw_6_93) (fun _ h9 => h9) rfl (by decide +kernel) rfl rfl (Nat.le_of_ble_eq_true rfl) dX12_draw_17 (fun H locs hP hD hS => ?_)
  refine lv_aload_n hx hb dX12_draw_20 rfl (lv_at hl 0 rfl) ?_
  refine va_get (D := D) (ci := 12) (v := .long x1) (C := RX12) (T := TX12) (N := 51) hx hb hw inW_X12 hown hK hP 0 rfl rfl 50 (by decide) (hw _ mw_6_93) (fun _ h9 => h9) rfl dX12_draw_21 ?_
  refine lv_ldc2 (v := 65536) hx hb hown (hw _ mw_9_62) dX12_draw_24 ?_
  refine lv_ldiv hx hb dX12_draw_27 (by decide) ?_
  refine lv_ldc2 (v := 100) hx hb hown (hw _ mw_7_163) dX12_draw_28 ?_
  refine lv_lrem hx hb dX12_draw_31 (by decide) ?_
  refine lv_l2i hx hb dX12_draw_32 rfl ?_
  have hP : va_P D vwCl (List.flatten (wM aM C ms (va_up mw 4 x1) ma ml)) H := hP
  have hD : va_D A (List.flatten (wM aM C ms (va_up mw 4 x1) ma ml)) := hD
  rw [← hQ]
  exact cRetI (v := ((x1 / 65536) - (x1 / 65536) / 100 * 100).toInt32) ((va_up mw 4 x1)) hx hb hr hlocks hS hP hD h dX12_draw_33
abbrev vsX12_newYear : List Cond := Cond.code yX12_newYear cX12_newYear 2 none :: WS
abbrev rmX12_newYear : Room := { frames := 4, cells := 0, slots := 0, locals := 95 }
set_option maxHeartbeats 4000000 in
set_option maxRecDepth 100000 in
theorem k_X12_newYear (l : Launch) (D : va_G) (C : Nat → ClassId) (sz : Nat) (aM : Nat → Nat)  (ms : Nat → Int32) (mw : Nat → Int64) (ma : Nat → Nat → Int32) (ml : Nat → Nat → Int64)  {post : (Nat → Int32) → (Nat → Nat → Int32) → Prop} (h : P_X12_newYear ms ma post) : Met l yX12_newYear vsX12_newYear rmX12_newYear (cPre D C [.ref (aM 0)] sz (wM aM C ms mw ma ml)) (cQv D (fun (u : (Nat → Int32) × (Nat → Nat → Int32)) => post u.1 u.2) (fun u => wM aM C u.1 mw u.2 ml) (va_A (List.flatten (wM aM C ms mw ma ml)) sz)) 0 0 (va_A (List.flatten (wM aM C ms mw ma ml)) sz) := by
  refine cStart (QA := fun A => cQv D (fun (u : (Nat → Int32) × (Nat → Nat → Int32)) => post u.1 u.2) (fun u => wM aM C u.1 mw u.2 ml) A) (cc := cX12_newYear) (maxL := 2) (ret := none) (by decide) (Nat.le_of_ble_eq_true rfl) ?_
  intro p e s m args below meth c A ls hx hb hr hml hown hw hlocks hname hK hN hA hP hD hS hl
  generalize hQ : MQ below _ args s 0 0 A = Q
  have hl : lv_has ls 2 [(0, .ref (aM 0))] := hl
  obtain ⟨H, hH⟩ : ∃ H, H = s.heap := ⟨_, rfl⟩
  obtain ⟨locs, hlo⟩ : ∃ z : List Loc, z = [] := ⟨_, rfl⟩
  have hP : va_P D vwCl (List.flatten (wM aM C ms mw ma ml)) H := by rw [hH]; exact hP
  have hS : va_S A s.heap H locs := by rw [hH, hlo]; exact hS
  rw [show W p l e rmX12_newYear s m args below meth c s.heap [] 0 0 Q (F0 m 0 ls []) = W p l e rmX12_newYear s m args below meth c H locs 0 0 Q (F0 m 0 ls []) from by rw [hH, hlo]]
  have N7 : ∀ (ms : Nat → Int32) (n7 : Nat) (x1_ : Int32) (ma : Nat → Nat → Int32) (H : Heap) (locs : List Loc) (ls : Array Slot), P_X12_newYear_7  post  ms n7 x1_ ma → va_P D vwCl (List.flatten (wM aM C ms mw ma ml)) H → va_D A (List.flatten (wM aM C ms mw ma ml)) → va_S A s.heap H locs → lv_has ls 2 [(0, .ref (aM 0)), (1, .int x1_)] → W p l e rmX12_newYear s m args below meth c H locs 0 0 Q (F0 m 7 ls []) := by
    intro ms
    intro n7
    induction n7 with
    | zero => intro x1_ ma H locs ls h hP hD hS hl; exact False.elim h
    | succ n7 ih7 =>
      intro x1_ ma H locs ls h hP hD hS hl
      refine lv_iload_n hx hb dX12_newYear_7 rfl (lv_at hl 1 rfl) ?_
      refine lv_bipush (v := 16) hx hb dX12_newYear_8 (by decide) ?_
      refine lv_icmp_ge (tgt := 26) hx hb dX12_newYear_10 (by decide) (fun c1 => ?_) (fun c1 => ?_)
      · have h := h.1 c1
        rw [← hQ]
        exact cRetV (ms, ma) hx hb hr hlocks hS hP hD h dX12_newYear_26
      · have h := h.2 c1
        refine lv_aload_n hx hb dX12_newYear_13 rfl (lv_at hl 0 rfl) ?_
        refine va_get (D := D) (ci := 12) (v := .ref (aM 32)) (C := RX12) (T := TX12) (N := 51) hx hb hw inW_X12 hown hK hP 0 rfl rfl 49 (by decide) (hw _ mw_6_92) (fun _ h9 => h9) rfl dX12_newYear_14 ?_
        refine lv_iload_n hx hb dX12_newYear_17 rfl (lv_at hl 1 rfl) ?_
        refine lv_iconst (v := 0) hx hb dX12_newYear_18 (by decide) ?_
        refine cIast hx hb hK hP hD hS 32 0 rfl rfl x1_.toNatClampNeg rfl h.1 dX12_newYear_19 (fun H locs hP hD hS => ?_)
        have h := h.2
        refine lv_iinc (v := (x1_ + 1)) (lv' := [(1, .int (x1_ + 1)), (0, .ref (aM 0))]) hx hb dX12_newYear_20 hl (k := 1) rfl rfl (by decide) rfl (fun ls hl => ?_)
        refine lv_goto (tgt := 7) hx hb dX12_newYear_23 (by decide) ?_
        have hP : va_P D vwCl (List.flatten (wM aM C ms mw (va_up ma 21 (upd (ma 21) x1_.toNatClampNeg 0)) ml)) H := hP
        have hD : va_D A (List.flatten (wM aM C ms mw (va_up ma 21 (upd (ma 21) x1_.toNatClampNeg 0)) ml)) := hD
        exact ih7 (x1_ + 1) (va_up ma 21 (upd (ma 21) x1_.toNatClampNeg 0)) _ _ _ h hP hD hS (lv_sub hl [1, 0] rfl)
  refine lv_aload_n hx hb dX12_newYear_0 rfl (lv_at hl 0 rfl) ?_
  refine lv_iconst (v := (-1)) hx hb dX12_newYear_1 (by decide) ?_
  refine cGoV (wo := fun u => wM aM C u.1 mw u.2 ml) (cRunV (As := [.int (-1)]) (rest := []) ⟨hx, hb, hml, hown, hw⟩ hK hN hP hD [0, 1, 2, 3, 4, 5, 6, 7, 8, 9, 10, 11, 12, 13, 14, 15, 16, 17, 18, 19, 20, 21, 22, 23, 24, 25, 26, 27, 28, 29, 30, 31, 32] rfl rfl (k_X12_lays l D C _ aM  ms mw ma ml (-1) h) (cwV 1 hw (goodV mw_7_180 mw_7_182 mw_s138 mw_1_13 mw_7_183) rfl rfl rfl (by decide +kernel) ⟨Nat.le_of_ble_eq_true rfl, Nat.le_of_ble_eq_true rfl⟩) rfl rfl rfl hl.1 rfl (Nat.le_of_ble_eq_true rfl) dX12_newYear_2 ⟨Nat.zero_le _, Nat.zero_le _⟩) hP hD hS hA [0, 1, 2, 3, 4, 5, 6, 7, 8, 9, 10, 11, 12, 13, 14, 15, 16, 17, 18, 19, 20, 21, 22, 23, 24, 25, 26, 27, 28, 29, 30, 31, 32] [] [0, 1, 2, 3, 4, 5, 6, 7, 8, 9, 10, 11, 12, 13, 14, 15, 16, 17, 18, 19, 20, 21, 22, 23, 24, 25, 26, 27, 28, 29, 30, 31, 32] rfl rfl rfl (by decide) rfl (fun _ => rfl) (fun u H locs h hP hD hS => ?_)
  obtain ⟨ms_2, ma_3⟩ := u
  have hP : va_P D vwCl (List.flatten (wM aM C ms_2 mw ma_3 ml)) H := hP
  have hD : va_D A (List.flatten (wM aM C ms_2 mw ma_3 ml)) := hD
  refine lv_iconst (v := 0) hx hb dX12_newYear_5 (by decide) ?_
  refine lv_istore_n (lv' := [(1, .int 0), (0, .ref (aM 0))]) hx hb dX12_newYear_6 rfl hl (by decide) rfl (fun ls hl => ?_)
  obtain ⟨n, h⟩ := h
  exact N7 ms_2 n 0 ma_3 _ _ _ h hP hD hS (lv_sub hl [1, 0] rfl)
abbrev vsX12_comes : List Cond := Cond.code yX12_comes cX12_comes 4 (some .int) :: WS
abbrev rmX12_comes : Room := { frames := 1, cells := 0, slots := 0, locals := 26 }
set_option maxHeartbeats 4000000 in
set_option maxRecDepth 100000 in
theorem k_X12_comes (l : Launch) (D : va_G) (C : Nat → ClassId) (sz : Nat) (aM : Nat → Nat)  (ms : Nat → Int32) (mw : Nat → Int64) (ma : Nat → Nat → Int32) (ml : Nat → Nat → Int64) (p1 : Int32) (p2 : Int32) {post : Int32 → (Nat → Nat → Int32) → Prop} (h : P_X12_comes ms ma p1 p2 post) : Met l yX12_comes vsX12_comes rmX12_comes (cPre D C [.ref (aM 0), .int p1, .int p2] sz (wM aM C ms mw ma ml)) (cQi D (fun (r : Int32) (u : (Nat → Nat → Int32)) => post r u) (fun u => wM aM C ms mw u ml) (va_A (List.flatten (wM aM C ms mw ma ml)) sz)) 0 0 (va_A (List.flatten (wM aM C ms mw ma ml)) sz) := by
  refine cStart (QA := fun A => cQi D (fun (r : Int32) (u : (Nat → Nat → Int32)) => post r u) (fun u => wM aM C ms mw u ml) A) (cc := cX12_comes) (maxL := 4) (ret := (some .int)) (by decide) (Nat.le_of_ble_eq_true rfl) ?_
  intro p e s m args below meth c A ls hx hb hr hml hown hw hlocks hname hK hN hA hP hD hS hl
  generalize hQ : MQ below _ args s 0 0 A = Q
  have hl : lv_has ls 4 [(0, .ref (aM 0)), (1, .int p1), (2, .int p2)] := hl
  obtain ⟨H, hH⟩ : ∃ H, H = s.heap := ⟨_, rfl⟩
  obtain ⟨locs, hlo⟩ : ∃ z : List Loc, z = [] := ⟨_, rfl⟩
  have hP : va_P D vwCl (List.flatten (wM aM C ms mw ma ml)) H := by rw [hH]; exact hP
  have hS : va_S A s.heap H locs := by rw [hH, hlo]; exact hS
  rw [show W p l e rmX12_comes s m args below meth c s.heap [] 0 0 Q (F0 m 0 ls []) = W p l e rmX12_comes s m args below meth c H locs 0 0 Q (F0 m 0 ls []) from by rw [hH, hlo]]
  unfold P_X12_comes at h
  refine lv_aload_n hx hb dX12_comes_0 rfl (lv_at hl 0 rfl) ?_
  refine lv_iload_n hx hb dX12_comes_1 rfl (lv_at hl 1 rfl) ?_
  refine lv_iload_n hx hb dX12_comes_2 rfl (lv_at hl 2 rfl) ?_
  refine cGoI (wo := fun u => wM aM C ms mw ma ml) (cRunV (As := [.int p1, .int p2]) (rest := []) ⟨hx, hb, hml, hown, hw⟩ hK hN hP hD [0, 1, 2, 3, 4, 5, 6, 7, 8, 9, 10, 11, 12, 13, 14, 15, 16, 17, 18, 19, 20, 21, 22, 23, 24, 25, 26, 27, 28, 29, 30, 31, 32] rfl rfl (k_X12_takesOf l D C _ aM  ms mw ma ml p1 p2 h) (cwV 2 hw (goodV mw_7_184 mw_7_186 mw_s139 mw_1_13 mw_7_187) rfl rfl rfl (by decide +kernel) ⟨Nat.le_of_ble_eq_true rfl, Nat.le_of_ble_eq_true rfl⟩) rfl rfl rfl hl.1 rfl (Nat.le_of_ble_eq_true rfl) dX12_comes_3 ⟨Nat.zero_le _, Nat.zero_le _⟩) hP hD hS hA [0, 1, 2, 3, 4, 5, 6, 7, 8, 9, 10, 11, 12, 13, 14, 15, 16, 17, 18, 19, 20, 21, 22, 23, 24, 25, 26, 27, 28, 29, 30, 31, 32] [] [0, 1, 2, 3, 4, 5, 6, 7, 8, 9, 10, 11, 12, 13, 14, 15, 16, 17, 18, 19, 20, 21, 22, 23, 24, 25, 26, 27, 28, 29, 30, 31, 32] rfl rfl rfl (by decide) rfl (fun _ => rfl) (fun r1 u H locs h hP hD hS => ?_)
  have hP : va_P D vwCl (List.flatten (wM aM C ms mw ma ml)) H := hP
  have hD : va_D A (List.flatten (wM aM C ms mw ma ml)) := hD
  refine lv_istore_n (lv' := [(3, .int r1), (0, .ref (aM 0)), (1, .int p1), (2, .int p2)]) hx hb dX12_comes_6 rfl hl (by decide) rfl (fun ls hl => ?_)
  refine lv_iload_n hx hb dX12_comes_7 rfl (lv_at hl 0 rfl) ?_
  refine lv_iconst (v := (-1)) hx hb dX12_comes_8 (by decide) ?_
  refine lv_icmp_ne (tgt := 14) hx hb dX12_comes_9 (by decide) (fun c2 => ?_) (fun c2 => ?_)
  · have h := h.1 c2
    refine lv_aload_n hx hb dX12_comes_14 rfl (lv_at hl 1 rfl) ?_
    refine va_get (D := D) (ci := 12) (v := .ref (aM 32)) (C := RX12) (T := TX12) (N := 51) hx hb hw inW_X12 hown hK hP 0 rfl rfl 49 (by decide) (hw _ mw_6_92) (fun _ h9 => h9) rfl dX12_comes_15 ?_
    refine lv_iload_n hx hb dX12_comes_18 rfl (lv_at hl 0 rfl) ?_
    refine lv_dup2_11 hx hb dX12_comes_19 rfl rfl ?_
    try dsimp only at h
    obtain ⟨kk_3, hkk_3⟩ : ∃ z : Nat, r1.toNatClampNeg = z := ⟨_, rfl⟩
    rw [hkk_3] at h
    refine cIald hx hb hK hP 32 0 rfl rfl kk_3 hkk_3 h.1 dX12_comes_20 ?_
    have h := h.2
    refine lv_iconst (v := 1) hx hb dX12_comes_21 (by decide) ?_
    refine lv_iadd hx hb dX12_comes_22 ?_
    try dsimp only at h
    refine cIast hx hb hK hP hD hS 32 0 rfl rfl kk_3 hkk_3 h.1 dX12_comes_23 (fun H locs hP hD hS => ?_)
    have h := h.2
    refine lv_aload_n hx hb dX12_comes_24 rfl (lv_at hl 1 rfl) ?_
    refine va_get (D := D) (ci := 12) (v := .ref (aM 32)) (C := RX12) (T := TX12) (N := 51) hx hb hw inW_X12 hown hK hP 0 rfl rfl 49 (by decide) (hw _ mw_6_92) (fun _ h9 => h9) rfl dX12_comes_25 ?_
    refine lv_bipush (v := 10) hx hb dX12_comes_28 (by decide) ?_
    refine lv_iload_n hx hb dX12_comes_30 rfl (lv_at hl 2 rfl) ?_
    refine lv_iadd hx hb dX12_comes_31 ?_
    refine lv_dup2_11 hx hb dX12_comes_32 rfl rfl ?_
    try dsimp only at h
    obtain ⟨kk_4, hkk_4⟩ : ∃ z : Nat, (10 + p1).toNatClampNeg = z := ⟨_, rfl⟩
    rw [hkk_4] at h
    refine cIald hx hb hK hP 32 0 rfl rfl kk_4 hkk_4 h.1 dX12_comes_33 ?_
    have h := h.2
    refine lv_iconst (v := 1) hx hb dX12_comes_34 (by decide) ?_
    refine lv_iadd hx hb dX12_comes_35 ?_
    try dsimp only at h
    refine cIast hx hb hK hP hD hS 32 0 rfl rfl kk_4 hkk_4 h.1 dX12_comes_36 (fun H locs hP hD hS => ?_)
    have h := h.2
    refine lv_iload_n hx hb dX12_comes_37 rfl (lv_at hl 3 rfl) ?_
    refine lv_iconst (v := 1) hx hb dX12_comes_38 (by decide) ?_
    refine lv_iload_n hx hb dX12_comes_39 rfl (lv_at hl 0 rfl) ?_
    refine lv_ishl hx hb dX12_comes_40 ?_
    refine lv_ior hx hb dX12_comes_41 ?_
    have hP : va_P D vwCl (List.flatten (wM aM C ms mw (va_up ma 21 (upd (upd (ma 21) kk_3 ((ma 21 kk_3) + 1)) kk_4 (((upd (ma 21) kk_3 ((ma 21 kk_3) + 1)) kk_4) + 1))) ml)) H := hP
    have hD : va_D A (List.flatten (wM aM C ms mw (va_up ma 21 (upd (upd (ma 21) kk_3 ((ma 21 kk_3) + 1)) kk_4 (((upd (ma 21) kk_3 ((ma 21 kk_3) + 1)) kk_4) + 1))) ml)) := hD
    rw [← hQ]
    exact cRetI (v := (p2 ||| ((1 : Int32) <<< (r1 &&& 31)))) ((va_up ma 21 (upd (upd (ma 21) kk_3 ((ma 21 kk_3) + 1)) kk_4 (((upd (ma 21) kk_3 ((ma 21 kk_3) + 1)) kk_4) + 1)))) hx hb hr hlocks hS hP hD h dX12_comes_42
  · have h := h.2 c2
    refine lv_iload_n hx hb dX12_comes_12 rfl (lv_at hl 3 rfl) ?_
    rw [← hQ]
    exact cRetI (v := p2) (ma) hx hb hr hlocks hS hP hD h dX12_comes_13
abbrev vsX12_drawnAll : List Cond := Cond.code yX12_drawnAll cX12_drawnAll 3 (some .int) :: WS
abbrev rmX12_drawnAll : Room := { frames := 0, cells := 0, slots := 0, locals := 0 }
set_option maxHeartbeats 4000000 in
set_option maxRecDepth 100000 in
theorem k_X12_drawnAll (l : Launch) (D : va_G) (C : Nat → ClassId) (sz : Nat) (aM : Nat → Nat)  (ms : Nat → Int32) (mw : Nat → Int64) (ma : Nat → Nat → Int32) (ml : Nat → Nat → Int64)  {post : Int32 → Prop} (h : P_X12_drawnAll ma post) : Met l yX12_drawnAll vsX12_drawnAll rmX12_drawnAll (cPre D C [.ref (aM 0)] sz (wM aM C ms mw ma ml)) (cQi D (fun (r : Int32) (u : Unit) => post r ) (fun u => wM aM C ms mw ma ml) (va_A (List.flatten (wM aM C ms mw ma ml)) sz)) 0 0 (va_A (List.flatten (wM aM C ms mw ma ml)) sz) := by
  refine cStart (QA := fun A => cQi D (fun (r : Int32) (u : Unit) => post r ) (fun u => wM aM C ms mw ma ml) A) (cc := cX12_drawnAll) (maxL := 3) (ret := (some .int)) (by decide) (Nat.le_of_ble_eq_true rfl) ?_
  intro p e s m args below meth c A ls hx hb hr hml hown hw hlocks hname hK hN hA hP hD hS hl
  generalize hQ : MQ below _ args s 0 0 A = Q
  have hl : lv_has ls 3 [(0, .ref (aM 0))] := hl
  obtain ⟨H, hH⟩ : ∃ H, H = s.heap := ⟨_, rfl⟩
  obtain ⟨locs, hlo⟩ : ∃ z : List Loc, z = [] := ⟨_, rfl⟩
  have hP : va_P D vwCl (List.flatten (wM aM C ms mw ma ml)) H := by rw [hH]; exact hP
  have hS : va_S A s.heap H locs := by rw [hH, hlo]; exact hS
  rw [show W p l e rmX12_drawnAll s m args below meth c s.heap [] 0 0 Q (F0 m 0 ls []) = W p l e rmX12_drawnAll s m args below meth c H locs 0 0 Q (F0 m 0 ls []) from by rw [hH, hlo]]
  have N4 : ∀  (n4 : Nat) (x1_ : Int32) (x2_ : Int32) (H : Heap) (locs : List Loc) (ls : Array Slot), P_X12_drawnAll_4 ma post   n4 x1_ x2_ → va_P D vwCl (List.flatten (wM aM C ms mw ma ml)) H → va_D A (List.flatten (wM aM C ms mw ma ml)) → va_S A s.heap H locs → lv_has ls 3 [(0, .ref (aM 0)), (1, .int x1_), (2, .int x2_)] → W p l e rmX12_drawnAll s m args below meth c H locs 0 0 Q (F0 m 4 ls []) := by
    intro n4
    induction n4 with
    | zero => intro x1_ x2_ H locs ls h hP hD hS hl; exact False.elim h
    | succ n4 ih4 =>
      intro x1_ x2_ H locs ls h hP hD hS hl
      refine lv_iload_n hx hb dX12_drawnAll_4 rfl (lv_at hl 2 rfl) ?_
      refine lv_bipush (v := 10) hx hb dX12_drawnAll_5 (by decide) ?_
      refine lv_icmp_ge (tgt := 25) hx hb dX12_drawnAll_7 (by decide) (fun c1 => ?_) (fun c1 => ?_)
      · have h := h.1 c1
        refine lv_iload_n hx hb dX12_drawnAll_25 rfl (lv_at hl 1 rfl) ?_
        rw [← hQ]
        exact cRetI (v := x1_) () hx hb hr hlocks hS hP hD h dX12_drawnAll_26
      · have h := h.2 c1
        refine lv_iload_n hx hb dX12_drawnAll_10 rfl (lv_at hl 1 rfl) ?_
        refine lv_aload_n hx hb dX12_drawnAll_11 rfl (lv_at hl 0 rfl) ?_
        refine va_get (D := D) (ci := 12) (v := .ref (aM 32)) (C := RX12) (T := TX12) (N := 51) hx hb hw inW_X12 hown hK hP 0 rfl rfl 49 (by decide) (hw _ mw_6_92) (fun _ h9 => h9) rfl dX12_drawnAll_12 ?_
        refine lv_iload_n hx hb dX12_drawnAll_15 rfl (lv_at hl 2 rfl) ?_
        refine cIald hx hb hK hP 32 0 rfl rfl x2_.toNatClampNeg rfl h.1 dX12_drawnAll_16 ?_
        have h := h.2
        refine lv_iadd hx hb dX12_drawnAll_17 ?_
        refine lv_topi (fun x2 ex2 => ?_)
        have h := h x2 ex2
        refine lv_istore_n (lv' := [(1, .int x2), (0, .ref (aM 0)), (2, .int x2_)]) hx hb dX12_drawnAll_18 rfl hl (by decide) rfl (fun ls hl => ?_)
        refine lv_iinc (v := (x2_ + 1)) (lv' := [(2, .int (x2_ + 1)), (1, .int x2), (0, .ref (aM 0))]) hx hb dX12_drawnAll_19 hl (k := 2) rfl rfl (by decide) rfl (fun ls hl => ?_)
        refine lv_goto (tgt := 4) hx hb dX12_drawnAll_22 (by decide) ?_
        exact ih4 x2 (x2_ + 1) _ _ _ h hP hD hS (lv_sub hl [2, 1, 0] rfl)
  refine lv_iconst (v := 0) hx hb dX12_drawnAll_0 (by decide) ?_
  refine lv_istore_n (lv' := [(1, .int 0), (0, .ref (aM 0))]) hx hb dX12_drawnAll_1 rfl hl (by decide) rfl (fun ls hl => ?_)
  refine lv_iconst (v := 0) hx hb dX12_drawnAll_2 (by decide) ?_
  refine lv_istore_n (lv' := [(2, .int 0), (1, .int 0), (0, .ref (aM 0))]) hx hb dX12_drawnAll_3 rfl hl (by decide) rfl (fun ls hl => ?_)
  obtain ⟨n, h⟩ := h
  exact N4  n 0 0 _ _ _ h hP hD hS (lv_sub hl [2, 1, 0] rfl)
