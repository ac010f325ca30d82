abbrev vsX12_lamp : List Cond := Cond.code yX12_lamp cX12_lamp 8 (some .int) :: WS
abbrev rmX12_lamp : Room := { frames := 7, cells := 0, slots := 0, locals := 167 }
set_option maxHeartbeats 4000000 in
set_option maxRecDepth 100000 in
theorem k_X12_lamp (l : Launch) (D : va_G) (C : Nat → ClassId) (sz : Nat) (aM : Nat → Nat)  (ms : Nat → Int32) (mw : Nat → Int64) (ma : Nat → Nat → Int32) (ml : Nat → Nat → Int64) (p1 : Int32) {post : Int32 → (Nat → Int32) → (Nat → Nat → Int32) → (Nat → Nat → Int64) → Prop} (h : P_X12_lamp ms ma ml p1 post) : Met l yX12_lamp vsX12_lamp rmX12_lamp (cPre D C [.ref (aM 0), .int p1] sz (wM aM C ms mw ma ml)) (cQi D (fun (r : Int32) (u : (Nat → Int32) × (Nat → Nat → Int32) × (Nat → Nat → Int64)) => post r u.1 u.2.1 u.2.2) (fun u => wM aM C u.1 mw u.2.1 u.2.2) (va_A (List.flatten (wM aM C ms mw ma ml)) sz)) 0 0 (va_A (List.flatten (wM aM C ms mw ma ml)) sz) := by
  refine cStart (QA := fun A => cQi D (fun (r : Int32) (u : (Nat → Int32) × (Nat → Nat → Int32) × (Nat → Nat → Int64)) => post r u.1 u.2.1 u.2.2) (fun u => wM aM C u.1 mw u.2.1 u.2.2) A) (cc := cX12_lamp) (maxL := 8) (ret := (some .int)) (by decide) (Nat.le_of_ble_eq_true rfl) ?_
  intro p e s m args below meth c A ls hx hb hr hml hown hw hlocks hname hK hN hA hP hD hS hl
  generalize hQ : MQ below _ args s 0 0 A = Q
  have hl : lv_has ls 8 [(0, .ref (aM 0)), (1, .int p1)] := hl
  obtain ⟨H, hH⟩ : ∃ H, H = s.heap := ⟨_, rfl⟩
  obtain ⟨locs, hlo⟩ : ∃ z : List Loc, z = [] := ⟨_, rfl⟩
  have hP : va_P D vwCl (List.flatten (wM aM C ms mw ma ml)) H := by rw [hH]; exact hP
  have hS : va_S A s.heap H locs := by rw [hH, hlo]; exact hS
  rw [show W p l e rmX12_lamp s m args below meth c s.heap [] 0 0 Q (F0 m 0 ls []) = W p l e rmX12_lamp s m args below meth c H locs 0 0 Q (F0 m 0 ls []) from by rw [hH, hlo]]
  have N29 : ∀  (n29 : Nat) (x2_ : Int32) (x3_ : Int64) (x5_ : Int32) (ms : Nat → Int32) (ma : Nat → Nat → Int32) (ml : Nat → Nat → Int64) (H : Heap) (locs : List Loc) (ls : Array Slot), P_X12_lamp_29 p1 post   n29 x2_ x3_ x5_ ms ma ml → va_P D vwCl (List.flatten (wM aM C ms mw ma ml)) H → va_D A (List.flatten (wM aM C ms mw ma ml)) → va_S A s.heap H locs → lv_has ls 8 [(0, .ref (aM 0)), (1, .int p1), (2, .int x2_), (3, .long x3_), (5, .int x5_)] → W p l e rmX12_lamp s m args below meth c H locs 0 0 Q (F0 m 29 ls []) := by
    intro n29
    induction n29 with
    | zero => intro x2_ x3_ x5_ ms ma ml H locs ls h hP hD hS hl; exact False.elim h
    | succ n29 ih29 =>
      intro x2_ x3_ x5_ ms ma ml H locs ls h hP hD hS hl
      refine lv_iload hx hb dX12_lamp_29 (lv_at hl 4 rfl) ?_
      refine lv_aload_n hx hb dX12_lamp_31 rfl (lv_at hl 0 rfl) ?_
      refine va_get (D := D) (ci := 12) (v := .ref (aM 7)) (C := RX12) (T := TX12) (N := 51) hx hb hw inW_X12 hown hK hP 0 rfl rfl 17 (by decide) (hw _ mw_6_60) (fun _ h9 => h9) rfl dX12_lamp_32 ?_
      refine lv_iconst (v := 0) hx hb dX12_lamp_35 (by decide) ?_
      refine cIald hx hb hK hP 7 0 rfl rfl 0 (by decide +kernel) (cIn (by decide +kernel)) dX12_lamp_36 ?_
      refine lv_icmp_ge (tgt := 76) hx hb dX12_lamp_37 (by decide) (fun c1 => ?_) (fun c1 => ?_)
      · have h := h.1 c1
        refine lv_iload_n hx hb dX12_lamp_76 rfl (lv_at hl 2 rfl) ?_
        rw [← hQ]
        exact cRetI (v := x2_) (ms, ma, ml) hx hb hr hlocks hS hP hD h dX12_lamp_77
      · have h := h.2 c1
        refine lv_aload_n hx hb dX12_lamp_40 rfl (lv_at hl 0 rfl) ?_
        refine lv_iload hx hb dX12_lamp_41 (lv_at hl 4 rfl) ?_
        refine lv_iload_n hx hb dX12_lamp_43 rfl (lv_at hl 1 rfl) ?_
        refine cGoL (wo := fun u => wM aM C u.1 mw u.2.1 u.2.2) (cRunV (As := [.int x5_, .int p1]) (rest := []) ⟨hx, hb, hml, hown, hw⟩ hK hN hP hD [0, 1, 2, 3, 4, 5, 6, 7, 8, 9, 10, 11, 12, 13, 14, 15, 16, 17, 18, 19, 20, 21, 22, 23, 24, 25, 26, 27, 28, 29, 30, 31, 32] rfl rfl (k_X12_litBy l D C _ aM  ms mw ma ml x5_ p1 h) (cwV 2 hw (goodV mw_8_175 mw_8_177 mw_s168 mw_1_13 mw_8_178) rfl rfl rfl (by decide +kernel) ⟨Nat.le_of_ble_eq_true rfl, Nat.le_of_ble_eq_true rfl⟩) rfl rfl rfl hl.1 rfl (Nat.le_of_ble_eq_true rfl) dX12_lamp_44 ⟨Nat.zero_le _, Nat.zero_le _⟩) hP hD hS hA [0, 1, 2, 3, 4, 5, 6, 7, 8, 9, 10, 11, 12, 13, 14, 15, 16, 17, 18, 19, 20, 21, 22, 23, 24, 25, 26, 27, 28, 29, 30, 31, 32] [] [0, 1, 2, 3, 4, 5, 6, 7, 8, 9, 10, 11, 12, 13, 14, 15, 16, 17, 18, 19, 20, 21, 22, 23, 24, 25, 26, 27, 28, 29, 30, 31, 32] rfl rfl rfl (by decide) rfl (fun _ => rfl) (fun r5 u H locs h hP hD hS => ?_)
        obtain ⟨ms_2, ma_3, ml_4⟩ := u
        have hP : va_P D vwCl (List.flatten (wM aM C ms_2 mw ma_3 ml_4)) H := hP
        have hD : va_D A (List.flatten (wM aM C ms_2 mw ma_3 ml_4)) := hD
        refine lv_lstore (lv' := [(6, .long r5), (0, .ref (aM 0)), (1, .int p1), (2, .int x2_), (3, .long x3_), (5, .int x5_)]) hx hb dX12_lamp_47 hl (by decide) rfl (fun ls hl => ?_)
        refine lv_iload_n hx hb dX12_lamp_49 rfl (lv_at hl 3 rfl) ?_
        refine lv_iconst (v := (-1)) hx hb dX12_lamp_50 (by decide) ?_
        refine lv_icmp_eq (tgt := 64) hx hb dX12_lamp_51 (by decide) (fun c6 => ?_) (fun c6 => ?_)
        · have h := h.1 c6
          refine lv_iload hx hb dX12_lamp_64 (lv_at hl 5 rfl) ?_
          refine lv_istore_n (lv' := [(2, .int x5_), (6, .long r5), (0, .ref (aM 0)), (1, .int p1), (3, .long x3_), (5, .int x5_)]) hx hb dX12_lamp_66 rfl hl (by decide) rfl (fun ls hl => ?_)
          refine lv_lload hx hb dX12_lamp_67 (lv_at hl 1 rfl) ?_
          refine lv_lstore_n (lv' := [(3, .long r5), (2, .int x5_), (6, .long r5), (0, .ref (aM 0)), (1, .int p1), (5, .int x5_)]) hx hb dX12_lamp_69 rfl hl (by decide) rfl (fun ls hl => ?_)
          refine lv_iinc (v := (x5_ + 1)) (lv' := [(5, .int (x5_ + 1)), (3, .long r5), (2, .int x5_), (6, .long r5), (0, .ref (aM 0)), (1, .int p1)]) hx hb dX12_lamp_70 hl (k := 5) rfl rfl (by decide) rfl (fun ls hl => ?_)
          refine lv_goto (tgt := 29) hx hb dX12_lamp_73 (by decide) ?_
          exact ih29 x5_ r5 (x5_ + 1) ms_2 ma_3 ml_4 _ _ _ h hP hD hS (lv_sub hl [4, 5, 2, 1, 0] rfl)
        · have h := h.2 c6
          refine lv_lload hx hb dX12_lamp_54 (lv_at hl 0 rfl) ?_
          refine lv_lload_n hx hb dX12_lamp_56 rfl (lv_at hl 4 rfl) ?_
          refine W.lcmp hx hb dX12_lamp_57 ?_
          refine lv_if_lt (tgt := 64) hx hb dX12_lamp_58 (by decide) (fun c7 => ?_) (fun c7 => ?_)
          · have c7 : r5 < x3_ := (lg_cmp_lt _ _).mp c7
            have h := h.1 c7
            refine lv_iload hx hb dX12_lamp_64 (lv_at hl 5 rfl) ?_
            refine lv_istore_n (lv' := [(2, .int x5_), (6, .long r5), (0, .ref (aM 0)), (1, .int p1), (3, .long x3_), (5, .int x5_)]) hx hb dX12_lamp_66 rfl hl (by decide) rfl (fun ls hl => ?_)
            refine lv_lload hx hb dX12_lamp_67 (lv_at hl 1 rfl) ?_
            refine lv_lstore_n (lv' := [(3, .long r5), (2, .int x5_), (6, .long r5), (0, .ref (aM 0)), (1, .int p1), (5, .int x5_)]) hx hb dX12_lamp_69 rfl hl (by decide) rfl (fun ls hl => ?_)
            refine lv_iinc (v := (x5_ + 1)) (lv' := [(5, .int (x5_ + 1)), (3, .long r5), (2, .int x5_), (6, .long r5), (0, .ref (aM 0)), (1, .int p1)]) hx hb dX12_lamp_70 hl (k := 5) rfl rfl (by decide) rfl (fun ls hl => ?_)
            refine lv_goto (tgt := 29) hx hb dX12_lamp_73 (by decide) ?_
            exact ih29 x5_ r5 (x5_ + 1) ms_2 ma_3 ml_4 _ _ _ h hP hD hS (lv_sub hl [4, 5, 2, 1, 0] rfl)
          · have c7 : ¬ r5 < x3_ := fun q => c7 ((lg_cmp_lt _ _).mpr q)
            have h := h.2 c7
            refine lv_goto (tgt := 70) hx hb dX12_lamp_61 (by decide) ?_
            refine lv_iinc (v := (x5_ + 1)) (lv' := [(5, .int (x5_ + 1)), (6, .long r5), (0, .ref (aM 0)), (1, .int p1), (2, .int x2_), (3, .long x3_)]) hx hb dX12_lamp_70 hl (k := 5) rfl rfl (by decide) rfl (fun ls hl => ?_)
            refine lv_goto (tgt := 29) hx hb dX12_lamp_73 (by decide) ?_
            exact ih29 x2_ x3_ (x5_ + 1) ms_2 ma_3 ml_4 _ _ _ h hP hD hS (lv_sub hl [2, 3, 4, 5, 0] rfl)
  refine lv_aload_n hx hb dX12_lamp_0 rfl (lv_at hl 0 rfl) ?_
  refine lv_iconst (v := 0) hx hb dX12_lamp_1 (by decide) ?_
  refine va_put (D := D) (ci := 12) (v := .int 0) (ty := .int) (C := RX12) (T := TX12) (N := 51) hx hb hw inW_X12 tyX12 tyX12_ok nmX12 hown hK hP hD hS 0 rfl rfl 0 (by decide) (hw _ mw_6_43) (fun _ h9 => h9) rfl (by decide +kernel) rfl rfl (Nat.le_of_ble_eq_true rfl) dX12_lamp_2 (fun H locs hP hD hS => ?_)
  refine lv_aload_n hx hb dX12_lamp_5 rfl (lv_at hl 0 rfl) ?_
  have hP : va_P D vwCl (List.flatten (wM aM C (va_up ms 0 0) mw ma ml)) H := hP
  have hD : va_D A (List.flatten (wM aM C (va_up ms 0 0) mw ma ml)) := hD
  refine cGoI (wo := fun u => wM aM C (va_up ms 0 0) mw ma ml) (cRunV (As := []) (rest := []) ⟨hx, hb, hml, hown, hw⟩ hK hN hP hD [0, 1, 2, 3, 4, 5, 6, 7, 8, 9, 10, 11, 12, 13, 14, 15, 16, 17, 18, 19, 20, 21, 22, 23, 24, 25, 26, 27, 28, 29, 30, 31, 32] rfl rfl (k_X12_isRail l D C _ aM  (va_up ms 0 0) mw ma ml  h) (cwV 0 hw (goodV mw_7_204 mw_7_206 mw_s142 mw_1_13 mw_7_207) rfl rfl rfl (by decide +kernel) ⟨Nat.le_of_ble_eq_true rfl, Nat.le_of_ble_eq_true rfl⟩) rfl rfl rfl hl.1 rfl (Nat.le_of_ble_eq_true rfl) dX12_lamp_6 ⟨Nat.zero_le _, Nat.zero_le _⟩) hP hD hS hA [0, 1, 2, 3, 4, 5, 6, 7, 8, 9, 10, 11, 12, 13, 14, 15, 16, 17, 18, 19, 20, 21, 22, 23, 24, 25, 26, 27, 28, 29, 30, 31, 32] [] [0, 1, 2, 3, 4, 5, 6, 7, 8, 9, 10, 11, 12, 13, 14, 15, 16, 17, 18, 19, 20, 21, 22, 23, 24, 25, 26, 27, 28, 29, 30, 31, 32] rfl rfl rfl (by decide) rfl (fun _ => rfl) (fun r8 u H locs h hP hD hS => ?_)
  have hP : va_P D vwCl (List.flatten (wM aM C (va_up ms 0 0) mw ma ml)) H := hP
  have hD : va_D A (List.flatten (wM aM C (va_up ms 0 0) mw ma ml)) := hD
  refine lv_if_eq (tgt := 19) hx hb dX12_lamp_9 (by decide) (fun c9 => ?_) (fun c9 => ?_)
  · have h := h.1 c9
    refine lv_bipush (v := (-2)) hx hb dX12_lamp_19 (by decide) ?_
    rw [← hQ]
    exact cRetI (v := (-2)) ((va_up ms 0 0), ma, ml) hx hb hr hlocks hS hP hD h dX12_lamp_21
  · have h := h.2 c9
    refine lv_iload_n hx hb dX12_lamp_12 rfl (lv_at hl 1 rfl) ?_
    refine cGoI (wo := fun u => wM aM C (va_up ms 0 0) mw ma ml) (cRunS (As := [.int p1]) (rest := []) ⟨hx, hb, hml, hown, hw⟩ hK hN hP hD [] rfl rfl (k_X12_isBright l D C _    p1 h) (va_cwS 1 hw (goodS mw_8_171 mw_8_172 mw_1_13 mw_8_173) rfl rfl rfl (by decide +kernel) ⟨Nat.le_of_ble_eq_true rfl, Nat.le_of_ble_eq_true rfl⟩) rfl hl.1 rfl (Nat.le_of_ble_eq_true rfl) dX12_lamp_13 ⟨Nat.zero_le _, Nat.zero_le _⟩) hP hD hS hA [] [0, 1, 2, 3, 4, 5, 6, 7, 8, 9, 10, 11, 12, 13, 14, 15, 16, 17, 18, 19, 20, 21, 22, 23, 24, 25, 26, 27, 28, 29, 30, 31, 32] [0, 1, 2, 3, 4, 5, 6, 7, 8, 9, 10, 11, 12, 13, 14, 15, 16, 17, 18, 19, 20, 21, 22, 23, 24, 25, 26, 27, 28, 29, 30, 31, 32] rfl rfl rfl (by decide) rfl (fun _ => rfl) (fun r10 u H locs h hP hD hS => ?_)
    have hP : va_P D vwCl (List.flatten (wM aM C (va_up ms 0 0) mw ma ml)) H := hP
    have hD : va_D A (List.flatten (wM aM C (va_up ms 0 0) mw ma ml)) := hD
    refine lv_if_ne (tgt := 22) hx hb dX12_lamp_16 (by decide) (fun c11 => ?_) (fun c11 => ?_)
    · have h := h.1 c11
      refine lv_iconst (v := (-1)) hx hb dX12_lamp_22 (by decide) ?_
      refine lv_istore_n (lv' := [(2, .int (-1)), (0, .ref (aM 0)), (1, .int p1)]) hx hb dX12_lamp_23 rfl hl (by decide) rfl (fun ls hl => ?_)
      refine lv_lconst (v := 0) hx hb dX12_lamp_24 (by decide) ?_
      refine lv_lstore_n (lv' := [(3, .long 0), (2, .int (-1)), (0, .ref (aM 0)), (1, .int p1)]) hx hb dX12_lamp_25 rfl hl (by decide) rfl (fun ls hl => ?_)
      refine lv_iconst (v := 0) hx hb dX12_lamp_26 (by decide) ?_
      refine lv_istore (lv' := [(5, .int 0), (3, .long 0), (2, .int (-1)), (0, .ref (aM 0)), (1, .int p1)]) hx hb dX12_lamp_27 hl (by decide) rfl (fun ls hl => ?_)
      obtain ⟨n, h⟩ := h
      exact N29  n (-1) 0 0 (va_up ms 0 0) ma ml _ _ _ h hP hD hS (lv_sub hl [3, 4, 2, 1, 0] rfl)
    · have h := h.2 c11
      refine lv_bipush (v := (-2)) hx hb dX12_lamp_19 (by decide) ?_
      rw [← hQ]
      exact cRetI (v := (-2)) ((va_up ms 0 0), ma, ml) hx hb hr hlocks hS hP hD h dX12_lamp_21
abbrev vsX12_lit : List Cond := Cond.code yX12_lit cX12_lit 3 (some .long) :: WS
abbrev rmX12_lit : Room := { frames := 7, cells := 0, slots := 0, locals := 167 }
set_option maxHeartbeats 4000000 in
set_option maxRecDepth 100000 in
theorem k_X12_lit (l : Launch) (D : va_G) (C : Nat → ClassId) (sz : Nat) (aM : Nat → Nat)  (ms : Nat → Int32) (mw : Nat → Int64) (ma : Nat → Nat → Int32) (ml : Nat → Nat → Int64) (p1 : Int32) (p2 : Int32) {post : Int64 → (Nat → Int32) → (Nat → Nat → Int32) → (Nat → Nat → Int64) → Prop} (h : P_X12_lit ms ma ml p1 p2 post) : Met l yX12_lit vsX12_lit rmX12_lit (cPre D C [.ref (aM 0), .int p1, .int p2] sz (wM aM C ms mw ma ml)) (cQl D (fun (r : Int64) (u : (Nat → Int32) × (Nat → Nat → Int32) × (Nat → Nat → Int64)) => post r u.1 u.2.1 u.2.2) (fun u => wM aM C u.1 mw u.2.1 u.2.2) (va_A (List.flatten (wM aM C ms mw ma ml)) sz)) 0 0 (va_A (List.flatten (wM aM C ms mw ma ml)) sz) := by
  refine cStart (QA := fun A => cQl D (fun (r : Int64) (u : (Nat → Int32) × (Nat → Nat → Int32) × (Nat → Nat → Int64)) => post r u.1 u.2.1 u.2.2) (fun u => wM aM C u.1 mw u.2.1 u.2.2) A) (cc := cX12_lit) (maxL := 3) (ret := (some .long)) (by decide) (Nat.le_of_ble_eq_true rfl) ?_
  intro p e s m args below meth c A ls hx hb hr hml hown hw hlocks hname hK hN hA hP hD hS hl
  generalize hQ : MQ below _ args s 0 0 A = Q
  have hl : lv_has ls 3 [(0, .ref (aM 0)), (1, .int p1), (2, .int p2)] := hl
  obtain ⟨H, hH⟩ : ∃ H, H = s.heap := ⟨_, rfl⟩
  obtain ⟨locs, hlo⟩ : ∃ z : List Loc, z = [] := ⟨_, rfl⟩
  have hP : va_P D vwCl (List.flatten (wM aM C ms mw ma ml)) H := by rw [hH]; exact hP
  have hS : va_S A s.heap H locs := by rw [hH, hlo]; exact hS
  rw [show W p l e rmX12_lit s m args below meth c s.heap [] 0 0 Q (F0 m 0 ls []) = W p l e rmX12_lit s m args below meth c H locs 0 0 Q (F0 m 0 ls []) from by rw [hH, hlo]]
  refine lv_aload_n hx hb dX12_lit_0 rfl (lv_at hl 0 rfl) ?_
  refine lv_iconst (v := 0) hx hb dX12_lit_1 (by decide) ?_
  refine va_put (D := D) (ci := 12) (v := .int 0) (ty := .int) (C := RX12) (T := TX12) (N := 51) hx hb hw inW_X12 tyX12 tyX12_ok nmX12 hown hK hP hD hS 0 rfl rfl 0 (by decide) (hw _ mw_6_43) (fun _ h9 => h9) rfl (by decide +kernel) rfl rfl (Nat.le_of_ble_eq_true rfl) dX12_lit_2 (fun H locs hP hD hS => ?_)
  refine lv_aload_n hx hb dX12_lit_5 rfl (lv_at hl 0 rfl) ?_
  refine lv_iload_n hx hb dX12_lit_6 rfl (lv_at hl 1 rfl) ?_
  have hP : va_P D vwCl (List.flatten (wM aM C (va_up ms 0 0) mw ma ml)) H := hP
  have hD : va_D A (List.flatten (wM aM C (va_up ms 0 0) mw ma ml)) := hD
  refine cGoI (wo := fun u => wM aM C (va_up ms 0 0) mw ma ml) (cRunV (As := [.int p1]) (rest := []) ⟨hx, hb, hml, hown, hw⟩ hK hN hP hD [0, 1, 2, 3, 4, 5, 6, 7, 8, 9, 10, 11, 12, 13, 14, 15, 16, 17, 18, 19, 20, 21, 22, 23, 24, 25, 26, 27, 28, 29, 30, 31, 32] rfl rfl (k_X12_isPlace l D C _ aM  (va_up ms 0 0) mw ma ml p1 h) (cwV 1 hw (goodV mw_7_125 mw_7_127 mw_s131 mw_1_13 mw_7_128) rfl rfl rfl (by decide +kernel) ⟨Nat.le_of_ble_eq_true rfl, Nat.le_of_ble_eq_true rfl⟩) rfl rfl rfl hl.1 rfl (Nat.le_of_ble_eq_true rfl) dX12_lit_7 ⟨Nat.zero_le _, Nat.zero_le _⟩) hP hD hS hA [0, 1, 2, 3, 4, 5, 6, 7, 8, 9, 10, 11, 12, 13, 14, 15, 16, 17, 18, 19, 20, 21, 22, 23, 24, 25, 26, 27, 28, 29, 30, 31, 32] [] [0, 1, 2, 3, 4, 5, 6, 7, 8, 9, 10, 11, 12, 13, 14, 15, 16, 17, 18, 19, 20, 21, 22, 23, 24, 25, 26, 27, 28, 29, 30, 31, 32] rfl rfl rfl (by decide) rfl (fun _ => rfl) (fun r1 u H locs h hP hD hS => ?_)
  have hP : va_P D vwCl (List.flatten (wM aM C (va_up ms 0 0) mw ma ml)) H := hP
  have hD : va_D A (List.flatten (wM aM C (va_up ms 0 0) mw ma ml)) := hD
  refine lv_if_eq (tgt := 29) hx hb dX12_lit_10 (by decide) (fun c2 => ?_) (fun c2 => ?_)
  · have h := h.1 c2
    refine lv_ldc2 (v := (-2)) hx hb hown (hw _ mw_7_208) dX12_lit_29 ?_
    rw [← hQ]
    exact cRetL (v := (-2)) ((va_up ms 0 0), ma, ml) hx hb hr hlocks hS hP hD h dX12_lit_32
  · have h := h.2 c2
    refine lv_iload_n hx hb dX12_lit_13 rfl (lv_at hl 2 rfl) ?_
    refine cGoI (wo := fun u => wM aM C (va_up ms 0 0) mw ma ml) (cRunS (As := [.int p2]) (rest := []) ⟨hx, hb, hml, hown, hw⟩ hK hN hP hD [] rfl rfl (k_X12_isBright l D C _    p2 h) (va_cwS 1 hw (goodS mw_8_171 mw_8_172 mw_1_13 mw_8_173) rfl rfl rfl (by decide +kernel) ⟨Nat.le_of_ble_eq_true rfl, Nat.le_of_ble_eq_true rfl⟩) rfl hl.1 rfl (Nat.le_of_ble_eq_true rfl) dX12_lit_14 ⟨Nat.zero_le _, Nat.zero_le _⟩) hP hD hS hA [] [0, 1, 2, 3, 4, 5, 6, 7, 8, 9, 10, 11, 12, 13, 14, 15, 16, 17, 18, 19, 20, 21, 22, 23, 24, 25, 26, 27, 28, 29, 30, 31, 32] [0, 1, 2, 3, 4, 5, 6, 7, 8, 9, 10, 11, 12, 13, 14, 15, 16, 17, 18, 19, 20, 21, 22, 23, 24, 25, 26, 27, 28, 29, 30, 31, 32] rfl rfl rfl (by decide) rfl (fun _ => rfl) (fun r3 u H locs h hP hD hS => ?_)
    have hP : va_P D vwCl (List.flatten (wM aM C (va_up ms 0 0) mw ma ml)) H := hP
    have hD : va_D A (List.flatten (wM aM C (va_up ms 0 0) mw ma ml)) := hD
    refine lv_if_eq (tgt := 29) hx hb dX12_lit_17 (by decide) (fun c4 => ?_) (fun c4 => ?_)
    · have h := h.1 c4
      refine lv_ldc2 (v := (-2)) hx hb hown (hw _ mw_7_208) dX12_lit_29 ?_
      rw [← hQ]
      exact cRetL (v := (-2)) ((va_up ms 0 0), ma, ml) hx hb hr hlocks hS hP hD h dX12_lit_32
    · have h := h.2 c4
      refine lv_aload_n hx hb dX12_lit_20 rfl (lv_at hl 0 rfl) ?_
      refine lv_iload_n hx hb dX12_lit_21 rfl (lv_at hl 1 rfl) ?_
      refine lv_iload_n hx hb dX12_lit_22 rfl (lv_at hl 2 rfl) ?_
      refine cGoL (wo := fun u => wM aM C u.1 mw u.2.1 u.2.2) (cRunV (As := [.int p1, .int p2]) (rest := []) ⟨hx, hb, hml, hown, hw⟩ hK hN hP hD [0, 1, 2, 3, 4, 5, 6, 7, 8, 9, 10, 11, 12, 13, 14, 15, 16, 17, 18, 19, 20, 21, 22, 23, 24, 25, 26, 27, 28, 29, 30, 31, 32] rfl rfl (k_X12_litBy l D C _ aM  (va_up ms 0 0) mw ma ml p1 p2 h) (cwV 2 hw (goodV mw_8_175 mw_8_177 mw_s168 mw_1_13 mw_8_178) rfl rfl rfl (by decide +kernel) ⟨Nat.le_of_ble_eq_true rfl, Nat.le_of_ble_eq_true rfl⟩) rfl rfl rfl hl.1 rfl (Nat.le_of_ble_eq_true rfl) dX12_lit_23 ⟨Nat.zero_le _, Nat.zero_le _⟩) hP hD hS hA [0, 1, 2, 3, 4, 5, 6, 7, 8, 9, 10, 11, 12, 13, 14, 15, 16, 17, 18, 19, 20, 21, 22, 23, 24, 25, 26, 27, 28, 29, 30, 31, 32] [] [0, 1, 2, 3, 4, 5, 6, 7, 8, 9, 10, 11, 12, 13, 14, 15, 16, 17, 18, 19, 20, 21, 22, 23, 24, 25, 26, 27, 28, 29, 30, 31, 32] rfl rfl rfl (by decide) rfl (fun _ => rfl) (fun r8 u H locs h hP hD hS => ?_)
      obtain ⟨ms_5, ma_6, ml_7⟩ := u
      have hP : va_P D vwCl (List.flatten (wM aM C ms_5 mw ma_6 ml_7)) H := hP
      have hD : va_D A (List.flatten (wM aM C ms_5 mw ma_6 ml_7)) := hD
      refine lv_goto (tgt := 32) hx hb dX12_lit_26 (by decide) ?_
      rw [← hQ]
      exact cRetL (v := r8) (ms_5, ma_6, ml_7) hx hb hr hlocks hS hP hD h dX12_lit_32
abbrev vsX12_watch : List Cond := Cond.code yX12_watch cX12_watch 3 (some .int) :: WS
abbrev rmX12_watch : Room := { frames := 0, cells := 0, slots := 0, locals := 0 }
set_option maxHeartbeats 4000000 in
set_option maxRecDepth 100000 in
theorem k_X12_watch (l : Launch) (D : va_G) (C : Nat → ClassId) (sz : Nat) (aM : Nat → Nat)  (ms : Nat → Int32) (mw : Nat → Int64) (ma : Nat → Nat → Int32) (ml : Nat → Nat → Int64) (p1 : Int32) {post : Int32 → (Nat → Int32) → (Nat → Nat → Int32) → Prop} (h : P_X12_watch ms ma p1 post) : Met l yX12_watch vsX12_watch rmX12_watch (cPre D C [.ref (aM 0), .int p1] sz (wM aM C ms mw ma ml)) (cQi D (fun (r : Int32) (u : (Nat → Int32) × (Nat → Nat → Int32)) => post r u.1 u.2) (fun u => wM aM C u.1 mw u.2 ml) (va_A (List.flatten (wM aM C ms mw ma ml)) sz)) 0 0 (va_A (List.flatten (wM aM C ms mw ma ml)) sz) := by
  refine cStart (QA := fun A => cQi D (fun (r : Int32) (u : (Nat → Int32) × (Nat → Nat → Int32)) => post r u.1 u.2) (fun u => wM aM C u.1 mw u.2 ml) A) (cc := cX12_watch) (maxL := 3) (ret := (some .int)) (by decide) (Nat.le_of_ble_eq_true rfl) ?_
  intro p e s m args below meth c A ls hx hb hr hml hown hw hlocks hname hK hN hA hP hD hS hl
  generalize hQ : MQ below _ args s 0 0 A = Q
  have hl : lv_has ls 3 [(0, .ref (aM 0)), (1, .int p1)] := hl
  obtain ⟨H, hH⟩ : ∃ H, H = s.heap := ⟨_, rfl⟩
  obtain ⟨locs, hlo⟩ : ∃ z : List Loc, z = [] := ⟨_, rfl⟩
  have hP : va_P D vwCl (List.flatten (wM aM C ms mw ma ml)) H := by rw [hH]; exact hP
  have hS : va_S A s.heap H locs := by rw [hH, hlo]; exact hS
  rw [show W p l e rmX12_watch s m args below meth c s.heap [] 0 0 Q (F0 m 0 ls []) = W p l e rmX12_watch s m args below meth c H locs 0 0 Q (F0 m 0 ls []) from by rw [hH, hlo]]
  refine lv_aload_n hx hb dX12_watch_0 rfl (lv_at hl 0 rfl) ?_
  refine lv_iconst (v := 0) hx hb dX12_watch_1 (by decide) ?_
  refine va_put (D := D) (ci := 12) (v := .int 0) (ty := .int) (C := RX12) (T := TX12) (N := 51) hx hb hw inW_X12 tyX12 tyX12_ok nmX12 hown hK hP hD hS 0 rfl rfl 0 (by decide) (hw _ mw_6_43) (fun _ h9 => h9) rfl (by decide +kernel) rfl rfl (Nat.le_of_ble_eq_true rfl) dX12_watch_2 (fun H locs hP hD hS => ?_)
  refine lv_aload_n hx hb dX12_watch_5 rfl (lv_at hl 0 rfl) ?_
  refine va_get (D := D) (ci := 12) (v := .ref (aM 17)) (C := RX12) (T := TX12) (N := 51) hx hb hw inW_X12 hown hK hP 0 rfl rfl 27 (by decide) (hw _ mw_6_70) (fun _ h9 => h9) rfl dX12_watch_6 ?_
  refine lv_iconst (v := 3) hx hb dX12_watch_9 (by decide) ?_
  refine cIald hx hb hK hP 17 0 rfl rfl 3 (by decide +kernel) (cIn (by decide +kernel)) dX12_watch_10 ?_
  refine lv_if_ne (tgt := 17) hx hb dX12_watch_11 (by decide) (fun c1 => ?_) (fun c1 => ?_)
  · have h := h.1 c1
    refine lv_aload_n hx hb dX12_watch_17 rfl (lv_at hl 0 rfl) ?_
    refine va_get (D := D) (ci := 12) (v := .ref (aM 17)) (C := RX12) (T := TX12) (N := 51) hx hb hw inW_X12 hown hK hP 0 rfl rfl 27 (by decide) (hw _ mw_6_70) (fun _ h9 => h9) rfl dX12_watch_18 ?_
    refine lv_bipush (v := 6) hx hb dX12_watch_21 (by decide) ?_
    refine cIald hx hb hK hP 17 0 rfl rfl 6 (by decide +kernel) (cIn (by decide +kernel)) dX12_watch_23 ?_
    refine lv_topi (fun x2 ex2 => ?_)
    have h := h x2 ex2
    refine lv_istore_n (lv' := [(2, .int x2), (0, .ref (aM 0)), (1, .int p1)]) hx hb dX12_watch_24 rfl hl (by decide) rfl (fun ls hl => ?_)
    refine lv_aload_n hx hb dX12_watch_25 rfl (lv_at hl 1 rfl) ?_
    refine va_get (D := D) (ci := 12) (v := .ref (aM 17)) (C := RX12) (T := TX12) (N := 51) hx hb hw inW_X12 hown hK hP 0 rfl rfl 27 (by decide) (hw _ mw_6_70) (fun _ h9 => h9) rfl dX12_watch_26 ?_
    refine lv_bipush (v := 6) hx hb dX12_watch_29 (by decide) ?_
    refine lv_iload_n hx hb dX12_watch_31 rfl (lv_at hl 2 rfl) ?_
    refine lv_if_eq (tgt := 39) hx hb dX12_watch_32 (by decide) (fun c3 => ?_) (fun c3 => ?_)
    · have h := h.1 c3
      refine lv_iconst (v := 0) hx hb dX12_watch_39 (by decide) ?_
      refine cIast hx hb hK hP hD hS 17 0 rfl rfl 6 (by decide +kernel) (cIn (by decide +kernel)) dX12_watch_40 (fun H locs hP hD hS => ?_)
      refine lv_iload_n hx hb dX12_watch_41 rfl (lv_at hl 0 rfl) ?_
      have hP : va_P D vwCl (List.flatten (wM aM C (va_up ms 0 0) mw (va_up ma 14 (upd (ma 14) 6 0)) ml)) H := hP
      have hD : va_D A (List.flatten (wM aM C (va_up ms 0 0) mw (va_up ma 14 (upd (ma 14) 6 0)) ml)) := hD
      rw [← hQ]
      exact cRetI (v := x2) ((va_up ms 0 0), (va_up ma 14 (upd (ma 14) 6 0))) hx hb hr hlocks hS hP hD h dX12_watch_42
    · have h := h.2 c3
      refine lv_iconst (v := 1) hx hb dX12_watch_35 (by decide) ?_
      refine lv_goto (tgt := 40) hx hb dX12_watch_36 (by decide) ?_
      refine cIast hx hb hK hP hD hS 17 0 rfl rfl 6 (by decide +kernel) (cIn (by decide +kernel)) dX12_watch_40 (fun H locs hP hD hS => ?_)
      refine lv_iload_n hx hb dX12_watch_41 rfl (lv_at hl 0 rfl) ?_
      have hP : va_P D vwCl (List.flatten (wM aM C (va_up ms 0 0) mw (va_up ma 14 (upd (ma 14) 6 1)) ml)) H := hP
      have hD : va_D A (List.flatten (wM aM C (va_up ms 0 0) mw (va_up ma 14 (upd (ma 14) 6 1)) ml)) := hD
      rw [← hQ]
      exact cRetI (v := x2) ((va_up ms 0 0), (va_up ma 14 (upd (ma 14) 6 1))) hx hb hr hlocks hS hP hD h dX12_watch_42
  · have h := h.2 c1
    refine lv_bipush (v := (-2)) hx hb dX12_watch_14 (by decide) ?_
    have hP : va_P D vwCl (List.flatten (wM aM C (va_up ms 0 0) mw ma ml)) H := hP
    have hD : va_D A (List.flatten (wM aM C (va_up ms 0 0) mw ma ml)) := hD
    rw [← hQ]
    exact cRetI (v := (-2)) ((va_up ms 0 0), ma) hx hb hr hlocks hS hP hD h dX12_watch_16
abbrev vsX12_laysWatch : List Cond := Cond.code yX12_laysWatch cX12_laysWatch 3 none :: WS
abbrev rmX12_laysWatch : Room := { frames := 5, cells := 0, slots := 0, locals := 119 }
set_option maxHeartbeats 4000000 in
set_option maxRecDepth 100000 in
theorem k_X12_laysWatch (l : Launch) (D : va_G) (C : Nat → ClassId) (sz : Nat) (aM : Nat → Nat)  (ms : Nat → Int32) (mw : Nat → Int64) (ma : Nat → Nat → Int32) (ml : Nat → Nat → Int64)  {post : (Nat → Int32) → (Nat → Nat → Int32) → (Nat → Nat → Int64) → Prop} (h : P_X12_laysWatch ms ma ml post) : Met l yX12_laysWatch vsX12_laysWatch rmX12_laysWatch (cPre D C [.ref (aM 0)] sz (wM aM C ms mw ma ml)) (cQv D (fun (u : (Nat → Int32) × (Nat → Nat → Int32) × (Nat → Nat → Int64)) => post u.1 u.2.1 u.2.2) (fun u => wM aM C u.1 mw u.2.1 u.2.2) (va_A (List.flatten (wM aM C ms mw ma ml)) sz)) 0 0 (va_A (List.flatten (wM aM C ms mw ma ml)) sz) := by
  refine cStart (QA := fun A => cQv D (fun (u : (Nat → Int32) × (Nat → Nat → Int32) × (Nat → Nat → Int64)) => post u.1 u.2.1 u.2.2) (fun u => wM aM C u.1 mw u.2.1 u.2.2) A) (cc := cX12_laysWatch) (maxL := 3) (ret := none) (by decide) (Nat.le_of_ble_eq_true rfl) ?_
  intro p e s m args below meth c A ls hx hb hr hml hown hw hlocks hname hK hN hA hP hD hS hl
  generalize hQ : MQ below _ args s 0 0 A = Q
  have hl : lv_has ls 3 [(0, .ref (aM 0))] := hl
  obtain ⟨H, hH⟩ : ∃ H, H = s.heap := ⟨_, rfl⟩
  obtain ⟨locs, hlo⟩ : ∃ z : List Loc, z = [] := ⟨_, rfl⟩
  have hP : va_P D vwCl (List.flatten (wM aM C ms mw ma ml)) H := by rw [hH]; exact hP
  have hS : va_S A s.heap H locs := by rw [hH, hlo]; exact hS
  rw [show W p l e rmX12_laysWatch s m args below meth c s.heap [] 0 0 Q (F0 m 0 ls []) = W p l e rmX12_laysWatch s m args below meth c H locs 0 0 Q (F0 m 0 ls []) from by rw [hH, hlo]]
  have N63 : ∀ (x1_ : Int32) (ms : Nat → Int32) (ma : Nat → Nat → Int32) (n63 : Nat) (x2_ : Int32) (ml : Nat → Nat → Int64) (H : Heap) (locs : List Loc) (ls : Array Slot), P_X12_laysWatch_63  post  x1_ ms ma n63 x2_ ml → va_P D vwCl (List.flatten (wM aM C ms mw ma ml)) H → va_D A (List.flatten (wM aM C ms mw ma ml)) → va_S A s.heap H locs → lv_has ls 3 [(0, .ref (aM 0)), (1, .int x1_), (2, .int x2_)] → W p l e rmX12_laysWatch s m args below meth c H locs 0 0 Q (F0 m 63 ls []) := by
    intro x1_ ms ma
    intro n63
    induction n63 with
    | zero => intro x2_ ml H locs ls h hP hD hS hl; exact False.elim h
    | succ n63 ih63 =>
      intro x2_ ml H locs ls h hP hD hS hl
      refine lv_iload_n hx hb dX12_laysWatch_63 rfl (lv_at hl 2 rfl) ?_
      refine lv_aload_n hx hb dX12_laysWatch_64 rfl (lv_at hl 0 rfl) ?_
      refine va_get (D := D) (ci := 12) (v := .ref (aM 13)) (C := RX12) (T := TX12) (N := 51) hx hb hw inW_X12 hown hK hP 0 rfl rfl 23 (by decide) (hw _ mw_6_66) (fun _ h9 => h9) rfl dX12_laysWatch_65 ?_
      refine lv_iconst (v := 0) hx hb dX12_laysWatch_68 (by decide) ?_
      refine cIald hx hb hK hP 13 0 rfl rfl 0 (by decide +kernel) (cIn (by decide +kernel)) dX12_laysWatch_69 ?_
      refine lv_icmp_ge (tgt := 93) hx hb dX12_laysWatch_70 (by decide) (fun c1 => ?_) (fun c1 => ?_)
      · have h := h.1 c1
        refine lv_aload_n hx hb dX12_laysWatch_93 rfl (lv_at hl 0 rfl) ?_
        refine va_get (D := D) (ci := 12) (v := .ref (aM 17)) (C := RX12) (T := TX12) (N := 51) hx hb hw inW_X12 hown hK hP 0 rfl rfl 27 (by decide) (hw _ mw_6_70) (fun _ h9 => h9) rfl dX12_laysWatch_94 ?_
        refine lv_bipush (v := 6) hx hb dX12_laysWatch_97 (by decide) ?_
        refine lv_iload_n hx hb dX12_laysWatch_99 rfl (lv_at hl 1 rfl) ?_
        refine cIast hx hb hK hP hD hS 17 0 rfl rfl 6 (by decide +kernel) (cIn (by decide +kernel)) dX12_laysWatch_100 (fun H locs hP hD hS => ?_)
        have hP : va_P D vwCl (List.flatten (wM aM C ms mw (va_up ma 14 (upd (ma 14) 6 x1_)) ml)) H := hP
        have hD : va_D A (List.flatten (wM aM C ms mw (va_up ma 14 (upd (ma 14) 6 x1_)) ml)) := hD
        rw [← hQ]
        exact cRetV (ms, (va_up ma 14 (upd (ma 14) 6 x1_)), ml) hx hb hr hlocks hS hP hD h dX12_laysWatch_101
      · have h := h.2 c1
        refine lv_aload_n hx hb dX12_laysWatch_73 rfl (lv_at hl 0 rfl) ?_
        refine va_get (D := D) (ci := 12) (v := .ref (aM 28)) (C := RX12) (T := TX12) (N := 51) hx hb hw inW_X12 hown hK hP 0 rfl rfl 43 (by decide) (hw _ mw_6_86) (fun _ h9 => h9) rfl dX12_laysWatch_74 ?_
        refine lv_iload_n hx hb dX12_laysWatch_77 rfl (lv_at hl 2 rfl) ?_
        refine lv_dup2_11 hx hb dX12_laysWatch_78 rfl rfl ?_
        refine cLald hx hb hK hP 28 1 rfl rfl x2_.toNatClampNeg rfl h.1 dX12_laysWatch_79 ?_
        have h := h.2
        refine lv_aload_n hx hb dX12_laysWatch_80 rfl (lv_at hl 0 rfl) ?_
        refine lv_iload_n hx hb dX12_laysWatch_81 rfl (lv_at hl 2 rfl) ?_
        refine cGoL (wo := fun u => wM aM C ms mw ma ml) (cRunV (As := [.int x2_]) (rest := [.long (ml 6 x2_.toNatClampNeg), .int x2_, .ref (aM 28)]) ⟨hx, hb, hml, hown, hw⟩ hK hN hP hD [0, 1, 2, 3, 4, 5, 6, 7, 8, 9, 10, 11, 12, 13, 14, 15, 16, 17, 18, 19, 20, 21, 22, 23, 24, 25, 26, 27, 28, 29, 30, 31, 32] rfl rfl (k_X12_lossOf l D C _ aM  ms mw ma ml x2_ h) (cwV 1 hw (goodV mw_8_11 mw_8_13 mw_s148 mw_1_13 mw_8_14) rfl rfl rfl (by decide +kernel) ⟨Nat.le_of_ble_eq_true rfl, Nat.le_of_ble_eq_true rfl⟩) rfl rfl rfl hl.1 rfl (Nat.le_of_ble_eq_true rfl) dX12_laysWatch_82 ⟨Nat.zero_le _, Nat.zero_le _⟩) hP hD hS hA [0, 1, 2, 3, 4, 5, 6, 7, 8, 9, 10, 11, 12, 13, 14, 15, 16, 17, 18, 19, 20, 21, 22, 23, 24, 25, 26, 27, 28, 29, 30, 31, 32] [] [0, 1, 2, 3, 4, 5, 6, 7, 8, 9, 10, 11, 12, 13, 14, 15, 16, 17, 18, 19, 20, 21, 22, 23, 24, 25, 26, 27, 28, 29, 30, 31, 32] rfl rfl rfl (by decide) rfl (fun _ => rfl) (fun r2 u H locs h hP hD hS => ?_)
        have hP : va_P D vwCl (List.flatten (wM aM C ms mw ma ml)) H := hP
        have hD : va_D A (List.flatten (wM aM C ms mw ma ml)) := hD
        refine lv_lsub hx hb dX12_laysWatch_85 ?_
        refine cLast hx hb hK hP hD hS 28 1 rfl rfl x2_.toNatClampNeg rfl h.1 dX12_laysWatch_86 (fun H locs hP hD hS => ?_)
        have h := h.2
        refine lv_iinc (v := (x2_ + 1)) (lv' := [(2, .int (x2_ + 1)), (0, .ref (aM 0)), (1, .int x1_)]) hx hb dX12_laysWatch_87 hl (k := 2) rfl rfl (by decide) rfl (fun ls hl => ?_)
        refine lv_goto (tgt := 63) hx hb dX12_laysWatch_90 (by decide) ?_
        have hP : va_P D vwCl (List.flatten (wM aM C ms mw ma (va_up ml 6 (vp_updL (ml 6) x2_.toNatClampNeg ((ml 6 x2_.toNatClampNeg) - r2))))) H := hP
        have hD : va_D A (List.flatten (wM aM C ms mw ma (va_up ml 6 (vp_updL (ml 6) x2_.toNatClampNeg ((ml 6 x2_.toNatClampNeg) - r2))))) := hD
        exact ih63 (x2_ + 1) (va_up ml 6 (vp_updL (ml 6) x2_.toNatClampNeg ((ml 6 x2_.toNatClampNeg) - r2))) _ _ _ h hP hD hS (lv_sub hl [1, 2, 0] rfl)
  have N49 : ∀ (x1_ : Int32) (ms : Nat → Int32) (ma : Nat → Nat → Int32) (ml : Nat → Nat → Int64) (H : Heap) (locs : List Loc) (ls : Array Slot), P_X12_laysWatch_49  post  x1_ ms ma ml → va_P D vwCl (List.flatten (wM aM C ms mw ma ml)) H → va_D A (List.flatten (wM aM C ms mw ma ml)) → va_S A s.heap H locs → lv_has ls 3 [(0, .ref (aM 0)), (1, .int x1_)] → W p l e rmX12_laysWatch s m args below meth c H locs 0 0 Q (F0 m 49 ls []) := by
    intro x1_ ms ma ml H locs ls h hP hD hS hl
    refine lv_aload_n hx hb dX12_laysWatch_49 rfl (lv_at hl 0 rfl) ?_
    refine va_get (D := D) (ci := 12) (v := .ref (aM 17)) (C := RX12) (T := TX12) (N := 51) hx hb hw inW_X12 hown hK hP 0 rfl rfl 27 (by decide) (hw _ mw_6_70) (fun _ h9 => h9) rfl dX12_laysWatch_50 ?_
    refine lv_bipush (v := 6) hx hb dX12_laysWatch_53 (by decide) ?_
    refine lv_iconst (v := 1) hx hb dX12_laysWatch_55 (by decide) ?_
    refine cIast hx hb hK hP hD hS 17 0 rfl rfl 6 (by decide +kernel) (cIn (by decide +kernel)) dX12_laysWatch_56 (fun H locs hP hD hS => ?_)
    refine lv_aload_n hx hb dX12_laysWatch_57 rfl (lv_at hl 0 rfl) ?_
    have hP : va_P D vwCl (List.flatten (wM aM C ms mw (va_up ma 14 (upd (ma 14) 6 1)) ml)) H := hP
    have hD : va_D A (List.flatten (wM aM C ms mw (va_up ma 14 (upd (ma 14) 6 1)) ml)) := hD
    refine cGoV (wo := fun u => wM aM C u.1 mw u.2.1 u.2.2) (cRunV (As := []) (rest := []) ⟨hx, hb, hml, hown, hw⟩ hK hN hP hD [0, 1, 2, 3, 4, 5, 6, 7, 8, 9, 10, 11, 12, 13, 14, 15, 16, 17, 18, 19, 20, 21, 22, 23, 24, 25, 26, 27, 28, 29, 30, 31, 32] rfl rfl (k_X12_night l D C _ aM  ms mw (va_up ma 14 (upd (ma 14) 6 1)) ml  h) (cwV 0 hw (goodV mw_7_209 mw_7_211 mw_s143 mw_1_13 mw_7_212) rfl rfl rfl (by decide +kernel) ⟨Nat.le_of_ble_eq_true rfl, Nat.le_of_ble_eq_true rfl⟩) rfl rfl rfl hl.1 rfl (Nat.le_of_ble_eq_true rfl) dX12_laysWatch_58 ⟨Nat.zero_le _, Nat.zero_le _⟩) hP hD hS hA [0, 1, 2, 3, 4, 5, 6, 7, 8, 9, 10, 11, 12, 13, 14, 15, 16, 17, 18, 19, 20, 21, 22, 23, 24, 25, 26, 27, 28, 29, 30, 31, 32] [] [0, 1, 2, 3, 4, 5, 6, 7, 8, 9, 10, 11, 12, 13, 14, 15, 16, 17, 18, 19, 20, 21, 22, 23, 24, 25, 26, 27, 28, 29, 30, 31, 32] rfl rfl rfl (by decide) rfl (fun _ => rfl) (fun u H locs h hP hD hS => ?_)
    obtain ⟨ms_3, ma_4, ml_5⟩ := u
    have hP : va_P D vwCl (List.flatten (wM aM C ms_3 mw ma_4 ml_5)) H := hP
    have hD : va_D A (List.flatten (wM aM C ms_3 mw ma_4 ml_5)) := hD
    refine lv_iconst (v := 0) hx hb dX12_laysWatch_61 (by decide) ?_
    refine lv_istore_n (lv' := [(2, .int 0), (0, .ref (aM 0)), (1, .int x1_)]) hx hb dX12_laysWatch_62 rfl hl (by decide) rfl (fun ls hl => ?_)
    obtain ⟨n, h⟩ := h
    exact N63 x1_ ms_3 ma_4 n 0 ml_5 _ _ _ h hP hD hS (lv_sub hl [1, 2, 0] rfl)
  have N22 : ∀ (x1_ : Int32) (ms : Nat → Int32) (ma : Nat → Nat → Int32) (n22 : Nat) (x2_ : Int32) (ml : Nat → Nat → Int64) (H : Heap) (locs : List Loc) (ls : Array Slot), P_X12_laysWatch_22  post (fun (x1_ : Int32) (ms : Nat → Int32) (ma : Nat → Nat → Int32) (ml : Nat → Nat → Int64) => P_X12_laysWatch_49  post  x1_ ms ma ml) x1_ ms ma n22 x2_ ml → va_P D vwCl (List.flatten (wM aM C ms mw ma ml)) H → va_D A (List.flatten (wM aM C ms mw ma ml)) → va_S A s.heap H locs → lv_has ls 3 [(0, .ref (aM 0)), (1, .int x1_), (2, .int x2_)] → W p l e rmX12_laysWatch s m args below meth c H locs 0 0 Q (F0 m 22 ls []) := by
    intro x1_ ms ma
    intro n22
    induction n22 with
    | zero => intro x2_ ml H locs ls h hP hD hS hl; exact False.elim h
    | succ n22 ih22 =>
      intro x2_ ml H locs ls h hP hD hS hl
      refine lv_iload_n hx hb dX12_laysWatch_22 rfl (lv_at hl 2 rfl) ?_
      refine lv_aload_n hx hb dX12_laysWatch_23 rfl (lv_at hl 0 rfl) ?_
      refine va_get (D := D) (ci := 12) (v := .ref (aM 13)) (C := RX12) (T := TX12) (N := 51) hx hb hw inW_X12 hown hK hP 0 rfl rfl 23 (by decide) (hw _ mw_6_66) (fun _ h9 => h9) rfl dX12_laysWatch_24 ?_
      refine lv_iconst (v := 0) hx hb dX12_laysWatch_27 (by decide) ?_
      refine cIald hx hb hK hP 13 0 rfl rfl 0 (by decide +kernel) (cIn (by decide +kernel)) dX12_laysWatch_28 ?_
      refine lv_icmp_ge (tgt := 49) hx hb dX12_laysWatch_29 (by decide) (fun c6 => ?_) (fun c6 => ?_)
      · have h := h.1 c6
        exact N49 x1_ ms ma ml _ _ _ h hP hD hS (lv_sub hl [0, 1] rfl)
      · have h := h.2 c6
        refine lv_aload_n hx hb dX12_laysWatch_32 rfl (lv_at hl 0 rfl) ?_
        refine va_get (D := D) (ci := 12) (v := .ref (aM 28)) (C := RX12) (T := TX12) (N := 51) hx hb hw inW_X12 hown hK hP 0 rfl rfl 43 (by decide) (hw _ mw_6_86) (fun _ h9 => h9) rfl dX12_laysWatch_33 ?_
        refine lv_iload_n hx hb dX12_laysWatch_36 rfl (lv_at hl 2 rfl) ?_
        refine lv_aload_n hx hb dX12_laysWatch_37 rfl (lv_at hl 0 rfl) ?_
        refine lv_iload_n hx hb dX12_laysWatch_38 rfl (lv_at hl 2 rfl) ?_
        refine cGoL (wo := fun u => wM aM C ms mw ma ml) (cRunV (As := [.int x2_]) (rest := [.int x2_, .ref (aM 28)]) ⟨hx, hb, hml, hown, hw⟩ hK hN hP hD [0, 1, 2, 3, 4, 5, 6, 7, 8, 9, 10, 11, 12, 13, 14, 15, 16, 17, 18, 19, 20, 21, 22, 23, 24, 25, 26, 27, 28, 29, 30, 31, 32] rfl rfl (k_X12_lossOf l D C _ aM  ms mw ma ml x2_ h) (cwV 1 hw (goodV mw_8_11 mw_8_13 mw_s148 mw_1_13 mw_8_14) rfl rfl rfl (by decide +kernel) ⟨Nat.le_of_ble_eq_true rfl, Nat.le_of_ble_eq_true rfl⟩) rfl rfl rfl hl.1 rfl (Nat.le_of_ble_eq_true rfl) dX12_laysWatch_39 ⟨Nat.zero_le _, Nat.zero_le _⟩) hP hD hS hA [0, 1, 2, 3, 4, 5, 6, 7, 8, 9, 10, 11, 12, 13, 14, 15, 16, 17, 18, 19, 20, 21, 22, 23, 24, 25, 26, 27, 28, 29, 30, 31, 32] [] [0, 1, 2, 3, 4, 5, 6, 7, 8, 9, 10, 11, 12, 13, 14, 15, 16, 17, 18, 19, 20, 21, 22, 23, 24, 25, 26, 27, 28, 29, 30, 31, 32] rfl rfl rfl (by decide) rfl (fun _ => rfl) (fun r7 u H locs h hP hD hS => ?_)
        have hP : va_P D vwCl (List.flatten (wM aM C ms mw ma ml)) H := hP
        have hD : va_D A (List.flatten (wM aM C ms mw ma ml)) := hD
        refine cLast hx hb hK hP hD hS 28 1 rfl rfl x2_.toNatClampNeg rfl h.1 dX12_laysWatch_42 (fun H locs hP hD hS => ?_)
        have h := h.2
        refine lv_iinc (v := (x2_ + 1)) (lv' := [(2, .int (x2_ + 1)), (0, .ref (aM 0)), (1, .int x1_)]) hx hb dX12_laysWatch_43 hl (k := 2) rfl rfl (by decide) rfl (fun ls hl => ?_)
        refine lv_goto (tgt := 22) hx hb dX12_laysWatch_46 (by decide) ?_
        have hP : va_P D vwCl (List.flatten (wM aM C ms mw ma (va_up ml 6 (vp_updL (ml 6) x2_.toNatClampNeg r7)))) H := hP
        have hD : va_D A (List.flatten (wM aM C ms mw ma (va_up ml 6 (vp_updL (ml 6) x2_.toNatClampNeg r7)))) := hD
        exact ih22 (x2_ + 1) (va_up ml 6 (vp_updL (ml 6) x2_.toNatClampNeg r7)) _ _ _ h hP hD hS (lv_sub hl [1, 2, 0] rfl)
  refine lv_aload_n hx hb dX12_laysWatch_0 rfl (lv_at hl 0 rfl) ?_
  refine va_get (D := D) (ci := 12) (v := .ref (aM 17)) (C := RX12) (T := TX12) (N := 51) hx hb hw inW_X12 hown hK hP 0 rfl rfl 27 (by decide) (hw _ mw_6_70) (fun _ h9 => h9) rfl dX12_laysWatch_1 ?_
  refine lv_bipush (v := 6) hx hb dX12_laysWatch_4 (by decide) ?_
  refine cIald hx hb hK hP 17 0 rfl rfl 6 (by decide +kernel) (cIn (by decide +kernel)) dX12_laysWatch_6 ?_
  refine lv_topi (fun x8 ex8 => ?_)
  have h := h x8 ex8
  refine lv_istore_n (lv' := [(1, .int x8), (0, .ref (aM 0))]) hx hb dX12_laysWatch_7 rfl hl (by decide) rfl (fun ls hl => ?_)
  refine lv_aload_n hx hb dX12_laysWatch_8 rfl (lv_at hl 1 rfl) ?_
  refine va_get (D := D) (ci := 12) (v := .ref (aM 17)) (C := RX12) (T := TX12) (N := 51) hx hb hw inW_X12 hown hK hP 0 rfl rfl 27 (by decide) (hw _ mw_6_70) (fun _ h9 => h9) rfl dX12_laysWatch_9 ?_
  refine lv_bipush (v := 6) hx hb dX12_laysWatch_12 (by decide) ?_
  refine lv_iconst (v := 0) hx hb dX12_laysWatch_14 (by decide) ?_
  refine cIast hx hb hK hP hD hS 17 0 rfl rfl 6 (by decide +kernel) (cIn (by decide +kernel)) dX12_laysWatch_15 (fun H locs hP hD hS => ?_)
  refine lv_aload_n hx hb dX12_laysWatch_16 rfl (lv_at hl 1 rfl) ?_
  have hP : va_P D vwCl (List.flatten (wM aM C ms mw (va_up ma 14 (upd (ma 14) 6 0)) ml)) H := hP
  have hD : va_D A (List.flatten (wM aM C ms mw (va_up ma 14 (upd (ma 14) 6 0)) ml)) := hD
  refine cGoV (wo := fun u => wM aM C u.1 mw u.2.1 u.2.2) (cRunV (As := []) (rest := []) ⟨hx, hb, hml, hown, hw⟩ hK hN hP hD [0, 1, 2, 3, 4, 5, 6, 7, 8, 9, 10, 11, 12, 13, 14, 15, 16, 17, 18, 19, 20, 21, 22, 23, 24, 25, 26, 27, 28, 29, 30, 31, 32] rfl rfl (k_X12_night l D C _ aM  ms mw (va_up ma 14 (upd (ma 14) 6 0)) ml  h) (cwV 0 hw (goodV mw_7_209 mw_7_211 mw_s143 mw_1_13 mw_7_212) rfl rfl rfl (by decide +kernel) ⟨Nat.le_of_ble_eq_true rfl, Nat.le_of_ble_eq_true rfl⟩) rfl rfl rfl hl.1 rfl (Nat.le_of_ble_eq_true rfl) dX12_laysWatch_17 ⟨Nat.zero_le _, Nat.zero_le _⟩) hP hD hS hA [0, 1, 2, 3, 4, 5, 6, 7, 8, 9, 10, 11, 12, 13, 14, 15, 16, 17, 18, 19, 20, 21, 22, 23, 24, 25, 26, 27, 28, 29, 30, 31, 32] [] [0, 1, 2, 3, 4, 5, 6, 7, 8, 9, 10, 11, 12, 13, 14, 15, 16, 17, 18, 19, 20, 21, 22, 23, 24, 25, 26, 27, 28, 29, 30, 31, 32] rfl rfl rfl (by decide) rfl (fun _ => rfl) (fun u H locs h hP hD hS => ?_)
  obtain ⟨ms_9, ma_10, ml_11⟩ := u
  have hP : va_P D vwCl (List.flatten (wM aM C ms_9 mw ma_10 ml_11)) H := hP
  have hD : va_D A (List.flatten (wM aM C ms_9 mw ma_10 ml_11)) := hD
  refine lv_iconst (v := 0) hx hb dX12_laysWatch_20 (by decide) ?_
  refine lv_istore_n (lv' := [(2, .int 0), (1, .int x8), (0, .ref (aM 0))]) hx hb dX12_laysWatch_21 rfl hl (by decide) rfl (fun ls hl => ?_)
  obtain ⟨n, h⟩ := h
  exact N22 x8 ms_9 ma_10 n 0 ml_11 _ _ _ h hP hD hS (lv_sub hl [2, 1, 0] rfl)
abbrev vsX12_penny : List Cond := Cond.code yX12_penny cX12_penny 4 (some .long) :: WS
abbrev rmX12_penny : Room := { frames := 6, cells := 0, slots := 0, locals := 141 }
set_option maxHeartbeats 4000000 in
set_option maxRecDepth 100000 in
theorem k_X12_penny (l : Launch) (D : va_G) (C : Nat → ClassId) (sz : Nat) (aM : Nat → Nat)  (ms : Nat → Int32) (mw : Nat → Int64) (ma : Nat → Nat → Int32) (ml : Nat → Nat → Int64)  {post : Int64 → (Nat → Int32) → (Nat → Nat → Int32) → (Nat → Nat → Int64) → Prop} (h : P_X12_penny ms ma ml post) : Met l yX12_penny vsX12_penny rmX12_penny (cPre D C [.ref (aM 0)] sz (wM aM C ms mw ma ml)) (cQl D (fun (r : Int64) (u : (Nat → Int32) × (Nat → Nat → Int32) × (Nat → Nat → Int64)) => post r u.1 u.2.1 u.2.2) (fun u => wM aM C u.1 mw u.2.1 u.2.2) (va_A (List.flatten (wM aM C ms mw ma ml)) sz)) 0 0 (va_A (List.flatten (wM aM C ms mw ma ml)) sz) := by
  refine cStart (QA := fun A => cQl D (fun (r : Int64) (u : (Nat → Int32) × (Nat → Nat → Int32) × (Nat → Nat → Int64)) => post r u.1 u.2.1 u.2.2) (fun u => wM aM C u.1 mw u.2.1 u.2.2) A) (cc := cX12_penny) (maxL := 4) (ret := (some .long)) (by decide) (Nat.le_of_ble_eq_true rfl) ?_
  intro p e s m args below meth c A ls hx hb hr hml hown hw hlocks hname hK hN hA hP hD hS hl
  generalize hQ : MQ below _ args s 0 0 A = Q
  have hl : lv_has ls 4 [(0, .ref (aM 0))] := hl
  obtain ⟨H, hH⟩ : ∃ H, H = s.heap := ⟨_, rfl⟩
  obtain ⟨locs, hlo⟩ : ∃ z : List Loc, z = [] := ⟨_, rfl⟩
  have hP : va_P D vwCl (List.flatten (wM aM C ms mw ma ml)) H := by rw [hH]; exact hP
  have hS : va_S A s.heap H locs := by rw [hH, hlo]; exact hS
  rw [show W p l e rmX12_penny s m args below meth c s.heap [] 0 0 Q (F0 m 0 ls []) = W p l e rmX12_penny s m args below meth c H locs 0 0 Q (F0 m 0 ls []) from by rw [hH, hlo]]
  have N30 : ∀ (ms : Nat → Int32) (ma : Nat → Nat → Int32) (ml : Nat → Nat → Int64) (n30 : Nat) (x1_ : Int64) (x3_ : Int32) (H : Heap) (locs : List Loc) (ls : Array Slot), P_X12_penny_30  post  ms ma ml n30 x1_ x3_ → va_P D vwCl (List.flatten (wM aM C ms mw ma ml)) H → va_D A (List.flatten (wM aM C ms mw ma ml)) → va_S A s.heap H locs → lv_has ls 4 [(0, .ref (aM 0)), (1, .long x1_), (3, .int x3_)] → W p l e rmX12_penny s m args below meth c H locs 0 0 Q (F0 m 30 ls []) := by
    intro ms ma ml
    intro n30
    induction n30 with
    | zero => intro x1_ x3_ H locs ls h hP hD hS hl; exact False.elim h
    | succ n30 ih30 =>
      intro x1_ x3_ H locs ls h hP hD hS hl
      refine lv_iload_n hx hb dX12_penny_30 rfl (lv_at hl 2 rfl) ?_
      refine lv_aload_n hx hb dX12_penny_31 rfl (lv_at hl 0 rfl) ?_
      refine va_get (D := D) (ci := 12) (v := .ref (aM 13)) (C := RX12) (T := TX12) (N := 51) hx hb hw inW_X12 hown hK hP 0 rfl rfl 23 (by decide) (hw _ mw_6_66) (fun _ h9 => h9) rfl dX12_penny_32 ?_
      refine lv_iconst (v := 0) hx hb dX12_penny_35 (by decide) ?_
      refine cIald hx hb hK hP 13 0 rfl rfl 0 (by decide +kernel) (cIn (by decide +kernel)) dX12_penny_36 ?_
      refine lv_icmp_ge (tgt := 55) hx hb dX12_penny_37 (by decide) (fun c1 => ?_) (fun c1 => ?_)
      · have h := h.1 c1
        refine lv_lload_n hx hb dX12_penny_55 rfl (lv_at hl 1 rfl) ?_
        rw [← hQ]
        exact cRetL (v := x1_) (ms, ma, ml) hx hb hr hlocks hS hP hD h dX12_penny_56
      · have h := h.2 c1
        refine lv_lload_n hx hb dX12_penny_40 rfl (lv_at hl 1 rfl) ?_
        refine lv_aload_n hx hb dX12_penny_41 rfl (lv_at hl 0 rfl) ?_
        refine va_get (D := D) (ci := 12) (v := .ref (aM 28)) (C := RX12) (T := TX12) (N := 51) hx hb hw inW_X12 hown hK hP 0 rfl rfl 43 (by decide) (hw _ mw_6_86) (fun _ h9 => h9) rfl dX12_penny_42 ?_
        refine lv_iload_n hx hb dX12_penny_45 rfl (lv_at hl 2 rfl) ?_
        refine cLald hx hb hK hP 28 1 rfl rfl x3_.toNatClampNeg rfl h.1 dX12_penny_46 ?_
        have h := h.2
        refine lv_ladd hx hb dX12_penny_47 ?_
        refine lv_topl (fun x2 ex2 => ?_)
        have h := h x2 ex2
        refine lv_lstore_n (lv' := [(1, .long x2), (0, .ref (aM 0)), (3, .int x3_)]) hx hb dX12_penny_48 rfl hl (by decide) rfl (fun ls hl => ?_)
        refine lv_iinc (v := (x3_ + 1)) (lv' := [(3, .int (x3_ + 1)), (1, .long x2), (0, .ref (aM 0))]) hx hb dX12_penny_49 hl (k := 2) rfl rfl (by decide) rfl (fun ls hl => ?_)
        refine lv_goto (tgt := 30) hx hb dX12_penny_52 (by decide) ?_
        exact ih30 x2 (x3_ + 1) _ _ _ h hP hD hS (lv_sub hl [2, 1, 0] rfl)
  refine lv_aload_n hx hb dX12_penny_0 rfl (lv_at hl 0 rfl) ?_
  refine lv_iconst (v := 0) hx hb dX12_penny_1 (by decide) ?_
  refine va_put (D := D) (ci := 12) (v := .int 0) (ty := .int) (C := RX12) (T := TX12) (N := 51) hx hb hw inW_X12 tyX12 tyX12_ok nmX12 hown hK hP hD hS 0 rfl rfl 0 (by decide) (hw _ mw_6_43) (fun _ h9 => h9) rfl (by decide +kernel) rfl rfl (Nat.le_of_ble_eq_true rfl) dX12_penny_2 (fun H locs hP hD hS => ?_)
  refine lv_aload_n hx hb dX12_penny_5 rfl (lv_at hl 0 rfl) ?_
  refine va_get (D := D) (ci := 12) (v := .ref (aM 17)) (C := RX12) (T := TX12) (N := 51) hx hb hw inW_X12 hown hK hP 0 rfl rfl 27 (by decide) (hw _ mw_6_70) (fun _ h9 => h9) rfl dX12_penny_6 ?_
  refine lv_iconst (v := 3) hx hb dX12_penny_9 (by decide) ?_
  refine cIald hx hb hK hP 17 0 rfl rfl 3 (by decide +kernel) (cIn (by decide +kernel)) dX12_penny_10 ?_
  refine lv_if_ne (tgt := 18) hx hb dX12_penny_11 (by decide) (fun c3 => ?_) (fun c3 => ?_)
  · have h := h.1 c3
    refine lv_aload_n hx hb dX12_penny_18 rfl (lv_at hl 0 rfl) ?_
    have hP : va_P D vwCl (List.flatten (wM aM C (va_up ms 0 0) mw ma ml)) H := hP
    have hD : va_D A (List.flatten (wM aM C (va_up ms 0 0) mw ma ml)) := hD
    refine cGoV (wo := fun u => wM aM C u.1 mw u.2.1 u.2.2) (cRunV (As := []) (rest := []) ⟨hx, hb, hml, hown, hw⟩ hK hN hP hD [0, 1, 2, 3, 4, 5, 6, 7, 8, 9, 10, 11, 12, 13, 14, 15, 16, 17, 18, 19, 20, 21, 22, 23, 24, 25, 26, 27, 28, 29, 30, 31, 32] rfl rfl (k_X12_laysWatch l D C _ aM  (va_up ms 0 0) mw ma ml  h) (cwV 0 hw (goodV mw_8_191 mw_8_193 mw_s169 mw_1_13 mw_8_194) rfl rfl rfl (by decide +kernel) ⟨Nat.le_of_ble_eq_true rfl, Nat.le_of_ble_eq_true rfl⟩) rfl rfl rfl hl.1 rfl (Nat.le_of_ble_eq_true rfl) dX12_penny_19 ⟨Nat.zero_le _, Nat.zero_le _⟩) hP hD hS hA [0, 1, 2, 3, 4, 5, 6, 7, 8, 9, 10, 11, 12, 13, 14, 15, 16, 17, 18, 19, 20, 21, 22, 23, 24, 25, 26, 27, 28, 29, 30, 31, 32] [] [0, 1, 2, 3, 4, 5, 6, 7, 8, 9, 10, 11, 12, 13, 14, 15, 16, 17, 18, 19, 20, 21, 22, 23, 24, 25, 26, 27, 28, 29, 30, 31, 32] rfl rfl rfl (by decide) rfl (fun _ => rfl) (fun u H locs h hP hD hS => ?_)
    obtain ⟨ms_4, ma_5, ml_6⟩ := u
    have hP : va_P D vwCl (List.flatten (wM aM C ms_4 mw ma_5 ml_6)) H := hP
    have hD : va_D A (List.flatten (wM aM C ms_4 mw ma_5 ml_6)) := hD
    refine lv_aload_n hx hb dX12_penny_22 rfl (lv_at hl 0 rfl) ?_
    refine cGoL (wo := fun u => wM aM C ms_4 mw ma_5 ml_6) (cRunV (As := []) (rest := []) ⟨hx, hb, hml, hown, hw⟩ hK hN hP hD [0, 1, 2, 3, 4, 5, 6, 7, 8, 9, 10, 11, 12, 13, 14, 15, 16, 17, 18, 19, 20, 21, 22, 23, 24, 25, 26, 27, 28, 29, 30, 31, 32] rfl rfl (k_X12_wages l D C _ aM  ms_4 mw ma_5 ml_6  h) (cwV 0 hw (goodV mw_8_20 mw_8_22 mw_s150 mw_1_13 mw_8_23) rfl rfl rfl (by decide +kernel) ⟨Nat.le_of_ble_eq_true rfl, Nat.le_of_ble_eq_true rfl⟩) rfl rfl rfl hl.1 rfl (Nat.le_of_ble_eq_true rfl) dX12_penny_23 ⟨Nat.zero_le _, Nat.zero_le _⟩) hP hD hS hA [0, 1, 2, 3, 4, 5, 6, 7, 8, 9, 10, 11, 12, 13, 14, 15, 16, 17, 18, 19, 20, 21, 22, 23, 24, 25, 26, 27, 28, 29, 30, 31, 32] [] [0, 1, 2, 3, 4, 5, 6, 7, 8, 9, 10, 11, 12, 13, 14, 15, 16, 17, 18, 19, 20, 21, 22, 23, 24, 25, 26, 27, 28, 29, 30, 31, 32] rfl rfl rfl (by decide) rfl (fun _ => rfl) (fun r7 u H locs h hP hD hS => ?_)
    have hP : va_P D vwCl (List.flatten (wM aM C ms_4 mw ma_5 ml_6)) H := hP
    have hD : va_D A (List.flatten (wM aM C ms_4 mw ma_5 ml_6)) := hD
    refine lv_lneg hx hb dX12_penny_26 ?_
    refine lv_topl (fun x8 ex8 => ?_)
    have h := h x8 ex8
    refine lv_lstore_n (lv' := [(1, .long x8), (0, .ref (aM 0))]) hx hb dX12_penny_27 rfl hl (by decide) rfl (fun ls hl => ?_)
    refine lv_iconst (v := 0) hx hb dX12_penny_28 (by decide) ?_
    refine lv_istore_n (lv' := [(3, .int 0), (1, .long x8), (0, .ref (aM 0))]) hx hb dX12_penny_29 rfl hl (by decide) rfl (fun ls hl => ?_)
    obtain ⟨n, h⟩ := h
    exact N30 ms_4 ma_5 ml_6 n x8 0 _ _ _ h hP hD hS (lv_sub hl [2, 1, 0] rfl)
  · have h := h.2 c3
    refine lv_ldc2 (v := (-1000000000000)) hx hb hown (hw _ mw_8_134) dX12_penny_14 ?_
    have hP : va_P D vwCl (List.flatten (wM aM C (va_up ms 0 0) mw ma ml)) H := hP
    have hD : va_D A (List.flatten (wM aM C (va_up ms 0 0) mw ma ml)) := hD
    rw [← hQ]
    exact cRetL (v := (-1000000000000)) ((va_up ms 0 0), ma, ml) hx hb hr hlocks hS hP hD h dX12_penny_17
